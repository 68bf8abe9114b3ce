/-! a plain machine's run: M its states, A, B, C what was taken, said and let in -/
def STP (P m m' : MU) (a a' b b' c c' : Nat) (T S J : Nat → Int32) (s : Nat) : Prop := (m 0 8 = 0 ∨ m 0 8 = 1) ∧ ∃ m1, ((c' = c ∧ m1 = m) ∨ ∃ why, (why = 2 ∨ why = 3) ∧ c' = c + 1 ∧ J c = nI (4 * s + why) ∧ ∀ j, j < 4 → m1 j = (enterC m (nI why)) j) ∧ STEPR P m1 m' a a' b b' T S
def initM : MU := fun j k => if j = 0 ∧ k = 4 then -1 else if j = 2 then nI k else 0
def PLN (P m : MU) (st nT nS nJ : Nat) (T S J : Nat → Int32) : Prop := ∃ (M : Nat → MU) (A B C : Nat → Nat), MEQ initM (M 0) ∧ A 0 = 0 ∧ B 0 = 0 ∧ C 0 = 0 ∧ (∀ s, s < st → STP P (M s) (M (s + 1)) (A s) (A (s + 1)) (B s) (B (s + 1)) (C s) (C (s + 1)) T S J s) ∧ MEQ (M st) m ∧ A st = nT ∧ B st = nS ∧ C st = nJ
theorem STEPR_m {P m m' m2 : MU} {a a' b b' : Nat} {T S : Nat → Int32} (h : STEPR P m m' a a' b b' T S) (e : MEQ m' m2) : STEPR P m m2 a a' b b' T S := by
  obtain ⟨hk, h⟩ := h
  refine ⟨hk, ?_⟩
  rcases h with ⟨x, N, h1, h2, h3, h4, h5, h6, h7⟩ | ⟨x, N, w, i, j, X, pd, h1, h2, h3, h4, h5, h6, h7, h8, h9, h10⟩
  · exact Or.inl ⟨x, N, h1, h2, h3, h4, h5, h6.trans e, h7⟩
  · exact Or.inr ⟨x, N, w, i, j, X, pd, h1, h2, h3, h4, h5, h6, h7, h8, h9.trans e, h10⟩
theorem STP_m {P m m' m2 : MU} {a a' b b' c c' s : Nat} {T S J : Nat → Int32} (h : STP P m m' a a' b b' c c' T S J s) (e : MEQ m' m2) : STP P m m2 a a' b b' c c' T S J s := by
  obtain ⟨h1, m1, h2, h3⟩ := h
  exact ⟨h1, m1, h2, STEPR_m h3 e⟩
theorem STEPR_n {P m m' : MU} {a a' b b' : Nat} {T S : Nat → Int32} (h : STEPR P m m' a a' b b' T S) : a ≤ a' ∧ a' ≤ a + 1 ∧ b ≤ b' ∧ b' ≤ b + 1 := by
  obtain ⟨_, h⟩ := h
  rcases h with ⟨x, N, h1, h2, h3, h4, h5, h6, h7, h8⟩ | ⟨x, N, w, i, j, X, pd, h1, h2, h3, h4, h5, h6, h7, h8, h9, h10, h11, h12, h13⟩
  · omega
  · refine ⟨?_, ?_, ?_, ?_⟩
    · rw [h10]; split <;> omega
    · rw [h10]; split <;> omega
    · rw [h12]; split <;> omega
    · rw [h12]; split <;> omega
theorem STP_n {P m m' : MU} {a a' b b' c c' s : Nat} {T S J : Nat → Int32} (h : STP P m m' a a' b b' c c' T S J s) : a ≤ a' ∧ a' ≤ a + 1 ∧ b ≤ b' ∧ b' ≤ b + 1 ∧ c ≤ c' ∧ c' ≤ c + 1 := by
  obtain ⟨h1, m1, h2, h3⟩ := h
  have := STEPR_n h3
  have hc : c ≤ c' ∧ c' ≤ c + 1 := by
    rcases h2 with ⟨z, _⟩ | ⟨why, _, z, _⟩ <;> omega
  exact ⟨this.1, this.2.1, this.2.2.1, this.2.2.2, hc⟩
/-- lists that are alike as far as they were used -/
theorem STP_l {P m m' : MU} {a a' b b' c c' s : Nat} {T S J T' S' J' : Nat → Int32} (h : STP P m m' a a' b b' c c' T S J s) (eT : a < a' → T' a = T a) (eS : b < b' → S' b = S b) (eJ : c < c' → J' c = J c) : STP P m m' a a' b b' c c' T' S' J' s := by
  obtain ⟨h1, m1, h2, hk, h3⟩ := h
  refine ⟨h1, m1, ?_, hk, ?_⟩
  · rcases h2 with z | ⟨why, z1, z2, z3, z4⟩
    · exact Or.inl z
    · exact Or.inr ⟨why, z1, z2, by rw [eJ (by omega)]; exact z3, z4⟩
  · rcases h3 with z | ⟨x, N, w, i, j, X, pd, h1, h2, h3, h4, h5, h6, h7, h8, h9, h10, h11, h12, h13⟩
    · exact Or.inl z
    · refine Or.inr ⟨x, N, w, i, j, X, pd, h1, h2, h3, h4, h5, h6, h7, h8, h9, h10, fun y1 y2 => ?_, h12, fun y1 y2 => ?_⟩
      · rw [eT (by rw [h10, if_pos ⟨y1, y2⟩]; omega)]; exact h11 y1 y2
      · rw [eS (by rw [h12, if_pos ⟨y1, y2⟩]; omega)]; exact h13 y1 y2
theorem mono {A : Nat → Nat} {n : Nat} (h : ∀ s, s < n → A s ≤ A (s + 1)) : ∀ d s, s + d ≤ n → A s ≤ A (s + d)
  | 0, _, _ => Nat.le_refl _
  | d + 1, s, hd => Nat.le_trans (mono h d s (by omega)) (h (s + d) (by omega))
theorem PLN_l {P m : MU} {st nT nS nJ : Nat} {T S J T' S' J' : Nat → Int32} (h : PLN P m st nT nS nJ T S J) (eT : ∀ k, k < nT → T' k = T k) (eS : ∀ k, k < nS → S' k = S k) (eJ : ∀ k, k < nJ → J' k = J k) : PLN P m st nT nS nJ T' S' J' := by
  obtain ⟨M, A, B, C, h0, hA, hB, hC, hs, hm, rA, rB, rC⟩ := h
  refine ⟨M, A, B, C, h0, hA, hB, hC, fun s hst => ?_, hm, rA, rB, rC⟩
  have mA := mono (A := A) (n := st) (fun s hs' => (STP_n (hs s hs')).1) (st - (s + 1)) (s + 1) (by omega)
  have mB := mono (A := B) (n := st) (fun s hs' => (STP_n (hs s hs')).2.2.1) (st - (s + 1)) (s + 1) (by omega)
  have mC := mono (A := C) (n := st) (fun s hs' => (STP_n (hs s hs')).2.2.2.2.1) (st - (s + 1)) (s + 1) (by omega)
  rw [show s + 1 + (st - (s + 1)) = st from by omega] at mA mB mC
  exact STP_l (hs s hst) (fun z => eT _ (by omega)) (fun z => eS _ (by omega)) (fun z => eJ _ (by omega))
theorem PLN_m {P m m2 : MU} {st nT nS nJ : Nat} {T S J : Nat → Int32} (h : PLN P m st nT nS nJ T S J) (e : MEQ m m2) : PLN P m2 st nT nS nJ T S J := by
  obtain ⟨M, A, B, C, h0, hA, hB, hC, hs, hm, r⟩ := h
  exact ⟨M, A, B, C, h0, hA, hB, hC, hs, hm.trans e, r⟩
theorem PLN_P {P P' m : MU} {st nT nS nJ : Nat} {T S J : Nat → Int32} (h : PLN P m st nT nS nJ T S J) (e : ∀ c, 1 ≤ c → c ≤ 4 → P' c = P c) : PLN P' m st nT nS nJ T S J := by
  obtain ⟨M, A, B, C, h0, hA, hB, hC, hs, r⟩ := h
  refine ⟨M, A, B, C, h0, hA, hB, hC, fun s hst => ?_, r⟩
  have := hs s hst
  unfold STP STEPR at this ⊢
  rw [e 1 (by omega) (by omega), e 2 (by omega) (by omega), e 3 (by omega) (by omega), e 4 (by omega) (by omega)]
  exact this
/-- nothing was done yet: any program will do -/
theorem PLN_0 {P P' m : MU} {nT nS nJ : Nat} {T S J : Nat → Int32} (h : PLN P m 0 nT nS nJ T S J) : PLN P' m 0 nT nS nJ T S J := by
  obtain ⟨M, A, B, C, h0, hA, hB, hC, hs, r⟩ := h
  exact ⟨M, A, B, C, h0, hA, hB, hC, fun s hst => absurd hst (Nat.not_lt_zero s), r⟩
theorem PLN_s {P m m' : MU} {st nT nS nJ nT' nS' nJ' : Nat} {T S J : Nat → Int32} (h : PLN P m st nT nS nJ T S J) (hs : STP P m m' nT nT' nS nS' nJ nJ' T S J st) : PLN P m' (st + 1) nT' nS' nJ' T S J := by
  obtain ⟨M, A, B, C, h0, hA, hB, hC, hst, hm, rA, rB, rC⟩ := h
  let u : Nat → MU := fun s => if s = st then m else if s < st then M s else m'
  let v : (Nat → Nat) → Nat → Nat → Nat := fun A x s => if s ≤ st then A s else x
  have us : u st = m := if_pos rfl
  have u1 : u (st + 1) = m' := by show (if _ then _ else _) = _; rw [if_neg (by omega), if_neg (by omega)]
  have ul : ∀ s, s < st → u s = M s := fun s hs => by show (if _ then _ else _) = _; rw [if_neg (by omega), if_pos hs]
  have vl : ∀ A x s, s ≤ st → v A x s = A s := fun A x s hs => if_pos hs
  have v1 : ∀ A x, v A x (st + 1) = x := fun A x => if_neg (by omega)
  refine ⟨u, v A nT', v B nS', v C nJ', ?_, by rw [vl _ _ _ (by omega)]; exact hA, by rw [vl _ _ _ (by omega)]; exact hB, by rw [vl _ _ _ (by omega)]; exact hC, fun s hs2 => ?_, by rw [u1]; exact MEQ_j fun _ _ => rfl, v1 _ _, v1 _ _, v1 _ _⟩
  · by_cases e : st = 0
    · subst e
      rw [us]; exact h0.trans hm
    · rw [ul 0 (by omega)]; exact h0
  · by_cases e : s = st
    · subst e
      rw [us, u1, v1, v1, v1, vl _ _ _ (Nat.le_refl _), vl _ _ _ (Nat.le_refl _), vl _ _ _ (Nat.le_refl _), rA, rB, rC]
      exact hs
    · have hl : s < st := by omega
      rw [ul s hl, vl _ _ s (by omega), vl _ _ s (by omega), vl _ _ s (by omega), vl _ _ (s + 1) (by omega), vl _ _ (s + 1) (by omega), vl _ _ (s + 1) (by omega)]
      by_cases e2 : s + 1 = st
      · rw [e2, us, ← e2]
        exact STP_m (hst s hl) (by rw [e2]; exact hm)
      · rw [ul (s + 1) (by omega)]
        exact hst s hl
/-! an interrupt is let in -/
theorem goTo_25 {μ : MU} {g k : Nat} {x y : Int32} : goToM (mu μ 25 k y) g x = mu (goToM μ g x) 25 k y := by
  have sw : ∀ (μ : MU) (j : Nat) (z : Int32), mu (mu μ 25 k y) 1 j z = mu (mu μ 1 j z) 25 k y := by
    intro μ j z
    funext c i
    unfold mu
    by_cases e1 : c = 1 ∧ i = j
    · rw [if_pos e1, if_neg (by omega), if_pos e1]
    · rw [if_neg e1]
      by_cases e2 : c = 25 ∧ i = k
      · rw [if_pos e2, if_pos e2]
      · rw [if_neg e2, if_neg e2, if_neg e1]
  unfold goToM
  simp only [sw, mu_row (show (1 : Nat) ≠ 25 by omega)]
theorem GO.rfl {n s g h : Nat} {κ : K} {μ : MU} : GO n s κ κ μ μ g h := ⟨FG.rfl, OWN.rfl, fun _ _ _ => Iff.rfl, fun _ _ _ _ z => z, fun _ _ _ => Eq.refl _, fun _ _ _ => Eq.refl _, Eq.refl _, fun _ _ _ => ⟨Eq.refl _, Eq.refl _⟩⟩
/-- a flag is cleared -/
theorem t_flag {κ : K} {μ : MU} {n s g h tt k : Nat} (hk : k = 7 ∨ k = 8) (hT : TS κ μ n g h tt) : TS (setV κ 0 g 5 k 0) (mu μ 1 (55 * g + (44 + k)) 0) n g h tt ∧ GO n s κ (setV κ 0 g 5 k 0) μ (mu μ 1 (55 * g + (44 + k)) 0) g h ∧ (∀ c, c ≠ 5 → kV (setV κ 0 g 5 k 0) 0 g c = kV κ 0 g c) := by
  have eV : ∀ c, c ≠ 5 → kV (setV κ 0 g 5 k 0) 0 g c = kV κ 0 g c := fun c hc => by
    funext j
    exact vD (by omega)
  have e5 : ∀ j, j ≠ k → kV (setV κ 0 g 5 k 0) 0 g 5 j = kV κ 0 g 5 j := fun j hj => vD (by omega)
  have ek : kV (setV κ 0 g 5 k 0) 0 g 5 k = 0 := vS ⟨rfl, rfl, rfl, rfl⟩
  have e2 : kV (setV κ 0 g 5 k 0) 2 h = kV κ 2 h := by
    funext c j
    exact vD (by omega)
  have eR := fun (c : Nat) (hc : c ≠ 1) => mu_row (μ := μ) (c := 1) (k := 55 * g + (44 + k)) (x := 0) hc
  obtain ⟨h1, h2, h3, h4, h5, h6, h7, h8, h9, h10, h11, h12⟩ := hT.1
  have hq : ∀ {c B x q}, QQ κ 0 g c B x q → c ≠ 5 ∧ c + 1 ≠ 5 → QQ (setV κ 0 g 5 k 0) 0 g c B x q := fun a b => QQ_v a (by rw [eV _ b.1]) (eV _ b.2) rfl rfl (fun _ _ => rfl)
  refine ⟨⟨RGX_q hT.1 ⟨?_, ?_, ?_, ?_⟩ ?_ ?_ ?_ ?_ (fun c z => eV c (by omega)) (fun c _ _ => rfl) (fun c z => eR c (by omega)), by rw [e2]; exact RH_row hT.2.1 (eR 15 (by omega)) (eR 28 (by omega)) (eR 29 (by omega)), FRM_row hT.2.2 (eR 27 (by omega)) (eR 28 (by omega))⟩, ⟨FG_set, OWN_1 rfl (by omega), fun key _ _ => by rw [eR 27 (by omega)], fun h2 w2 _ _ z => RH_row z (eR 15 (by omega)) (eR 28 (by omega)) (eR 29 (by omega)), fun k _ _ => by rw [eV 0 (by omega)], fun c a b => eV c (by omega), e5 5 (by omega), fun c a b => ⟨eV c (by omega), rfl⟩⟩, eV⟩
  · rw [muD (by omega), e5 6 (by omega)]; exact h6.1
  · rcases hk with rfl | rfl
    · rw [muS ⟨rfl, rfl⟩, ek]
    · rw [muD (by omega), e5 7 (by omega)]; exact h6.2.1
  · rcases hk with rfl | rfl
    · rw [muD (by omega), e5 8 (by omega)]; exact h6.2.2.1
    · rw [muS ⟨rfl, rfl⟩, ek]
  · rw [e5 9 (by omega), clock_e (μ := μ) (by rw [eR 0 (by omega)]) (by rw [eR 20 (by omega)]) (by rw [eR 21 (by omega)]) (by rw [eR 22 (by omega)])]; exact h6.2.2.2
  · rw [muD (by omega), eR 2 (by omega)]; exact hq h7 (by omega)
  · rw [eR 35 (by omega), eR 34 (by omega)]; exact hq h8 (by omega)
  · rw [eR 37 (by omega), eR 36 (by omega)]; exact hq h9 (by omega)
  · rw [eR 6 (by omega), eR 5 (by omega)]; exact hq h10 (by omega)
