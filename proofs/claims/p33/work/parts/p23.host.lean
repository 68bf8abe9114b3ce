/-! clocks -/
def CLK (μ : MU) (g t : Nat) : Prop := ∃ m sc s, μ 22 g = nI m ∧ m ≤ t ∧ μ 20 g = nI sc ∧ sc ≤ 3 ∧ μ 21 g = nI s ∧ s < 10000
theorem restI_nI {x : Nat} (h : x < 100000) : restI (nI x) = nI (x % 10000) := by
  unfold restI
  rw [show (10000 : Int32) = nI 10000 from rfl, nI_mod (by omega) (by omega), nI_add, nI_mod (by omega) (by omega), show (x % 10000 + 10000) % 10000 = x % 10000 from by omega]
theorem clock_v {μ : MU} {g t m sc s : Nat} (ht : μ 0 41 = nI t) (h1 : μ 22 g = nI m) (h2 : m ≤ t) (h3 : μ 20 g = nI sc) (h4 : sc ≤ 3) (h5 : μ 21 g = nI s) (h6 : s < 10000) (ht3 : t ≤ 3001) : clockM μ g = nI (((t - m) * sc + s) % 10000) := by
  unfold clockM
  have : (t - m) * sc ≤ 3001 * 3 := Nat.mul_le_mul (by omega) h4
  rw [ht, h1, h3, h5, nI_sub h2, nI_mul, nI_add, restI_nI (by omega)]
theorem RG_adv {κ : K} {μ : MU} {g t : Nat} (hG : RG κ μ g (t + 1)) (ht : μ 0 41 = nI t) (ht3 : t < 3000) (hC : CLK μ g t) : ∃ κ', (∀ E : EE, f_X1_advanceClock E κ g = some (κ', ())) ∧ RG κ' (mu μ 0 41 (nI (t + 1))) g (t + 1) ∧ (∀ f i, ¬ (f = 0 ∧ i = g) → kV κ' f i = kV κ f i) ∧ (∀ c, c ≠ 5 → kV κ' 0 g c = kV κ 0 g c) ∧ kN κ' = kN κ ∧ kP κ' = kP κ ∧ kC κ' = kC κ := by
  obtain ⟨m, sc, s, c1, c2, c3, c4, c5, c6⟩ := hC
  obtain ⟨h1, h2, h3, h4, h5, h6, q7, q8, q9, q10, h11, h12⟩ := hG.1
  have hm : (t - m) * sc ≤ 3001 * 3 := Nat.mul_le_mul (by omega) c4
  have hcl : kV κ 0 g 5 9 = nI (((t - m) * sc + s) % 10000) := h6.2.2.2.trans (clock_v ht c1 c2 c3 c4 c5 c6 (by omega))
  have hsc : kV κ 0 g 0 10 = nI sc := h1.2.2.2.1.trans c3
  have eR : ∀ c, c ≠ 0 → (mu μ 0 41 (nI (t + 1))) c = μ c := fun c hc => mu_row hc
  have hnew : clockM (mu μ 0 41 (nI (t + 1))) g = nI (((t + 1 - m) * sc + s) % 10000) := clock_v (muS ⟨rfl, rfl⟩) (by rw [eR 22 (by omega)]; exact c1) (by omega) (by rw [eR 20 (by omega)]; exact c3) c4 (by rw [eR 21 (by omega)]; exact c5) c6 (by omega)
  let y : Nat := (((t - m) * sc + s) % 10000 + sc) % 10000
  have hy : ((t + 1 - m) * sc + s) % 10000 = y := by
    have : (t + 1 - m) * sc = (t - m) * sc + sc := by rw [show t + 1 - m = (t - m) + 1 from by omega, Nat.succ_mul]
    show _ = (((t - m) * sc + s) % 10000 + sc) % 10000
    omega
  let κ' : K := setV κ 0 g 5 9 (nI y)
  have eO : ∀ f i, ¬ (f = 0 ∧ i = g) → kV κ' f i = kV κ f i := fun f i hfi => by
    funext c k
    exact vD (fun z => hfi ⟨z.1, z.2.1⟩)
  have eV : ∀ c, c ≠ 5 → kV κ' 0 g c = kV κ 0 g c := fun c hc => by
    funext k
    exact vD (by omega)
  have e5 : ∀ k, k ≠ 9 → kV κ' 0 g 5 k = kV κ 0 g 5 k := fun k hk => vD (by omega)
  have hq : ∀ {c B x q}, QQ κ 0 g c B x q → c ≠ 5 ∧ c + 1 ≠ 5 → QQ κ' 0 g c B x q := fun a b => QQ_v a (by rw [eV _ b.1]) (eV _ b.2) rfl rfl (fun _ _ => rfl)
  refine ⟨κ', fun E => ?_, ⟨RGX_q hG.1 ⟨?_, ?_, ?_, ?_⟩ ?_ ?_ ?_ ?_ (fun c z => eV c (by omega)) (fun c _ _ => rfl) (fun c z => eR c (by omega)), ?_, ?_, ?_⟩, eO, eV, rfl, rfl, rfl⟩
  · rw [f_X1_advanceClock, hcl, hsc, nI_add, show (10000 : Int32) = nI 10000 from rfl, nI_mod (by omega) (by omega), nmE]
  · rw [eR 1 (by omega), e5 6 (by omega)]; exact h6.1
  · rw [eR 1 (by omega), e5 7 (by omega)]; exact h6.2.1
  · rw [eR 1 (by omega), e5 8 (by omega)]; exact h6.2.2.1
  · rw [hnew, hy]; exact vS ⟨rfl, rfl, rfl, rfl⟩
  · rw [eR 1 (by omega), eR 2 (by omega)]; exact hq q7 (by omega)
  · rw [eR 35 (by omega), eR 34 (by omega)]; exact hq q8 (by omega)
  · rw [eR 37 (by omega), eR 36 (by omega)]; exact hq q9 (by omega)
  · rw [eR 6 (by omega), eR 5 (by omega)]; exact hq q10 (by omega)
  · rw [row_c (by omega)]; exact MCH_m hG.2.1 (fun j hj => eV (6 + j) (by omega))
  · rw [eV 0 (by omega), eR 24 (by omega)]; exact hG.2.2.1
  · exact PLL_v hG.2.2.2 (fun c _ _ => eV c (by omega)) (fun c _ _ => eV c (by omega)) (fun _ _ _ => rfl) (e5 5 (by omega)) (by rw [eV 0 (by omega)]) (by rw [eV 0 (by omega)]) (MEQ_j fun j hj => eV (6 + j) (by omega))
/-! hosts and what points -/
def GPT (κ : K) (μ : MU) (g ns : Nat) : Prop := (∃ h, h < 2 ∧ kP κ 0 g 0 8 = some h ∧ μ 15 g = nI h) ∧ ((μ 12 g = -1 ∧ kP κ 0 g 0 9 = none) ∨ ∃ s, s < ns ∧ μ 12 g = nI s ∧ kP κ 0 g 0 9 = some s)
def HO (κ : K) (μ : MU) (n h : Nat) : Prop := RH (kV κ 2 h) μ n h ∧ kV κ 2 h 0 0 = nI h ∧ kV κ 2 h 0 4 = μ 38 h ∧ (μ 38 h = 0 ∨ μ 38 h = 1) ∧ kV κ 2 h 0 7 = μ 40 h ∧ ((μ 39 h = -1 ∧ kP κ 2 h 0 6 = none) ∨ ∃ l, l < n ∧ μ 39 h = nI l ∧ kP κ 2 h 0 6 = some l)
theorem can_E {E : EE} {κ : K} {μ : MU} {g ns h tt : Nat} (hH : E.2.2.2.1 = 1) (hh : h < 2) (hG : RG κ μ g tt) (hP : GPT κ μ g ns) : f_X1_canRunOn E κ g h = some (κ, if canM μ g (nI h) = true then 1 else 0) := by
  obtain ⟨⟨h', a1, a2, a3⟩, _⟩ := hP
  have e16 : kV κ 0 g 0 16 = μ 18 g := hG.1.1.2.2.2.2.2.2.1
  have e68 : kV κ 0 g 6 8 = μ 1 (55 * g + 49) := hG.2.1.2.2.2.2.2.2.1
  rw [f_X1_canRunOn, f_X1_canRunOn_e, a2, optG_s (host_lt hH a1), e16, e68]
  unfold canM
  rw [a3]
  by_cases e1 : h' = h
  · rw [if_pos e1, decide_eq_true (p := nI h' = nI h) (by rw [e1])]
    by_cases e2 : μ 18 g = 0
    · rw [if_pos e2, decide_eq_true e2]
      by_cases e3 : μ 1 (55 * g + 49) = 0
      · rw [if_pos e3, decide_eq_true e3, bd_s, gd_t (Or.inr rfl), if_pos (by decide)]
      · rw [if_neg e3, decide_eq_false e3, bd_s, gd_t (Or.inl rfl), if_neg (by decide)]
    · rw [if_neg e2, decide_eq_false e2, bd_s, gd_t (Or.inl rfl), if_neg (by rw [Bool.and_false]; decide)]
  · rw [if_neg e1, decide_eq_false (p := nI h' = nI h) (by rw [nI_eq' (by omega) (by omega)]; exact e1), bd_s, gd_t (Or.inl rfl), if_neg (by rw [Bool.false_and, Bool.false_and]; decide)]
/-- the class chooses as the model does -/
def OPT (n : Nat) (o : Option Nat) (x : Int32) : Prop := (o = none ∧ x = -1) ∨ ∃ g, g < n ∧ o = some g ∧ x = nI g
theorem choose_L {E : EE} {κ : K} {μ : MU} {n ns h s0 : Nat} {tf : Nat → Nat} (hE : E.1 = n) (hH : E.2.2.2.1 = 1) (hn : n ≤ 5) (hh : h < 2) (hL : LsI E κ 1 n) (hG : ∀ g, g < n → RG κ μ g (tf g) ∧ GPT κ μ g ns) (hs : s0 ≤ 5) : ∃ κ' o, f_X10_chooseFor_b62 E h κ (nI n) (nI s0) = some (κ', o) ∧ OPT n o (chL μ n h s0).2 ∧ ((κ' = κ ∧ (chL μ n h s0).1 = μ) ∨ ∃ l, l < n ∧ κ' = setV (setP κ 2 h 0 6 (some l)) 2 h 0 7 1 ∧ (chL μ n h s0).1 = mu (mu μ 39 h (nI l)) 40 h 1) := by
  subst hE
  have loop : ∀ (d i m : Nat), i + d = E.1 → d < m → fstU (fun k => canM μ ((s0 + k) % E.1) (nI h)) i = none → ∃ κ' o, f_X10_chooseFor_b67 E h m κ (nI E.1) (nI s0) (nI i) = some (κ', o) ∧ OPT E.1 o (chL μ E.1 h s0).2 ∧ ((κ' = κ ∧ (chL μ E.1 h s0).1 = μ) ∨ ∃ l, l < E.1 ∧ κ' = setV (setP κ 2 h 0 6 (some l)) 2 h 0 7 1 ∧ (chL μ E.1 h s0).1 = mu (mu μ 39 h (nI l)) 40 h 1) := by
    intro d
    induction d with
    | zero =>
      intro i m hi hm hnone
      obtain ⟨m, rfl⟩ : ∃ q, m = q + 1 := ⟨m - 1, by omega⟩
      have e : i = E.1 := by omega
      subst e
      have ech : chL μ E.1 h s0 = (μ, -1) := by
        unfold chL
        rw [hnone]
      refine ⟨κ, none, ?_, ?_, Or.inl ⟨rfl, by rw [ech]⟩⟩
      · rw [f_X10_chooseFor_b67, if_pos (by rw [nI_le' (by omega) (by omega)]; exact Nat.le_refl _), f_X10_chooseFor_b121]
      · rw [ech]; exact Or.inl ⟨rfl, rfl⟩
    | succ d ih =>
      intro i m hi hm hnone
      obtain ⟨m, rfl⟩ : ∃ q, m = q + 1 := ⟨m - 1, by omega⟩
      have hl : (s0 + i) % E.1 < E.1 := Nat.mod_lt _ (by omega)
      rw [f_X10_chooseFor_b67, if_neg (by rw [nI_le' (by omega) (by omega)]; omega), gd_t (show ¬ nI E.1 = 0 from by rw [nI_e0 (by omega)]; omega), nI_add, nI_mod (by omega) (by omega), get_ok hL hn hl, bd_s, gd_t (show (s0 + i) % E.1 < cntE E 0 from hl), can_E hH hh (hG _ hl).1 (hG _ hl).2, bd_s]
      by_cases hc : canM μ ((s0 + i) % E.1) (nI h) = true
      · rw [if_pos hc, if_neg (by decide), f_X10_chooseFor_b101, nmE, nmE]
        have ef : fstU (fun k => canM μ ((s0 + k) % E.1) (nI h)) E.1 = some i := fstU_eq (by omega) hc (fun j hj => fstU_none hnone j hj)
        have ech : chL μ E.1 h s0 = (mu (mu μ 39 h (nI ((s0 + i) % E.1))) 40 h 1, nI ((s0 + i) % E.1)) := by
          unfold chL
          rw [ef]
        exact ⟨_, _, rfl, by rw [ech]; exact Or.inr ⟨_, hl, rfl, rfl⟩, Or.inr ⟨_, hl, rfl, by rw [ech]⟩⟩
      · rw [if_neg hc, if_pos rfl, nmE, nI_1]
        refine ih (i + 1) m (by omega) (by omega) ?_
        unfold fstU
        rw [hnone]
        exact if_neg hc
  rw [f_X10_chooseFor_b62]
  have := loop E.1 0 FU (by omega) (by unfold FU; omega) rfl
  rw [nI_0] at this
  exact this
