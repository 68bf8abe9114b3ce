/-! a guest dies with its host -/
theorem fill_E {E : EE} {κ : K} {g : Nat} : f_J7_fill_53178 E κ 0 g 9 0 = some (pv κ 0 g (blkM (kV κ 0 g) 9 0 (fun _ => 0) 32), ()) := by
  have loop : ∀ d k m, k + d = 32 → d < m → f_J7_fill_53178_b5 E 0 g 9 m (pv κ 0 g (blkM (kV κ 0 g) 9 0 (fun _ => 0) k)) 0 (nI k) (nI 32) = some (pv κ 0 g (blkM (kV κ 0 g) 9 0 (fun _ => 0) 32), ()) := by
    intro d
    induction d with
    | zero =>
      intro k m hk hm
      obtain ⟨m, rfl⟩ : ∃ q, m = q + 1 := ⟨m - 1, by omega⟩
      have e : k = 32 := by omega
      subst e
      rw [f_J7_fill_53178_b5, if_pos (by rw [nI_le' (by omega) (by omega)]; exact Nat.le_refl _)]
    | succ d ih =>
      intro k m hk hm
      obtain ⟨m, rfl⟩ : ∃ q, m = q + 1 := ⟨m - 1, by omega⟩
      have es := blk_s (μ := kV κ 0 g) (c := 9) (a := 0) (n := k) (f := fun _ => 0)
      rw [Nat.zero_add] at es
      rw [f_J7_fill_53178_b5, if_neg (by rw [nI_le' (by omega) (by omega)]; omega), nI_cl (by omega), show sl 0 9 = 32 from rfl, gdi (by omega), nmE, nI_1, nmE, setp, pv_kV, pv_pv, es]
      exact ih (k + 1) m (by omega) (by omega)
  have := loop 32 0 FU (by omega) (by unfold FU; omega)
  rw [nI_0, blk_0, pv_self] at this
  rw [f_J7_fill_53178, nmE]
  exact this
def dieK (κ : K) (g : Nat) : K := setV (setV (setV (setV (pv (setV κ 0 g 6 8 3) 0 g (blkM (kV (setV κ 0 g 6 8 3) 0 g) 9 0 (fun _ => 0) 32)) 0 g 0 14 255) 0 g 18 0 0) 0 g 34 1 0) 0 g 0 18 1
theorem die_E {E : EE} {κ : K} {g : Nat} : f_X1_dieWithHost E κ g = some (dieK κ g, ()) := by
  rw [f_X1_dieWithHost, nmE, fill_E, bd_s, nmE, f_X0_end, nmE, nmE, bd_s, nmE]
  rfl
theorem die_V {κ : K} {g : Nat} : (∀ f i, ¬ (f = 0 ∧ i = g) → kV (dieK κ g) f i = kV κ f i) ∧ (∀ c, c ≠ 0 → c ≠ 6 → c ≠ 9 → c ≠ 18 → c ≠ 34 → kV (dieK κ g) 0 g c = kV κ 0 g c) ∧ (∀ k, k ≠ 14 → k ≠ 18 → kV (dieK κ g) 0 g 0 k = kV κ 0 g 0 k) ∧ (kV (dieK κ g) 0 g 0 14 = 255 ∧ kV (dieK κ g) 0 g 0 18 = 1 ∧ kV (dieK κ g) 0 g 18 0 = 0 ∧ kV (dieK κ g) 0 g 34 1 = 0) ∧ (∀ k, k ≠ 8 → kV (dieK κ g) 0 g 6 k = kV κ 0 g 6 k) ∧ kV (dieK κ g) 0 g 6 8 = 3 ∧ ∀ k, k < 32 → kV (dieK κ g) 0 g 9 k = 0 := by
  have e1 : ∀ f i c k, ¬ (f = 0 ∧ i = g ∧ ((c = 0 ∧ (k = 14 ∨ k = 18)) ∨ (c = 18 ∧ k = 0) ∨ (c = 34 ∧ k = 1))) → kV (dieK κ g) f i c k = kV (pv (setV κ 0 g 6 8 3) 0 g (blkM (kV (setV κ 0 g 6 8 3) 0 g) 9 0 (fun _ => 0) 32)) f i c k := fun f i c k z => by
    unfold dieK
    rw [vD (by omega), vD (by omega), vD (by omega), vD (by omega)]
  have e2 : ∀ c k, ¬ (c = 9 ∧ k < 32) → kV (pv (setV κ 0 g 6 8 3) 0 g (blkM (kV (setV κ 0 g 6 8 3) 0 g) 9 0 (fun _ => 0) 32)) 0 g c k = kV (setV κ 0 g 6 8 3) 0 g c k := fun c k z => by
    rw [pv_kV, blk_out (by omega)]
  refine ⟨fun f i z => ?_, fun c a b d e f => ?_, fun k a b => ?_, ⟨?_, vS ⟨rfl, rfl, rfl, rfl⟩, ?_, ?_⟩, fun k hk => ?_, ?_, fun k hk => ?_⟩
  · funext c k
    rw [e1 f i c k (by omega), pv_n z, vD (by omega)]
  · funext k
    rw [e1 0 g c k (by omega), e2 c k (by omega), vD (by omega)]
  · rw [e1 0 g 0 k (by omega), e2 0 k (by omega), vD (by omega)]
  · unfold dieK
    rw [vD (by omega), vD (by omega), vD (by omega), vS ⟨rfl, rfl, rfl, rfl⟩]
  · unfold dieK
    rw [vD (by omega), vD (by omega), vS ⟨rfl, rfl, rfl, rfl⟩]
  · unfold dieK
    rw [vD (by omega), vS ⟨rfl, rfl, rfl, rfl⟩]
  · rw [e1 0 g 6 k (by omega), e2 6 k (by omega), vD (by omega)]
  · rw [e1 0 g 6 8 (by omega), e2 6 8 (by omega), vS ⟨rfl, rfl, rfl, rfl⟩]
  · have := blk_in (μ := kV (setV κ 0 g 6 8 3) 0 g) (c := 9) (a := 0) (n := 32) (k := k) (f := fun _ => 0) hk
    rw [Nat.zero_add] at this
    rw [e1 0 g 9 k (by omega), pv_kV, this]
def kdU (μ : MU) (g : Nat) : Nat → MU
  | 0 => μ
  | k + 1 => mu (mu (kdU μ g k) 27 (8 * g + k) 0) 28 (8 * g + k) (-1)
theorem kd_row {μ : MU} {g c : Nat} (hc : c ≠ 27 ∧ c ≠ 28) : ∀ k, (kdU μ g k) c = μ c
  | 0 => rfl
  | k + 1 => by
    unfold kdU
    rw [mu_row hc.2, mu_row hc.1, kd_row hc k]
theorem kd_28 {μ : MU} {g : Nat} : ∀ k, (kdU μ g k) 28 = (n28 μ g k) 28
  | 0 => rfl
  | k + 1 => by
    funext j
    show (mu (mu (kdU μ g k) 27 (8 * g + k) _) 28 (8 * g + k) (-1)) 28 j = (mu (n28 μ g k) 28 (8 * g + k) (-1)) 28 j
    by_cases e : j = 8 * g + k
    · rw [muS ⟨rfl, e⟩, muS ⟨rfl, e⟩]
    · rw [muD (by omega), muD (by omega), muD (by omega), kd_28 k]
theorem kd_27 {μ : MU} {g j : Nat} : ∀ k, (kdU μ g k) 27 j = if 8 * g ≤ j ∧ j < 8 * g + k then 0 else μ 27 j
  | 0 => by rw [if_neg (by omega)]; rfl
  | k + 1 => by
    show (mu (mu (kdU μ g k) 27 (8 * g + k) _) 28 (8 * g + k) (-1)) 27 j = _
    rw [mu_row (by omega)]
    by_cases e : j = 8 * g + k
    · rw [muS ⟨rfl, e⟩, if_pos (show 8 * g ≤ j ∧ j < 8 * g + (k + 1) by omega)]
    · rw [muD (by omega), kd_27 k]
      by_cases e2 : 8 * g ≤ j ∧ j < 8 * g + k
      · rw [if_pos e2, if_pos (show 8 * g ≤ j ∧ j < 8 * g + (k + 1) by omega)]
      · rw [if_neg e2, if_neg (by omega)]
def die2M (μ : MU) (g : Nat) : MU := blkM (mu μ 1 (55 * g + 49) 3) 1 (55 * g + 17) (fun _ => 0) 32
def dieM (μ : MU) (g : Nat) : MU := kdU (die2M μ g) g 8
theorem m_die {E : EE} {κ : K} {g : Nat} (hg : g < 5) : f_X11_die E κ (nI g) = some (putM κ (dieM (kV κ 5 0) g), ()) := by
  have l2 : ∀ d k m, k + d = 8 → d < m → f_X11_die_b44 E m (putM κ (kdU (die2M (kV κ 5 0) g) g k)) (nI g) (nI k) = some (putM κ (dieM (kV κ 5 0) g), ()) := by
    intro d
    induction d with
    | zero =>
      intro k m hk hm
      obtain ⟨m, rfl⟩ : ∃ q, m = q + 1 := ⟨m - 1, by omega⟩
      have e : k = 8 := by omega
      subst e
      rw [f_X11_die_b44, if_pos (by rw [l8, nI_le' (by omega) (by omega)]; exact Nat.le_refl _)]
      rfl
    | succ d ih =>
      intro k m hk hm
      obtain ⟨m, rfl⟩ : ∃ q, m = q + 1 := ⟨m - 1, by omega⟩
      rw [f_X11_die_b44, if_neg (by rw [l8, nI_le' (by omega) (by omega)]; omega), l8, nI_mul, nI_add, nI_cl (by omega), gdi (by omega), nmE, gdi (by omega), nmE, nI_1, nmE]
      simp only [set5, put_kV, put_put]
      exact ih (k + 1) m (by omega) (by omega)
  have l1 : ∀ d k m, k + d = 32 → d < m → f_X11_die_b15 E m (putM κ (blkM (mu (kV κ 5 0) 1 (55 * g + 49) 3) 1 (55 * g + 17) (fun _ => 0) k)) (nI g) (nI k) = some (putM κ (dieM (kV κ 5 0) g), ()) := by
    intro d
    induction d with
    | zero =>
      intro k m hk hm
      obtain ⟨m, rfl⟩ : ∃ q, m = q + 1 := ⟨m - 1, by omega⟩
      have e : k = 32 := by omega
      subst e
      have := l2 8 0 FU (by omega) (by unfold FU; omega)
      rw [nI_0] at this
      rw [f_X11_die_b15, if_pos (by decide), f_X11_die_b42]
      exact this
    | succ d ih =>
      intro k m hk hm
      obtain ⟨m, rfl⟩ : ∃ q, m = q + 1 := ⟨m - 1, by omega⟩
      rw [f_X11_die_b15, show (32 : Int32) = nI 32 from rfl, if_neg (by rw [nI_le' (by omega) (by omega)]; omega), l55, nI_mul, l17, nI_add, nI_add, nI_cl (by omega), gdi (by omega), nmE, nI_1, nmE, set5, put_kV, put_put, show mu (blkM (mu (kV κ 5 0) 1 (55 * g + 49) 3) 1 (55 * g + 17) (fun _ => 0) k) 1 (55 * g + 17 + k) 0 = blkM (mu (kV κ 5 0) 1 (55 * g + 49) 3) 1 (55 * g + 17) (fun _ => 0) (k + 1) from blk_s (f := fun _ => 0)]
      exact ih (k + 1) m (by omega) (by omega)
  have := l1 32 0 FU (by omega) (by unfold FU; omega)
  rw [nI_0, blk_0] at this
  rw [f_X11_die, l55, nI_mul, l49, nI_add, nI_cl (by omega), gdi (by omega), nmE, set5]
  exact this
def endM (μ : MU) (g : Nat) : MU := mu (mu μ 37 g 0) 33 g 0
theorem die_f {μ : MU} {g : Nat} : (∀ c, c ≠ 1 → c ≠ 27 → c ≠ 28 → c ≠ 33 → c ≠ 37 → (endM (dieM μ g) g) c = μ c) ∧ (∀ k, k < 55 → (endM (dieM μ g) g) 1 (55 * g + k) = if 17 ≤ k ∧ k < 49 then 0 else if k = 49 then 3 else μ 1 (55 * g + k)) ∧ (∀ key, (endM (dieM μ g) g) 27 key = if 8 * g ≤ key ∧ key < 8 * g + 8 then 0 else μ 27 key) ∧ (endM (dieM μ g) g) 28 = (n28 μ g 8) 28 ∧ (endM (dieM μ g) g) 33 g = 0 ∧ (endM (dieM μ g) g) 37 g = 0 ∧ OWN μ (endM (dieM μ g) g) g := by
  have a2 : ∀ c, c ≠ 1 → (die2M μ g) c = μ c := fun c hc => by
    unfold die2M
    rw [blk_row hc, mu_row hc]
  have f : ∀ c, c ≠ 33 → c ≠ 37 → (endM (dieM μ g) g) c = (dieM μ g) c := fun c x y => by
    unfold endM
    rw [mu_row x, mu_row y]
  refine ⟨fun c x1 x2 x3 x4 x5 => ?_, fun k hk => ?_, fun key => ?_, ?_, muS ⟨rfl, rfl⟩, ?_, ?_⟩
  · rw [f c x4 x5]
    unfold dieM
    rw [kd_row ⟨x2, x3⟩, a2 c x1]
  · rw [f 1 (by omega) (by omega)]
    unfold dieM
    rw [kd_row (by omega)]
    unfold die2M
    by_cases e : 17 ≤ k ∧ k < 49
    · rw [if_pos e, show 55 * g + k = 55 * g + 17 + (k - 17) from by omega, blk_in (by omega)]
    · rw [if_neg e, blk_out (by omega)]
      by_cases e2 : k = 49
      · rw [if_pos e2, e2, muS ⟨rfl, rfl⟩]
      · rw [if_neg e2, muD (by omega)]
  · rw [f 27 (by omega) (by omega)]
    unfold dieM
    rw [kd_27, a2 27 (by omega)]
  · rw [f 28 (by omega) (by omega)]
    unfold dieM
    rw [kd_28]
    funext j
    rw [n28_28, n28_28, a2 28 (by omega)]
  · unfold endM
    rw [muD (by omega)]
    exact muS ⟨rfl, rfl⟩
  · have o2 : OWN μ (die2M μ g) g := (OWN_1 (k := 49) rfl (by omega)).trans (OWN_blk (by omega) (by omega) (fun k hk => by show (55 * g + 17 + k) / 55 = g; omega))
    have o3 : OWN (die2M μ g) (dieM μ g) g := ⟨kd_row (by omega) 8, fun c hc => kd_row (by omega) 8, fun c k x y _ _ => by unfold dieM; rw [kd_row ⟨x, y⟩ 8]⟩
    exact ((o2.trans o3).trans (OWN_g (by omega) (by omega) rfl)).trans (OWN_g (by omega) (by omega) rfl)
theorem full_bit : ∀ p, p < 8 → (255 : Nat).testBit p = true := by decide
theorem REL_die {E : EE} {κ : K} {μ : MU} {n ns t C g h : Nat} (hR : REL E κ μ n ns t C) (hg : g < n) (hh : h < 2) (h15 : μ 15 g = nI h) (hP : kP κ 0 g 0 8 = some h) (h30 : μ 30 g = 0) (v15 : kV κ 0 g 0 15 = -1) : REL E (dieK (pv κ 2 h (lvU (kV κ 2 h) g 8)) g) (endM (dieM μ g) g) n ns t C := by
  obtain ⟨_, ⟨_, _, _, q4, q5⟩, hM, hQ, _⟩ := id hR
  obtain ⟨m1, m2, m3, m4, m5⟩ := hM
  have hn : n ≤ 5 := m1.1.1
  obtain ⟨hGg, hPg, hFg⟩ := m4 g hg
  obtain ⟨v1, v2, v3, ⟨v4, v5, v6, v7⟩, v8, v9, v10⟩ := die_V (κ := pv κ 2 h (lvU (kV κ 2 h) g 8)) (g := g)
  obtain ⟨d1, d2, d3, d4, d5, d6, d7⟩ := die_f (μ := μ) (g := g)
  have hk : kV (pv κ 2 h (lvU (kV κ 2 h) g 8)) 0 g = kV κ 0 g := pv_n (by omega)
  rw [hk] at v2 v3 v8
  have eo : ∀ f i, ¬ (f = 0 ∧ i = g) → ¬ (f = 2 ∧ i = h) → kV (dieK (pv κ 2 h (lvU (kV κ 2 h) g 8)) g) f i = kV κ f i := fun f i a b => by rw [v1 f i a, pv_n b]
  have e2h : kV (dieK (pv κ 2 h (lvU (kV κ 2 h) g 8)) g) 2 h = lvU (kV κ 2 h) g 8 := by rw [v1 2 h (by omega), pv_kV]
  obtain ⟨r1, r2, r3, r4⟩ := m1.1.2.2.1 g hg
  obtain ⟨a1, a2, a3, a4, a5, a6, q7, q8, ⟨b, hb3, h37, nH⟩, q10, a11, a12⟩ := hGg.1
  have hFRM : FRM (endM (dieM μ g) g) n := fun key hk => by
    rw [d3, d4, n28_28]
    by_cases e : 8 * g ≤ key ∧ key < 8 * g + 8
    · rw [if_pos e, if_pos e]
      exact Or.inr ⟨Or.inl rfl, rfl⟩
    · rw [if_neg e, if_neg e]
      exact m2 key hk
  have hQ' : ∀ {c B x q}, QQ κ 0 g c B x q → 10 ≤ c → c ≠ 34 → c ≠ 33 → c ≠ 18 → c ≠ 17 → QQ (dieK (pv κ 2 h (lvU (kV κ 2 h) g 8)) g) 0 g c B x q := fun y z1 z2 z3 z4 z5 => QQ_v y (by rw [v2 _ (by omega) (by omega) (by omega) (by omega) (by omega)]) (v2 _ (by omega) (by omega) (by omega) (by omega) (by omega)) rfl rfl (fun _ _ => rfl)
  have hRG : RG (dieK (pv κ 2 h (lvU (kV κ 2 h) g 8)) g) (endM (dieM μ g) g) g t := by
    refine RG_new hGg (fun k a _ _ d => v3 k a d) ?_ (fun c hc => v2 c (by omega) (by omega) (by omega) (by omega) (by omega)) rfl (fun c hc => d1 c (by omega) (by omega) (by omega) (by omega) (by omega)) ⟨255, by omega, v4, fun p hp => ?_⟩ (Or.inl ⟨by rw [d1 30 (by omega) (by omega) (by omega) (by omega) (by omega)]; exact h30, by rw [v3 15 (by omega) (by omega)]; exact v15⟩) (LVT_v a6 (v2 5 (by omega) (by omega) (by omega) (by omega) (by omega)) (fun k x y => by rw [d2 k (by omega), if_neg (by omega), if_neg (by omega)]) (clock_e (by rw [d1 0 (by omega) (by omega) (by omega) (by omega) (by omega)]) (by rw [d1 20 (by omega) (by omega) (by omega) (by omega) (by omega)]) (by rw [d1 21 (by omega) (by omega) (by omega) (by omega) (by omega)]) (by rw [d1 22 (by omega) (by omega) (by omega) (by omega) (by omega)]))) ?_ ⟨0, by omega, d6, v7, Nat.zero_le _, nH.2.2.1, fun k hk => absurd hk (by omega)⟩ ?_ ⟨v6.trans d5.symm, Or.inl d5⟩ (STN_v a12 (fun j x y => v2 _ (by omega) (by omega) (by omega) (by omega) (by omega)) (fun _ _ _ => rfl)) ?_ ?_
    · rw [v3 17 (by omega) (by omega), d1 19 (by omega) (by omega) (by omega) (by omega) (by omega)]
      exact a1.2.2.2.2.2.2.2
    · rw [d3, if_pos (by omega), full_bit p hp]
      exact ⟨fun _ => rfl, fun _ => rfl⟩
    · rw [d2 54 (by omega), if_neg (by omega), if_neg (by omega), d1 2 (by omega) (by omega) (by omega) (by omega) (by omega)]
      exact hQ' q7 (by omega) (by omega) (by omega) (by omega) (by omega)
    · rw [d1 6 (by omega) (by omega) (by omega) (by omega) (by omega), d1 5 (by omega) (by omega) (by omega) (by omega) (by omega)]
      exact hQ' q10 (by omega) (by omega) (by omega) (by omega) (by omega)
    · obtain ⟨h1, h2, h3, h4, h5, h6, h7, h8, h9⟩ := hGg.2.1
      have er : ∀ k, k < 17 → row (endM (dieM μ g) g) g k = row μ g k := fun k hk => by
        show (endM (dieM μ g) g) 1 (55 * g + k) = _
        rw [d2 k (by omega), if_neg (by omega), if_neg (by omega)]
        rfl
      refine ⟨fun k hk => ?_, ?_, ?_, ?_, ?_, ?_, ?_, fun k hk => ?_, fun k hk => ?_⟩
      · rw [er k (by omega), ← h1 k hk]
        show kV _ 0 g (6 + 1) k = kV κ 0 g (6 + 1) k
        rw [v2 7 (by omega) (by omega) (by omega) (by omega) (by omega)]
      · rw [er 4 (by omega), ← h2]; exact v8 3 (by omega)
      · rw [er 5 (by omega), ← h3]; exact v8 4 (by omega)
      · rw [er 6 (by omega), ← h4]; exact v8 5 (by omega)
      · rw [er 7 (by omega), ← h5]; exact v8 6 (by omega)
      · rw [er 8 (by omega), ← h6]; exact v8 7 (by omega)
      · show kV _ 0 g 6 8 = (endM (dieM μ g) g) 1 (55 * g + 49)
        rw [v9, d2 49 (by omega), if_neg (by omega), if_pos rfl]
      · rw [er (9 + k) (by omega), ← h8 k hk]
        show kV _ 0 g (6 + 2) k = kV κ 0 g (6 + 2) k
        rw [v2 8 (by omega) (by omega) (by omega) (by omega) (by omega)]
      · show kV _ 0 g 9 k = (endM (dieM μ g) g) 1 (55 * g + (17 + k))
        rw [v10 k hk, d2 (17 + k) (by omega), if_pos (by omega)]
    · obtain ⟨st, nT, nS, nJ, T, S, J, r, p1, p2, l1, l2, l3, p3, l4, l5, _⟩ := hGg.2.2.2
      exact ⟨st, nT, nS, nJ, T, S, J, r, LST_v p1 (fun c x y => v2 c (by omega) (by omega) (by omega) (by omega) (by omega)) (fun _ _ _ => rfl), by rw [v2 5 (by omega) (by omega) (by omega) (by omega) (by omega)]; exact p2, l1, l2, l3, by rw [v3 12 (by omega) (by omega)]; exact p3, l4, l5, Or.inl ⟨v5, v9⟩⟩
  have o1 : ∀ g2 k, g2 ≠ g → k < 55 → (endM (dieM μ g) g) 1 (55 * g2 + k) = μ 1 (55 * g2 + k) := fun g2 k e hk => d7.2.2 1 _ (by omega) (by omega) (by omega) (by show (55 * g2 + k) / 55 ≠ g; omega)
  refine REL_GC (d1 := 0) (d2 := 0) hR (Nat.le_refl _) hg (fun f i a b _ _ => eo f i a (by omega)) (fun _ _ _ => rfl) (fun _ _ _ => rfl) ?_ hFRM d7 (fun key x y => by rw [d3, if_neg (by omega)]) (fun k hk2 => ?_) hRG (GPT_v hPg (Nat.le_refl _) rfl (by rw [d1 15 (by omega) (by omega) (by omega) (by omega) (by omega)]) (by rw [d1 12 (by omega) (by omega) (by omega) (by omega) (by omega)])) (Or.inl v6) (fun s hs z => ?_) (fun c x y => d1 c (by omega) (by omega) (by omega) (by omega) (by omega)) ?_ (CLK_e (hQ g hg).2.1 (d1 22 (by omega) (by omega) (by omega) (by omega) (by omega)) (d1 20 (by omega) (by omega) (by omega) (by omega) (by omega)) (d1 21 (by omega) (by omega) (by omega) (by omega) (by omega))) ?_ (PAID_same rfl rfl) (by omega) (by omega)
  · refine TJ_mk hn (by rw [d1 0 (by omega) (by omega) (by omega) (by omega) (by omega)]; exact m1.1.2.1) (fun g2 hg2 => ?_) hFRM (by rw [d1 39 (by omega) (by omega) (by omega) (by omega) (by omega)]; exact m1.1.2.2.2) (by unfold TM; rw [d1 0 (by omega) (by omega) (by omega) (by omega) (by omega)]; exact m1.2.2)
    obtain ⟨x1, x2, x3, x4⟩ := m1.1.2.2.1 g2 hg2
    have hPR : PRG (endM (dieM μ g) g) g2 := by
      unfold PRG
      rw [d1 13 (by omega) (by omega) (by omega) (by omega) (by omega), d1 14 (by omega) (by omega) (by omega) (by omega) (by omega)]
      exact x2
    have h54 : (endM (dieM μ g) g) 1 (55 * g2 + 54) = μ 1 (55 * g2 + 54) := by
      by_cases e : g2 = g
      · rw [e, d2 54 (by omega), if_neg (by omega), if_neg (by omega)]
      · exact o1 g2 54 e (by omega)
    refine ⟨fun k hk => ?_, hPR, by unfold QOK; rw [h54, d1 2 (by omega) (by omega) (by omega) (by omega) (by omega)]; exact m1.2.1 g2 hg2, by rw [d1 15 (by omega) (by omega) (by omega) (by omega) (by omega)]; exact x4⟩
    by_cases e : g2 = g
    · rw [e, d2 k hk]
      split
      · rename_i z
        refine rng_n (r := 0) ?_
        rw [show k = 17 + (k - 17) from by omega, lim_word (by omega)]
        omega
      · split
        · rename_i z1 z2
          rw [z2]
          exact rng_n (r := 3) (by decide)
        · rw [← e]; exact x1 k hk
    · rw [o1 g2 k e hk]; exact x1 k hk
  · have hx : ∀ w, RH w (n28 μ g 8) n k → RH w (endM (dieM μ g) g) n k := fun w z => RH_mv (g := g) z (fun p hp => by rw [n28_28, if_pos (by omega)]) (fun g2 _ => by rw [d1 15 (by omega) (by omega) (by omega) (by omega) (by omega), n28_row (by omega)]) d4 (by rw [d1 29 (by omega) (by omega) (by omega) (by omega) (by omega), n28_row (by omega)])
    by_cases e : k = h
    · subst e
      rw [e2h]
      exact ⟨hx _ (RH_lv hn (m3 k hk2).1 hg m2 h15 8 (Nat.le_refl _)), fun j => by rw [lvU_0]⟩
    · rw [eo 2 k (by omega) (by omega)]
      exact ⟨hx _ (RH_lv2 (m3 k hk2).1 e ⟨hh, hk2⟩ h15), fun _ => rfl⟩
  · exact PLK_v z (fun j _ => by rw [eo 9 s (by omega) (by omega)]) (fun _ _ => rfl) (fun c x y => v2 c (by omega) (by omega) (by omega) (by omega) (by omega)) (RANUP_e (v3 12 (by omega) (by omega)))
  · obtain ⟨a0, b0, r0, s1, s2, s3, s4, s5⟩ := (hQ g hg).1
    exact ⟨a0, 0, r0, by rw [d1 35 (by omega) (by omega) (by omega) (by omega) (by omega)]; exact s1, d6, by rw [d1 24 (by omega) (by omega) (by omega) (by omega) (by omega)]; exact s3, by omega, s5⟩
  · obtain ⟨⟨mm, i1, i2⟩, ⟨b', i3, i4, i5⟩, i6⟩ := (hQ g hg).2.2
    refine ⟨⟨mm, by rw [d2 54 (by omega), if_neg (by omega), if_neg (by omega)]; exact i1, i2⟩, ⟨b', by rw [d1 6 (by omega) (by omega) (by omega) (by omega) (by omega)]; exact i3, i4, fun z => ?_⟩, by rw [d1 18 (by omega) (by omega) (by omega) (by omega) (by omega)]; exact i6⟩
    rw [d5] at z
    exact absurd z (by decide)
