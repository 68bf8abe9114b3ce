/-! a new guest, the model -/
def gmM (μ : MU) (n : Nat) : Nat → MU
  | 0 => mu (mu (mu μ 0 26 (nI (n + 1))) 1 (55 * n + 5) (-1)) 1 (55 * n + 50) (-1)
  | k + 1 => mu (mu (mu (gmM μ n k) 1 (55 * n + 9 + k) (nI k)) 27 (8 * n + k) 0) 28 (8 * n + k) (-1)
def gnM (μ : MU) (n : Nat) (h w s : Int32) : MU := mu (mu (mu (mu (mu (mu (mu (gmM μ n 8) 15 n h) 16 n w) 17 n s) 20 n 1) 21 n 0) 22 n (μ 0 41)) 12 n (-1)
theorem gm_row {μ : MU} {n c : Nat} (h0 : c ≠ 0) (h1 : c ≠ 1) (h27 : c ≠ 27) (h28 : c ≠ 28) : ∀ k, gmM μ n k c = μ c
  | 0 => by unfold gmM; rw [mu_row (by omega), mu_row (by omega), mu_row (by omega)]
  | k + 1 => by unfold gmM; rw [mu_row (by omega), mu_row (by omega), mu_row (by omega)]; exact gm_row h0 h1 h27 h28 k
theorem gm_0 {μ : MU} {n j : Nat} : ∀ k, gmM μ n k 0 j = if j = 26 then nI (n + 1) else μ 0 j
  | 0 => by
    unfold gmM
    rw [muD (by omega), muD (by omega)]
    by_cases e : j = 26
    · rw [if_pos e]; exact muS ⟨rfl, e⟩
    · rw [if_neg e]; exact muD (by omega)
  | k + 1 => by unfold gmM; rw [muD (by omega), muD (by omega), muD (by omega)]; exact gm_0 k
theorem gm_1 {μ : MU} {n j : Nat} : ∀ k, k ≤ 8 → gmM μ n k 1 j = if j = 55 * n + 5 ∨ j = 55 * n + 50 then -1 else if 55 * n + 9 ≤ j ∧ j < 55 * n + 9 + k then nI (j - (55 * n + 9)) else μ 1 j
  | 0, _ => by
    unfold gmM
    by_cases e : j = 55 * n + 50
    · rw [if_pos (Or.inr e)]; exact muS ⟨rfl, e⟩
    · rw [muD (by omega)]
      by_cases e2 : j = 55 * n + 5
      · rw [if_pos (Or.inl e2)]; exact muS ⟨rfl, e2⟩
      · rw [muD (by omega), if_neg (by omega), if_neg (by omega)]; exact muD (by omega)
  | k + 1, hk => by
    have ih := gm_1 (μ := μ) (n := n) (j := j) k (by omega)
    unfold gmM
    rw [muD (by omega), muD (by omega)]
    by_cases e : j = 55 * n + 9 + k
    · rw [muS ⟨rfl, e⟩, if_neg (by omega), if_pos (by omega), show j - (55 * n + 9) = k from by omega]
    · rw [muD (by omega), ih]
      by_cases a : j = 55 * n + 5 ∨ j = 55 * n + 50
      · rw [if_pos a, if_pos a]
      · rw [if_neg a, if_neg a]
        by_cases b : 55 * n + 9 ≤ j ∧ j < 55 * n + 9 + k
        · rw [if_pos b, if_pos (by omega)]
        · rw [if_neg b, if_neg (by omega)]
theorem gm_27 {μ : MU} {n j : Nat} : ∀ k, gmM μ n k 27 j = (if 8 * n ≤ j ∧ j < 8 * n + k then 0 else μ 27 j) ∧ gmM μ n k 28 j = (if 8 * n ≤ j ∧ j < 8 * n + k then -1 else μ 28 j)
  | 0 => by
    unfold gmM
    rw [muD (by omega), muD (by omega), muD (by omega), muD (by omega), muD (by omega), muD (by omega), if_neg (by omega), if_neg (by omega)]
    exact ⟨rfl, rfl⟩
  | k + 1 => by
    obtain ⟨i1, i2⟩ := gm_27 (μ := μ) (n := n) (j := j) k
    unfold gmM
    by_cases e : j = 8 * n + k
    · rw [muD (by omega), muS ⟨rfl, e⟩, muS ⟨rfl, e⟩, if_pos (by omega), if_pos (by omega)]
      exact ⟨rfl, rfl⟩
    · rw [muD (by omega), muD (by omega), muD (by omega), i1, muD (by omega), muD (by omega), muD (by omega), i2]
      by_cases b : 8 * n ≤ j ∧ j < 8 * n + k
      · rw [if_pos b, if_pos b, if_pos (by omega), if_pos (by omega)]; exact ⟨rfl, rfl⟩
      · rw [if_neg b, if_neg b, if_neg (by omega), if_neg (by omega)]; exact ⟨rfl, rfl⟩
theorem gn_row {μ : MU} {n c : Nat} {h w s : Int32} (hc : c ≠ 12 ∧ c ≠ 15 ∧ c ≠ 16 ∧ c ≠ 17 ∧ c ≠ 20 ∧ c ≠ 21 ∧ c ≠ 22) : gnM μ n h w s c = gmM μ n 8 c := by
  unfold gnM
  rw [mu_row (by omega), mu_row (by omega), mu_row (by omega), mu_row (by omega), mu_row (by omega), mu_row (by omega), mu_row (by omega)]
theorem gn_ne {μ : MU} {n c j : Nat} {h w s : Int32} (hj : j ≠ n) : gnM μ n h w s c j = gmM μ n 8 c j := by
  unfold gnM
  rw [muD (by omega), muD (by omega), muD (by omega), muD (by omega), muD (by omega), muD (by omega), muD (by omega)]
theorem gn_own {μ : MU} {n : Nat} {h w s : Int32} : gnM μ n h w s 15 n = h ∧ gnM μ n h w s 16 n = w ∧ gnM μ n h w s 17 n = s ∧ gnM μ n h w s 20 n = 1 ∧ gnM μ n h w s 21 n = 0 ∧ gnM μ n h w s 22 n = μ 0 41 ∧ gnM μ n h w s 12 n = -1 := by
  unfold gnM
  refine ⟨?_, ?_, ?_, ?_, ?_, ?_, muS ⟨rfl, rfl⟩⟩
  · rw [muD (by omega), muD (by omega), muD (by omega), muD (by omega), muD (by omega), muD (by omega)]; exact muS ⟨rfl, rfl⟩
  · rw [muD (by omega), muD (by omega), muD (by omega), muD (by omega), muD (by omega)]; exact muS ⟨rfl, rfl⟩
  · rw [muD (by omega), muD (by omega), muD (by omega), muD (by omega)]; exact muS ⟨rfl, rfl⟩
  · rw [muD (by omega), muD (by omega), muD (by omega)]; exact muS ⟨rfl, rfl⟩
  · rw [muD (by omega), muD (by omega)]; exact muS ⟨rfl, rfl⟩
  · rw [muD (by omega)]; exact muS ⟨rfl, rfl⟩
theorem m_gn {E : EE} {κ : K} {μ : MU} {n : Nat} {h w s : Int32} (hn : n < 5) (hs : s = 0 ∨ s = 1) : ∀ (d k m : Nat), k + d = 8 → d < m → f_X11_guest_b103 E m (putM κ (gmM μ n k)) h w s (nI n) (nI k) = some (putM κ (gnM μ n h w s), nI n) := by
  intro d
  induction d with
  | zero =>
    intro k m hk hm
    obtain ⟨m, rfl⟩ : ∃ q, m = q + 1 := ⟨m - 1, by omega⟩
    obtain rfl : k = 8 := by omega
    rw [f_X11_guest_b103, if_pos (by decide), f_X11_guest_b162, nI_cl (by omega), gdi (by omega), nmE, gdi (by omega), nmE, gdi (by omega), gd_t hs, nmE, gdi (by omega), nmE, gdi (by omega), nmE, gdi (by omega), nmE, gdi (by omega), nmE]
    simp only [set5, put_kV, put_put]
    rw [muD (by omega), muD (by omega), muD (by omega), muD (by omega), muD (by omega), gm_0, if_neg (by omega)]
    rfl
  | succ d ih =>
    intro k m hk hm
    obtain ⟨m, rfl⟩ : ∃ q, m = q + 1 := ⟨m - 1, by omega⟩
    rw [f_X11_guest_b103, if_neg (by rw [l8, nI_le' (by omega) (by omega)]; omega), l55, l9, l8, nI_mul, nI_add, nI_add, nI_cl (by omega), gdi (by omega), nmE, nI_mul, nI_add, nI_cl (by omega), gdi (by omega), nmE, gdi (by omega), nmE, nI_1, nmE]
    simp only [set5, put_kV, put_put]
    exact ih (k + 1) m (by omega) (by omega)
theorem m_guest {E : EE} {κ : K} {n h : Nat} {w s : Int32} (hG : kV κ 5 0 0 26 = nI n) (hn : n < 5) (hh : h < 2) (hw : ¬ w < 1 ∧ ¬ nI 4 < w) (hs : s = 0 ∨ s = 1) (h38 : kV κ 5 0 38 h = 0) : f_X11_guest E κ (nI h) w s = some (putM κ (gnM (mu (kV κ 5 0) 0 0 0) n (nI h) w s), nI n) := by
  rw [f_X11_guest, show f_X11_in E κ (nI h) 0 1 = some (κ, 1) from in_t (by rw [i32_0, nI_lt' (by omega) (by omega)]; omega) (by rw [i32_1, nI_lt' (by omega) (by omega)]; omega), bd_s, if_neg (by decide), show f_X11_in E κ w 1 4 = some (κ, 1) from in_t hw.1 hw.2, bd_s, if_neg (by decide), hG, if_neg (by rw [l5, nI_eq' (by omega) (by omega)]; omega), nI_cl (by omega), gdi (by omega), h38, if_pos rfl, f_X11_guest_b49, ref_0, bd_s, if_pos rfl, put_kV, muD (by omega), hG, nmE, nmE, l55, nI_mul, l5, nI_add, nI_cl (by omega), gdi (by omega), nmE, l50, nI_add, nI_cl (by omega), gdi (by omega), nmE]
  have l0 := m_gn (E := E) (κ := κ) (μ := mu (kV κ 5 0) 0 0 0) (h := nI h) (w := w) hn hs 8 0 FU (by omega) (by unfold FU; omega)
  rw [nI_0] at l0
  simp only [set5, put_kV, put_put]
  rw [nI_1]
  exact l0
theorem RG_z {κ κ' : K} {μ μ' : MU} {g tt : Nat} (h : RG κ μ g tt) (eV : kV κ' 0 g = kV κ 0 g) (eN : kN κ' 0 g = kN κ 0 g) (em : ∀ c, c ≠ 0 → c < 38 → μ' c = μ c) (e41 : μ' 0 41 = μ 0 41) : RG κ' μ' g tt := by
  refine ⟨RGX_v h.1 ?_ ?_ ?_ (fun k _ _ => by rw [eV]) (fun c _ _ _ => by rw [eV]) (fun c => by rw [eN]) (fun c k a _ _ _ _ _ _ _ _ => by rw [em c a.1 a.2]) (fun k _ _ => by rw [em 1 (by omega) (by omega)]) e41, ?_, by rw [eV, em 24 (by omega) (by omega)]; exact h.2.2.1, PLL_v h.2.2.2 (fun _ _ _ => by rw [eV]) (fun _ _ _ => by rw [eV]) (fun _ _ _ => by rw [eN]) (by rw [eV]) (by rw [eV]) (by rw [eV]) (by rw [eV]; exact MEQ_j fun _ _ => rfl)⟩
  · exact EXI_v h.1.2.1 (by rw [eV]) (fun k _ => by rw [em 25 (by omega) (by omega)])
  · exact BAR_v h.1.2.2.1 (by rw [eV]) (fun p _ => by rw [em 27 (by omega) (by omega)])
  · exact SND_v h.1.2.2.2.1 (by rw [eV]) (by rw [em 30 (by omega) (by omega)]) (by rw [em 31 (by omega) (by omega)])
  · rw [eV, row_e (em 1 (by omega) (by omega))]; exact h.2.1
theorem REL_guest {E E' : EE} {κ κ' : K} {μ μ' : MU} {n ns t C m h : Nat} {w s : Int32} (hR : REL E κ μ n ns t C) (hn : n < 5) (hh : h < 2) (hs : s = 0 ∨ s = 1)
    (hE : E'.1 = n + 1 ∧ E'.2.1 = E.2.1 ∧ OKE E' ∧ (∀ f, f ≠ 0 → cntE E' f = cntE E f) ∧ cnt4 E' 2 = cnt4 E 2) (hL : LsI E' κ' 1 (n + 1))
    (hk : ∀ f i c, ¬ (f = 0 ∧ i = n ∧ c < 39) → ¬ (f = 4 ∧ i = 0 ∧ (c = 1 ∨ c = 4)) → f ≠ 5 → f ≠ 6 → kV κ' f i c = kV κ f i c ∧ kN κ' f i c = kN κ f i c ∧ kP κ' f i c = kP κ f i c) (hH : HELD κ' n m h w s) (hc1 : (kC κ').1 ≤ (kC κ).1 + 40) (hc2 : (kC κ').2 ≤ (kC κ).2 + 351) (hm : μ' = gnM μ n (nI h) w s) : REL E' κ' μ' (n + 1) ns t (C + 1) := by
  obtain ⟨⟨g1, g2, g3, g4, g5⟩, ⟨l1, l2, l3, l4, l5⟩, ⟨m1, m2, m3, m4, m5⟩, r4, ⟨r5, r5b, r5c⟩, r6, r7, r8⟩ := hR
  obtain ⟨e1, e2, e3, e4, e5⟩ := hE
  obtain ⟨o15, o16, o17, o20, o21, o22, o12⟩ := gn_own (μ := μ) (n := n) (h := nI h) (w := w) (s := s)
  rw [← hm] at o15 o16 o17 o20 o21 o22 o12
  have w0 : ∀ k, k ≠ 26 → μ' 0 k = μ 0 k := fun k hk => by rw [hm, gn_row (by omega), gm_0, if_neg hk]
  have w26 : μ' 0 26 = nI (n + 1) := by rw [hm, gn_row (by omega), gm_0, if_pos rfl]
  have wr : ∀ c, c ≠ 0 → c ≠ 1 → c ≠ 27 → c ≠ 28 → c ≠ 12 ∧ c ≠ 15 ∧ c ≠ 16 ∧ c ≠ 17 ∧ c ≠ 20 ∧ c ≠ 21 ∧ c ≠ 22 → μ' c = μ c := fun c a b d e f => by rw [hm, gn_row f, gm_row a b d e]
  have w1 : ∀ j, j / 55 ≠ n → μ' 1 j = μ 1 j := fun j hj => by rw [hm, gn_row (by omega), gm_1 8 (by omega), if_neg (by omega), if_neg (by omega)]
  have wn : ∀ c j, c ≠ 0 → c ≠ 1 → c ≠ 27 → c ≠ 28 → j ≠ n → μ' c j = μ c j := fun c j a b d e f => by rw [hm, gn_ne f, gm_row a b d e]
  have w27 : ∀ j, j / 8 ≠ n → μ' 27 j = μ 27 j ∧ μ' 28 j = μ 28 j := fun j hj => by
    rw [hm, gn_row (by omega), gn_row (by omega), (gm_27 8).1, (gm_27 8).2, if_neg (by omega), if_neg (by omega)]
    exact ⟨rfl, rfl⟩
  have w27n : ∀ p, p < 8 → μ' 27 (8 * n + p) = 0 ∧ μ' 28 (8 * n + p) = -1 := fun p hp => by
    rw [hm, gn_row (by omega), gn_row (by omega), (gm_27 8).1, (gm_27 8).2, if_pos (by omega), if_pos (by omega)]
    exact ⟨rfl, rfl⟩
  have hN : NEW μ' n := by
    refine ⟨fun k hk => ?_, fun c k a b d e f1 f2 f3 f4 f5 f6 f7 f8 f9 => ?_, w27n⟩
    · rw [hm, gn_row (by omega), gm_1 8 (by omega)]
      unfold gini
      by_cases a : k = 5 ∨ k = 50
      · rw [if_pos (by omega), if_pos a]
      · rw [if_neg (by omega), if_neg a]
        by_cases b : 9 ≤ k ∧ k < 17
        · rw [if_pos (by omega), if_pos b, show 55 * n + k - (55 * n + 9) = k - 9 from by omega]
        · rw [if_neg (by omega), if_neg b]
          exact r6 1 _ (by omega) (by omega) (by omega) (by omega) (by show n ≤ (55 * n + k) / 55; omega) (by show (55 * n + k) / 55 < 5; omega)
    · rw [wr c a f1 (by omega) (by omega) (by omega)]
      exact r6 c k a b d e (by omega) (by omega)
  have kv0 : ∀ g, g < n → kV κ' 0 g = kV κ 0 g := fun g hg => by funext c; exact (hk 0 g c (by omega) (by omega) (by omega) (by omega)).1
  have kn0 : ∀ g, g < n → kN κ' 0 g = kN κ 0 g := fun g hg => by funext c; exact (hk 0 g c (by omega) (by omega) (by omega) (by omega)).2.1
  have kp0 : ∀ g, g < n → kP κ' 0 g = kP κ 0 g := fun g hg => by funext c; exact (hk 0 g c (by omega) (by omega) (by omega) (by omega)).2.2
  have kvf : ∀ f i, f ≠ 0 → f ≠ 4 → f ≠ 5 → f ≠ 6 → kV κ' f i = kV κ f i := fun f i a b d e => by funext c; exact (hk f i c (by omega) (by omega) d e).1
  have knf : ∀ f i, f ≠ 0 → f ≠ 4 → f ≠ 5 → f ≠ 6 → kN κ' f i = kN κ f i := fun f i a b d e => by funext c; exact (hk f i c (by omega) (by omega) d e).2.1
  have kpf : ∀ f i, f ≠ 0 → f ≠ 4 → f ≠ 5 → f ≠ 6 → kP κ' f i = kP κ f i := fun f i a b d e => by funext c; exact (hk f i c (by omega) (by omega) d e).2.2
  have hF : FRM μ' (n + 1) := fun key hkey => by
    by_cases e : key / 8 = n
    · have := w27n (key - 8 * n) (by omega)
      rw [show 8 * n + (key - 8 * n) = key from by omega] at this
      exact Or.inr ⟨Or.inl this.1, this.2⟩
    · rw [(w27 key e).1, (w27 key e).2]
      exact m2 key (by omega)
  have h18 : kV κ' 0 n 18 0 = 0 := by rw [(hH 18 (by omega)).1]; rfl
  have hRG : RG κ' μ' n t := RG_first hH hN o16 o17 o20 o21 (by rw [o22, w0 41 (by omega)]) hs
  have hns : cntE E' 9 = ns := by rw [e4 9 (by omega)]; exact g4
  refine ⟨⟨e1, e2.trans g2, e3, hns, fun i hi => ?_⟩, ⟨hL, ?_, ?_, by rw [w0 41 (by omega)]; exact l4, l5⟩, ⟨?_, hF, fun k hk2 => ?_, fun g hg => ?_, fun z hz => ?_⟩, fun g hg => ?_, ⟨by rw [w0 11 (by omega)]; exact r5, r5b, fun z hz => ?_⟩, ?_, ?_, ?_⟩
  · rw [e4 3 (by omega)] at hi
    obtain ⟨g, a, b⟩ := g5 i hi
    exact ⟨g, by omega, by rw [kpf 3 i (by omega) (by omega) (by omega) (by omega)]; exact b⟩
  · have k2 := hk 4 0 2 (by omega) (by omega) (by omega) (by omega)
    have k5 := hk 4 0 5 (by omega) (by omega) (by omega) (by omega)
    unfold LsI
    rw [k2.1, k2.2.2, e5]
    show _ ∧ _ ∧ (_ → _ ∧ _ ∧ ∀ k, kP κ' 4 0 5 k = _)
    rw [k5.2.2]
    exact l2
  · rw [(hk 4 0 0 (by omega) (by omega) (by omega) (by omega)).1]; exact l3
  · refine TJ_mk (by omega) w26 (fun g hg => ?_) hF (fun k hk2 => ?_) (by unfold TM; rw [w0 41 (by omega)]; exact m1.2.2)
    · by_cases e : g = n
      · subst e
        refine ⟨fun k hk2 => by rw [hN.1 k hk2]; exact gini_r hk2, ⟨0, by omega, hN.z (by omega) rfl, fun k hk2 => absurd hk2 (Nat.not_lt_zero k)⟩, fun k hk2 => ?_, h, hh, o15⟩
        rw [hN.1 54 (by omega)] at hk2
        exact absurd hk2 (by show ¬ k < (0 : Int32).toNatClampNeg; rw [cl0]; omega)
      · obtain ⟨x1, x2, x3, x4⟩ := m1.1.2.2.1 g (by omega)
        refine ⟨fun k hk2 => by rw [w1 _ (by omega)]; exact x1 k hk2, ?_, fun k hk2 => ?_, by rw [wn 15 g (by omega) (by omega) (by omega) (by omega) e]; exact x4⟩
        · unfold PRG
          rw [wr 13 (by omega) (by omega) (by omega) (by omega) (by omega), wr 14 (by omega) (by omega) (by omega) (by omega) (by omega)]
          exact x2
        · rw [w1 _ (by omega)] at hk2
          rw [wr 2 (by omega) (by omega) (by omega) (by omega) (by omega)]
          exact m1.2.1 g (by omega) k hk2
    · rw [wr 39 (by omega) (by omega) (by omega) (by omega) (by omega)]
      exact (m1.1.2.2.2 k hk2).imp id (fun ⟨l, a, b⟩ => ⟨l, by omega, b⟩)
  · have hO := m3 k hk2
    refine HO_v hO (by omega) ?_ (fun j _ => by rw [kvf 2 k (by omega) (by omega) (by omega) (by omega)]) (kpf 2 k (by omega) (by omega) (by omega) (by omega)) (fun c a b => by rw [wr c (by omega) (by omega) (by omega) (by omega) (by omega)])
    rw [kvf 2 k (by omega) (by omega) (by omega) (by omega)]
    refine ⟨fun key hkey => ?_, hO.1.2.1, fun f hf => by rw [wr 29 (by omega) (by omega) (by omega) (by omega) (by omega)]; exact hO.1.2.2 f hf⟩
    rw [hO.1.1 key hkey]
    by_cases e : key / 8 = n
    · rw [if_neg (by omega)]
      have := w27n (key - 8 * n) (by omega)
      rw [show 8 * n + (key - 8 * n) = key from by omega] at this
      rw [this.2]
      split <;> rfl
    · rw [(w27 key e).2, wn 15 _ (by omega) (by omega) (by omega) (by omega) e]
      by_cases y : key / 8 < n ∧ μ 15 (key / 8) = nI k
      · rw [if_pos y, if_pos ⟨by omega, y.2⟩]
      · rw [if_neg y, if_neg (fun z => y ⟨by omega, z.2⟩)]
  · by_cases e : g = n
    · subst e
      exact ⟨hRG, ⟨⟨h, hh, by rw [(hH 0 (by omega)).2.2]; rfl, o15⟩, Or.inl ⟨o12, by rw [(hH 0 (by omega)).2.2]; rfl⟩⟩, Or.inl h18⟩
    · obtain ⟨a1, a2, a3⟩ := m4 g (by omega)
      have a1' : RG κ' (fun c => if c = 0 then μ 0 else μ' c) g t := by
        refine RG_n (g2 := n) a1 (Ne.symm e) ⟨if_pos rfl, fun c hc => ?_, fun c k b1 b2 b3 b4 => ?_⟩ (fun p hp => ?_) (kv0 g (by omega)) (kn0 g (by omega))
        · show (if c = 0 then μ 0 else μ' c) = μ c
          rw [if_neg (by omega)]
          exact wr c (by omega) (by omega) (by omega) (by omega) (by omega)
        · show (if c = 0 then μ 0 else μ' c) k = μ c k
          by_cases z0 : c = 0
          · rw [if_pos z0, z0]
          · rw [if_neg z0]
            by_cases z1 : c = 1
            · subst z1; exact w1 k b4
            · by_cases z2 : wid c = 1
              · exact wn c k z0 z1 b1 b2 (by rw [z2, Nat.div_one] at b4; exact b4)
              · rw [wr c z0 z1 b1 b2 ⟨fun z => z2 (by rw [z]; rfl), fun z => z2 (by rw [z]; rfl), fun z => z2 (by rw [z]; rfl), fun z => z2 (by rw [z]; rfl), fun z => z2 (by rw [z]; rfl), fun z => z2 (by rw [z]; rfl), fun z => z2 (by rw [z]; rfl)⟩]
        · show (if 27 = 0 then μ 0 else μ' 27) (8 * g + p) = 0 ↔ _
          rw [if_neg (by omega), (w27 _ (by omega)).1]
      refine ⟨RG_z a1' rfl rfl (fun c a b => by rw [if_neg a]) (by rw [if_pos rfl]; exact w0 41 (by omega)), GPT_v a2 (Nat.le_refl _) (kp0 g (by omega)) (wn 15 g (by omega) (by omega) (by omega) (by omega) e) (wn 12 g (by omega) (by omega) (by omega) (by omega) e), a3.imp (fun z => by rw [kv0 g (by omega)]; exact z) (fun z => PLK_v z (fun j _ => by rw [kv0 g (by omega)]) (fun j _ => by rw [kn0 g (by omega)]) (fun c _ _ => by rw [kv0 g (by omega)]) (RANUP_e (by rw [kv0 g (by omega)])))⟩
  · exact SNP_v (m5 z hz) (by omega) (kvf 1 z (by omega) (by omega) (by omega) (by omega)) (kvf 9 z (by omega) (by omega) (by omega) (by omega)) (knf 9 z (by omega) (by omega) (by omega) (by omega)) (kpf 1 z (by omega) (by omega) (by omega) (by omega)) (fun c a b k _ _ _ => by rw [wr c (by omega) (by omega) (by omega) (by omega) (by omega)]) (fun g hg => ⟨fun c _ _ => by rw [kv0 g hg], RANUP_e (by rw [kv0 g hg])⟩)
  · by_cases e : g = n
    · subst e
      have z0 : (0 : Int32) = nI 0 := rfl
      refine ⟨⟨0, 0, 0, hN.z (by omega) rfl, hN.z (by omega) rfl, hN.z (by omega) rfl, by omega, by omega⟩, ⟨t, 1, 0, by rw [o22]; exact l4, Nat.le_refl _, o20, by omega, o21, by omega⟩, ⟨0, hN.1 54 (by omega), by omega⟩, ⟨0, hN.z (by omega) rfl, by omega, fun y => ?_⟩, Or.inl (hN.z (by omega) rfl)⟩
      rw [hN.z (c := 33) (by omega) rfl] at y
      exact absurd y (by decide)
    · obtain ⟨a1, a2, ⟨mm, b1, b2⟩, ⟨bb, b3, b4, b5⟩, b6⟩ := r4 g (by omega)
      refine ⟨?_, ?_, ⟨mm, by rw [w1 _ (by omega)]; exact b1, by omega⟩, ⟨bb, by rw [wr 6 (by omega) (by omega) (by omega) (by omega) (by omega)]; exact b3, by omega, fun y => ?_⟩, by rw [wr 18 (by omega) (by omega) (by omega) (by omega) (by omega)]; exact b6⟩
      · unfold SAY
        rw [wr 35 (by omega) (by omega) (by omega) (by omega) (by omega), wr 37 (by omega) (by omega) (by omega) (by omega) (by omega), wr 24 (by omega) (by omega) (by omega) (by omega) (by omega)]
        exact a1
      · unfold CLK
        rw [wn 22 g (by omega) (by omega) (by omega) (by omega) e, wn 20 g (by omega) (by omega) (by omega) (by omega) e, wn 21 g (by omega) (by omega) (by omega) (by omega) e]
        exact a2
      · rw [wr 33 (by omega) (by omega) (by omega) (by omega) (by omega)] at y
        rw [wr 3 (by omega) (by omega) (by omega) (by omega) (by omega), wr 5 (by omega) (by omega) (by omega) (by omega) (by omega)]
        obtain ⟨⟨a, y1, y2⟩, y3⟩ := b5 y
        exact ⟨⟨a, y1, by omega⟩, y3⟩
  · obtain ⟨a, b, d⟩ := r5c z hz
    exact ⟨a, by rw [wr 7 (by omega) (by omega) (by omega) (by omega) (by omega)]; exact b, by omega⟩
  · intro c k a b d e f i
    by_cases z1 : c = 1
    · subst z1
      rw [w1 k (by rw [show wid 1 = 55 from rfl] at f; omega)]
      exact r6 1 k a b d e (by omega) i
    · by_cases z2 : wid c = 1
      · rw [wn c k a z1 (by omega) (by omega) (by rw [z2, Nat.div_one] at f; omega)]
        exact r6 c k a b d e (by omega) i
      · rw [wr c a z1 (by omega) (by omega) ⟨fun z => z2 (by rw [z]; rfl), fun z => z2 (by rw [z]; rfl), fun z => z2 (by rw [z]; rfl), fun z => z2 (by rw [z]; rfl), fun z => z2 (by rw [z]; rfl), fun z => z2 (by rw [z]; rfl), fun z => z2 (by rw [z]; rfl)⟩]
        exact r6 c k a b d e (by omega) i
  all_goals
    have hW : WT κ n ns ≤ WT κ' (n + 1) ns := by
      refine sumL_le fun p hp => ?_
      obtain ⟨f, i, c⟩ := p
      by_cases e : aliveN n ns (f, i, c) = true
      · have e2 : aliveN (n + 1) ns (f, i, c) = true := by
          unfold aliveN at e ⊢
          simp only [Bool.or_eq_true, Bool.and_eq_true, decide_eq_true_eq] at e ⊢
          omega
        rw [if_pos e, if_pos e2]
        unfold aliveN at e
        simp only [Bool.or_eq_true, Bool.and_eq_true, decide_eq_true_eq] at e
        show kN κ f i c ≤ kN κ' f i c
        rw [(hk f i c (by omega) (by omega) (by omega) (by omega)).2.1]
        exact Nat.le_refl _
      · rw [if_neg e]; exact Nat.zero_le _
    omega
theorem EXT_gn {μ : MU} {n : Nat} {h w s : Int32} (hZ : ZER μ n) (hn : n < 5) : EXT μ (gnM μ n h w s) := by
  have r : ∀ c, c = 35 ∨ c = 23 ∨ c = 24 → (gnM μ n h w s) c = μ c := fun c hc => by rw [gn_row (by omega), gm_row (by omega) (by omega) (by omega) (by omega)]
  have w1 : ∀ g k, g < 5 → k < 32 → (gnM μ n h w s) 1 (55 * g + (17 + k)) = μ 1 (55 * g + (17 + k)) := fun g k hg hk => by
    rw [gn_row (by omega), gm_1 8 (Nat.le_refl _), if_neg (by omega), if_neg (by omega)]
  refine EXT_p (r 35 (by omega)) (r 23 (by omega)) (r 24 (by omega)) (by rw [gn_row (by omega), gm_0, if_neg (by omega)]) (fun g p hg hp h0 => ?_)
  rw [gn_row (by omega), (gm_27 8).1] at h0
  by_cases e : g = n
  · refine Or.inr fun k hk => ?_
    rw [w1 g (4 * p + k) hg (by omega)]
    exact hZ 1 _ (by omega) (by omega) (by omega) (by omega) (by show n ≤ (55 * g + (17 + (4 * p + k))) / 55; omega) (by show (55 * g + (17 + (4 * p + k))) / 55 < 5; omega)
  · rw [if_neg (by omega)] at h0
    exact Or.inl ⟨h0, fun k hk => w1 g (4 * p + k) hg (by omega)⟩
theorem st_guest {E : EE} {κ : K} {n ns t C : Nat} {a b c : Int32} (hc : c = 0 ∨ c = 1) (hR : REL E κ (kV κ 5 0) n ns t C) : DONE (lw_guest E κ a b c) C := by
  have hR0 := hR
  obtain ⟨⟨rfl, rfl, hO, h9⟩, ⟨q1, q2, q3, q4, q5⟩, hM, hQ, hS, hZ, hC⟩ := hR0
  have hn : E.1 ≤ 5 := hM.1.1.1
  have hG : kV κ 5 0 0 26 = nI E.1 := hM.1.1.2.1
  have hH : E.2.2.2.1 = 1 := hO.2.2.2.1
  by_cases ha : vp_in a 2
  · obtain ⟨h, hh, rfl⟩ := vp_ex (by omega) ha
    have hin : ∀ κ : K, f_X11_in E κ (nI h) 0 1 = some (κ, 1) := fun κ => in_t (by rw [i32_0, nI_lt' (by omega) (by omega)]; omega) (by rw [i32_1, nI_lt' (by omega) (by omega)]; omega)
    have hh2 : h < cntE E 2 := by show h < 2 * E.2.2.2.1; omega
    obtain ⟨o1, o2, o3, o4, o5, o6⟩ := hM.2.2.1 h hh
    by_cases hb : b < 1 ∨ nI 4 < b
    · have hcl : f_X10_guest E κ (nI h) b c = some ((E, addC κ 1 6), .inr 2) := by
        rw [f_X10_guest, hostAt_ok hH hh]
        show gd _ _ = _
        rw [gd_t hh2]
        by_cases z : b < 1
        · rw [if_pos z]
        · rw [if_neg z, if_neg (show ¬ b ≤ 4 from Int32.not_le.mpr (hb.resolve_left z))]
      exact ⟨E, _, E.1, E.2.1, t, by
        unfold lw_guest
        rw [hcl]
        dsimp only
        rw [gdp_t ⟨hO, fun e z => (by cases z; decide), GRW_no⟩, show f_X11_guest E (lwS (addC κ 1 6) (.inr 2)) (nI h) b c = some (putM (lwS (addC κ 1 6) (.inr 2)) (mu (kV κ 5 0) 0 0 2), 0) from by rw [f_X11_guest, hin, bd_s, if_neg (by decide), in_f (by rw [l4]; exact hb), bd_s, if_pos rfl, f_X11_guest_b49, ref_n (by decide), bd_s, if_neg (by decide), lw_V (by omega)]; rfl]
        dsimp only
        rw [gdp_t (lwS_noX (by decide) rfl)], glueS (REL_no hR)⟩
    · have hw1 : ¬ b < 1 := fun z => hb (Or.inl z)
      have hw4 : ¬ nI 4 < b := fun z => hb (Or.inr z)
      have hw4' : b ≤ 4 := Int32.not_lt.mp hw4
      by_cases h5 : E.1 = 5
      · have hcl : f_X10_guest E κ (nI h) b c = some ((E, addC κ 1 6), .inr 3) := by
          rw [f_X10_guest, hostAt_ok hH hh]
          show gd _ _ = _
          rw [gd_t hh2, if_neg hw1, if_pos hw4', if_pos (by rw [q1.1, h5]; decide)]
        exact ⟨E, _, E.1, E.2.1, t, by
          unfold lw_guest
          rw [hcl]
          dsimp only
          rw [gdp_t ⟨hO, fun e z => (by cases z; decide), GRW_no⟩, show f_X11_guest E (lwS (addC κ 1 6) (.inr 3)) (nI h) b c = some (putM (lwS (addC κ 1 6) (.inr 3)) (mu (kV κ 5 0) 0 0 3), 0) from by rw [f_X11_guest, hin, bd_s, if_neg (by decide), show ∀ κ : K, f_X11_in E κ b 1 4 = some (κ, 1) from fun κ => in_t hw1 hw4, bd_s, if_neg (by decide), lw_V (by omega), show kV (addC κ 1 6) 5 0 0 26 = nI E.1 from hG, if_pos (show nI E.1 = 5 by rw [h5]; rfl), f_X11_guest_b44, f_X11_guest_b49, ref_n (by decide), bd_s, if_neg (by decide), lw_V (by omega)]; rfl]
          dsimp only
          rw [gdp_t (lwS_noX (by decide) rfl)], glueS (REL_no hR)⟩
      · have hn5 : E.1 < 5 := by omega
        have hsz : ¬ 5 ≤ kV κ 4 0 1 2 := by rw [q1.1, l5, nI_le' (by omega) (by omega)]; omega
        by_cases h38 : kV κ 5 0 38 h = 0
        · obtain ⟨E', κ', x1, x2, x3, x4, x5, x6, x7⟩ := g_new (E := E) (κ := κ) (n := E.1) (h := h) (w := b) (s := c) q1 rfl hn5 hO
          have hcl : f_X10_guest E κ (nI h) b c = some ((E', κ'), .inl (nI E.1)) := by
            rw [f_X10_guest, hostAt_ok hH hh]
            show gd _ _ = _
            rw [gd_t hh2, if_neg hw1, if_pos hw4', if_neg hsz, if_pos (by rw [o3]; exact h38), gdp_t ⟨(DG_all hR).1, lsOK_of q1 (by omega)⟩, x1]
            dsimp only
            rw [x3.1, i32_1, nI_sub (by omega), Nat.add_sub_cancel]
          have e5 : kV κ' 5 = kV κ 5 := by
            funext i cc
            exact (x4 5 i cc (by omega) (by omega)).1
          have hrel : REL E' κ' (gnM (mu (kV κ 5 0) 0 0 0) E.1 (nI h) b c) (E.1 + 1) E.2.1 t (C + 1) := REL_guest (REL_thr (x := 0) hR) hn5 hh hc x2 x3 (fun f i cc z1 z2 _ _ => x4 f i cc z1 z2) x5 x6 x7 rfl
          have hext : EXT (kV κ 5 0) (gnM (mu (kV κ 5 0) 0 0 0) E.1 (nI h) b c) := EXT_thr.tr (EXT_gn (REL_thr (x := 0) hR).2.2.2.2.2.1 hn5)
          exact ⟨E', _, E.1 + 1, E.2.1, t, by
            unfold lw_guest
            rw [hcl]
            dsimp only
            rw [gdp_t ⟨x2.2.2.1, fun e z => (by cases z), ⟨fun r z => (by cases z; exact ⟨x2.1, x2.2.1, rfl⟩), fun e z => (by cases z)⟩⟩, m_guest (κ := lwS κ' (.inl (nI E.1))) (n := E.1) (by rw [lw_V (by omega), e5]; exact hG) hn5 hh ⟨hw1, hw4⟩ hc (by rw [lw_V (by omega), e5]; exact h38), lw_V (by omega), e5]
            dsimp only
            rw [gdp_t (lwS_okX (by rw [gn_row (by omega), gm_0, if_neg (by omega)]; exact muS ⟨rfl, rfl⟩) rfl)], glueS hrel⟩
        · have hcl : f_X10_guest E κ (nI h) b c = some ((E, addC κ 1 6), .inr 3) := by
            rw [f_X10_guest, hostAt_ok hH hh]
            show gd _ _ = _
            rw [gd_t hh2, if_neg hw1, if_pos hw4', if_neg hsz, if_neg (by rw [o3]; exact h38)]
          exact ⟨E, _, E.1, E.2.1, t, by
            unfold lw_guest
            rw [hcl]
            dsimp only
            rw [gdp_t ⟨hO, fun e z => (by cases z; decide), GRW_no⟩, show f_X11_guest E (lwS (addC κ 1 6) (.inr 3)) (nI h) b c = some (putM (lwS (addC κ 1 6) (.inr 3)) (mu (kV κ 5 0) 0 0 3), 0) from by rw [f_X11_guest, hin, bd_s, if_neg (by decide), show ∀ κ : K, f_X11_in E κ b 1 4 = some (κ, 1) from fun κ => in_t hw1 hw4, bd_s, if_neg (by decide), lw_V (by omega), show kV (addC κ 1 6) 5 0 0 26 = nI E.1 from hG, if_neg (by rw [l5, nI_eq' (by omega) (by omega)]; omega), nI_cl (by omega), gdi (by omega), show kV (addC κ 1 6) 5 = kV κ 5 from rfl, if_neg h38, f_X11_guest_b44, f_X11_guest_b49, ref_n (by decide), bd_s, if_neg (by decide), lw_V (by omega)]; rfl]
            dsimp only
            rw [gdp_t (lwS_noX (by decide) rfl)], glueS (REL_no hR)⟩
  · have hcl : f_X10_guest E κ a b c = some ((E, addC κ 1 6), .inr 1) := by
      rw [f_X10_guest, hostAt_no ha]
      rfl
    exact ⟨E, _, E.1, E.2.1, t, by
      unfold lw_guest
      rw [hcl]
      dsimp only
      rw [gdp_t ⟨hO, fun e z => (by cases z; decide), GRW_no⟩, show f_X11_guest E (lwS (addC κ 1 6) (.inr 1)) a b c = some (putM (lwS (addC κ 1 6) (.inr 1)) (mu (kV κ 5 0) 0 0 1), 0) from by rw [f_X11_guest, show (f_X11_in E (lwS (addC κ 1 6) (.inr 1)) a 0 1) = some (lwS (addC κ 1 6) (.inr 1), 0) from inU_no (n := 1) (by omega) ha, bd_s, if_pos rfl, f_X11_guest_b49, ref_n (by decide), bd_s, if_neg (by decide), lw_V (by omega)]; rfl]
      dsimp only
      rw [gdp_t (lwS_noX (by decide) rfl)], glueS (REL_no hR)⟩
