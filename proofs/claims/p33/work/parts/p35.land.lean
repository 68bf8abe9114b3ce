/-! a guest leaves its frames -/
def lvU (w : MU) (g : Nat) : Nat → MU
  | 0 => w
  | k + 1 => leaveH (lvU w g k) (8 * g + k)
def n28 (μ : MU) (g : Nat) : Nat → MU
  | 0 => μ
  | k + 1 => mu (n28 μ g k) 28 (8 * g + k) (-1)
theorem leaveH_1 {w : MU} {key j : Nat} : (leaveH w key) 1 j = if j = key then -1 else w 1 j := by
  unfold leaveH
  by_cases e : j = key
  · rw [if_pos e, e]
    split
    · assumption
    · exact muS ⟨rfl, rfl⟩
  · rw [if_neg e]
    split
    · rfl
    · rw [muD (by omega), muD (by omega)]
theorem lvU_1 {w : MU} {g j : Nat} : ∀ k, (lvU w g k) 1 j = if 8 * g ≤ j ∧ j < 8 * g + k then -1 else w 1 j
  | 0 => by rw [if_neg (by omega)]; rfl
  | k + 1 => by
    show (leaveH (lvU w g k) (8 * g + k)) 1 j = _
    rw [leaveH_1, lvU_1 k]
    by_cases e : j = 8 * g + k
    · rw [if_pos e, if_pos (by omega)]
    · rw [if_neg e]
      by_cases e2 : 8 * g ≤ j ∧ j < 8 * g + k
      · rw [if_pos e2, if_pos (by omega)]
      · rw [if_neg e2, if_neg (by omega)]
theorem lvU_0 {w : MU} {g : Nat} : ∀ k, (lvU w g k) 0 = w 0
  | 0 => rfl
  | k + 1 => by
    show (leaveH (lvU w g k) (8 * g + k)) 0 = _
    rw [leaveH_0, lvU_0 k]
theorem n28_28 {μ : MU} {g j : Nat} : ∀ k, (n28 μ g k) 28 j = if 8 * g ≤ j ∧ j < 8 * g + k then -1 else μ 28 j
  | 0 => by rw [if_neg (by omega)]; rfl
  | k + 1 => by
    show (mu (n28 μ g k) 28 (8 * g + k) (-1)) 28 j = _
    by_cases e : j = 8 * g + k
    · rw [muS ⟨rfl, e⟩, if_pos (by omega)]
    · rw [muD (by omega), n28_28 k]
      by_cases e2 : 8 * g ≤ j ∧ j < 8 * g + k
      · rw [if_pos e2, if_pos (by omega)]
      · rw [if_neg e2, if_neg (by omega)]
theorem n28_row {μ : MU} {g c : Nat} (hc : c ≠ 28) : ∀ k, (n28 μ g k) c = μ c
  | 0 => rfl
  | k + 1 => by
    show (mu (n28 μ g k) 28 (8 * g + k) (-1)) c = _
    rw [mu_row hc, n28_row hc k]
theorem leave_E {E : EE} {κ : K} {g h : Nat} (hH : E.2.2.2.1 = 1) (hh : h < 2) (hP : kP κ 0 g 0 8 = some h) (h0 : kV κ 0 g 0 0 = nI g) (hg : g < 5) (hF : ∀ p, p < 8 → kV κ 2 h 1 (8 * g + p) = -1 ∨ ∃ f, f < 16 ∧ kV κ 2 h 1 (8 * g + p) = nI f) : f_X1_leaveFrames E κ g = some (pv κ 2 h (lvU (kV κ 2 h) g 8), ()) := by
  have loop : ∀ d k m, k + d = 8 → d < m → f_X1_leaveFrames_b2 E g m (pv κ 2 h (lvU (kV κ 2 h) g k)) (nI k) = some (pv κ 2 h (lvU (kV κ 2 h) g 8), ()) := by
    intro d
    induction d with
    | zero =>
      intro k m hk hm
      obtain ⟨m, rfl⟩ : ∃ q, m = q + 1 := ⟨m - 1, by omega⟩
      have e : k = 8 := by omega
      subst e
      rw [f_X1_leaveFrames_b2, if_pos (by rw [l8, nI_le' (by omega) (by omega)]; exact Nat.le_refl _)]
    | succ d ih =>
      intro k m hk hm
      obtain ⟨m, rfl⟩ : ∃ q, m = q + 1 := ⟨m - 1, by omega⟩
      have hF2 : kV (pv κ 2 h (lvU (kV κ 2 h) g k)) 2 h 1 (8 * g + k) = -1 ∨ ∃ f, f < 16 ∧ kV (pv κ 2 h (lvU (kV κ 2 h) g k)) 2 h 1 (8 * g + k) = nI f := by
        rw [pv_kV, lvU_1, if_neg (by omega)]
        exact hF k (by omega)
      rw [f_X1_leaveFrames_b2, if_neg (by rw [l8, nI_le' (by omega) (by omega)]; omega), pv_P, hP, optG_s (host_lt hH hh), g_keyOf (by rw [pv_n (by omega)]; exact h0), bd_s, h_leave (by omega) hF2, bd_s, pv_kV, pv_pv, nmE, nI_1]
      exact ih (k + 1) m (by omega) (by omega)
  have l0 := loop 8 0 FU (by omega) (by unfold FU; omega)
  rw [nI_0, show pv κ 2 h (lvU (kV κ 2 h) g 0) = κ from pv_self] at l0
  exact l0
theorem RH_lv {w μ : MU} {n h g : Nat} (hn : n ≤ 5) (hR : RH w μ n h) (hg : g < n) (hF : FRM μ n) (h15 : μ 15 g = nI h) : ∀ k, k ≤ 8 → RH (lvU w g k) (n28 μ g k) n h
  | 0, _ => hR
  | k + 1, hk => by
    have ih := RH_lv hn hR hg hF h15 k (by omega)
    have e : (8 * g + k) / 8 = g := by omega
    have hw : (lvU w g k) 1 (8 * g + k) = μ 28 (8 * g + k) := by
      rw [lvU_1, if_neg (by omega)]
      exact RH_key hR (by omega) (by rw [e]; exact hg) (by rw [e]; exact h15)
    show RH (leaveH (lvU w g k) (8 * g + k)) (mu (n28 μ g k) 28 (8 * g + k) (-1)) n h
    rcases hF (8 * g + k) (by rw [e]; exact hg) with ⟨_, f, hf, z⟩ | ⟨_, z⟩
    · exact RH_leave ih (by omega) hf (hw.trans z)
    · rw [show leaveH (lvU w g k) (8 * g + k) = lvU w g k from by unfold leaveH; rw [if_pos (hw.trans z)], mu_self (by rw [n28_28, if_neg (by omega)]; exact z)]
      exact ih
theorem RH_lv2 {w μ : MU} {n h h2 g : Nat} (hR : RH w μ n h2) (hne : h2 ≠ h) (hb : h < 2 ∧ h2 < 2) (h15 : μ 15 g = nI h) : RH w (n28 μ g 8) n h2 := by
  refine RH_congr hR (fun g2 _ => by rw [n28_row (by omega)]) (fun key _ z => ?_) (fun f _ => by rw [n28_row (by omega)])
  rw [n28_28, if_neg (fun y => ?_)]
  rw [show key / 8 = g from by omega, h15, nI_eq' (by omega) (by omega)] at z
  omega
/-- a guest without frames goes to another host -/
theorem RH_mv {w μ μ' : MU} {n h2 g : Nat} (hR : RH w μ n h2) (h28 : ∀ p, p < 8 → μ 28 (8 * g + p) = -1) (e15 : ∀ g2, g2 ≠ g → μ' 15 g2 = μ 15 g2) (e28 : μ' 28 = μ 28) (e29 : μ' 29 = μ 29) : RH w μ' n h2 := by
  refine ⟨fun key hk => ?_, hR.2.1, fun f hf => by rw [e29]; exact hR.2.2 f hf⟩
  have hw := hR.1 key hk
  rw [e28]
  by_cases e : key / 8 = g
  · have z : μ 28 key = -1 := by
      have := h28 (key % 8) (by omega)
      rw [show 8 * g + key % 8 = key from by omega] at this
      exact this
    rw [z] at hw ⊢
    rw [hw]
    split <;> split <;> rfl
  · rw [hw, e15 _ e]
theorem TJ_mk {μ : MU} {n : Nat} (hn : n ≤ 5) (hG : μ 0 26 = nI n) (hg : ∀ g, g < n → ROK μ g ∧ PRG μ g ∧ QOK μ g ∧ ∃ h, h < 2 ∧ μ 15 g = nI h) (hF : FRM μ n) (h39 : ∀ h, h < 2 → μ 39 h = -1 ∨ ∃ l, l < n ∧ μ 39 h = nI l) (hT : TM μ) : TJ μ n := by
  refine ⟨⟨hn, hG, fun g a => ?_, h39⟩, fun g a => (hg g a).2.2.1, hT⟩
  obtain ⟨x1, x2, x3, x4⟩ := hg g a
  refine ⟨x1, x2, fun p hp z => ?_, x4⟩
  rcases hF (8 * g + p) (by omega) with ⟨_, y⟩ | ⟨y, _⟩
  · exact y
  · rw [z] at y
    rcases y with y | y <;> exact absurd y (by decide)
theorem RG_0 {κ κ' : K} {μ μ' : MU} {g tt : Nat} (h : RG κ μ g tt) (s1 : SCA (kV κ' 0 g) μ' g) (s2 : EXI (kV κ' 0 g) μ' g) (s3 : BAR (kV κ' 0 g) μ' g) (s4 : SND (kV κ' 0 g) μ' g) (eV : ∀ c, c ≠ 0 → c ≠ 38 → kV κ' 0 g c = kV κ 0 g c) (eN : ∀ c, kN κ' 0 g c = kN κ 0 g c) (e12 : kV κ' 0 g 0 12 = kV κ 0 g 0 12) (e18 : kV κ' 0 g 0 18 = kV κ 0 g 0 18) (em : ∀ c, (1 ≤ c ∧ c ≤ 6) ∨ c = 13 ∨ c = 14 ∨ c = 24 ∨ (33 ≤ c ∧ c ≤ 37) → μ' c = μ c) (ecl : clockM μ' g = clockM μ g) : RG κ' μ' g tt := by
  obtain ⟨⟨a1, a2, a3, a4, a5, a6, q7, q8, q9, q10, a11, a12⟩, b2, b3, b4⟩ := h
  have hq : ∀ {c B x q}, QQ κ 0 g c B x q → 10 ≤ c ∧ c < 37 → QQ κ' 0 g c B x q := fun y z => QQ_v y (by rw [eV _ (by omega) (by omega)]) (eV _ (by omega) (by omega)) (eN _) rfl (fun _ _ => rfl)
  refine ⟨⟨s1, s2, s3, s4, PRO_v a5 (fun c _ _ => eV c (by omega) (by omega)) (by rw [em 14 (by omega)]) (fun j _ => by rw [em 13 (by omega)]), LVT_v a6 (eV 5 (by omega) (by omega)) (fun j _ _ => by rw [em 1 (by omega)]) ecl, ?_, ?_, ?_, ?_, FOL_v a11 (eV 18 (by omega) (by omega)) (fun j _ => eV _ (by omega) (by omega)) (eN _) (by rw [em 33 (by omega)]) (fun j _ => by rw [em 3 (by omega)]) (fun j _ => by rw [em 4 (by omega)]) e18, STN_v a12 (fun j _ _ => eV _ (by omega) (by omega)) (fun _ _ _ => eN _)⟩, ?_, by rw [e12, em 24 (by omega)]; exact b3, PLL_v b4 (fun c _ _ => eV c (by omega) (by omega)) (fun c _ _ => eV c (by omega) (by omega)) (fun _ _ _ => eN _) (by rw [eV 5 (by omega) (by omega)]) e12 e18 (MEQ_j fun j hj => eV (6 + j) (by omega) (by omega))⟩
  · rw [em 1 (by omega), em 2 (by omega)]; exact hq q7 (by omega)
  · rw [em 35 (by omega), em 34 (by omega)]; exact hq q8 (by omega)
  · rw [em 37 (by omega), em 36 (by omega)]; exact hq q9 (by omega)
  · rw [em 6 (by omega), em 5 (by omega)]; exact hq q10 (by omega)
  · rw [row_e (em 1 (by omega))]
    exact MCH_m b2 (fun j hj => eV (6 + j) (by omega) (by omega))
/-- the model's swapping of all -/
def swpU (μ : MU) (g : Nat) : Nat → MU
  | 0 => μ
  | k + 1 => mu (mu (swpU μ g k) 27 (8 * g + k) (if (swpU μ g k) 27 (8 * g + k) = 1 then 2 else (swpU μ g k) 27 (8 * g + k))) 28 (8 * g + k) (-1)
theorem swp_row {μ : MU} {g c : Nat} (hc : c ≠ 27 ∧ c ≠ 28) : ∀ k, (swpU μ g k) c = μ c
  | 0 => rfl
  | k + 1 => by
    unfold swpU
    rw [mu_row hc.2, mu_row hc.1, swp_row hc k]
theorem swp_28 {μ : MU} {g : Nat} : ∀ k, (swpU μ g k) 28 = (n28 μ g k) 28
  | 0 => rfl
  | k + 1 => by
    funext j
    show (mu (mu (swpU μ g k) 27 (8 * g + k) _) 28 (8 * g + k) (-1)) 28 j = (mu (n28 μ g k) 28 (8 * g + k) (-1)) 28 j
    by_cases e : j = 8 * g + k
    · rw [muS ⟨rfl, e⟩, muS ⟨rfl, e⟩]
    · rw [muD (by omega), muD (by omega), muD (by omega), swp_28 k]
theorem swp_27 {μ : MU} {g j : Nat} : ∀ k, (swpU μ g k) 27 j = if 8 * g ≤ j ∧ j < 8 * g + k then (if μ 27 j = 1 then 2 else μ 27 j) else μ 27 j
  | 0 => by rw [if_neg (by omega)]; rfl
  | k + 1 => by
    show (mu (mu (swpU μ g k) 27 (8 * g + k) _) 28 (8 * g + k) (-1)) 27 j = _
    rw [mu_row (by omega)]
    by_cases e : j = 8 * g + k
    · rw [muS ⟨rfl, e⟩, if_pos (show 8 * g ≤ j ∧ j < 8 * g + (k + 1) by omega), swp_27 (j := 8 * g + k) k, if_neg (show ¬ (8 * g ≤ 8 * g + k ∧ 8 * g + k < 8 * g + k) by omega), e]
    · rw [muD (by omega), swp_27 k]
      by_cases e2 : 8 * g ≤ j ∧ j < 8 * g + k
      · rw [if_pos e2, if_pos (show 8 * g ≤ j ∧ j < 8 * g + (k + 1) by omega)]
      · rw [if_neg e2, if_neg (by omega)]
theorem m_swapAll {E : EE} {κ : K} {g : Nat} (hg : g < 5) : f_X11_swapAll E κ (nI g) = some (putM κ (swpU (kV κ 5 0) g 8), ()) := by
  have loop : ∀ d k m, k + d = 8 → d < m → f_X11_swapAll_b5 E m (putM κ (swpU (kV κ 5 0) g k)) (nI g) (nI (8 * g + k)) = some (putM κ (swpU (kV κ 5 0) g 8), ()) := by
    intro d
    induction d with
    | zero =>
      intro k m hk hm
      obtain ⟨m, rfl⟩ : ∃ q, m = q + 1 := ⟨m - 1, by omega⟩
      have e : k = 8 := by omega
      subst e
      rw [f_X11_swapAll_b5, if_pos (by rw [l8, nI_mul, nI_add, nI_le' (by omega) (by omega)]; exact Nat.le_refl _)]
    | succ d ih =>
      intro k m hk hm
      obtain ⟨m, rfl⟩ : ∃ q, m = q + 1 := ⟨m - 1, by omega⟩
      have fin : ∀ x, f_X11_swapAll_b41 E (f_X11_swapAll_b5 E m) (putM κ (swpU (kV κ 5 0) g k)) (nI g) (nI (8 * g + k)) x (nI (8 * g + k)) = f_X11_swapAll_b5 E m (putM κ (mu (mu (swpU (kV κ 5 0) g k) 27 (8 * g + k) x) 28 (8 * g + k) (-1))) (nI g) (nI (8 * g + (k + 1))) := fun x => by
        rw [f_X11_swapAll_b41, nI_cl (by omega), gdi (by omega), nmE, gdi (by omega), nmE, nI_1, nmE]
        simp only [set5, put_kV, put_put]
        rfl
      rw [f_X11_swapAll_b5, if_neg (by rw [l8, nI_mul, nI_add, nI_le' (by omega) (by omega)]; omega), nI_cl (by omega), gdi (by omega), put_kV]
      have st : ∀ x, x = (if (swpU (kV κ 5 0) g k) 27 (8 * g + k) = 1 then 2 else (swpU (kV κ 5 0) g k) 27 (8 * g + k)) → mu (mu (swpU (kV κ 5 0) g k) 27 (8 * g + k) x) 28 (8 * g + k) (-1) = swpU (kV κ 5 0) g (k + 1) := fun x z => by rw [z]; rfl
      by_cases e : (swpU (kV κ 5 0) g k) 27 (8 * g + k) = 1
      · rw [if_pos e, fin, st _ (if_pos e).symm]
        exact ih (k + 1) m (by omega) (by omega)
      · rw [if_neg e, gdi (by omega), fin, st _ (if_neg e).symm]
        exact ih (k + 1) m (by omega) (by omega)
  have l0 := loop 8 0 FU (by omega) (by unfold FU; omega)
  rw [show putM κ (swpU (kV κ 5 0) g 0) = κ from put_self, Nat.add_zero] at l0
  rw [f_X11_swapAll, l8, nI_mul, nmE]
  exact l0
theorem FRM_swp {μ : MU} {n g : Nat} (hF : FRM μ n) : FRM (swpU μ g 8) n := fun key hk => by
  rw [swp_27, swp_28, n28_28]
  by_cases e : 8 * g ≤ key ∧ key < 8 * g + 8
  · rw [if_pos e, if_pos e]
    refine Or.inr ⟨?_, rfl⟩
    rcases hF key hk with ⟨y, _⟩ | ⟨y, _⟩
    · rw [if_pos y]; exact Or.inr rfl
    · rcases y with y | y
      · rw [y]; exact Or.inl rfl
      · rw [y]; exact Or.inr rfl
  · rw [if_neg e, if_neg e]
    exact hF key hk
theorem swp_0 {μ : MU} {n g key : Nat} (hF : FRM μ n) (hk : key / 8 < n) : ((swpU μ g 8) 27 key = 0 ↔ μ 27 key = 0) := by
  rw [swp_27]
  split
  · rcases hF key hk with ⟨y, _⟩ | ⟨y, _⟩
    · rw [y]; decide
    · rcases y with y | y <;> rw [y] <;> decide
  · exact Iff.rfl
/-- all pages are sent -/
def hiU (T i : Nat) : Nat := T / 2 ^ i * 2 ^ i
theorem hi_bit : ∀ T, T < 256 → ∀ i, i < 8 → (hiU T i).testBit i = T.testBit i ∧ hiU T i < 256 ∧ hiU T (i + 1) = (if T.testBit i then clrB (hiU T i) i else hiU T i) := by decide +kernel
theorem hi_8 : ∀ T, T < 256 → hiU T 8 = 0 := by decide +kernel
theorem snd_all {E : EE} {κ : K} {g T : Nat} {x : Int32} (hT : T < 256) : f_X1_sendPages E (pv κ 0 g (sndV (kV κ 0 g) T x)) g 8 = some (pv κ 0 g (sndV (kV κ 0 g) 0 (x + nI (pop T))), ()) := by
  have loop : ∀ d i m, i + d = 8 → d < m → f_X1_sendPages_b4 E g m (pv κ 0 g (sndV (kV κ 0 g) (hiU T i) (x + nI (popU T i)))) (nI (8 - popU T i)) (nI i) = some (pv κ 0 g (sndV (kV κ 0 g) 0 (x + nI (pop T))), ()) := by
    intro d
    induction d with
    | zero =>
      intro i m hi hm
      obtain ⟨m, rfl⟩ : ∃ q, m = q + 1 := ⟨m - 1, by omega⟩
      have e : i = 8 := by omega
      subst e
      rw [f_X1_sendPages_b4, if_pos (by rw [l8, nI_le' (by omega) (by omega)]; exact Nat.le_refl _), hi_8 T hT]
      rfl
    | succ d ih =>
      intro i m hi hm
      obtain ⟨m, rfl⟩ : ∃ q, m = q + 1 := ⟨m - 1, by omega⟩
      obtain ⟨b1, b2, b3⟩ := hi_bit T hT i (by omega)
      have hp := popU_le T i
      have hle : ¬ (8 : Int32) ≤ nI i := by rw [l8, nI_le' (by omega) (by omega)]; omega
      have hl1 : ¬ nI (8 - popU T i) ≤ 0 := by rw [i32_0, nI_le' (by omega) (by omega)]; omega
      have v15 : kV (pv κ 0 g (sndV (kV κ 0 g) (hiU T i) (x + nI (popU T i)))) 0 g 0 15 = nI (hiU T i) := by rw [pv_kV]; unfold sndV; rw [muD (by omega)]; exact muS ⟨rfl, rfl⟩
      have hbit := bit_and (hiU T i) b2 i (by omega)
      rw [b1] at hbit
      have ih2 := ih (i + 1) m (by omega) (by omega)
      by_cases e : T.testBit i = true
      · rw [e] at hbit
        rw [if_pos e] at b3
        have ep : popU T (i + 1) = popU T i + 1 := by show popU T i + (if T.testBit i = true then 1 else 0) = _; rw [if_pos e]
        rw [b3, ep] at ih2
        rw [f_X1_sendPages_b4, if_neg hle, if_neg hl1, v15, show (1 : Int32) <<< (nI i &&& 31) = bitI i from rfl, if_neg (of_decide_eq_false hbit), bit_clr _ b2 i (by omega), nmE, vD (by omega), show kV (pv κ 0 g (sndV (kV κ 0 g) (hiU T i) (x + nI (popU T i)))) 0 g 0 13 = x + nI (popU T i) from by rw [pv_kV]; exact muS ⟨rfl, rfl⟩, nmE, snd_set rfl, m1_add (by omega), nmE, f_X1_sendPages_b52, nI_1, nmE, Int32.add_assoc, nI_1, show 8 - popU T i - 1 = 8 - (popU T i + 1) from by omega, ih2]
      · have ef : T.testBit i = false := Bool.eq_false_iff.mpr e
        rw [ef] at hbit
        rw [if_neg e] at b3
        have ep : popU T (i + 1) = popU T i := by show popU T i + (if T.testBit i = true then 1 else 0) = _; rw [if_neg e]; rfl
        rw [b3, ep] at ih2
        rw [f_X1_sendPages_b4, if_neg hle, if_neg hl1, v15, show (1 : Int32) <<< (nI i &&& 31) = bitI i from rfl, if_pos (of_decide_eq_true hbit), f_X1_sendPages_b52, nI_1, nmE, ih2]
  have l0 := loop 8 0 FU (by omega) (by unfold FU; omega)
  rw [show hiU T 0 = T from by unfold hiU; omega, show popU T 0 = 0 from rfl, show x + nI 0 = x from Int32.add_zero x, nI_0] at l0
  exact l0
def lndM (μ : MU) (g N h : Nat) : MU := mu (swpU (mu (mu (mu μ 0 0 0) 30 g 0) 32 g (μ 32 g + nI N)) g 8) 15 g (nI (1 - h))
theorem mm_land {E : EE} {κ : K} {n g h T : Nat} {w : Int32} (hG : kV κ 5 0 0 26 = nI n) (hn : n ≤ 5) (hg : g < n) (h30 : kV κ 5 0 30 g = 1) (h31 : kV κ 5 0 31 g = nI T) (hT : T < 256) (h15 : kV κ 5 0 15 g = nI h) (hh : h < 2) (hw : ¬ w = 0) : f_X11_land E κ (nI g) w = some (putM κ (lndM (kV κ 5 0) g (pop T) h), nI (pop T)) := by
  rw [f_X11_land, isGuest_t hG hn hg, bd_s, if_neg (by decide), nI_cl (by omega), gdi (by omega), if_neg (by rw [h30]; decide), f_X11_land_b27, ref_0, bd_s, if_pos rfl, nI_cl (by omega), gdi (by omega), nmE, if_neg hw, gdi (by omega)]
  simp only [set5, put_kV, put_put]
  rw [muD (by omega), thr_c (by omega), h31, bits_E hT, bd_s, gdi (by omega), gdi (by omega), nmE, put_kV, put_put, m_swapAll (by omega), bd_s, gdi (by omega), gdi (by omega), nmE]
  simp only [put_kV, put_put]
  rw [show (mu (mu (kV κ 5 0) 0 0 0) 30 g 0) 32 g = kV κ 5 0 32 g from by rw [muD (by omega), thr_c (by omega)], swp_row (by omega), show (mu (mu (mu (kV κ 5 0) 0 0 0) 30 g 0) 32 g (kV κ 5 0 32 g + nI (pop T))) 15 g = nI h from by rw [muD (by omega), muD (by omega), thr_c (by omega)]; exact h15, one_m hh]
  rfl
theorem mm_land0 {E : EE} {κ : K} {n g : Nat} (hG : kV κ 5 0 0 26 = nI n) (hn : n ≤ 5) (hg : g < n) (h30 : kV κ 5 0 30 g = 1) : f_X11_land E κ (nI g) 0 = some (putM κ (mu (mu (kV κ 5 0) 0 0 0) 30 g 0), 0) := by
  rw [f_X11_land, isGuest_t hG hn hg, bd_s, if_neg (by decide), nI_cl (by omega), gdi (by omega), if_neg (by rw [h30]; decide), f_X11_land_b27, ref_0, bd_s, if_pos rfl, nI_cl (by omega), gdi (by omega), nmE, if_pos rfl, set5, put_kV, put_put]
def lndK (κ : K) (g h : Nat) (x : Int32) : K := setV (setP (pv (pv κ 0 g (sndV (kV κ 0 g) 0 x)) 2 h (lvU (kV κ 2 h) g 8)) 0 g 0 8 (some (1 - h))) 0 g 0 15 (-1)
theorem lnd_V {κ : K} {g h : Nat} {x : Int32} : (∀ f i, ¬ (f = 0 ∧ i = g) → ¬ (f = 2 ∧ i = h) → kV (lndK κ g h x) f i = kV κ f i) ∧ kV (lndK κ g h x) 2 h = lvU (kV κ 2 h) g 8 ∧ (∀ c, c ≠ 0 → kV (lndK κ g h x) 0 g c = kV κ 0 g c) ∧ (∀ k, k ≠ 13 → k ≠ 15 → kV (lndK κ g h x) 0 g 0 k = kV κ 0 g 0 k) ∧ kV (lndK κ g h x) 0 g 0 13 = x ∧ kV (lndK κ g h x) 0 g 0 15 = -1 := by
  have e1 : ∀ f i c k, ¬ (f = 0 ∧ i = g ∧ c = 0 ∧ k = 15) → kV (lndK κ g h x) f i c k = kV (pv (pv κ 0 g (sndV (kV κ 0 g) 0 x)) 2 h (lvU (kV κ 2 h) g 8)) f i c k := fun f i c k z => by
    unfold lndK
    rw [vD z, vP]
  have e2 : ∀ c k, kV (pv (pv κ 0 g (sndV (kV κ 0 g) 0 x)) 2 h (lvU (kV κ 2 h) g 8)) 0 g c k = sndV (kV κ 0 g) 0 x c k := fun c k => by rw [pv_n (by omega), pv_kV]
  refine ⟨fun f i a b => ?_, ?_, fun c hc => ?_, fun k a b => ?_, ?_, vS ⟨rfl, rfl, rfl, rfl⟩⟩
  · funext c k
    rw [e1 f i c k (by omega), pv_n b, pv_n a]
  · funext c k
    rw [e1 2 h c k (by omega), pv_kV]
  · funext k
    rw [e1 0 g c k (by omega), e2]
    unfold sndV
    rw [muD (by omega), muD (by omega)]
  · rw [e1 0 g 0 k (by omega), e2]
    unfold sndV
    rw [muD (by omega), muD (by omega)]
  · rw [e1 0 g 0 13 (by omega), e2]
    exact muS ⟨rfl, rfl⟩
theorem REL_land {E : EE} {κ : K} {μ : MU} {n ns t C g h N : Nat} (hR : REL E κ μ n ns t C) (hg : g < n) (hh : h < 2) (h15 : μ 15 g = nI h) : REL E (lndK κ g h (μ 32 g + nI N)) (lndM μ g N h) n ns t (C + 1) := by
  obtain ⟨m1, m2, m3, m4, m5⟩ := (REL_thr (x := 0) hR).2.2.1
  have hQg := (REL_thr (x := 0) hR).2.2.2.1 g hg
  have hn := m1.1.1
  obtain ⟨v1, v2, v3, v4, v5, v6⟩ := lnd_V (κ := κ) (g := g) (h := h) (x := μ 32 g + nI N)
  let μ2 : MU := mu (mu (mu μ 0 0 0) 30 g 0) 32 g (μ 32 g + nI N)
  have e2 : ∀ c, c ≠ 30 → c ≠ 32 → μ2 c = (mu μ 0 0 0) c := fun c a b => by
    show (mu (mu (mu μ 0 0 0) 30 g 0) 32 g _) c = _
    rw [mu_row b, mu_row a]
  have er : ∀ c, c ≠ 15 → c ≠ 27 → c ≠ 28 → c ≠ 30 → c ≠ 32 → (lndM μ g N h) c = (mu μ 0 0 0) c := fun c a b d e f => by
    show (mu (swpU μ2 g 8) 15 g _) c = _
    rw [mu_row a, swp_row ⟨b, d⟩, e2 c e f]
  have e27 : (lndM μ g N h) 27 = (swpU μ2 g 8) 27 := mu_row (by omega)
  have e28 : (lndM μ g N h) 28 = (n28 (mu μ 0 0 0) g 8) 28 := by
    show (mu (swpU μ2 g 8) 15 g _) 28 = _
    rw [mu_row (by omega), swp_28]
    funext j
    rw [n28_28, n28_28, e2 28 (by omega) (by omega)]
  have hF2 : FRM μ2 n := FRM_row m2 (e2 27 (by omega) (by omega)) (e2 28 (by omega) (by omega))
  have e15 : ∀ g2, g2 ≠ g → (lndM μ g N h) 15 g2 = (mu μ 0 0 0) 15 g2 := fun g2 z => by
    show (mu (swpU μ2 g 8) 15 g _) 15 g2 = _
    rw [muD (by omega), swp_row (by omega), e2 15 (by omega) (by omega)]
  have h15' : (mu μ 0 0 0) 15 g = nI h := by rw [thr_c (by omega)]; exact h15
  have hF : FRM (lndM μ g N h) n := FRM_row (FRM_swp (g := g) hF2) e27 (mu_row (by omega))
  have hP9 : ∀ c k, ¬ (c = 0 ∧ k = 8) → kP (lndK κ g h (μ 32 g + nI N)) 0 g c k = kP κ 0 g c k := fun c k z => by
    show kP (setP _ 0 g 0 8 _) 0 g c k = _
    rw [pD (by omega), pv_P, pv_P]
  have hP8 : kP (lndK κ g h (μ 32 g + nI N)) 0 g 0 8 = some (1 - h) := pS ⟨rfl, rfl, rfl, rfl⟩
  have h0 : ∀ p, p < 8 → ((lndM μ g N h) 27 (8 * g + p) = 0 ↔ (mu μ 0 0 0) 27 (8 * g + p) = 0) := fun p hp => by
    rw [e27, swp_0 hF2 (by omega), e2 27 (by omega) (by omega)]
  have hO : OWN (mu μ 0 0 0) (lndM μ g N h) g := by
    refine ((OWN_g (c := 30) (x := 0) (by omega) (by omega) rfl).trans (OWN_g (c := 32) (x := μ 32 g + nI N) (by omega) (by omega) rfl)).trans (OWN.trans (μ1 := swpU μ2 g 8) ?_ (OWN_g (by omega) (by omega) rfl))
    exact ⟨swp_row (by omega) 8, fun c hc => swp_row (by omega) 8, fun c k a b _ _ => by rw [swp_row ⟨a, b⟩ 8]⟩
  refine REL_G (d1 := 0) (d2 := 0) (REL_thr (x := 0) hR) hg (fun f i a b _ _ => v1 f i a (by omega)) (fun _ _ _ => rfl) (fun f i a => ?_) ?_ hF hO (fun key a b => ?_) (fun h2 hh2 => ?_) (RG_0 (m4 g hg).1 ?_ ?_ ?_ ?_ (fun c a _ => v3 c a) (fun _ => rfl) (v4 12 (by omega) (by omega)) (v4 18 (by omega) (by omega)) (fun c hc => er c (by omega) (by omega) (by omega) (by omega) (by omega)) (clock_e (by rw [er 0 (by omega) (by omega) (by omega) (by omega) (by omega)]) (by rw [er 20 (by omega) (by omega) (by omega) (by omega) (by omega)]) (by rw [er 21 (by omega) (by omega) (by omega) (by omega) (by omega)]) (by rw [er 22 (by omega) (by omega) (by omega) (by omega) (by omega)]))) ?_ ?_ (fun s hs z => ?_) (fun c a b => er c (by omega) (by omega) (by omega) (by omega) (by omega)) (SAY_row hQg.1 (er 24 (by omega) (by omega) (by omega) (by omega) (by omega)) (er 35 (by omega) (by omega) (by omega) (by omega) (by omega)) (er 37 (by omega) (by omega) (by omega) (by omega) (by omega))) (CLK_e hQg.2.1 (er 22 (by omega) (by omega) (by omega) (by omega) (by omega)) (er 20 (by omega) (by omega) (by omega) (by omega) (by omega)) (er 21 (by omega) (by omega) (by omega) (by omega) (by omega))) (INQ_up (INQ_e hQg.2.2 (by rw [er 1 (by omega) (by omega) (by omega) (by omega) (by omega)]) (by rw [er 6 (by omega) (by omega) (by omega) (by omega) (by omega)]) (by rw [er 33 (by omega) (by omega) (by omega) (by omega) (by omega)]) (er 3 (by omega) (by omega) (by omega) (by omega) (by omega)) (er 5 (by omega) (by omega) (by omega) (by omega) (by omega)) (by rw [er 18 (by omega) (by omega) (by omega) (by omega) (by omega)]))) (PAID_same rfl rfl) (by omega) (by omega)
  · funext c k
    show kP (setP _ 0 g 0 8 _) f i c k = _
    rw [pD (by omega), pv_P, pv_P]
  · refine TJ_mk hn (by rw [er 0 (by omega) (by omega) (by omega) (by omega) (by omega)]; exact m1.1.2.1) (fun g2 hg2 => ?_) hF (by rw [er 39 (by omega) (by omega) (by omega) (by omega) (by omega)]; exact m1.1.2.2.2) (by unfold TM; rw [er 0 (by omega) (by omega) (by omega) (by omega) (by omega)]; exact m1.2.2)
    obtain ⟨x1, x2, x3, x4⟩ := m1.1.2.2.1 g2 hg2
    refine ⟨ROK_row x1 (er 1 (by omega) (by omega) (by omega) (by omega) (by omega)), by unfold PRG; rw [er 13 (by omega) (by omega) (by omega) (by omega) (by omega), er 14 (by omega) (by omega) (by omega) (by omega) (by omega)]; exact x2, by unfold QOK; rw [er 1 (by omega) (by omega) (by omega) (by omega) (by omega), er 2 (by omega) (by omega) (by omega) (by omega) (by omega)]; exact m1.2.1 g2 hg2, ?_⟩
    by_cases e : g2 = g
    · subst e
      exact ⟨1 - h, by omega, muS ⟨rfl, rfl⟩⟩
    · rw [e15 g2 e]; exact x4
  · rw [e27, swp_0 hF2 a, e2 27 (by omega) (by omega)]
  · by_cases e : h2 = h
    · subst e
      rw [v2]
      exact ⟨RH_mv (g := g) (RH_lv hn (m3 h2 hh2).1 hg m2 h15' 8 (Nat.le_refl _)) (fun p hp => by rw [n28_28, if_pos (by omega)]) (fun g2 z => by rw [e15 g2 z, n28_row (by omega)]) e28 (by rw [er 29 (by omega) (by omega) (by omega) (by omega) (by omega), n28_row (by omega)]), fun k => by rw [lvU_0]⟩
    · rw [v1 2 h2 (by omega) (by omega)]
      exact ⟨RH_mv (g := g) (RH_lv2 (m3 h2 hh2).1 e ⟨hh, hh2⟩ h15') (fun p hp => by rw [n28_28, if_pos (by omega)]) (fun g2 z => by rw [e15 g2 z, n28_row (by omega)]) e28 (by rw [er 29 (by omega) (by omega) (by omega) (by omega) (by omega), n28_row (by omega)]), fun k => rfl⟩
  · obtain ⟨s1, s2, s3, s4, s5, s6, s7, s8⟩ := (m4 g hg).1.1.1
    refine ⟨by rw [v4 0 (by omega) (by omega)]; exact s1, by rw [v4 1 (by omega) (by omega), er 16 (by omega) (by omega) (by omega) (by omega) (by omega)]; exact s2, by rw [v4 2 (by omega) (by omega), er 17 (by omega) (by omega) (by omega) (by omega) (by omega)]; exact s3, by rw [v4 10 (by omega) (by omega), er 20 (by omega) (by omega) (by omega) (by omega) (by omega)]; exact s4, by rw [v4 11 (by omega) (by omega), er 23 (by omega) (by omega) (by omega) (by omega) (by omega)]; exact s5, ?_, by rw [v4 16 (by omega) (by omega), er 18 (by omega) (by omega) (by omega) (by omega) (by omega)]; exact s7, by rw [v4 17 (by omega) (by omega), er 19 (by omega) (by omega) (by omega) (by omega) (by omega)]; exact s8⟩
    rw [v5]
    show _ = (mu (swpU μ2 g 8) 15 g _) 32 g
    rw [muD (by omega), swp_row (by omega)]
    exact (muS ⟨rfl, rfl⟩).symm
  · exact EXI_v (m4 g hg).1.1.2.1 (v3 38 (by omega)) (fun j _ => by rw [er 25 (by omega) (by omega) (by omega) (by omega) (by omega)])
  · exact BAR_v (m4 g hg).1.1.2.2.1 (v4 14 (by omega) (by omega)) h0
  · refine Or.inl ⟨?_, v6⟩
    show (mu (swpU μ2 g 8) 15 g _) 30 g = 0
    rw [muD (by omega), swp_row (by omega)]
    show (mu (mu (mu μ 0 0 0) 30 g 0) 32 g _) 30 g = 0
    rw [muD (by omega)]
    exact muS ⟨rfl, rfl⟩
  · obtain ⟨_, g2⟩ := (m4 g hg).2.1
    refine ⟨⟨1 - h, by omega, hP8, muS ⟨rfl, rfl⟩⟩, ?_⟩
    rw [hP9 0 9 (by omega), er 12 (by omega) (by omega) (by omega) (by omega) (by omega)]
    exact g2
  · exact (m4 g hg).2.2.imp (fun z => by rw [v3 18 (by omega)]; exact z) (fun z => PLK_v z (fun j _ => v3 _ (by omega)) (fun _ _ => rfl) (fun c _ _ => v3 c (by omega)) (RANUP_e (v4 12 (by omega) (by omega))))
  · exact PLK_v z (fun j _ => by rw [v1 9 s (by omega) (by omega)]) (fun _ _ => rfl) (fun c _ _ => v3 c (by omega)) (RANUP_e (v4 12 (by omega) (by omega)))
theorem EXT_swp {μ : MU} {g : Nat} : EXT μ (swpU μ g 8) :=
  EXT_p (swp_row (by omega) 8) (swp_row (by omega) 8) (swp_row (by omega) 8) (by rw [swp_row (by omega) 8]) (fun g2 p _ _ h0 => by
    rw [swp_27] at h0
    refine Or.inl ⟨?_, fun k _ => by rw [swp_row (by omega) 8]⟩
    split at h0
    · split at h0
      · exact absurd h0 (by decide)
      · exact h0
    · exact h0)
theorem EXT_lnd {μ : MU} {g N h : Nat} : EXT μ (lndM μ g N h) := by
  unfold lndM
  exact (((EXT_thr.tr (EXT_mu (by omega))).tr (EXT_mu (by omega))).tr EXT_swp).tr (EXT_mu (by omega))
theorem st_land {E : EE} {κ : K} {n ns t C : Nat} {a b : Int32} (hR : REL E κ (kV κ 5 0) n ns t C) : DONE (lw_land E κ a b) C := by
  have hR0 := hR
  obtain ⟨⟨rfl, rfl, hO, h9⟩, ⟨q1, q2, q3, q4, q5⟩, hM, hQ, hS, hZ, hC⟩ := hR0
  have hn : E.1 ≤ 5 := hM.1.1.1
  have hG : kV κ 5 0 0 26 = nI E.1 := hM.1.1.2.1
  have hH : E.2.2.2.1 = 1 := hO.2.2.2.1
  by_cases ha : vp_in a E.1
  · obtain ⟨g, hg, rfl⟩ := vp_ex (by omega) ha
    have hSN := (hM.2.2.2.1 g hg).1.1.2.2.2.1
    have h13 : kV κ 0 g 0 13 = kV κ 5 0 32 g := (hM.2.2.2.1 g hg).1.1.1.2.2.2.2.2.1
    rcases id hSN with ⟨h30, h15⟩ | ⟨h30, T, hT, h15, h31⟩
    · exact ⟨E, _, E.1, E.2.1, t, by
      unfold lw_land
      rw [show f_X10_land E κ (nI g) b = some (addC κ 1 6, .inr 3) from by rw [f_X10_land, guestAt_ok q1 hn hg, bx_s, gd_t (show g < cntE E 0 from hg), moving_E hSN, bd_s, if_pos h30]]
      dsimp only
      rw [show f_X11_land E (lwS (addC κ 1 6) (.inr 3)) (nI g) b = some (putM (lwS (addC κ 1 6) (.inr 3)) (mu (kV κ 5 0) 0 0 2), 0) from by rw [f_X11_land, isGuest_t (n := E.1) (by rw [lw_V (by omega)]; exact hG) hn hg, bd_s, if_neg (by decide), nI_cl (by omega), gdi (by omega), lw_V (by omega), show kV (addC κ 1 6) 5 0 30 g = 0 from h30, if_pos rfl, f_X11_land_b27, ref_n (by decide), bd_s, if_neg (by decide), lw_V (by omega)]; rfl]
      dsimp only
      rw [gdp_t (lwS_noX (by decide) rfl)], glueS (REL_no hR)⟩
    · by_cases hb : b = 0
      · subst hb
        have e5 : kV (setV κ 0 g 0 15 (-1)) 5 = kV κ 5 := by
          funext i c k
          exact vD (by omega)
        have hrel : REL E (setV κ 0 g 0 15 (-1)) (mu (mu (kV κ 5 0) 0 0 0) 30 g 0) E.1 E.2.1 t (C + 1) := by
          refine REL_snd (REL_thr (x := 0) hR) hg (fun f i c k z => vD (by omega)) rfl rfl rfl (fun c k z => muD (by omega)) (Or.inl ⟨muS ⟨rfl, rfl⟩, vS ⟨rfl, rfl, rfl, rfl⟩⟩) ?_
          rw [vD (by omega), muD (by omega), thr_c (by omega)]
          exact h13
        exact ⟨E, _, E.1, E.2.1, t, by
      unfold lw_land
      rw [show f_X10_land E κ (nI g) 0 = some (setV κ 0 g 0 15 (-1), .inl ((0 : Int32))) from by rw [f_X10_land, guestAt_ok q1 hn hg, bx_s, gd_t (show g < cntE E 0 from hg), moving_E hSN, bd_s, if_neg (by rw [h30]; decide), nmE, if_pos rfl, f_X10_land_b55, nmE, vD (by omega), Int32.sub_self]]
      dsimp only
      rw [show f_X11_land E (lwS (setV κ 0 g 0 15 (-1)) (.inl ((0 : Int32)))) (nI g) 0 = some (putM (lwS (setV κ 0 g 0 15 (-1)) (.inl ((0 : Int32)))) (mu (mu (kV κ 5 0) 0 0 0) 30 g 0), (0 : Int32)) from by rw [mm_land0 (n := E.1) (by rw [lw_V (by omega), e5]; exact hG) hn hg (by rw [lw_V (by omega), e5]; exact h30), lw_V (by omega), e5]]
      dsimp only
      rw [gdp_t (lwS_okX (by rw [muD (by omega)]; exact muS ⟨rfl, rfl⟩) (rfl))], glueS (hrel)⟩
      · obtain ⟨h, hh, hP, h15m⟩ := (hM.2.2.2.1 g hg).2.1.1
        have s0 : pv κ 0 g (sndV (kV κ 0 g) T (kV κ 0 g 0 13)) = κ := by
          unfold sndV
          rw [mu_self (show kV κ 0 g 0 15 = nI T from h15), mu_self rfl, pv_self]
        have hsnd := snd_all (E := E) (κ := κ) (g := g) (T := T) (x := kV κ 0 g 0 13) hT
        rw [s0, h13] at hsnd
        have hRH := (hM.2.2.1 h hh).1
        have hlv := leave_E (E := E) (κ := pv κ 0 g (sndV (kV κ 0 g) 0 (kV κ 5 0 32 g + nI (pop T)))) (g := g) (h := h) hH hh (by rw [pv_P]; exact hP) (by rw [pv_kV]; unfold sndV; rw [muD (by omega), muD (by omega)]; exact (hM.2.2.2.1 g hg).1.1.1.1) (by omega) (fun p hp => by
          rw [pv_n (by omega), RH_key hRH (key := 8 * g + p) (by omega) (by omega) (by rw [show (8 * g + p) / 8 = g from by omega]; exact h15m)]
          rcases hM.2.1 (8 * g + p) (by omega) with ⟨_, z⟩ | ⟨_, z⟩
          · exact Or.inr z
          · exact Or.inl z)
        rw [pv_n (f' := 2) (i' := h) (by omega)] at hlv
        have e5 : kV (lndK κ g h (kV κ 5 0 32 g + nI (pop T))) 5 = kV κ 5 := by
          funext i
          exact lnd_V.1 5 i (by omega) (by omega)
        have hcl : f_X10_land E κ (nI g) b = some (lndK κ g h (kV κ 5 0 32 g + nI (pop T)), .inl (nI (pop T))) := by
          rw [f_X10_land, guestAt_ok q1 hn hg, bx_s, gd_t (show g < cntE E 0 from hg), moving_E hSN, bd_s, if_neg (by rw [h30]; decide), nmE, if_neg hb, hsnd, bd_s, hlv, bd_s, pv_P, pv_P, hP, optG_s (host_lt hH hh), other_E hH hh, bd_s, gd_t (host_lt hH (show 1 - h < 2 by omega)), nmE, f_X10_land_b55, nmE]
          show some (lndK κ g h (kV κ 5 0 32 g + nI (pop T)), Sum.inl (kV (lndK κ g h (kV κ 5 0 32 g + nI (pop T))) 0 g 0 13 - kV κ 0 g 0 13)) = _
          rw [lnd_V.2.2.2.2.1, h13, Int32.add_comm, Int32.add_sub_cancel]
        exact ⟨E, _, E.1, E.2.1, t, by
      unfold lw_land
      rw [show f_X10_land E κ (nI g) b = some (lndK κ g h (kV κ 5 0 32 g + nI (pop T)), .inl (nI (pop T))) from by exact hcl]
      dsimp only
      rw [show f_X11_land E (lwS (lndK κ g h (kV κ 5 0 32 g + nI (pop T))) (.inl (nI (pop T)))) (nI g) b = some (putM (lwS (lndK κ g h (kV κ 5 0 32 g + nI (pop T))) (.inl (nI (pop T)))) (lndM (kV κ 5 0) g (pop T) h), nI (pop T)) from by rw [mm_land (n := E.1) (h := h) (T := T) (by rw [lw_V (by omega), e5]; exact hG) hn hg (by rw [lw_V (by omega), e5]; exact h30) (by rw [lw_V (by omega), e5]; exact h31) hT (by rw [lw_V (by omega), e5]; exact h15m) hh hb, lw_V (by omega), e5]]
      dsimp only
      rw [gdp_t (lwS_okX (by unfold lndM; rw [muD (by omega), swp_row (by omega), muD (by omega), muD (by omega)]; exact muS ⟨rfl, rfl⟩) (rfl))], glueS (REL_land hR hg hh h15m)⟩
  · exact ⟨E, _, E.1, E.2.1, t, by
      unfold lw_land
      rw [show f_X10_land E κ a b = some (addC κ 1 6, .inr 1) from by rw [f_X10_land, guestAt_no q1 hn ha, bx_r]]
      dsimp only
      rw [show f_X11_land E (lwS (addC κ 1 6) (.inr 1)) a b = some (putM (lwS (addC κ 1 6) (.inr 1)) (mu (kV κ 5 0) 0 0 1), 0) from by rw [f_X11_land, isGuest_f (n := E.1) (by rw [lw_V (by omega)]; exact hG) hn ha, bd_s, if_pos rfl, f_X11_land_b27, ref_n (by decide), bd_s, if_neg (by decide), lw_V (by omega)]; rfl]
      dsimp only
      rw [gdp_t (lwS_noX (by decide) rfl)], glueS (REL_no hR)⟩
