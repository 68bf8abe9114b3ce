theorem oldU_ne1 (μ : MU) (h : Nat) (but : Int32) {i : Nat} (hi : i < 1000) (hn : nI i ≠ but) : ∃ j, j < i + 1 ∧ oldU μ h but (i + 1) = nI j := by
  unfold oldU
  rw [if_neg hn]
  rcases oldU_cases μ h but i with z | ⟨j, hj, z⟩
  · rw [if_pos z]; exact ⟨i, by omega, rfl⟩
  · rw [z, if_neg (by rw [nI_m1 (by omega)]; exact id)]
    split
    · exact ⟨j, by omega, rfl⟩
    · exact ⟨i, by omega, rfl⟩
theorem oldU_ne2 (μ : MU) (h : Nat) (but : Int32) {i : Nat} (hi : i < 1000) (hn : ∃ j, j < i ∧ oldU μ h but i = nI j) : ∃ j, j < i + 1 ∧ oldU μ h but (i + 1) = nI j := by
  obtain ⟨j, hj, z⟩ := hn
  unfold oldU
  split
  · exact ⟨j, by omega, z⟩
  · rw [z, if_neg (by rw [nI_m1 (by omega)]; exact id)]
    split
    · exact ⟨j, by omega, rfl⟩
    · exact ⟨i, by omega, rfl⟩
theorem oldU_ne (μ : MU) (h : Nat) (but : Int32) : ∀ i, i < 900 → ∃ j, j < i + 2 ∧ oldU μ h but (i + 2) = nI j
  | 0, _ => by
    by_cases h0 : nI 0 = but
    · exact oldU_ne1 μ h but (i := 1) (by omega) (by rw [← h0]; decide)
    · exact oldU_ne2 μ h but (i := 1) (by omega) (oldU_ne1 μ h but (i := 0) (by omega) h0)
  | i + 1, hi => oldU_ne2 μ h but (i := i + 2) (by omega) (oldU_ne μ h but i (by omega))
theorem frM_2 (μ : MU) (n h : Nat) (but : Int32) : ∃ j, j < 16 ∧ (frM μ n h but).2 = nI j := by
  unfold frM
  cases hf : fstU (freeU μ n (nI h)) 16 with
  | some f => exact ⟨f, (fstU_lt hf).1, rfl⟩
  | none => exact oldU_ne μ h but 14 (by omega)
theorem frM_row (μ : MU) (n h : Nat) (but : Int32) {c : Nat} (hc : c ≠ 27 ∧ c ≠ 28) : (frM μ n h but).1 c = μ c := by
  unfold frM
  split
  · rfl
  · have key : ∀ p, (swapU μ (nI h) (oldU μ h but 16) p) c = μ c := by
      intro p
      induction p with
      | zero => rfl
      | succ p ih =>
        unfold swapU
        split
        · funext k
          rw [muD (by omega), muD (by omega), ih]
        · exact ih
    exact key _
theorem m_touch {E : EE} {κ : K} {n g page h : Nat} {w : Int32} (hn : n ≤ 5) (hG : kV κ 5 0 0 26 = nI n) (hg : g < 5) (hp : page < 8) (hh : h < 2) (hH : kV κ 5 0 15 g = nI h) (hk : kV κ 5 0 27 (8 * g + page) = 1 → ∃ j, j < 16 ∧ kV κ 5 0 28 (8 * g + page) = nI j) : f_X11_touch E κ (nI g) (nI page) w = some (putM κ (touchM (kV κ 5 0) n g page w h), ()) := by
  unfold f_X11_touch touchM
  simp (disch := omega) only [nmE, l2, l3, l4, l5, l6, l7, l8, l9, l13, l16, l17, l31, l49, l50, l51, l52, l53, l54, l55, l72, l512, l3000, nI_mul, nI_add, nI_1, nI_cl, gdi, set5, put_kV, put_put, bd_s]
  rw [hH]
  by_cases h1 : kV κ 5 0 27 (8 * g + page) = 1
  · rw [if_pos h1, if_pos h1]
    obtain ⟨j, hj, hj2⟩ := hk h1
    by_cases hw : w = 0
    · rw [if_pos hw, if_pos hw, m_mark hg hp hh hj2 hj]
    · rw [if_neg hw, if_neg hw, m_holders hG hn, bd_s]
      by_cases hh1 : holdM (kV κ 5 0) n (nI h) (kV κ 5 0 28 (8 * g + page)) ≤ 1
      · rw [if_pos hh1, if_pos hh1, m_mark hg hp hh hj2 hj]
      · rw [if_neg hh1, if_neg hh1, m_freeFrame hn hh hG, bd_s]
        obtain ⟨j2, hj3, hj4⟩ := frM_2 (kV κ 5 0) n h (kV κ 5 0 28 (8 * g + page))
        simp (disch := omega) only [gdi, set5, put_kV, put_put]
        rw [m_mark (j := j2) hg hp hh (by rw [put_kV, muS ⟨rfl, rfl⟩]; exact hj4) hj3, put_kV, put_put]
  · rw [if_neg h1, if_neg h1, m_freeFrame hn hh hG, bd_s]
    obtain ⟨j2, hj3, hj4⟩ := frM_2 (kV κ 5 0) n h (-1)
    unfold f_X11_touch_b59
    simp only [nmE, put_kV]
    by_cases h2 : (frM (kV κ 5 0) n h (-1)).1 27 (8 * g + page) = 0
    · rw [if_pos h2, if_pos h2]
      simp (disch := omega) only [Int32.add_zero, gdi, nI_cl, set5, put_kV, put_put]
      rw [m_mark (j := j2) hg hp hh (by rw [put_kV, muS ⟨rfl, rfl⟩]; exact hj4) hj3, put_kV, put_put]
    · rw [if_neg h2, if_neg h2]
      simp (disch := omega) only [nI_1, gdi, nI_cl, set5, put_kV, put_put]
      rw [m_mark (j := j2) hg hp hh (by rw [put_kV, muS ⟨rfl, rfl⟩]; exact hj4) hj3, put_kV, put_put]
/-! what is said -/
def sayM (μ : MU) (g : Nat) (x : Int32) : MU :=
  if μ 33 g = 0 then
    let μ1 := mu μ 34 (3000 * g + (μ 35 g).toNatClampNeg) x
    mu μ1 35 g (μ1 35 g + 1)
  else
    let μ1 := mu μ 36 (3000 * g + (μ 37 g).toNatClampNeg) x
    mu μ1 37 g (μ1 37 g + 1)
theorem m_say {E : EE} {κ : K} {g a b : Nat} {x : Int32} (hg : g < 5) (h1 : kV κ 5 0 35 g = nI a) (ha : a < 3000) (h2 : kV κ 5 0 37 g = nI b) (hb : b < 3000) : f_X11_say E κ (nI g) x = some (putM κ (sayM (kV κ 5 0) g x), ()) := by
  unfold f_X11_say sayM
  rw [gd_t (i5 hg), nI_cl (by omega), h1, h2]
  by_cases h : kV κ 5 0 33 g = 0
  · rw [if_pos h, if_pos h]
    simp (disch := omega) only [nmE, l2, l3, l4, l5, l6, l7, l8, l9, l13, l16, l17, l31, l49, l50, l51, l52, l53, l54, l55, l72, l512, l3000, nI_mul, nI_add, nI_1, nI_cl, gdi, set5, put_kV, put_put, bd_s]
  · rw [if_neg h, if_neg h]
    simp (disch := omega) only [nmE, l2, l3, l4, l5, l6, l7, l8, l9, l13, l16, l17, l31, l49, l50, l51, l52, l53, l54, l55, l72, l512, l3000, nI_mul, nI_add, nI_1, nI_cl, gdi, set5, put_kV, put_put, bd_s]
def letU (μ : MU) (g : Nat) : Nat → MU
  | 0 => μ
  | k + 1 =>
    let μ1 := mu (letU μ g k) 34 (3000 * g + ((letU μ g k) 35 g).toNatClampNeg) ((letU μ g k) 36 (3000 * g + k))
    mu μ1 35 g (μ1 35 g + 1)
def letM (μ : MU) (g : Nat) : MU := mu (letU μ g (μ 37 g).toNatClampNeg) 37 g 0
theorem letU_35 {μ : MU} {g a : Nat} (h : μ 35 g = nI a) : ∀ k, (letU μ g k) 35 g = nI (a + k)
  | 0 => h
  | k + 1 => by
    show mu _ 35 g _ 35 g = _
    rw [muS ⟨rfl, rfl⟩, muD (by omega), letU_35 h k, nI_1]
    rfl
theorem letU_row {μ : MU} {g c : Nat} (hc : c ≠ 34 ∧ c ≠ 35) : ∀ k, (letU μ g k) c = μ c
  | 0 => rfl
  | k + 1 => by
    funext j
    show mu (mu _ 34 _ _) 35 g _ c j = _
    rw [muD (by omega), muD (by omega), letU_row hc k]
theorem m_letOut {E : EE} {κ : K} {g a b : Nat} (hg : g < 5) (h1 : kV κ 5 0 35 g = nI a) (h2 : kV κ 5 0 37 g = nI b) (hab : a + b ≤ 3000) : f_X11_letOut E κ (nI g) = some (putM κ (letM (kV κ 5 0) g), nI b) := by
  have loop : ∀ (d i m : Nat), i + d = b → d < m → f_X11_letOut_b9 E m (putM κ (letU (kV κ 5 0) g i)) (nI g) (nI b) (nI i) = some (putM κ (letM (kV κ 5 0) g), nI b) := by
    intro d
    induction d with
    | zero =>
      intro i m hi hm
      obtain ⟨m, rfl⟩ : ∃ q, m = q + 1 := ⟨m - 1, by omega⟩
      rw [f_X11_letOut_b9, if_pos (nI_le (by omega) (by omega))]
      unfold f_X11_letOut_b59 letM
      rw [h2]
      simp (disch := omega) only [nmE, l2, l3, l4, l5, l6, l7, l8, l9, l13, l16, l17, l31, l49, l50, l51, l52, l53, l54, l55, l72, l512, l3000, nI_mul, nI_add, nI_1, nI_cl, gdi, set5, put_kV, put_put, bd_s]
      rw [show i = b by omega]
    | succ d ih =>
      intro i m hi hm
      obtain ⟨m, rfl⟩ : ∃ q, m = q + 1 := ⟨m - 1, by omega⟩
      have hr := ih (i + 1) m (by omega) (by omega)
      rw [f_X11_letOut_b9, if_neg (by rw [nI_leI (by omega) (by omega)]; omega), put_kV]
      have e := letU_35 h1 i
      unfold letU at hr
      dsimp only at hr
      rw [nI_cl (by omega), e]
      rw [e] at hr
      rw [nI_cl (by omega)] at hr
      simp (disch := omega) only [nmE, l2, l3, l4, l5, l6, l7, l8, l9, l13, l16, l17, l31, l49, l50, l51, l52, l53, l54, l55, l72, l512, l3000, nI_mul, nI_add, nI_1, nI_cl, gdi, set5, put_kV, put_put, bd_s]
      exact hr
  unfold f_X11_letOut
  rw [gd_t (i5 hg), nI_cl (by omega), h2]
  have := loop b 0 FU (by omega) (by unfold FU; omega)
  rw [show letU (kV κ 5 0) g 0 = kV κ 5 0 from rfl, put_self] at this
  simp only [nmE]
  exact this
/-! inputs -/
def tkU (μ : MU) (g : Nat) : Nat → MU
  | 0 => μ
  | k + 1 => mu (tkU μ g k) 2 (512 * g + k) ((tkU μ g k) 2 (512 * g + k + 1))
def takM (μ : MU) (g : Nat) : MU × Int32 :=
  if μ 1 (55 * g + 54) = 0 then (μ, 0) else
    let μ1 := mu μ 1 (55 * g + 54) (μ 1 (55 * g + 54) - 1)
    (tkU μ1 g (μ1 1 (55 * g + 54)).toNatClampNeg, μ 2 (512 * g))
theorem tkU_row {μ : MU} {g c : Nat} (hc : c ≠ 2) : ∀ k, (tkU μ g k) c = μ c
  | 0 => rfl
  | k + 1 => by
    funext j
    unfold tkU
    rw [muD (by omega), tkU_row hc k]
theorem m_takeInput {E : EE} {κ : K} {g m0 : Nat} (hg : g < 5) (h1 : kV κ 5 0 1 (55 * g + 54) = nI m0) (hm0 : m0 ≤ 512) : f_X11_takeInput E κ (nI g) = some (putM κ (takM (kV κ 5 0) g).1, (takM (kV κ 5 0) g).2) := by
  have loop : ∀ (μ : MU) (x : Int32) (r : Nat), μ 1 (55 * g + 54) = nI r → r < 512 → ∀ (d i m : Nat), i + d = r → d < m → f_X11_takeInput_b46 E m (putM κ (tkU μ g i)) (nI g) (nI (55 * g)) x (nI i) = some (putM κ (tkU μ g r), x) := by
    intro μ x r hr1 hr2 d
    induction d with
    | zero =>
      intro i m hi hm
      obtain ⟨m, rfl⟩ : ∃ q, m = q + 1 := ⟨m - 1, by omega⟩
      rw [f_X11_takeInput_b46, put_kV, tkU_row (by omega)]
      simp (disch := omega) only [nmE, l2, l3, l4, l5, l6, l7, l8, l9, l13, l16, l17, l31, l49, l50, l51, l52, l53, l54, l55, l72, l512, l3000, nI_mul, nI_add, nI_1, nI_cl, gdi, set5, put_kV, put_put, bd_s]
      rw [hr1, if_pos (nI_le (by omega) (by omega)), show i = r by omega]
    | succ d ih =>
      intro i m hi hm
      obtain ⟨m, rfl⟩ : ∃ q, m = q + 1 := ⟨m - 1, by omega⟩
      have hr := ih (i + 1) m (by omega) (by omega)
      rw [show tkU μ g (i + 1) = mu (tkU μ g i) 2 (512 * g + i) ((tkU μ g i) 2 (512 * g + i + 1)) from rfl] at hr
      rw [f_X11_takeInput_b46, put_kV, tkU_row (show (1 : Nat) ≠ 2 by omega)]
      simp (disch := omega) only [nmE, l2, l3, l4, l5, l6, l7, l8, l9, l13, l16, l17, l31, l49, l50, l51, l52, l53, l54, l55, l72, l512, l3000, nI_mul, nI_add, nI_1, nI_cl, gdi, set5, put_kV, put_put, bd_s]
      rw [hr1, if_neg (by rw [nI_leI (by omega) (by omega)]; omega)]
      exact hr
  unfold f_X11_takeInput takM
  simp (disch := omega) only [nmE, l2, l3, l4, l5, l6, l7, l8, l9, l13, l16, l17, l31, l49, l50, l51, l52, l53, l54, l55, l72, l512, l3000, nI_mul, nI_add, nI_1, nI_cl, gdi, set5, put_kV, put_put, bd_s]
  by_cases h0 : kV κ 5 0 1 (55 * g + 54) = 0
  · rw [if_pos h0, if_pos h0, put_self]
  · rw [if_neg h0, if_neg h0]
    have hm1 : m0 ≠ 0 := fun z => h0 (by rw [h1, z]; rfl)
    have e : mu (kV κ 5 0) 1 (55 * g + 54) (kV κ 5 0 1 (55 * g + 54) - 1) 1 (55 * g + 54) = nI (m0 - 1) := by
      rw [muS ⟨rfl, rfl⟩, h1, show (1 : Int32) = nI 1 from rfl, nI_sub (by omega)]
    have := loop (mu (kV κ 5 0) 1 (55 * g + 54) (kV κ 5 0 1 (55 * g + 54) - 1)) (kV κ 5 0 2 (512 * g)) (m0 - 1) e (by omega) (m0 - 1) 0 FU (by omega) (by unfold FU; omega)
    rw [show ∀ μ, tkU μ g 0 = μ from fun _ => rfl] at this
    dsimp only
    rw [e, nI_cl (by omega)]
    exact this
