/-! which numbers an instruction may have -/
def LA (w : Nat) : Nat := ([4, 4, 4, 4, 4, 8, 4, 4, 0, 0, 0, 0, 0, 0] : List Nat).getD w 0
def LB (w : Nat) : Nat := ([10000, 4, 4, 4, 24, 9, 2, 3, 0, 24, 2, 0, 8, 0] : List Nat).getD w 0
def okN (L : Nat) (a : Int32) : Prop := L = 0 ∨ vp_in a L
theorem tabA : ∀ w, w < 14 → ([4, 4, 4, 4, 4, 8, 4, 4, 0, 0, 0, 0, 0, 0] : List Int32).getD w 0 = nI (LA w) ∧ LA w ≤ 10000 := by decide +kernel
theorem tabB : ∀ w, w < 14 → ([10000, 4, 4, 4, 24, 9, 2, 3, 0, 24, 2, 0, 8, 0] : List Int32).getD w 0 = nI (LB w) ∧ LB w ≤ 10000 := by decide +kernel
theorem oneOf_ok {E : EE} {κ : K} {a : Int32} {L : Nat} (h : okN L a) (hL : L ≤ 10000) : f_X10_isOneOf E κ a (nI L) = some (κ, 1) := by
  rw [f_X10_isOneOf, f_X10_isOneOf_e, f_X10_isOneOf_b13]
  by_cases e : L = 0
  · rw [if_pos (by rw [e]; rfl), bd_s, gd_t (Or.inr rfl)]
  · obtain ⟨r, hr, rfl⟩ := vp_ex (by omega) (h.resolve_left e)
    rw [if_neg (by rw [nI_e0 (by omega)]; exact e), if_neg (by rw [i32_0, nI_lt' (by omega) (by omega)]; omega), if_neg (by rw [nI_le' (by omega) (by omega)]; omega), bd_s, gd_t (Or.inr rfl)]
theorem oneOf_no {E : EE} {κ : K} {a : Int32} {L : Nat} (h : ¬ okN L a) (hL : L ≤ 10000) : f_X10_isOneOf E κ a (nI L) = some (κ, 0) := by
  rw [f_X10_isOneOf, f_X10_isOneOf_e, if_neg (by rw [nI_e0 (by omega)]; exact fun z => h (Or.inl z))]
  rcases vp_no (a := a) (n := L) (by omega) (fun z => h (Or.inr z)) with z | z
  · rw [if_pos z, bd_s, gd_t (Or.inl rfl)]
  · by_cases z0 : a < 0
    · rw [if_pos z0, bd_s, gd_t (Or.inl rfl)]
    · rw [if_neg z0, if_pos z, bd_s, gd_t (Or.inl rfl)]
theorem inU_ok {E : EE} {κ : K} {a : Int32} {n : Nat} (hn : n < 10000) (h : vp_in a (n + 1)) : f_X11_in E κ a 0 (nI n) = some (κ, 1) := by
  obtain ⟨r, hr, rfl⟩ := vp_ex (by omega) h
  exact in_t (by rw [i32_0, nI_lt' (by omega) (by omega)]; omega) (by rw [nI_lt' (by omega) (by omega)]; omega)
theorem inU_no {E : EE} {κ : K} {a : Int32} {n : Nat} (hn : n < 10000) (h : ¬ vp_in a (n + 1)) : f_X11_in E κ a 0 (nI n) = some (κ, 0) := in_f (vp_not (by omega) h)
theorem isA_ok {E : EE} {κ : K} {w : Nat} {a : Int32} (hw : w < 14) (h0 : okN (LA w) a) : f_X11_isA E κ (nI w) a = some (κ, 1) := by
  have hs : w = 0 ∨ w = 1 ∨ w = 2 ∨ w = 3 ∨ w = 4 ∨ w = 5 ∨ w = 6 ∨ w = 7 ∨ w = 8 ∨ w = 9 ∨ w = 10 ∨ w = 11 ∨ w = 12 ∨ w = 13 := by omega
  rcases hs with rfl | rfl | rfl | rfl | rfl | rfl | rfl | rfl | rfl | rfl | rfl | rfl | rfl | rfl
  · have h : vp_in a 4 := h0.resolve_left (by decide)
    rw [f_X11_isA, f_X11_isA_e, if_pos (by decide), f_X11_isA_b17, l3, inU_ok (by omega) h, bd_s, bd_s, gd_t (Or.inr rfl)]
  · have h : vp_in a 4 := h0.resolve_left (by decide)
    rw [f_X11_isA, f_X11_isA_e, if_pos (by decide), f_X11_isA_b17, l3, inU_ok (by omega) h, bd_s, bd_s, gd_t (Or.inr rfl)]
  · have h : vp_in a 4 := h0.resolve_left (by decide)
    rw [f_X11_isA, f_X11_isA_e, if_pos (by decide), f_X11_isA_b17, l3, inU_ok (by omega) h, bd_s, bd_s, gd_t (Or.inr rfl)]
  · have h : vp_in a 4 := h0.resolve_left (by decide)
    rw [f_X11_isA, f_X11_isA_e, if_pos (by decide), f_X11_isA_b17, l3, inU_ok (by omega) h, bd_s, bd_s, gd_t (Or.inr rfl)]
  · have h : vp_in a 4 := h0.resolve_left (by decide)
    rw [f_X11_isA, f_X11_isA_e, if_pos (by decide), f_X11_isA_b17, l3, inU_ok (by omega) h, bd_s, bd_s, gd_t (Or.inr rfl)]
  · have h : vp_in a 8 := h0.resolve_left (by decide)
    rw [f_X11_isA, f_X11_isA_e, if_neg (by decide), if_neg (by decide), if_neg (by decide), if_pos (by decide), l7, inU_ok (by omega) h, bd_s, if_neg (by decide), f_X11_isA_b41, bd_s, gd_t (Or.inr rfl)]
  · have h : vp_in a 4 := h0.resolve_left (by decide)
    rw [f_X11_isA, f_X11_isA_e, if_neg (by decide), if_pos (by decide), f_X11_isA_b17, l3, inU_ok (by omega) h, bd_s, bd_s, gd_t (Or.inr rfl)]
  · have h : vp_in a 4 := h0.resolve_left (by decide)
    rw [f_X11_isA, f_X11_isA_e, if_neg (by decide), if_neg (by decide), if_pos (by decide), f_X11_isA_b17, l3, inU_ok (by omega) h, bd_s, bd_s, gd_t (Or.inr rfl)]
  · rw [f_X11_isA, f_X11_isA_e, if_neg (by decide), if_neg (by decide), if_neg (by decide), if_neg (by decide), f_X11_isA_b41, bd_s, gd_t (Or.inr rfl)]
  · rw [f_X11_isA, f_X11_isA_e, if_neg (by decide), if_neg (by decide), if_neg (by decide), if_neg (by decide), f_X11_isA_b41, bd_s, gd_t (Or.inr rfl)]
  · rw [f_X11_isA, f_X11_isA_e, if_neg (by decide), if_neg (by decide), if_neg (by decide), if_neg (by decide), f_X11_isA_b41, bd_s, gd_t (Or.inr rfl)]
  · rw [f_X11_isA, f_X11_isA_e, if_neg (by decide), if_neg (by decide), if_neg (by decide), if_neg (by decide), f_X11_isA_b41, bd_s, gd_t (Or.inr rfl)]
  · rw [f_X11_isA, f_X11_isA_e, if_neg (by decide), if_neg (by decide), if_neg (by decide), if_neg (by decide), f_X11_isA_b41, bd_s, gd_t (Or.inr rfl)]
  · rw [f_X11_isA, f_X11_isA_e, if_neg (by decide), if_neg (by decide), if_neg (by decide), if_neg (by decide), f_X11_isA_b41, bd_s, gd_t (Or.inr rfl)]
theorem isA_no {E : EE} {κ : K} {w : Nat} {a : Int32} (hw : w < 14) (h0 : ¬ okN (LA w) a) : f_X11_isA E κ (nI w) a = some (κ, 0) := by
  have hs : w = 0 ∨ w = 1 ∨ w = 2 ∨ w = 3 ∨ w = 4 ∨ w = 5 ∨ w = 6 ∨ w = 7 ∨ w = 8 ∨ w = 9 ∨ w = 10 ∨ w = 11 ∨ w = 12 ∨ w = 13 := by omega
  rcases hs with rfl | rfl | rfl | rfl | rfl | rfl | rfl | rfl | rfl | rfl | rfl | rfl | rfl | rfl
  · have h : ¬ vp_in a 4 := fun z => h0 (Or.inr z)
    rw [f_X11_isA, f_X11_isA_e, if_pos (by decide), f_X11_isA_b17, l3, inU_no (by omega) h, bd_s, bd_s, gd_t (Or.inl rfl)]
  · have h : ¬ vp_in a 4 := fun z => h0 (Or.inr z)
    rw [f_X11_isA, f_X11_isA_e, if_pos (by decide), f_X11_isA_b17, l3, inU_no (by omega) h, bd_s, bd_s, gd_t (Or.inl rfl)]
  · have h : ¬ vp_in a 4 := fun z => h0 (Or.inr z)
    rw [f_X11_isA, f_X11_isA_e, if_pos (by decide), f_X11_isA_b17, l3, inU_no (by omega) h, bd_s, bd_s, gd_t (Or.inl rfl)]
  · have h : ¬ vp_in a 4 := fun z => h0 (Or.inr z)
    rw [f_X11_isA, f_X11_isA_e, if_pos (by decide), f_X11_isA_b17, l3, inU_no (by omega) h, bd_s, bd_s, gd_t (Or.inl rfl)]
  · have h : ¬ vp_in a 4 := fun z => h0 (Or.inr z)
    rw [f_X11_isA, f_X11_isA_e, if_pos (by decide), f_X11_isA_b17, l3, inU_no (by omega) h, bd_s, bd_s, gd_t (Or.inl rfl)]
  · have h : ¬ vp_in a 8 := fun z => h0 (Or.inr z)
    rw [f_X11_isA, f_X11_isA_e, if_neg (by decide), if_neg (by decide), if_neg (by decide), if_pos (by decide), l7, inU_no (by omega) h, bd_s, if_pos rfl, bd_s, gd_t (Or.inl rfl)]
  · have h : ¬ vp_in a 4 := fun z => h0 (Or.inr z)
    rw [f_X11_isA, f_X11_isA_e, if_neg (by decide), if_pos (by decide), f_X11_isA_b17, l3, inU_no (by omega) h, bd_s, bd_s, gd_t (Or.inl rfl)]
  · have h : ¬ vp_in a 4 := fun z => h0 (Or.inr z)
    rw [f_X11_isA, f_X11_isA_e, if_neg (by decide), if_neg (by decide), if_pos (by decide), f_X11_isA_b17, l3, inU_no (by omega) h, bd_s, bd_s, gd_t (Or.inl rfl)]
  · exact absurd (Or.inl rfl) h0
  · exact absurd (Or.inl rfl) h0
  · exact absurd (Or.inl rfl) h0
  · exact absurd (Or.inl rfl) h0
  · exact absurd (Or.inl rfl) h0
  · exact absurd (Or.inl rfl) h0
theorem isB_ok {E : EE} {κ : K} {w : Nat} {a : Int32} (hw : w < 14) (h0 : okN (LB w) a) : f_X11_isB E κ (nI w) a = some (κ, 1) := by
  have hs : w = 0 ∨ w = 1 ∨ w = 2 ∨ w = 3 ∨ w = 4 ∨ w = 5 ∨ w = 6 ∨ w = 7 ∨ w = 8 ∨ w = 9 ∨ w = 10 ∨ w = 11 ∨ w = 12 ∨ w = 13 := by omega
  rcases hs with rfl | rfl | rfl | rfl | rfl | rfl | rfl | rfl | rfl | rfl | rfl | rfl | rfl | rfl
  · have h : vp_in a 10000 := h0.resolve_left (by decide)
    rw [f_X11_isB, f_X11_isB_e, if_pos (by decide), show (9999 : Int32) = nI 9999 from rfl, inU_ok (by omega) h, bd_s, bd_s, gd_t (Or.inr rfl)]
  · have h : vp_in a 4 := h0.resolve_left (by decide)
    rw [f_X11_isB, f_X11_isB_e, if_neg (by decide), if_pos (by decide), l3, inU_ok (by omega) h, bd_s, bd_s, gd_t (Or.inr rfl)]
  · have h : vp_in a 4 := h0.resolve_left (by decide)
    rw [f_X11_isB, f_X11_isB_e, if_neg (by decide), if_neg (by decide), if_pos (by decide), l3, inU_ok (by omega) h, bd_s, bd_s, gd_t (Or.inr rfl)]
  · have h : vp_in a 4 := h0.resolve_left (by decide)
    rw [f_X11_isB, f_X11_isB_e, if_neg (by decide), if_neg (by decide), if_neg (by decide), if_pos (by decide), l3, inU_ok (by omega) h, bd_s, bd_s, gd_t (Or.inr rfl)]
  · have h : vp_in a 24 := h0.resolve_left (by decide)
    rw [f_X11_isB, f_X11_isB_e, if_neg (by decide), if_neg (by decide), if_neg (by decide), if_neg (by decide), if_pos (by decide), show (23 : Int32) = nI 23 from rfl, inU_ok (by omega) h, bd_s, bd_s, gd_t (Or.inr rfl)]
  · have h : vp_in a 9 := h0.resolve_left (by decide)
    rw [f_X11_isB, f_X11_isB_e, if_neg (by decide), if_neg (by decide), if_neg (by decide), if_neg (by decide), if_neg (by decide), if_pos (by decide), l8, inU_ok (by omega) h, bd_s, bd_s, gd_t (Or.inr rfl)]
  · have h : vp_in a 2 := h0.resolve_left (by decide)
    rw [f_X11_isB, f_X11_isB_e, if_neg (by decide), if_neg (by decide), if_neg (by decide), if_neg (by decide), if_neg (by decide), if_neg (by decide), if_pos (by decide), show f_X11_in E κ a 0 1 = some (κ, 1) from inU_ok (n := 1) (by omega) h, bd_s, bd_s, gd_t (Or.inr rfl)]
  · have h : vp_in a 3 := h0.resolve_left (by decide)
    rw [f_X11_isB, f_X11_isB_e, if_neg (by decide), if_neg (by decide), if_neg (by decide), if_neg (by decide), if_neg (by decide), if_neg (by decide), if_neg (by decide), if_pos (by decide), l2, inU_ok (by omega) h, bd_s, bd_s, gd_t (Or.inr rfl)]
  · rw [f_X11_isB, f_X11_isB_e, if_neg (by decide), if_neg (by decide), if_neg (by decide), if_neg (by decide), if_neg (by decide), if_neg (by decide), if_neg (by decide), if_neg (by decide), if_pos (by decide), bd_s, gd_t (Or.inr rfl)]
  · have h : vp_in a 24 := h0.resolve_left (by decide)
    rw [f_X11_isB, f_X11_isB_e, if_neg (by decide), if_neg (by decide), if_neg (by decide), if_neg (by decide), if_neg (by decide), if_neg (by decide), if_neg (by decide), if_neg (by decide), if_neg (by decide), if_pos (by decide), show (23 : Int32) = nI 23 from rfl, inU_ok (by omega) h, bd_s, bd_s, gd_t (Or.inr rfl)]
  · have h : vp_in a 2 := h0.resolve_left (by decide)
    rw [f_X11_isB, f_X11_isB_e, if_neg (by decide), if_neg (by decide), if_neg (by decide), if_neg (by decide), if_neg (by decide), if_neg (by decide), if_neg (by decide), if_neg (by decide), if_neg (by decide), if_neg (by decide), if_pos (by decide), show f_X11_in E κ a 0 1 = some (κ, 1) from inU_ok (n := 1) (by omega) h, bd_s, bd_s, gd_t (Or.inr rfl)]
  · rw [f_X11_isB, f_X11_isB_e, if_neg (by decide), if_neg (by decide), if_neg (by decide), if_neg (by decide), if_neg (by decide), if_neg (by decide), if_neg (by decide), if_neg (by decide), if_neg (by decide), if_neg (by decide), if_neg (by decide), if_pos (by decide), bd_s, gd_t (Or.inr rfl)]
  · have h : vp_in a 8 := h0.resolve_left (by decide)
    rw [f_X11_isB, f_X11_isB_e, if_neg (by decide), if_neg (by decide), if_neg (by decide), if_neg (by decide), if_neg (by decide), if_neg (by decide), if_neg (by decide), if_neg (by decide), if_neg (by decide), if_neg (by decide), if_neg (by decide), if_neg (by decide), if_pos (by decide), l7, inU_ok (by omega) h, bd_s, bd_s, gd_t (Or.inr rfl)]
  · rw [f_X11_isB, f_X11_isB_e, if_neg (by decide), if_neg (by decide), if_neg (by decide), if_neg (by decide), if_neg (by decide), if_neg (by decide), if_neg (by decide), if_neg (by decide), if_neg (by decide), if_neg (by decide), if_neg (by decide), if_neg (by decide), if_neg (by decide), bd_s, gd_t (Or.inr rfl)]
theorem isB_no {E : EE} {κ : K} {w : Nat} {a : Int32} (hw : w < 14) (h0 : ¬ okN (LB w) a) : f_X11_isB E κ (nI w) a = some (κ, 0) := by
  have hs : w = 0 ∨ w = 1 ∨ w = 2 ∨ w = 3 ∨ w = 4 ∨ w = 5 ∨ w = 6 ∨ w = 7 ∨ w = 8 ∨ w = 9 ∨ w = 10 ∨ w = 11 ∨ w = 12 ∨ w = 13 := by omega
  rcases hs with rfl | rfl | rfl | rfl | rfl | rfl | rfl | rfl | rfl | rfl | rfl | rfl | rfl | rfl
  · have h : ¬ vp_in a 10000 := fun z => h0 (Or.inr z)
    rw [f_X11_isB, f_X11_isB_e, if_pos (by decide), show (9999 : Int32) = nI 9999 from rfl, inU_no (by omega) h, bd_s, bd_s, gd_t (Or.inl rfl)]
  · have h : ¬ vp_in a 4 := fun z => h0 (Or.inr z)
    rw [f_X11_isB, f_X11_isB_e, if_neg (by decide), if_pos (by decide), l3, inU_no (by omega) h, bd_s, bd_s, gd_t (Or.inl rfl)]
  · have h : ¬ vp_in a 4 := fun z => h0 (Or.inr z)
    rw [f_X11_isB, f_X11_isB_e, if_neg (by decide), if_neg (by decide), if_pos (by decide), l3, inU_no (by omega) h, bd_s, bd_s, gd_t (Or.inl rfl)]
  · have h : ¬ vp_in a 4 := fun z => h0 (Or.inr z)
    rw [f_X11_isB, f_X11_isB_e, if_neg (by decide), if_neg (by decide), if_neg (by decide), if_pos (by decide), l3, inU_no (by omega) h, bd_s, bd_s, gd_t (Or.inl rfl)]
  · have h : ¬ vp_in a 24 := fun z => h0 (Or.inr z)
    rw [f_X11_isB, f_X11_isB_e, if_neg (by decide), if_neg (by decide), if_neg (by decide), if_neg (by decide), if_pos (by decide), show (23 : Int32) = nI 23 from rfl, inU_no (by omega) h, bd_s, bd_s, gd_t (Or.inl rfl)]
  · have h : ¬ vp_in a 9 := fun z => h0 (Or.inr z)
    rw [f_X11_isB, f_X11_isB_e, if_neg (by decide), if_neg (by decide), if_neg (by decide), if_neg (by decide), if_neg (by decide), if_pos (by decide), l8, inU_no (by omega) h, bd_s, bd_s, gd_t (Or.inl rfl)]
  · have h : ¬ vp_in a 2 := fun z => h0 (Or.inr z)
    rw [f_X11_isB, f_X11_isB_e, if_neg (by decide), if_neg (by decide), if_neg (by decide), if_neg (by decide), if_neg (by decide), if_neg (by decide), if_pos (by decide), show f_X11_in E κ a 0 1 = some (κ, 0) from inU_no (n := 1) (by omega) h, bd_s, bd_s, gd_t (Or.inl rfl)]
  · have h : ¬ vp_in a 3 := fun z => h0 (Or.inr z)
    rw [f_X11_isB, f_X11_isB_e, if_neg (by decide), if_neg (by decide), if_neg (by decide), if_neg (by decide), if_neg (by decide), if_neg (by decide), if_neg (by decide), if_pos (by decide), l2, inU_no (by omega) h, bd_s, bd_s, gd_t (Or.inl rfl)]
  · exact absurd (Or.inl rfl) h0
  · have h : ¬ vp_in a 24 := fun z => h0 (Or.inr z)
    rw [f_X11_isB, f_X11_isB_e, if_neg (by decide), if_neg (by decide), if_neg (by decide), if_neg (by decide), if_neg (by decide), if_neg (by decide), if_neg (by decide), if_neg (by decide), if_neg (by decide), if_pos (by decide), show (23 : Int32) = nI 23 from rfl, inU_no (by omega) h, bd_s, bd_s, gd_t (Or.inl rfl)]
  · have h : ¬ vp_in a 2 := fun z => h0 (Or.inr z)
    rw [f_X11_isB, f_X11_isB_e, if_neg (by decide), if_neg (by decide), if_neg (by decide), if_neg (by decide), if_neg (by decide), if_neg (by decide), if_neg (by decide), if_neg (by decide), if_neg (by decide), if_neg (by decide), if_pos (by decide), show f_X11_in E κ a 0 1 = some (κ, 0) from inU_no (n := 1) (by omega) h, bd_s, bd_s, gd_t (Or.inl rfl)]
  · exact absurd (Or.inl rfl) h0
  · have h : ¬ vp_in a 8 := fun z => h0 (Or.inr z)
    rw [f_X11_isB, f_X11_isB_e, if_neg (by decide), if_neg (by decide), if_neg (by decide), if_neg (by decide), if_neg (by decide), if_neg (by decide), if_neg (by decide), if_neg (by decide), if_neg (by decide), if_neg (by decide), if_neg (by decide), if_neg (by decide), if_pos (by decide), l7, inU_no (by omega) h, bd_s, bd_s, gd_t (Or.inl rfl)]
  · exact absurd (Or.inl rfl) h0
theorem VI_of {w : Nat} {a b : Int32} (hw : w < 14) (ha : okN (LA w) a) (hb : okN (LB w) b) : VI w a b := by
  have A : ∀ L, LA w = L → L ≠ 0 → L ≤ 10000 → ∃ r, r < L ∧ a = nI r := fun L e h0 h1 => by
    rw [e] at ha
    exact vp_ex (by omega) (ha.resolve_left h0)
  have B : ∀ L, LB w = L → L ≠ 0 → L ≤ 10000 → ∃ r, r < L ∧ b = nI r := fun L e h0 h1 => by
    rw [e] at hb
    exact vp_ex (by omega) (hb.resolve_left h0)
  refine ⟨hw, fun z => ?_, fun z => ?_, fun z => ?_, fun z => ?_, fun z => ?_, fun z => ?_, fun z => ?_, fun z => ?_⟩
  · refine A 4 ?_ (by omega) (by omega)
    have : w = 0 ∨ w = 1 ∨ w = 2 ∨ w = 3 ∨ w = 4 ∨ w = 6 ∨ w = 7 := by omega
    rcases this with rfl | rfl | rfl | rfl | rfl | rfl | rfl <;> rfl
  · subst z
    exact ⟨A 8 rfl (by omega) (by omega), B 9 rfl (by omega) (by omega)⟩
  · refine B 4 ?_ (by omega) (by omega)
    rcases z with rfl | rfl | rfl <;> rfl
  · subst z
    exact B 8 rfl (by omega) (by omega)
  · subst z
    exact B 10000 rfl (by omega) (by omega)
  · refine B 24 ?_ (by omega) (by omega)
    rcases z with rfl | rfl <;> rfl
  · refine B 2 ?_ (by omega) (by omega)
    rcases z with rfl | rfl <;> rfl
  · subst z
    exact B 3 rfl (by omega) (by omega)
def insOK (w a b : Int32) : Prop := ∃ k, k < 14 ∧ w = nI k ∧ okN (LA k) a ∧ okN (LB k) b
theorem ins_pre1 {E : EE} {κ : K} {g w a b : Int32} (h : insOK w a b) : f_X11_instruct E κ g w a b = f_X11_instruct_b32 E κ g w a b 1 := by
  obtain ⟨k, hk, rfl, h1, h2⟩ := h
  rw [f_X11_instruct, in_t (by rw [i32_0, nI_lt' (by omega) (by omega)]; omega) (by rw [l13, nI_lt' (by omega) (by omega)]; omega), bd_s, if_neg (by decide), isA_ok hk h1, bd_s, if_neg (by decide), isB_ok hk h2, bd_s, if_neg (by decide)]
theorem ins_pre0 {E : EE} {κ : K} {g w a b : Int32} (h : ¬ insOK w a b) : f_X11_instruct E κ g w a b = f_X11_instruct_b32 E κ g w a b 0 := by
  by_cases hw : vp_in w 14
  · obtain ⟨k, hk, rfl⟩ := vp_ex (by omega) hw
    rw [f_X11_instruct, in_t (by rw [i32_0, nI_lt' (by omega) (by omega)]; omega) (by rw [l13, nI_lt' (by omega) (by omega)]; omega), bd_s, if_neg (by decide)]
    by_cases h1 : okN (LA k) a
    · rw [isA_ok hk h1, bd_s, if_neg (by decide), isB_no hk (fun h2 => h ⟨k, hk, rfl, h1, h2⟩), bd_s, if_pos rfl, f_X11_instruct_b31]
    · rw [isA_no hk h1, bd_s, if_pos rfl, f_X11_instruct_b31]
  · rw [f_X11_instruct, l13, in_f (vp_not (n := 13) (by omega) hw), bd_s, if_pos rfl, f_X11_instruct_b31]
theorem ins_cls0 {E : EE} {κ : K} {g : Nat} {w a b : Int32} (hL : LsI E κ 1 E.1) (h5 : E.1 ≤ 5) (hg : g < E.1) (h : ¬ insOK w a b) : f_X10_instruct E κ (nI g) w a b = some (addC κ 1 6, .inr 2) := by
  rw [f_X10_instruct, guestAt_ok hL h5 hg, bx_s, gd_t (show g < cntE E 0 from hg)]
  by_cases hw : vp_in w 14
  · obtain ⟨k, hk, rfl⟩ := vp_ex (by omega) hw
    rw [if_neg (by rw [i32_0, nI_lt' (by omega) (by omega)]; omega), if_neg (by rw [l13, nI_lt' (by omega) (by omega)]; omega), nI_cl (by omega), gdi (by omega), (tabA k hk).1]
    by_cases h1 : okN (LA k) a
    · rw [oneOf_ok h1 (tabA k hk).2, bd_s, if_neg (by decide), gdi (by omega), (tabB k hk).1, oneOf_no (fun h2 => h ⟨k, hk, rfl, h1, h2⟩) (tabB k hk).2, bd_s, if_pos rfl]; rfl
    · rw [oneOf_no h1 (tabA k hk).2, bd_s, if_pos rfl]; rfl
  · rcases vp_not (n := 13) (by omega) hw with z | z
    · rw [if_pos z]; rfl
    · by_cases z0 : w < 0
      · rw [if_pos z0]; rfl
      · rw [if_neg z0, l13, if_pos z]; rfl
theorem ins_cls1 {E : EE} {κ : K} {g k : Nat} {a b : Int32} (hL : LsI E κ 1 E.1) (h5 : E.1 ≤ 5) (hg : g < E.1) (hk : k < 14) (h1 : okN (LA k) a) (h2 : okN (LB k) b) : f_X10_instruct E κ (nI g) (nI k) a b = if 24 ≤ kV κ 0 g 1 3 then f_X10_instruct_b81 E κ else if 0 < kV κ 0 g 0 12 then f_X10_instruct_b81 E κ else if kV κ 0 g 0 17 = 0 then bd (f_X5_append E κ g (nI k) a b) fun κ22 r24 => some (κ22, .inl r24) else f_X10_instruct_b81 E κ := by
  rw [f_X10_instruct, guestAt_ok hL h5 hg, bx_s, gd_t (show g < cntE E 0 from hg), if_neg (by rw [i32_0, nI_lt' (by omega) (by omega)]; omega), if_neg (by rw [l13, nI_lt' (by omega) (by omega)]; omega), nI_cl (by omega), gdi (by omega), (tabA k hk).1, oneOf_ok h1 (tabA k hk).2, bd_s, if_neg (by decide), gdi (by omega), (tabB k hk).1, oneOf_ok h2 (tabB k hk).2, bd_s, if_neg (by decide)]
/-- an instruction more -/
def insM (μ : MU) (g m : Nat) (w a b : Int32) : MU := mu (mu (mu (mu μ 13 (72 * g + 3 * m) w) 13 (72 * g + 3 * m + 1) a) 13 (72 * g + 3 * m + 2) b) 14 g (nI (m + 1))
theorem mm_ins {E : EE} {κ : K} {n g m : Nat} {w a b : Int32} (hG : kV κ 5 0 0 26 = nI n) (hn : n ≤ 5) (hg : g < n) (h : insOK w a b) (hm : kV κ 5 0 14 g = nI m) (hm24 : m < 24) (hr : kV κ 5 0 24 g = 0) (hw : kV κ 5 0 19 g = 0) : f_X11_instruct E κ (nI g) w a b = some (putM κ (insM (mu (kV κ 5 0) 0 0 0) g m w a b), nI m) := by
  rw [ins_pre1 h, f_X11_instruct_b32, isGuest_t hG hn hg, bd_s, if_neg (by decide), if_neg (by decide), nI_cl (by omega), gdi (by omega), hm, if_neg (by rw [show (24 : Int32) = nI 24 from rfl, nI_eq' (by omega) (by omega)]; omega), gdi (by omega), hr, if_neg (by decide), gdi (by omega), if_pos hw, f_X11_instruct_b90, ref_0, bd_s, if_pos rfl, nI_cl (by omega), gdi (by omega), put_kV, thr_c (by omega), hm, l72, l3, nI_mul, nI_mul, nI_add, nmE, nI_cl (by omega), gdi (by omega), nmE, nI_1, nI_cl (by omega), gdi (by omega), nmE, l2, nI_add, nI_cl (by omega), gdi (by omega), nmE, gdi (by omega), gdi (by omega), nmE, gdi (by omega)]
  have h14 : ∀ x y z, (mu (mu (mu (mu (kV κ 5 0) 0 0 0) 13 (72 * g + 3 * m) x) 13 (72 * g + 3 * m + 1) y) 13 (72 * g + 3 * m + 2) z) 14 g = nI m := fun x y z => by rw [mu_row (by omega), mu_row (by omega), mu_row (by omega), thr_c (by omega)]; exact hm
  simp only [set5, put_kV, put_put]
  rw [h14, nI_1, muS ⟨rfl, rfl⟩, i32_1, nI_sub (by omega)]
  rfl
theorem mm_ins3 {E : EE} {κ : K} {n g m r : Nat} {w a b : Int32} (hG : kV κ 5 0 0 26 = nI n) (hn : n ≤ 5) (hg : g < n) (h : insOK w a b) (hm : kV κ 5 0 14 g = nI m) (hm24 : m ≤ 24) (hr : kV κ 5 0 24 g = nI r) (hr3 : r ≤ 3000) (hno : m = 24 ∨ 0 < r ∨ ¬ kV κ 5 0 19 g = 0) : f_X11_instruct E κ (nI g) w a b = some (putM κ (mu (kV κ 5 0) 0 0 3), 0) := by
  have fin : f_X11_instruct_b85 E κ (nI g) w a b = some (putM κ (mu (kV κ 5 0) 0 0 3), 0) := by
    rw [f_X11_instruct_b85, f_X11_instruct_b90, ref_n (by decide), bd_s, if_neg (by decide)]
  rw [ins_pre1 h, f_X11_instruct_b32, isGuest_t hG hn hg, bd_s, if_neg (by decide), if_neg (by decide), nI_cl (by omega), gdi (by omega), hm]
  by_cases e1 : m = 24
  · rw [if_pos (by rw [e1]; rfl), fin]
  · rw [if_neg (by rw [show (24 : Int32) = nI 24 from rfl, nI_eq' (by omega) (by omega)]; exact e1), gdi (by omega), hr]
    by_cases e2 : 0 < r
    · rw [if_pos (by rw [i32_0, nI_lt' (by omega) (by omega)]; exact e2), fin]
    · rw [if_neg (by rw [i32_0, nI_lt' (by omega) (by omega)]; exact e2), gdi (by omega), if_neg ((hno.resolve_left e1).resolve_left e2), fin]
def insV (v : MU) (m : Nat) (w a b : Int32) : MU := mu (mu (mu (mu v 2 m w) 3 m a) 4 m b) 1 3 (nI (m + 1))
theorem app_E {E : EE} {κ : K} {g m : Nat} {w a b : Int32} (hm : kV κ 0 g 1 3 = nI m) (hm24 : m < 24) : f_X5_append E κ g w a b = some (pv κ 0 g (insV (kV κ 0 g) m w a b), nI m) := by
  have e1 : ∀ x, kV (setV κ 0 g 2 m x) 0 g 1 3 = nI m := fun x => by rw [vD (by omega)]; exact hm
  have e2 : ∀ x y, kV (setV (setV κ 0 g 2 m x) 0 g 3 m y) 0 g 1 3 = nI m := fun x y => by rw [vD (by omega)]; exact e1 x
  have e3 : ∀ x y z, kV (setV (setV (setV κ 0 g 2 m x) 0 g 3 m y) 0 g 4 m z) 0 g 1 3 = nI m := fun x y z => by rw [vD (by omega)]; exact e2 x y
  rw [f_X5_append, hm, show (24 : Int32) = nI 24 from rfl, if_pos (by rw [nI_lt' (by omega) (by omega)]; exact hm24), nI_cl (by omega), gdi (by omega), nmE, e1, nI_cl (by omega), gdi (by omega), nmE, e2, nI_cl (by omega), gdi (by omega), nmE, nmE, e3, nI_1, vS ⟨rfl, rfl, rfl, rfl⟩, i32_1, nI_sub (by omega), setp, setp, setp, setp]
  simp only [pv_kV, pv_pv]
  rfl
theorem REL_ins {E : EE} {κ : K} {μ : MU} {n ns t C g m k : Nat} {a b : Int32} (hR : REL E κ μ n ns t C) (hg : g < n) (hk : k < 14) (h1 : okN (LA k) a) (h2 : okN (LB k) b) (hm : μ 14 g = nI m) (hm24 : m < 24) (hr : μ 24 g = 0) : REL E (pv κ 0 g (insV (kV κ 0 g) m (nI k) a b)) (insM μ g m (nI k) a b) n ns t (C + 1) := by
  have hVI := VI_of hk h1 h2
  have hMM := hR.2.2.1
  obtain ⟨m1, m2, m3, m4, m5⟩ := hMM
  have hQg := hR.2.2.2.1 g hg
  have hn : n ≤ 5 := m1.1.1
  let κ' : K := pv κ 0 g (insV (kV κ 0 g) m (nI k) a b)
  let μ' : MU := insM μ g m (nI k) a b
  have hV : ∀ f i, ¬ (f = 0 ∧ i = g) → kV κ' f i = kV κ f i := fun f i z => pv_n z
  have eV : ∀ c, c ≠ 1 → c ≠ 2 → c ≠ 3 → c ≠ 4 → kV κ' 0 g c = kV κ 0 g c := fun c x y z w => by
    show kV (pv κ 0 g _) 0 g c = _
    rw [pv_kV]
    unfold insV
    rw [mu_row x, mu_row w, mu_row z, mu_row y]
  have er : ∀ c, c ≠ 13 → c ≠ 14 → μ' c = μ c := fun c x y => by
    show (insM μ g m (nI k) a b) c = _
    unfold insM
    rw [mu_row y, mu_row x, mu_row x, mu_row x]
  have e14 : ∀ j, μ' 14 j = if j = g then nI (m + 1) else μ 14 j := fun j => by
    show (insM μ g m (nI k) a b) 14 j = _
    unfold insM
    by_cases e : j = g
    · rw [if_pos e, e]; exact muS ⟨rfl, rfl⟩
    · rw [if_neg e, muD (by omega), mu_row (by omega), mu_row (by omega), mu_row (by omega)]
  have e13 : ∀ j, μ' 13 j = if j = 72 * g + 3 * m + 2 then b else if j = 72 * g + 3 * m + 1 then a else if j = 72 * g + 3 * m then nI k else μ 13 j := fun j => by
    show (insM μ g m (nI k) a b) 13 j = _
    unfold insM
    rw [mu_row (by omega)]
    by_cases x1 : j = 72 * g + 3 * m + 2
    · rw [if_pos x1, muS ⟨rfl, x1⟩]
    · rw [if_neg x1, muD (by omega)]
      by_cases x2 : j = 72 * g + 3 * m + 1
      · rw [if_pos x2, muS ⟨rfl, x2⟩]
      · rw [if_neg x2, muD (by omega)]
        by_cases x3 : j = 72 * g + 3 * m
        · rw [if_pos x3, muS ⟨rfl, x3⟩]
        · rw [if_neg x3, muD (by omega)]
  have hO : OWN μ μ' g := ⟨er 0 (by omega) (by omega), fun c hc => er c (by omega) (by omega), fun c j x y z w => by
    by_cases c13 : c = 13
    · subst c13
      have : j / 72 ≠ g := w
      rw [e13, if_neg (by omega), if_neg (by omega), if_neg (by omega)]
    · by_cases c14 : c = 14
      · subst c14
        have : j / 1 ≠ g := w
        rw [Nat.div_one] at this
        rw [e14, if_neg this]
      · rw [er c c13 c14]⟩
  have hr0 : kV κ 0 g 0 12 = 0 := (m4 g hg).1.2.2.1.trans hr
  have st0 : ∀ r, kV κ 0 g 0 12 = nI r → r ≤ 3000 → r = 0 := fun r z y => by
    rw [hr0, i32_0, nI_eq' (by omega) (by omega)] at z
    exact z.symm
  have hPLK : ∀ f i c, (f = 0 ∧ i = g → 19 ≤ c ∧ c + 13 ≤ 32) → PLK κ f i c g → PLK κ' f i c g := by
    intro f i c hfi hp
    obtain ⟨st, nT, nS, nJ, T, S, J, r, p1, p2, p3, p4, l1, l2, l3, p5, l4, l5, p6⟩ := hp
    have r0 := st0 r p5 l5
    have hv : ∀ j, j < 13 → kV κ' f i (c + j) = kV κ f i (c + j) := fun j hj => by
      by_cases z : f = 0 ∧ i = g
      · obtain ⟨rfl, rfl⟩ := z
        exact eV _ (by omega) (by omega) (by omega) (by omega)
      · rw [hV f i z]
    have st00 : st = 0 := by omega
    subst st00
    exact ⟨0, nT, nS, nJ, T, S, J, r, NUM_K p1 (by rw [hv 7 (by omega)]) (hv 8 (by omega)) rfl, NUM_K p2 (by rw [hv 9 (by omega)]) (hv 10 (by omega)) rfl, NUM_K p3 (by rw [hv 11 (by omega)]) (hv 12 (by omega)) rfl, by rw [show kV κ' f i c = kV κ f i c from hv 0 (by omega)]; exact p4, l1, l2, l3, by rw [eV 0 (by omega) (by omega) (by omega) (by omega)]; exact p5, l4, l5, PLN_m (PLN_0 p6) (MEQ_j fun j hj => by show kV κ' f i (c + 1 + j) = kV κ f i (c + 1 + j); rw [show c + 1 + j = c + (1 + j) from by omega, hv (1 + j) (by omega)])⟩
  refine REL_G (κ' := κ') (μ' := μ') (d1 := 0) (d2 := 0) hR hg (fun f i z _ _ _ => hV f i z) (fun _ _ _ => rfl) (fun _ _ _ => rfl) ?_ (FRM_row m2 (er 27 (by omega) (by omega)) (er 28 (by omega) (by omega))) hO (fun key _ _ => by rw [er 27 (by omega) (by omega)]) (fun h hh => ⟨?_, fun j => by rw [hV 2 h (by omega)]⟩) ⟨?_, ?_, ?_, ?_⟩ (GPT_v (m4 g hg).2.1 (Nat.le_refl _) rfl (by rw [er 15 (by omega) (by omega)]) (by rw [er 12 (by omega) (by omega)])) ?_ (fun s hs z => hPLK 9 s 0 (fun y => by omega) z) (fun c x y => er c (by omega) (by omega)) (SAY_row hQg.1 (er 24 (by omega) (by omega)) (er 35 (by omega) (by omega)) (er 37 (by omega) (by omega))) (CLK_e hQg.2.1 (er 22 (by omega) (by omega)) (er 20 (by omega) (by omega)) (er 21 (by omega) (by omega))) (INQ_up (INQ_e hQg.2.2 (by rw [er 1 (by omega) (by omega)]) (by rw [er 6 (by omega) (by omega)]) (by rw [er 33 (by omega) (by omega)]) (er 3 (by omega) (by omega)) (er 5 (by omega) (by omega)) (by rw [er 18 (by omega) (by omega)]))) (PAID_same rfl rfl) (by omega) (by omega)
  · refine ⟨⟨hn, by rw [er 0 (by omega) (by omega)]; exact m1.1.2.1, fun g2 hg2 => ?_, by rw [er 39 (by omega) (by omega)]; exact m1.1.2.2.2⟩, fun g2 hg2 => ?_, by unfold TM; rw [er 0 (by omega) (by omega)]; exact m1.2.2⟩
    · obtain ⟨x1, x2, x3, x4⟩ := m1.1.2.2.1 g2 hg2
      refine ⟨ROK_row x1 (er 1 (by omega) (by omega)), ?_, PAG_row x3 (er 27 (by omega) (by omega)) (er 28 (by omega) (by omega)), by rw [er 15 (by omega) (by omega)]; exact x4⟩
      obtain ⟨N, y1, y2, y3⟩ := x2
      by_cases e : g2 = g
      · subst e
        rw [hm, nI_eq' (by omega) (by omega)] at y2
        refine ⟨m + 1, by omega, by rw [e14, if_pos rfl], fun j hj => ?_⟩
        by_cases ej : j = m
        · subst ej
          exact ⟨k, by rw [e13, e13, if_neg (by omega), if_pos rfl, if_pos rfl]; exact hVI, by rw [e13, if_neg (by omega), if_neg (by omega), if_pos rfl]⟩
        · obtain ⟨w, w1, w2⟩ := y3 j (by omega)
          exact ⟨w, by rw [e13, e13, if_neg (by omega), if_neg (by omega), if_neg (by omega), if_neg (by omega), if_neg (by omega), if_neg (by omega)]; exact w1, by rw [e13, if_neg (by omega), if_neg (by omega), if_neg (by omega)]; exact w2⟩
      · refine ⟨N, y1, by rw [e14, if_neg e]; exact y2, fun j hj => ?_⟩
        obtain ⟨w, w1, w2⟩ := y3 j hj
        exact ⟨w, by rw [e13, e13, if_neg (by omega), if_neg (by omega), if_neg (by omega), if_neg (by omega), if_neg (by omega), if_neg (by omega)]; exact w1, by rw [e13, if_neg (by omega), if_neg (by omega), if_neg (by omega)]; exact w2⟩
    · unfold QOK
      rw [er 1 (by omega) (by omega), er 2 (by omega) (by omega)]
      exact m1.2.1 g2 hg2
  · rw [hV 2 h (by omega)]
    exact RH_row (m3 h hh).1 (er 15 (by omega) (by omega)) (er 28 (by omega) (by omega)) (er 29 (by omega) (by omega))
  · obtain ⟨a1, a2, a3, a4, a5, a6, q7, q8, q9, q10, a11, a12⟩ := (m4 g hg).1.1
    have hq : ∀ {c B x q}, QQ κ 0 g c B x q → 10 ≤ c → QQ κ' 0 g c B x q := fun y z => QQ_v y (by rw [eV _ (by omega) (by omega) (by omega) (by omega)]) (eV _ (by omega) (by omega) (by omega) (by omega)) rfl rfl (fun _ _ => rfl)
    refine ⟨SCA_v a1 (fun j _ _ => by rw [eV 0 (by omega) (by omega) (by omega) (by omega)]) (fun c x y z => by rw [er c (by omega) (by omega)]), EXI_v a2 (eV 38 (by omega) (by omega) (by omega) (by omega)) (fun j _ => by rw [er 25 (by omega) (by omega)]), BAR_v a3 (by rw [eV 0 (by omega) (by omega) (by omega) (by omega)]) (fun p _ => by rw [er 27 (by omega) (by omega)]), SND_v a4 (by rw [eV 0 (by omega) (by omega) (by omega) (by omega)]) (by rw [er 30 (by omega) (by omega)]) (by rw [er 31 (by omega) (by omega)]), ?_, LVT_v a6 (eV 5 (by omega) (by omega) (by omega) (by omega)) (fun j _ _ => by rw [er 1 (by omega) (by omega)]) (clock_e (by rw [er 0 (by omega) (by omega)]) (by rw [er 20 (by omega) (by omega)]) (by rw [er 21 (by omega) (by omega)]) (by rw [er 22 (by omega) (by omega)])), ?_, ?_, ?_, ?_, FOL_v a11 (eV 18 (by omega) (by omega) (by omega) (by omega)) (fun j _ => eV _ (by omega) (by omega) (by omega) (by omega)) rfl (by rw [er 33 (by omega) (by omega)]) (fun j _ => by rw [er 3 (by omega) (by omega)]) (fun j _ => by rw [er 4 (by omega) (by omega)]) (by rw [eV 0 (by omega) (by omega) (by omega) (by omega)]), STN_v a12 (fun j _ _ => eV _ (by omega) (by omega) (by omega) (by omega)) (fun _ _ _ => rfl)⟩
    · have v1 : kV κ' 0 g 1 3 = nI (m + 1) := by
        show kV (pv κ 0 g _) 0 g 1 3 = _
        rw [pv_kV]
        exact muS ⟨rfl, rfl⟩
      have vj : ∀ j, kV κ' 0 g 2 j = (if j = m then nI k else kV κ 0 g 2 j) ∧ kV κ' 0 g 3 j = (if j = m then a else kV κ 0 g 3 j) ∧ kV κ' 0 g 4 j = (if j = m then b else kV κ 0 g 4 j) := fun j => by
        show kV (pv κ 0 g _) 0 g 2 j = _ ∧ kV (pv κ 0 g _) 0 g 3 j = _ ∧ kV (pv κ 0 g _) 0 g 4 j = _
        rw [pv_kV]
        unfold insV
        by_cases e : j = m
        · subst e
          rw [if_pos rfl, if_pos rfl, if_pos rfl]
          exact ⟨by rw [muD (by omega), muD (by omega), muD (by omega), muS ⟨rfl, rfl⟩], by rw [muD (by omega), muD (by omega), muS ⟨rfl, rfl⟩], by rw [muD (by omega), muS ⟨rfl, rfl⟩]⟩
        · rw [if_neg e, if_neg e, if_neg e]
          exact ⟨by rw [muD (by omega), muD (by omega), muD (by omega), muD (by omega)], by rw [muD (by omega), muD (by omega), muD (by omega), muD (by omega)], by rw [muD (by omega), muD (by omega), muD (by omega), muD (by omega)]⟩
      refine ⟨by rw [v1, e14, if_pos rfl], fun j hj => ?_⟩
      obtain ⟨z1, z2, z3⟩ := a5.2 j hj
      obtain ⟨w1, w2, w3⟩ := vj j
      rw [w1, w2, w3]
      by_cases e : j = m
      · subst e
        rw [if_pos rfl, if_pos rfl, if_pos rfl]
        exact ⟨by rw [e13, if_neg (by omega), if_neg (by omega), if_pos rfl], by rw [e13, if_neg (by omega), if_pos rfl], by rw [e13, if_pos rfl]⟩
      · rw [if_neg e, if_neg e, if_neg e]
        exact ⟨by rw [e13, if_neg (by omega), if_neg (by omega), if_neg (by omega)]; exact z1, by rw [e13, if_neg (by omega), if_neg (by omega), if_neg (by omega)]; exact z2, by rw [e13, if_neg (by omega), if_neg (by omega), if_neg (by omega)]; exact z3⟩
    · rw [er 1 (by omega) (by omega), er 2 (by omega) (by omega)]; exact hq q7 (by omega)
    · rw [er 35 (by omega) (by omega), er 34 (by omega) (by omega)]; exact hq q8 (by omega)
    · rw [er 37 (by omega) (by omega), er 36 (by omega) (by omega)]; exact hq q9 (by omega)
    · rw [er 6 (by omega) (by omega), er 5 (by omega) (by omega)]; exact hq q10 (by omega)
  · rw [row_e (er 1 (by omega) (by omega))]
    exact MCH_m (m4 g hg).1.2.1 (fun j hj => eV (6 + j) (by omega) (by omega) (by omega) (by omega))
  · rw [eV 0 (by omega) (by omega) (by omega) (by omega), er 24 (by omega) (by omega)]; exact (m4 g hg).1.2.2.1
  · obtain ⟨st, nT, nS, nJ, T, S, J, r, hL, hst, l1, l2, l3, p5, l4, l5, hpl⟩ := (m4 g hg).1.2.2.2
    have r0 := st0 r p5 l5
    have st00 : st = 0 := by omega
    subst st00
    refine ⟨0, nT, nS, nJ, T, S, J, r, LST_v hL (fun c _ _ => eV c (by omega) (by omega) (by omega) (by omega)) (fun _ _ _ => rfl), by rw [eV 5 (by omega) (by omega) (by omega) (by omega)]; exact hst, l1, l2, l3, by rw [eV 0 (by omega) (by omega) (by omega) (by omega)]; exact p5, l4, l5, ?_⟩
    rw [eV 0 (by omega) (by omega) (by omega) (by omega), eV 6 (by omega) (by omega) (by omega) (by omega)]
    exact hpl.imp id (fun z => ⟨z.1, PLN_m (PLN_0 z.2) (MEQ_j fun j hj => eV (6 + j) (by omega) (by omega) (by omega) (by omega))⟩)
  · exact (m4 g hg).2.2.imp (fun z => by rw [eV 18 (by omega) (by omega) (by omega) (by omega)]; exact z) (fun z => hPLK 0 g 19 (fun _ => by omega) z)
theorem EXT_ins {μ : MU} {g m : Nat} {w a b : Int32} : EXT μ (insM (mu μ 0 0 0) g m w a b) := by
  unfold insM
  exact (((EXT_thr.tr (EXT_mu (by omega))).tr (EXT_mu (by omega))).tr (EXT_mu (by omega))).tr (EXT_mu (by omega))
theorem st_instruct {E : EE} {κ : K} {n ns t C : Nat} {a w b c : Int32} (hR : REL E κ (kV κ 5 0) n ns t C) : DONE (lw_instruct E κ a w b c) C := by
  have hR0 := hR
  obtain ⟨⟨rfl, rfl, hO, h9⟩, ⟨q1, q2, q3, q4, q5⟩, hM, hQ, hS, hZ, hC⟩ := hR0
  have hn : E.1 ≤ 5 := hM.1.1.1
  have hG : kV κ 5 0 0 26 = nI E.1 := hM.1.1.2.1
  have hH : E.2.2.2.1 = 1 := hO.2.2.2.1
  by_cases ha : vp_in a E.1
  · obtain ⟨g, hg, rfl⟩ := vp_ex (by omega) ha
    by_cases hi : insOK w b c
    · obtain ⟨N, hN24, hN, _⟩ := (hM.1.1.2.2.1 g hg).2.1
      obtain ⟨_, _, r, _, _, hr, _, hrt⟩ := (hQ g hg).1
      have e1 : kV κ 0 g 1 3 = nI N := (hM.2.2.2.1 g hg).1.1.2.2.2.2.1.1.trans hN
      have e12 : kV κ 0 g 0 12 = nI r := (hM.2.2.2.1 g hg).1.2.2.1.trans hr
      have e17 : kV κ 0 g 0 17 = kV κ 5 0 19 g := (hM.2.2.2.1 g hg).1.1.1.2.2.2.2.2.2.2
      obtain ⟨k, hk, rfl, o1, o2⟩ := id hi
      by_cases hno : N = 24 ∨ 0 < r ∨ ¬ kV κ 5 0 19 g = 0
      · have hcl : f_X10_instruct E κ (nI g) (nI k) b c = some (addC κ 1 6, .inr 3) := by
          rw [ins_cls1 q1 hn hg hk o1 o2, e1, e12, e17]
          by_cases x1 : N = 24
          · rw [if_pos (by rw [x1]; decide)]; rfl
          · rw [if_neg (by rw [show (24 : Int32) = nI 24 from rfl, nI_le' (by omega) (by omega)]; omega)]
            by_cases x2 : 0 < r
            · rw [if_pos (by rw [i32_0, nI_lt' (by omega) (by omega)]; exact x2)]; rfl
            · rw [if_neg (by rw [i32_0, nI_lt' (by omega) (by omega)]; exact x2), if_neg ((hno.resolve_left x1).resolve_left x2)]; rfl
        exact ⟨E, _, E.1, E.2.1, t, by
      unfold lw_instruct
      rw [show f_X10_instruct E κ (nI g) (nI k) b c = some (addC κ 1 6, .inr 3) from by exact hcl]
      dsimp only
      rw [show f_X11_instruct E (lwS (addC κ 1 6) (.inr 3)) (nI g) (nI k) b c = some (putM (lwS (addC κ 1 6) (.inr 3)) (mu (kV κ 5 0) 0 0 3), 0) from by rw [mm_ins3 (n := E.1) (m := N) (r := r) (by rw [lw_V (by omega)]; exact hG) hn hg hi (by rw [lw_V (by omega)]; exact hN) hN24 (by rw [lw_V (by omega)]; exact hr) (by omega) (by rw [lw_V (by omega)]; exact hno), lw_V (by omega)]; rfl]
      dsimp only
      rw [gdp_t (lwS_noX (by decide) rfl)], glueS (REL_no hR)⟩
      · have x1 : N < 24 := by omega
        have x2 : r = 0 := by omega
        have x3 : kV κ 5 0 19 g = 0 := by
          by_cases z : kV κ 5 0 19 g = 0
          · exact z
          · exact absurd (Or.inr (Or.inr z)) hno
        subst x2
        have e5 : kV (pv κ 0 g (insV (kV κ 0 g) N (nI k) b c)) 5 = kV κ 5 := by
          funext i
          exact pv_n (by omega)
        have hcl : f_X10_instruct E κ (nI g) (nI k) b c = some (pv κ 0 g (insV (kV κ 0 g) N (nI k) b c), .inl (nI N)) := by
          rw [ins_cls1 q1 hn hg hk o1 o2, e1, e12, e17, if_neg (by rw [show (24 : Int32) = nI 24 from rfl, nI_le' (by omega) (by omega)]; omega), if_neg (by decide), if_pos x3, app_E e1 x1, bd_s]
        exact ⟨E, _, E.1, E.2.1, t, by
      unfold lw_instruct
      rw [show f_X10_instruct E κ (nI g) (nI k) b c = some (pv κ 0 g (insV (kV κ 0 g) N (nI k) b c), .inl (nI N)) from by exact hcl]
      dsimp only
      rw [show f_X11_instruct E (lwS (pv κ 0 g (insV (kV κ 0 g) N (nI k) b c)) (.inl (nI N))) (nI g) (nI k) b c = some (putM (lwS (pv κ 0 g (insV (kV κ 0 g) N (nI k) b c)) (.inl (nI N))) (insM (mu (kV κ 5 0) 0 0 0) g N (nI k) b c), nI N) from by rw [mm_ins (n := E.1) (m := N) (by rw [lw_V (by omega), e5]; exact hG) hn hg hi (by rw [lw_V (by omega), e5]; exact hN) x1 (by rw [lw_V (by omega), e5]; exact hr) (by rw [lw_V (by omega), e5]; exact x3), lw_V (by omega), e5]]
      dsimp only
      rw [gdp_t (lwS_okX (by unfold insM; rw [muD (by omega), muD (by omega), muD (by omega), muD (by omega)]; exact muS ⟨rfl, rfl⟩) (rfl))], glueS (REL_ins (REL_thr (x := 0) hR) hg hk o1 o2 (by rw [thr_c (by omega)]; exact hN) x1 (by rw [thr_c (by omega)]; exact hr))⟩
    · exact ⟨E, _, E.1, E.2.1, t, by
      unfold lw_instruct
      rw [show f_X10_instruct E κ (nI g) w b c = some (addC κ 1 6, .inr 2) from by exact ins_cls0 q1 hn hg hi]
      dsimp only
      rw [show f_X11_instruct E (lwS (addC κ 1 6) (.inr 2)) (nI g) w b c = some (putM (lwS (addC κ 1 6) (.inr 2)) (mu (kV κ 5 0) 0 0 2), 0) from by rw [ins_pre0 hi, f_X11_instruct_b32, isGuest_t (n := E.1) (by rw [lw_V (by omega)]; exact hG) hn hg, bd_s, if_neg (by decide), if_pos rfl, f_X11_instruct_b90, ref_n (by decide), bd_s, if_neg (by decide), lw_V (by omega)]; rfl]
      dsimp only
      rw [gdp_t (lwS_noX (by decide) rfl)], glueS (REL_no hR)⟩
  · by_cases hi : insOK w b c
    · exact ⟨E, _, E.1, E.2.1, t, by
      unfold lw_instruct
      rw [show f_X10_instruct E κ a w b c = some (addC κ 1 6, .inr 1) from by rw [f_X10_instruct, guestAt_no q1 hn ha, bx_r]]
      dsimp only
      rw [show f_X11_instruct E (lwS (addC κ 1 6) (.inr 1)) a w b c = some (putM (lwS (addC κ 1 6) (.inr 1)) (mu (kV κ 5 0) 0 0 1), 0) from by rw [ins_pre1 hi, f_X11_instruct_b32, isGuest_f (n := E.1) (by rw [lw_V (by omega)]; exact hG) hn ha, bd_s, if_pos rfl, f_X11_instruct_b90, ref_n (by decide), bd_s, if_neg (by decide), lw_V (by omega)]; rfl]
      dsimp only
      rw [gdp_t (lwS_noX (by decide) rfl)], glueS (REL_no hR)⟩
    · exact ⟨E, _, E.1, E.2.1, t, by
      unfold lw_instruct
      rw [show f_X10_instruct E κ a w b c = some (addC κ 1 6, .inr 1) from by rw [f_X10_instruct, guestAt_no q1 hn ha, bx_r]]
      dsimp only
      rw [show f_X11_instruct E (lwS (addC κ 1 6) (.inr 1)) a w b c = some (putM (lwS (addC κ 1 6) (.inr 1)) (mu (kV κ 5 0) 0 0 1), 0) from by rw [ins_pre0 hi, f_X11_instruct_b32, isGuest_f (n := E.1) (by rw [lw_V (by omega)]; exact hG) hn ha, bd_s, if_pos rfl, f_X11_instruct_b90, ref_n (by decide), bd_s, if_neg (by decide), lw_V (by omega)]; rfl]
      dsimp only
      rw [gdp_t (lwS_noX (by decide) rfl)], glueS (REL_no hR)⟩
