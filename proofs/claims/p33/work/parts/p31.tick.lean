/-! how many pages a set holds -/
def popU (T : Nat) : Nat → Nat
  | 0 => 0
  | k + 1 => popU T k + (if T.testBit k then 1 else 0)
def pop (T : Nat) : Nat := popU T 8
theorem popU_le (T : Nat) : ∀ k, popU T k ≤ k
  | 0 => Nat.le_refl _
  | k + 1 => by
    have := popU_le T k
    unfold popU
    split <;> omega
theorem bit_sh : ∀ T, T < 256 → ∀ k, k < 8 → (nI T >>> (nI k &&& 31)) &&& 1 = nI (if T.testBit k then 1 else 0) := by decide +kernel
def bcI (a0 : Int32) : Int32 :=
  let y1 := a0 - (((a0.toUInt32 >>> ((1 : Int32).toUInt32 &&& Int32.toUInt32 31)).toInt32) &&& 1431655765)
  let y2 := (y1 &&& 858993459) + (((y1.toUInt32 >>> ((2 : Int32).toUInt32 &&& Int32.toUInt32 31)).toInt32) &&& 858993459)
  let y3 := (y2 + ((y2.toUInt32 >>> ((4 : Int32).toUInt32 &&& Int32.toUInt32 31)).toInt32)) &&& 252645135
  let y4 := y3 + ((y3.toUInt32 >>> ((8 : Int32).toUInt32 &&& Int32.toUInt32 31)).toInt32)
  let y5 := y4 + ((y4.toUInt32 >>> ((16 : Int32).toUInt32 &&& Int32.toUInt32 31)).toInt32)
  y5 &&& 63
theorem bc_pop : ∀ T, T < 256 → bcI (nI T) = nI (pop T) := by decide +kernel
theorem bitCount_E {E : EE} {κ : K} {T : Nat} (h : T < 256) : f_J6_bitCount_0f7a4 E κ (nI T) = some (κ, nI (pop T)) := by
  rw [← bc_pop T h]
  rfl
theorem bits_E {E : EE} {κ : K} {T : Nat} (h : T < 256) : f_X11_bits E κ (nI T) = some (κ, nI (pop T)) := by
  have loop : ∀ d k m, k + d = 8 → d < m → f_X11_bits_b4 E m κ (nI T) (nI (popU T k)) (nI k) = some (κ, nI (pop T)) := by
    intro d
    induction d with
    | zero =>
      intro k m hk hm
      obtain ⟨m, rfl⟩ : ∃ q, m = q + 1 := ⟨m - 1, by omega⟩
      have e : k = 8 := by omega
      subst e
      rw [f_X11_bits_b4, if_pos (by rw [l8, nI_le' (by omega) (by omega)]; exact Nat.le_refl _)]
      rfl
    | succ d ih =>
      intro k m hk hm
      obtain ⟨m, rfl⟩ : ∃ q, m = q + 1 := ⟨m - 1, by omega⟩
      rw [f_X11_bits_b4, if_neg (by rw [l8, nI_le' (by omega) (by omega)]; omega), bit_sh T h k (by omega), nI_add, nmE, nI_1, nmE]
      exact ih (k + 1) m (by omega) (by omega)
  exact loop 8 0 FU (by omega) (by unfold FU; omega)
theorem moving_E {E : EE} {κ : K} {μ : MU} {g : Nat} (h : SND (kV κ 0 g) μ g) : f_X1_isMoving E κ g = some (κ, μ 30 g) := by
  rw [f_X1_isMoving, f_X1_isMoving_e]
  rcases h with ⟨h1, h2⟩ | ⟨h1, T, h2, h3, _⟩
  · rw [h2, if_pos rfl, bd_s, gd_t (Or.inl rfl), h1]
  · rw [h3, if_neg (by rw [nI_m1 (by omega)]; exact id), bd_s, gd_t (Or.inr rfl), h1]
theorem SND01 {v μ : MU} {g : Nat} (h : SND v μ g) : μ 30 g = 0 ∨ μ 30 g = 1 := h.imp (fun z => z.1) (fun z => z.1)
theorem st_of {E : EE} {κ : K} {n ns t C : Nat} {a b : Int32} (hR : REL E κ (kV κ 5 0) n ns t C) : DONE (lw_of E κ a b) C := by
  have hR0 := hR
  obtain ⟨⟨rfl, rfl, hO, h9⟩, ⟨q1, q2, q3, q4, q5⟩, hM, hQ, hS, hZ, hC⟩ := hR0
  have hn : E.1 ≤ 5 := hM.1.1.1
  have hG : kV κ 5 0 0 26 = nI E.1 := hM.1.1.2.1
  have hH : E.2.2.2.1 = 1 := hO.2.2.2.1
  by_cases ha : vp_in a E.1
  · obtain ⟨g, hg, rfl⟩ := vp_ex (by omega) ha
    rcases rg_cases (b := b) 0 10 (by omega) (by omega) with hb | ⟨s, _, h3, rfl⟩
    · have hne : ∀ k, k ≤ 10 → ¬ b = nI k := fun k hk z => by
        rcases hb with y | y <;> rw [z, nI_lt' (by omega) (by omega)] at y <;> omega
      have hcl : f_X10_of E κ (nI g) b = some (addC κ 1 6, .inr 2) := by
        rw [f_X10_of, guestAt_ok q1 hn hg, bx_s, gd_t (show g < cntE E 0 from hg), if_neg (show ¬ b = (0 : Int32) from hne 0 (by omega)), if_neg (show ¬ b = (1 : Int32) from hne 1 (by omega)), if_neg (show ¬ b = (2 : Int32) from hne 2 (by omega)), if_neg (show ¬ b = (3 : Int32) from hne 3 (by omega)), if_neg (show ¬ b = (4 : Int32) from hne 4 (by omega)), if_neg (show ¬ b = (5 : Int32) from hne 5 (by omega)), if_neg (show ¬ b = (6 : Int32) from hne 6 (by omega)), if_neg (show ¬ b = (7 : Int32) from hne 7 (by omega)), if_neg (show ¬ b = (8 : Int32) from hne 8 (by omega)), if_neg (show ¬ b = (9 : Int32) from hne 9 (by omega)), if_neg (show ¬ b = (10 : Int32) from hne 10 (by omega))]
      exact ⟨E, _, E.1, E.2.1, t, by
      unfold lw_of
      rw [show f_X10_of E κ (nI g) b = some (addC κ 1 6, .inr 2) from by exact hcl]
      dsimp only
      rw [show f_X11_of E (lwS (addC κ 1 6) (.inr 2)) (nI g) b = some (putM (lwS (addC κ 1 6) (.inr 2)) (mu (kV κ 5 0) 0 0 2), 0) from by rw [f_X11_of, isGuest_t (n := E.1) (by rw [lw_V (by omega)]; exact hG) hn hg, bd_s, if_neg (by decide), i32_0, l10, in_f hb, bd_s, if_pos (by decide), f_X11_of_b28, ref_n (by decide), bd_s, if_neg (by decide), lw_V (by omega)]; rfl]
      dsimp only
      rw [gdp_t (lwS_no (by decide) rfl)], glueS (REL_no hR)⟩
    · have hs : s = 0 ∨ s = 1 ∨ s = 2 ∨ s = 3 ∨ s = 4 ∨ s = 5 ∨ s = 6 ∨ s = 7 ∨ s = 8 ∨ s = 9 ∨ s = 10 := by omega
      rcases hs with rfl | rfl | rfl | rfl | rfl | rfl | rfl | rfl | rfl | rfl | rfl
      · have hv : kV κ 0 g 6 8 = kV κ 5 0 1 (55 * g + 49) := (hM.2.2.2.1 g hg).1.2.1.2.2.2.2.2.2.1
        exact ⟨E, _, E.1, E.2.1, t, by
      unfold lw_of
      rw [show f_X10_of E κ (nI g) (nI 0) = some (κ, .inl (kV κ 0 g 6 8)) from by rw [f_X10_of, guestAt_ok q1 hn hg, bx_s, gd_t (show g < cntE E 0 from hg), if_pos (by decide)]]
      dsimp only
      rw [show f_X11_of E (lwS κ (.inl (kV κ 0 g 6 8))) (nI g) (nI 0) = some (putM (lwS κ (.inl (kV κ 0 g 6 8))) (mu (kV κ 5 0) 0 0 0), kV κ 5 0 1 (55 * g + 49)) from by rw [f_X11_of, isGuest_t (n := E.1) (by rw [lw_V (by omega)]; exact hG) hn hg, bd_s, if_neg (by decide), in_t (by decide) (by decide), bd_s, if_neg (by decide), f_X11_of_b28, ref_0, bd_s, if_pos rfl, nmE, if_pos (by decide), l55, nI_mul, l49, nI_add, nI_cl (by omega), gdi (by omega), put_kV, thr_c (by omega), lw_V (by omega)]]
      dsimp only
      rw [gdp_t (lwS_ok (muS ⟨rfl, rfl⟩) (hv))], glueS (REL_ok hR)⟩
      · obtain ⟨h, hh, hP, h15⟩ := (hM.2.2.2.1 g hg).2.1.1
        have hv : kV κ 2 h 0 0 = kV κ 5 0 15 g := by rw [h15]; exact (hM.2.2.1 h hh).2.1
        exact ⟨E, _, E.1, E.2.1, t, by
      unfold lw_of
      rw [show f_X10_of E κ (nI g) (nI 1) = some (κ, .inl (kV κ 2 h 0 0)) from by rw [f_X10_of, guestAt_ok q1 hn hg, bx_s, gd_t (show g < cntE E 0 from hg), if_neg (by decide), if_pos (by decide), hP, optG_s (host_lt hH hh)]]
      dsimp only
      rw [show f_X11_of E (lwS κ (.inl (kV κ 2 h 0 0))) (nI g) (nI 1) = some (putM (lwS κ (.inl (kV κ 2 h 0 0))) (mu (kV κ 5 0) 0 0 0), kV κ 5 0 15 g) from by rw [f_X11_of, isGuest_t (n := E.1) (by rw [lw_V (by omega)]; exact hG) hn hg, bd_s, if_neg (by decide), in_t (by decide) (by decide), bd_s, if_neg (by decide), f_X11_of_b28, ref_0, bd_s, if_pos rfl, nmE, if_neg (by decide), if_pos (by decide), nI_cl (by omega), gdi (by omega), put_kV, thr_c (by omega), lw_V (by omega)]]
      dsimp only
      rw [gdp_t (lwS_ok (muS ⟨rfl, rfl⟩) (hv))], glueS (REL_ok hR)⟩
      · have hv : kV κ 0 g 6 3 = kV κ 5 0 1 (55 * g + 4) := (hM.2.2.2.1 g hg).1.2.1.2.1
        exact ⟨E, _, E.1, E.2.1, t, by
      unfold lw_of
      rw [show f_X10_of E κ (nI g) (nI 2) = some (κ, .inl (kV κ 0 g 6 3)) from by rw [f_X10_of, guestAt_ok q1 hn hg, bx_s, gd_t (show g < cntE E 0 from hg), if_neg (by decide), if_neg (by decide), if_pos (by decide)]]
      dsimp only
      rw [show f_X11_of E (lwS κ (.inl (kV κ 0 g 6 3))) (nI g) (nI 2) = some (putM (lwS κ (.inl (kV κ 0 g 6 3))) (mu (kV κ 5 0) 0 0 0), kV κ 5 0 1 (55 * g + 4)) from by rw [f_X11_of, isGuest_t (n := E.1) (by rw [lw_V (by omega)]; exact hG) hn hg, bd_s, if_neg (by decide), in_t (by decide) (by decide), bd_s, if_neg (by decide), f_X11_of_b28, ref_0, bd_s, if_pos rfl, nmE, if_neg (by decide), if_neg (by decide), if_pos (by decide), l55, nI_mul, l4, nI_add, nI_cl (by omega), gdi (by omega), put_kV, thr_c (by omega), lw_V (by omega)]]
      dsimp only
      rw [gdp_t (lwS_ok (muS ⟨rfl, rfl⟩) (hv))], glueS (REL_ok hR)⟩
      · have hv : kV κ 0 g 6 6 = kV κ 5 0 1 (55 * g + 7) := (hM.2.2.2.1 g hg).1.2.1.2.2.2.2.1
        exact ⟨E, _, E.1, E.2.1, t, by
      unfold lw_of
      rw [show f_X10_of E κ (nI g) (nI 3) = some (κ, .inl (kV κ 0 g 6 6)) from by rw [f_X10_of, guestAt_ok q1 hn hg, bx_s, gd_t (show g < cntE E 0 from hg), if_neg (by decide), if_neg (by decide), if_neg (by decide), if_pos (by decide)]]
      dsimp only
      rw [show f_X11_of E (lwS κ (.inl (kV κ 0 g 6 6))) (nI g) (nI 3) = some (putM (lwS κ (.inl (kV κ 0 g 6 6))) (mu (kV κ 5 0) 0 0 0), kV κ 5 0 1 (55 * g + 7)) from by rw [f_X11_of, isGuest_t (n := E.1) (by rw [lw_V (by omega)]; exact hG) hn hg, bd_s, if_neg (by decide), in_t (by decide) (by decide), bd_s, if_neg (by decide), f_X11_of_b28, ref_0, bd_s, if_pos rfl, nmE, if_neg (by decide), if_neg (by decide), if_neg (by decide), if_pos (by decide), l55, nI_mul, l7, nI_add, nI_cl (by omega), gdi (by omega), put_kV, thr_c (by omega), lw_V (by omega)]]
      dsimp only
      rw [gdp_t (lwS_ok (muS ⟨rfl, rfl⟩) (hv))], glueS (REL_ok hR)⟩
      · have hm : kV κ 0 g 6 7 = kV κ 5 0 1 (55 * g + 8) := (hM.2.2.2.1 g hg).1.2.1.2.2.2.2.2.1
        have hb := bit01 (k := 8) (hM.1.1.2.2.1 g hg).1 (by omega)
        have hv : (if kV κ 5 0 1 (55 * g + 8) = 0 then (0 : Int32) else 1) = kV κ 5 0 1 (55 * g + 8) := by rcases hb with z | z <;> rw [z] <;> rfl
        exact ⟨E, _, E.1, E.2.1, t, by
      unfold lw_of
      rw [show f_X10_of E κ (nI g) (nI 4) = some (κ, .inl (if kV κ 5 0 1 (55 * g + 8) = 0 then (0 : Int32) else 1)) from by (have z : f_X10_of E κ (nI g) (nI 4) = if kV κ 0 g 6 7 = 0 then some (κ, .inl 0) else some (κ, .inl 1) := by rw [f_X10_of, guestAt_ok q1 hn hg, bx_s, gd_t (show g < cntE E 0 from hg), if_neg (by decide), if_neg (by decide), if_neg (by decide), if_neg (by decide), if_pos (by decide)]); rw [z, hm]; split <;> rfl]
      dsimp only
      rw [show f_X11_of E (lwS κ (.inl (if kV κ 5 0 1 (55 * g + 8) = 0 then (0 : Int32) else 1))) (nI g) (nI 4) = some (putM (lwS κ (.inl (if kV κ 5 0 1 (55 * g + 8) = 0 then (0 : Int32) else 1))) (mu (kV κ 5 0) 0 0 0), kV κ 5 0 1 (55 * g + 8)) from by rw [f_X11_of, isGuest_t (n := E.1) (by rw [lw_V (by omega)]; exact hG) hn hg, bd_s, if_neg (by decide), in_t (by decide) (by decide), bd_s, if_neg (by decide), f_X11_of_b28, ref_0, bd_s, if_pos rfl, nmE, if_neg (by decide), if_neg (by decide), if_neg (by decide), if_neg (by decide), if_pos (by decide), l55, nI_mul, l8, nI_add, nI_cl (by omega), gdi (by omega), put_kV, thr_c (by omega), lw_V (by omega)]]
      dsimp only
      rw [gdp_t (lwS_ok (muS ⟨rfl, rfl⟩) (hv))], glueS (REL_ok hR)⟩
      · have hv : kV κ 0 g 5 9 = clockM (kV κ 5 0) g := (hM.2.2.2.1 g hg).1.1.2.2.2.2.2.1.2.2.2
        exact ⟨E, _, E.1, E.2.1, t, by
      unfold lw_of
      rw [show f_X10_of E κ (nI g) (nI 5) = some (κ, .inl (kV κ 0 g 5 9)) from by rw [f_X10_of, guestAt_ok q1 hn hg, bx_s, gd_t (show g < cntE E 0 from hg), if_neg (by decide), if_neg (by decide), if_neg (by decide), if_neg (by decide), if_neg (by decide), if_pos (by decide)]]
      dsimp only
      rw [show f_X11_of E (lwS κ (.inl (kV κ 0 g 5 9))) (nI g) (nI 5) = some (putM (lwS κ (.inl (kV κ 0 g 5 9))) (mu (kV κ 5 0) 0 0 0), clockM (kV κ 5 0) g) from by rw [f_X11_of, isGuest_t (n := E.1) (by rw [lw_V (by omega)]; exact hG) hn hg, bd_s, if_neg (by decide), in_t (by decide) (by decide), bd_s, if_neg (by decide), f_X11_of_b28, ref_0, bd_s, if_pos rfl, nmE, if_neg (by decide), if_neg (by decide), if_neg (by decide), if_neg (by decide), if_neg (by decide), if_pos (by decide), m_clock (by omega), bd_s, put_kV, clock_e (μ := kV κ 5 0) (by rw [muD (by omega), lw_V (by omega)]) (by rw [muD (by omega), lw_V (by omega)]) (by rw [muD (by omega), lw_V (by omega)]) (by rw [muD (by omega), lw_V (by omega)]), lw_V (by omega)]]
      dsimp only
      rw [gdp_t (lwS_ok (muS ⟨rfl, rfl⟩) (hv))], glueS (REL_ok hR)⟩
      · have hv : kV κ 0 g 0 11 = kV κ 5 0 23 g := (hM.2.2.2.1 g hg).1.1.1.2.2.2.2.1
        exact ⟨E, _, E.1, E.2.1, t, by
      unfold lw_of
      rw [show f_X10_of E κ (nI g) (nI 6) = some (κ, .inl (kV κ 0 g 0 11)) from by rw [f_X10_of, guestAt_ok q1 hn hg, bx_s, gd_t (show g < cntE E 0 from hg), if_neg (by decide), if_neg (by decide), if_neg (by decide), if_neg (by decide), if_neg (by decide), if_neg (by decide), if_pos (by decide)]]
      dsimp only
      rw [show f_X11_of E (lwS κ (.inl (kV κ 0 g 0 11))) (nI g) (nI 6) = some (putM (lwS κ (.inl (kV κ 0 g 0 11))) (mu (kV κ 5 0) 0 0 0), kV κ 5 0 23 g) from by rw [f_X11_of, isGuest_t (n := E.1) (by rw [lw_V (by omega)]; exact hG) hn hg, bd_s, if_neg (by decide), in_t (by decide) (by decide), bd_s, if_neg (by decide), f_X11_of_b28, ref_0, bd_s, if_pos rfl, nmE, if_neg (by decide), if_neg (by decide), if_neg (by decide), if_neg (by decide), if_neg (by decide), if_neg (by decide), if_pos (by decide), nI_cl (by omega), gdi (by omega), put_kV, thr_c (by omega), lw_V (by omega)]]
      dsimp only
      rw [gdp_t (lwS_ok (muS ⟨rfl, rfl⟩) (hv))], glueS (REL_ok hR)⟩
      · have hv : kV κ 0 g 0 12 = kV κ 5 0 24 g := (hM.2.2.2.1 g hg).1.2.2.1
        exact ⟨E, _, E.1, E.2.1, t, by
      unfold lw_of
      rw [show f_X10_of E κ (nI g) (nI 7) = some (κ, .inl (kV κ 0 g 0 12)) from by rw [f_X10_of, guestAt_ok q1 hn hg, bx_s, gd_t (show g < cntE E 0 from hg), if_neg (by decide), if_neg (by decide), if_neg (by decide), if_neg (by decide), if_neg (by decide), if_neg (by decide), if_neg (by decide), if_pos (by decide)]]
      dsimp only
      rw [show f_X11_of E (lwS κ (.inl (kV κ 0 g 0 12))) (nI g) (nI 7) = some (putM (lwS κ (.inl (kV κ 0 g 0 12))) (mu (kV κ 5 0) 0 0 0), kV κ 5 0 24 g) from by rw [f_X11_of, isGuest_t (n := E.1) (by rw [lw_V (by omega)]; exact hG) hn hg, bd_s, if_neg (by decide), in_t (by decide) (by decide), bd_s, if_neg (by decide), f_X11_of_b28, ref_0, bd_s, if_pos rfl, nmE, if_neg (by decide), if_neg (by decide), if_neg (by decide), if_neg (by decide), if_neg (by decide), if_neg (by decide), if_neg (by decide), if_pos (by decide), nI_cl (by omega), gdi (by omega), put_kV, thr_c (by omega), lw_V (by omega)]]
      dsimp only
      rw [gdp_t (lwS_ok (muS ⟨rfl, rfl⟩) (hv))], glueS (REL_ok hR)⟩
      · have hv : kV κ 0 g 10 1 = kV κ 5 0 1 (55 * g + 54) := by
          obtain ⟨m, _, e1, e2, _⟩ := (hM.2.2.2.1 g hg).1.1.2.2.2.2.2.2.1
          rw [e1, e2]
        exact ⟨E, _, E.1, E.2.1, t, by
      unfold lw_of
      rw [show f_X10_of E κ (nI g) (nI 8) = some (κ, .inl (kV κ 0 g 10 1)) from by rw [f_X10_of, guestAt_ok q1 hn hg, bx_s, gd_t (show g < cntE E 0 from hg), if_neg (by decide), if_neg (by decide), if_neg (by decide), if_neg (by decide), if_neg (by decide), if_neg (by decide), if_neg (by decide), if_neg (by decide), if_pos (by decide)]]
      dsimp only
      rw [show f_X11_of E (lwS κ (.inl (kV κ 0 g 10 1))) (nI g) (nI 8) = some (putM (lwS κ (.inl (kV κ 0 g 10 1))) (mu (kV κ 5 0) 0 0 0), kV κ 5 0 1 (55 * g + 54)) from by rw [f_X11_of, isGuest_t (n := E.1) (by rw [lw_V (by omega)]; exact hG) hn hg, bd_s, if_neg (by decide), in_t (by decide) (by decide), bd_s, if_neg (by decide), f_X11_of_b28, ref_0, bd_s, if_pos rfl, nmE, if_neg (by decide), if_neg (by decide), if_neg (by decide), if_neg (by decide), if_neg (by decide), if_neg (by decide), if_neg (by decide), if_neg (by decide), if_pos (by decide), l55, nI_mul, l54, nI_add, nI_cl (by omega), gdi (by omega), put_kV, thr_c (by omega), lw_V (by omega)]]
      dsimp only
      rw [gdp_t (lwS_ok (muS ⟨rfl, rfl⟩) (hv))], glueS (REL_ok hR)⟩
      · have hS9 := (hM.2.2.2.1 g hg).1.1.2.2.2.1
        rcases id hS9 with ⟨h1, h2⟩ | ⟨h1, T, h2, h3, h4⟩
        · exact ⟨E, _, E.1, E.2.1, t, by
      unfold lw_of
      rw [show f_X10_of E κ (nI g) (nI 9) = some (κ, .inl ((-1 : Int32))) from by rw [f_X10_of, guestAt_ok q1 hn hg, bx_s, gd_t (show g < cntE E 0 from hg), if_neg (by decide), if_neg (by decide), if_neg (by decide), if_neg (by decide), if_neg (by decide), if_neg (by decide), if_neg (by decide), if_neg (by decide), if_neg (by decide), if_pos (by decide), moving_E hS9, bd_s, if_pos h1]]
      dsimp only
      rw [show f_X11_of E (lwS κ (.inl ((-1 : Int32)))) (nI g) (nI 9) = some (putM (lwS κ (.inl ((-1 : Int32)))) (mu (kV κ 5 0) 0 0 0), (-1 : Int32)) from by rw [f_X11_of, isGuest_t (n := E.1) (by rw [lw_V (by omega)]; exact hG) hn hg, bd_s, if_neg (by decide), in_t (by decide) (by decide), bd_s, if_neg (by decide), f_X11_of_b28, ref_0, bd_s, if_pos rfl, nmE, if_neg (by decide), if_neg (by decide), if_neg (by decide), if_neg (by decide), if_neg (by decide), if_neg (by decide), if_neg (by decide), if_neg (by decide), if_neg (by decide), if_pos (by decide), nI_cl (by omega), gdi (by omega), put_kV, thr_c (by omega), lw_V (by omega), if_pos h1]]
      dsimp only
      rw [gdp_t (lwS_ok (muS ⟨rfl, rfl⟩) (rfl))], glueS (REL_ok hR)⟩
        · exact ⟨E, _, E.1, E.2.1, t, by
      unfold lw_of
      rw [show f_X10_of E κ (nI g) (nI 9) = some (κ, .inl (nI (pop T))) from by rw [f_X10_of, guestAt_ok q1 hn hg, bx_s, gd_t (show g < cntE E 0 from hg), if_neg (by decide), if_neg (by decide), if_neg (by decide), if_neg (by decide), if_neg (by decide), if_neg (by decide), if_neg (by decide), if_neg (by decide), if_neg (by decide), if_pos (by decide), moving_E hS9, bd_s, if_neg (by rw [h1]; decide), h3, bitCount_E h2, bd_s]]
      dsimp only
      rw [show f_X11_of E (lwS κ (.inl (nI (pop T)))) (nI g) (nI 9) = some (putM (lwS κ (.inl (nI (pop T)))) (mu (kV κ 5 0) 0 0 0), nI (pop T)) from by rw [f_X11_of, isGuest_t (n := E.1) (by rw [lw_V (by omega)]; exact hG) hn hg, bd_s, if_neg (by decide), in_t (by decide) (by decide), bd_s, if_neg (by decide), f_X11_of_b28, ref_0, bd_s, if_pos rfl, nmE, if_neg (by decide), if_neg (by decide), if_neg (by decide), if_neg (by decide), if_neg (by decide), if_neg (by decide), if_neg (by decide), if_neg (by decide), if_neg (by decide), if_pos (by decide), nI_cl (by omega), gdi (by omega), put_kV, thr_c (by omega), lw_V (by omega), if_neg (by rw [h1]; decide), gdi (by omega), thr_c (by omega), h4, bits_E h2, bd_s]]
      dsimp only
      rw [gdp_t (lwS_ok (muS ⟨rfl, rfl⟩) (rfl))], glueS (REL_ok hR)⟩
      · have hv : kV κ 0 g 0 13 = kV κ 5 0 32 g := (hM.2.2.2.1 g hg).1.1.1.2.2.2.2.2.1
        exact ⟨E, _, E.1, E.2.1, t, by
      unfold lw_of
      rw [show f_X10_of E κ (nI g) (nI 10) = some (κ, .inl (kV κ 0 g 0 13)) from by rw [f_X10_of, guestAt_ok q1 hn hg, bx_s, gd_t (show g < cntE E 0 from hg), if_neg (by decide), if_neg (by decide), if_neg (by decide), if_neg (by decide), if_neg (by decide), if_neg (by decide), if_neg (by decide), if_neg (by decide), if_neg (by decide), if_neg (by decide), if_pos (by decide)]]
      dsimp only
      rw [show f_X11_of E (lwS κ (.inl (kV κ 0 g 0 13))) (nI g) (nI 10) = some (putM (lwS κ (.inl (kV κ 0 g 0 13))) (mu (kV κ 5 0) 0 0 0), kV κ 5 0 32 g) from by rw [f_X11_of, isGuest_t (n := E.1) (by rw [lw_V (by omega)]; exact hG) hn hg, bd_s, if_neg (by decide), in_t (by decide) (by decide), bd_s, if_neg (by decide), f_X11_of_b28, ref_0, bd_s, if_pos rfl, nmE, if_neg (by decide), if_neg (by decide), if_neg (by decide), if_neg (by decide), if_neg (by decide), if_neg (by decide), if_neg (by decide), if_neg (by decide), if_neg (by decide), if_neg (by decide), nI_cl (by omega), gdi (by omega), put_kV, thr_c (by omega), lw_V (by omega)]]
      dsimp only
      rw [gdp_t (lwS_ok (muS ⟨rfl, rfl⟩) (hv))], glueS (REL_ok hR)⟩
  · exact ⟨E, _, E.1, E.2.1, t, by
      unfold lw_of
      rw [show f_X10_of E κ a b = some (addC κ 1 6, .inr 1) from by rw [f_X10_of, guestAt_no q1 hn ha, bx_r]]
      dsimp only
      rw [show f_X11_of E (lwS (addC κ 1 6) (.inr 1)) a b = some (putM (lwS (addC κ 1 6) (.inr 1)) (mu (kV κ 5 0) 0 0 1), 0) from by rw [f_X11_of, isGuest_f (n := E.1) (by rw [lw_V (by omega)]; exact hG) hn ha, bd_s, if_pos rfl, f_X11_of_b28, ref_n (by decide), bd_s, if_neg (by decide), lw_V (by omega)]; rfl]
      dsimp only
      rw [gdp_t (lwS_no (by decide) rfl)], glueS (REL_no hR)⟩
/-! ticks -/
theorem ZER_turn {E : EE} {κ : K} {μ : MU} {n ns h g t Bg : Nat} (hE : E.1 = n) (hH : E.2.2.2.1 = 1) (hh : h < 2) (hg : g < n) (hM : MID κ μ n ns (fun _ => t + 1)) (htk : kV κ 2 h 0 5 = μ 0 41 + 1) (ht : μ 0 41 = nI t) (ht3 : t < 3000) (hc : canM μ g (nI h) = true) (hS : SAY μ g Bg) (hB : Bg ≤ t) (hZ : ZER μ n) : ZER (runM μ n g h) n := by
  obtain ⟨hTJ, hF, hHO, hGG, hSN⟩ := hM
  have hn : n ≤ 5 := hTJ.1.1
  obtain ⟨r1, r2, r3, _⟩ := hTJ.1.2.2.1 g hg
  have rQ := hTJ.2.1 g hg
  unfold canM at hc
  rw [Bool.and_eq_true, Bool.and_eq_true] at hc
  have c15 : μ 15 g = nI h := of_decide_eq_true hc.1.1
  have c49 : μ 1 (55 * g + 49) = 0 := of_decide_eq_true hc.1.2
  obtain ⟨gR, gP, gF⟩ := hGG g hg
  have hP8 : kP κ 0 g 0 8 = some h := by
    obtain ⟨h', z1, z2, z3⟩ := gP.1
    rw [c15, nI_eq' (by omega) (by omega)] at z3
    rw [z2, z3]
  obtain ⟨a0, b0, r, s1, s2, s3, s4, s5⟩ := hS
  obtain ⟨κ', q1, q2, q3, q4, q5, q6, q7, q8, q9, q10, q11⟩ := t_run (E := E) (s := ns) hn hg hh (host_lt hH hh) hP8 c15 r1 rQ r2 htk ht ht3 c49 gR (hHO h hh).1 hF s1 (by omega) s2 (by omega) (fun x hx hx2 => by rw [s3, nI_eq' (by omega) hx2] at hx; omega)
  exact ZER_own hZ q6 hg
theorem ZER_host {E : EE} {κ : K} {μ : MU} {n ns h t : Nat} {B : Nat → Nat} (hE : E.1 = n) (hH : E.2.2.2.1 = 1) (hh : h < 2) (hL : LsI E κ 1 n) (hM : MID κ μ n ns (fun _ => t + 1)) (ht : μ 0 41 = nI t) (ht3 : t < 3000) (htc : kV κ 4 0 0 3 = nI t) (hS : ∀ g, g < n → SAY μ g (B g)) (hB : ∀ g, g < n → μ 15 g = nI h → B g ≤ t) (hZ : ZER μ n) : ZER (hostM μ n h) n := by
  have hO := hM.2.2.1 h hh
  unfold hostM
  by_cases h0 : μ 38 h = 0
  · rw [if_pos h0]
    obtain ⟨κ1, o, p1, p2, p3, p4⟩ := t_choose hE hH hh hL hM
    rcases p2 with ⟨rfl, e2⟩ | ⟨g, hg, rfl, e2⟩
    · rw [if_pos e2]
      exact ZER_e hZ (fun c _ b _ _ => chM_row (by omega))
    · have hn := hM.1.1.1
      have hcan : canM μ g (nI h) = true := by
        rcases chM_2 (h := h) hM.1.1 hh with w | ⟨g', w1, w2, w3⟩
        · rw [e2, nI_m1 (by omega)] at w; exact w.elim
        · rw [e2, nI_eq' (by omega) (by omega)] at w2
          rw [w2]; exact w3
      rw [if_neg (by rw [e2, nI_m1 (by omega)]; exact id), e2, nI_cl (by omega)]
      have e4 : kV κ1 4 0 0 3 = nI t := by rw [p4.1 4 (by omega) (by omega)]; exact htc
      have eV : ∀ f, f ≠ 2 → kV (setV κ1 2 h 0 5 (nI (t + 1))) f = kV κ1 f := fun f hf => by
        funext i c k
        exact vD (by omega)
      have hM2 : MID (setV κ1 2 h 0 5 (nI (t + 1))) (chM μ n h).1 n ns (fun _ => t + 1) := by
        refine MID_2 p3 eV rfl (fun _ _ => rfl) p3.1 (fun h2 hh2 => ?_) (fun _ _ => rfl)
        refine HO_v (p3.2.2.1 h2 hh2) (Nat.le_refl _) ?_ (fun k hk => vD (by omega)) rfl (fun _ _ _ => rfl)
        refine RH_wrow (p3.2.2.1 h2 hh2).1 ?_ ?_ ?_ <;> (funext k; exact vD (by omega))
      have F2 : HFR n ns 0 0 κ1 (setV κ1 2 h 0 5 (nI (t + 1))) := ⟨fun f _ b => eV f b, rfl, rfl, fun _ _ => rfl, PAID_same rfl rfl⟩
      obtain ⟨κ3, q1, q2, q3, q4⟩ := t_steal hE hH hh hg (LsI_h hL (p4.tr F2)) hM2
      have rw1 : ∀ c, c ≠ 23 → c ≠ 39 → c ≠ 40 → (stlU (chM μ n h).1 (nI h) g n) c = μ c := fun c a b d => by rw [stlU_row a, chM_row ⟨b, d⟩]
      have e41 : (stlU (chM μ n h).1 (nI h) g n) 0 41 = nI t := by rw [rw1 0 (by omega) (by omega) (by omega)]; exact ht
      have c15 : μ 15 g = nI h := by
        unfold canM at hcan
        rw [Bool.and_eq_true, Bool.and_eq_true] at hcan
        exact of_decide_eq_true hcan.1.1
      refine ZER_turn (E := E) hE hH hh hg q2 (by rw [q4, e41, nI_1]; exact vS ⟨rfl, rfl, rfl, rfl⟩) e41 ht3 (by rw [can_row (rw1 1 (by omega) (by omega) (by omega)) (rw1 15 (by omega) (by omega) (by omega)) (rw1 18 (by omega) (by omega) (by omega))]; exact hcan) (SAY_row (hS g hg) (rw1 24 (by omega) (by omega) (by omega)) (rw1 35 (by omega) (by omega) (by omega)) (rw1 37 (by omega) (by omega) (by omega))) (hB g hg c15) ?_
      have hz : ∀ i, i ≤ n → ZER (stlU (chM μ n h).1 (nI h) g i) n := by
        intro i
        induction i with
        | zero => exact fun _ => ZER_e hZ (fun c _ b _ _ => chM_row (by omega))
        | succ i ih =>
          intro hi
          rw [stl_step]
          exact ZER_own (ih (by omega)) (OWN_g (g := i) (by omega) (by omega) rfl) (by omega)
      exact hz n (Nat.le_refl _)
  · rw [if_neg h0]
    exact hZ
theorem ZER_tick {E : EE} {κ : K} {μ : MU} {n ns t : Nat} (hE : E.1 = n) (hH : E.2.2.2.1 = 1) (hL : LsI E κ 1 n) (hM : MID κ μ n ns (fun _ => t)) (ht : μ 0 41 = nI t) (ht3 : t < 3000) (htc : kV κ 4 0 0 3 = nI t) (hS : ∀ g, g < n → SAY μ g t) (hZ : ZER μ n) : ZER (tkM μ n) n := by
  obtain ⟨κ1, a1, a2, a3⟩ := t_down hE hL hM ht ht3
  have w1 : ∀ c, c ≠ 1 → (wkU μ n) c = μ c := fun c hc => wkU_row hc n
  have hS1 : ∀ g, g < n → SAY (wkU μ n) g t := fun g hg => SAY_row (hS g hg) (w1 24 (by omega)) (w1 35 (by omega)) (w1 37 (by omega))
  have htc1 : kV κ1 4 0 0 3 = nI t := by rw [a3.1 4 (by omega) (by omega)]; exact htc
  have hz : ∀ i, i ≤ n → ZER (wkU μ i) n := by
    intro i
    induction i with
    | zero => exact fun _ => hZ
    | succ i ih => exact fun hi => ZER_own (ih (by omega)) OWN_wk (by omega)
  obtain ⟨κ2, b1, b2, b3⟩ := t_host (h := 0) (B := fun _ => t) hE hH (by omega) (LsI_h hL a3) a2 (by rw [w1 0 (by omega)]; exact ht) ht3 htc1 hS1 (fun _ _ _ => Nat.le_refl _)
  have z2 := ZER_host (h := 0) (B := fun _ => t) hE hH (by omega) (LsI_h hL a3) a2 (by rw [w1 0 (by omega)]; exact ht) ht3 htc1 hS1 (fun _ _ _ => Nat.le_refl _) (hz n (Nat.le_refl _))
  have hT0 := TJ_host (h := 0) (B := fun _ => t) a2.1 (by omega) hS1
  have htc2 : kV κ2 4 0 0 3 = nI t := by rw [b3.1 4 (by omega) (by omega)]; exact htc1
  have z3 := ZER_host (h := 1) (B := fun g => if (wkU μ n) 15 g = nI 0 then t + 1 else t) hE hH (by omega) (LsI_h (LsI_h hL a3) b3) b2 (by rw [hT0.2.1, w1 0 (by omega)]; exact ht) ht3 htc2 hT0.2.2.2.2 (fun g hg z => by
    rw [hT0.2.2.1] at z
    rw [z, if_neg (by decide)]
    exact Nat.le_refl _) z2
  unfold tkM
  exact ZER_e z3 (fun c a _ _ _ => mu_row a)
theorem MNY_host {μ : MU} {n h g : Nat} (hT : TJ μ n) (hh : h < 2) (hg : g < n) : MNY μ (hostM μ n h) g := by
  unfold hostM
  split
  · split
    · exact MNY_e (by rw [chM_row (by omega)])
    · rename_i hne
      obtain ⟨g0, hg0, e2, _⟩ := (chM_2 (h := h) hT.1 hh).resolve_left hne
      have hn := hT.1.1
      rw [e2, nI_cl (by omega)]
      have h1 : TJ (stlU (chM μ n h).1 (nI h) g0 n) n := TJ.row (TJ_ch hT hh) (fun c hc => stlU_row (by omega) n)
      obtain ⟨a1, a2, a3, _⟩ := h1.1.2.2.1 g0 hg0
      have base : MNY μ (stlU (chM μ n h).1 (nI h) g0 n) g := MNY_e (by rw [stlU_row (by omega), chM_row (by omega)])
      refine base.trans ?_
      by_cases e : g = g0
      · subst e; exact MNY_run a1 a2
      · refine MNY_e ?_
        rw [(s_run (n := n) (h := h) a1 (h1.2.1 g0 hg0) a2 h1.2.2).2.2.1 g 54 e (by omega), mu_row (by omega)]
  · exact MNY_e rfl
theorem wkU_54 {μ : MU} {g : Nat} : ∀ i, (wkU μ i) 1 (55 * g + 54) = μ 1 (55 * g + 54)
  | 0 => rfl
  | i + 1 => by
    show (wkM (wkU μ i) i) 1 (55 * g + 54) = _
    rw [wkM_n (by omega), wkU_54 i]
theorem tk_rows {μ : MU} {n t : Nat} (hT : TJ μ n) (hS : ∀ g, g < n → SAY μ g t) : (∀ c, c ≠ 0 → c ≠ 1 ∧ c ≠ 2 ∧ c ≠ 23 ∧ c ≠ 24 ∧ c ≠ 25 ∧ c ≠ 27 ∧ c ≠ 28 ∧ c ≠ 29 ∧ c ≠ 31 ∧ c < 34 → (tkM μ n) c = μ c) ∧ (∀ k, k ≠ 41 → (tkM μ n) 0 k = μ 0 k) ∧ ∀ g, g < n → MNY μ (tkM μ n) g := by
  have T0 := TJ_wkU hT n (Nat.le_refl _)
  have w1 : ∀ c, c ≠ 1 → (wkU μ n) c = μ c := fun c hc => wkU_row hc n
  have hS1 : ∀ g, g < n → SAY (wkU μ n) g t := fun g hg => SAY_row (hS g hg) (w1 24 (by omega)) (w1 35 (by omega)) (w1 37 (by omega))
  have T1 := TJ_host (h := 0) (B := fun _ => t) T0 (by omega) hS1
  have T2 := TJ_host (h := 1) (B := fun g => if (wkU μ n) 15 g = nI 0 then t + 1 else t) T1.1 (by omega) T1.2.2.2.2
  refine ⟨fun c c0 hc => ?_, fun k hk => ?_, fun g hg => ?_⟩
  · unfold tkM
    rw [mu_row c0, host_row T1.1 (by omega) hc, host_row T0 (by omega) hc, w1 c hc.1]
  · unfold tkM
    rw [muD (by omega), T2.2.1, T1.2.1, w1 0 (by omega)]
  · refine MNY.trans (μ1 := hostM (hostM (wkU μ n) n 0) n 1) ?_ (MNY_e (by unfold tkM; rw [mu_row (by omega)]))
    exact ((MNY_e (wkU_54 n)).trans (MNY_host T0 (by omega) hg)).trans (MNY_host T1.1 (by omega) hg)
theorem REL_tick {E : EE} {κ : K} {μ : MU} {n ns t C m : Nat} {x1 x2 : Int32} (hR : REL E κ μ n ns t C) (ht3 : t < 3000) (hx : ¬ x1 ≤ x2) : ∃ κ', f_X10_tick_b45 E (m + 1) κ x1 x2 = f_X10_tick_b45 E m κ' x1 (x2 + 1) ∧ REL E κ' (tkM μ n) n ns (t + 1) C ∧ kV κ' 5 = kV κ 5 ∧ ∀ κ2 : K, kV κ2 5 0 = μ → f_X11_tickOnce E κ2 = some (putM κ2 (tkM μ n), ()) := by
  obtain ⟨⟨rfl, rfl, hO, h9⟩, ⟨q1, q2, q3, q4, q5⟩, hM, hQ, hS, hZ, hC⟩ := hR
  have hH : E.2.2.2.1 = 1 := hO.2.2.2.1
  obtain ⟨κ', a1, a2, a3, a4⟩ := t_tick1 (m := m) rfl hH q1 hM q4 ht3 q3 (fun g hg => (hQ g hg).2.1) (fun g hg => (hQ g hg).1) hx
  have ht := fun (κ2 : K) (h5 : kV κ2 5 0 = μ) => m_tickOnce (E := E) (κ := κ2) (n := E.1) (t := t) (by rw [h5]; exact hM.1) (fun g hg => by rw [h5]; exact (hQ g hg).1) (by rw [h5]; exact q4) ht3
  obtain ⟨_, b2, b3, b4⟩ := ht (putM κ μ) put_kV
  rw [put_kV] at b3
  obtain ⟨w1, w2, w3⟩ := tk_rows hM.1 (fun g hg => (hQ g hg).1)
  refine ⟨κ', a1, ⟨⟨rfl, rfl, hO, h9.1, fun i hi => by rw [a4.2.2.1 3 (Or.inl rfl)]; exact h9.2 i hi⟩, ⟨LsI_v q1 (a4.2.1 1 2 (by omega)) (by rw [a4.2.2.1 4 (Or.inr rfl)]), LsI_v q2 (a4.2.1 2 2 (by omega)) (by rw [a4.2.2.1 4 (Or.inr rfl)]), a3, b3, by omega⟩, a2, fun g hg => ⟨?_, ?_, ?_⟩, ⟨by rw [w2 11 (by omega)]; exact hS.1, hS.2.1, by rw [w1 7 (by omega) (by omega)]; exact hS.2.2⟩, ZER_tick rfl hH q1 hM q4 ht3 q3 (fun g hg => (hQ g hg).1) hZ, ?_⟩, a4.1 5 (by omega) (by omega) (by omega), fun κ2 h5 => ?_⟩
  · have := b4 g hg
    rw [put_kV] at this
    exact this
  · obtain ⟨m1, sc, s, c1, c2, c3⟩ := (hQ g hg).2.1
    exact CLK_e (μ := μ) ⟨m1, sc, s, c1, by omega, c3⟩ (w1 22 (by omega) (by omega)) (w1 20 (by omega) (by omega)) (w1 21 (by omega) (by omega))
  · obtain ⟨⟨m1, b1, b2⟩, b3, b6⟩ := (hQ g hg).2.2
    obtain ⟨mm, z1, z2⟩ := (hM.1.1.2.2.1 g hg).1.many
    have hle : mm ≤ m1 := by
      by_cases hlt : m1 < 2147483648
      · rw [z1, nI_eq' (by omega) hlt] at b1; omega
      · omega
    obtain ⟨m', y1, y2⟩ := w3 g hg mm z2 z1
    refine ⟨⟨m', y2, by omega⟩, ?_, ?_⟩
    · rw [w1 6 (by omega) (by omega), w1 33 (by omega) (by omega), w1 3 (by omega) (by omega), w1 5 (by omega) (by omega)]; exact b3
    · rw [w1 18 (by omega) (by omega)]; exact b6
  · have hp := a4.2.2.2
    unfold COST PAID at *
    omega
  · have := (ht κ2 h5).1
    rw [h5] at this
    exact this
theorem EXT_tk {E E' : EE} {κ κ' : K} {μ : MU} {n ns t C : Nat} (hR : REL E κ μ n ns t C) (hR' : REL E' κ' (tkM μ n) n ns (t + 1) C) (ht3 : t < 3000) : EXT μ (tkM μ n) :=
  EXT_tick hR.2.2.1.1 (fun g hg => (hR.2.2.2.1 g hg).1) (fun g hg => (hR'.2.2.2.1 g hg).1) hR.2.1.2.2.2.1 hR'.2.1.2.2.2.1 ht3 (fun k h1 h2 => hR'.2.2.2.2.2.1 35 k (by omega) (by omega) (by omega) (by omega) (by show n ≤ k / 1; rw [Nat.div_one]; exact h1) (by show k / 1 < 5; rw [Nat.div_one]; exact h2))
theorem tick_loop {E : EE} {ns C N : Nat} (hN : N ≤ 100) : ∀ (d i t m m2 : Nat) (κ : K) (μ : MU), REL E κ μ E.1 ns t C → t + d ≤ 3000 → d < m → d < m2 → i + d = N → ∃ κ' μ', f_X10_tick_b45 E m κ (nI N) (nI i) = some (κ', .inl (nI (t + d))) ∧ kV κ' 5 = kV κ 5 ∧ REL E κ' μ' E.1 ns (t + d) C ∧ μ' 0 0 = μ 0 0 ∧ EXT μ μ' ∧ ∀ κ2 : K, kV κ2 5 0 = μ → f_X11_tick_b42 E m2 κ2 (nI N) (nI i) = some (putM κ2 μ', nI (t + d)) := by
  intro d
  induction d with
  | zero =>
    intro i t m m2 κ μ hR ht hm hm2 hi
    obtain ⟨m, rfl⟩ : ∃ q, m = q + 1 := ⟨m - 1, by omega⟩
    obtain ⟨m2, rfl⟩ : ∃ q, m2 = q + 1 := ⟨m2 - 1, by omega⟩
    refine ⟨κ, μ, ?_, rfl, hR, rfl, EXT.rf, fun κ2 h5 => ?_⟩
    · rw [f_X10_tick_b45, if_pos (by rw [nI_le' (by omega) (by omega)]; omega), f_X10_tick_b101, hR.2.1.2.2.1]
      rfl
    · rw [f_X11_tick_b42, if_pos (by rw [nI_le' (by omega) (by omega)]; omega), f_X11_tick_b57, ← h5, put_self, h5, hR.2.1.2.2.2.1]
      rfl
  | succ d ih =>
    intro i t m m2 κ μ hR ht hm hm2 hi
    obtain ⟨m, rfl⟩ : ∃ q, m = q + 1 := ⟨m - 1, by omega⟩
    obtain ⟨m2, rfl⟩ : ∃ q, m2 = q + 1 := ⟨m2 - 1, by omega⟩
    have hx : ¬ nI N ≤ nI i := by rw [nI_le' (by omega) (by omega)]; omega
    obtain ⟨κ1, a1, a2, a3, a4⟩ := REL_tick (m := m) hR (by omega) hx
    obtain ⟨κ', μ', b1, b2, b3, b4, b4x, b5⟩ := ih (i + 1) (t + 1) m m2 κ1 (tkM μ E.1) a2 (by omega) (by omega) (by omega) (by omega)
    rw [show t + 1 + d = t + (d + 1) from by omega] at b1 b3
    refine ⟨κ', μ', by rw [a1, nI_1, b1], b2.trans a3, b3, b4.trans ((tk_rows hR.2.2.1.1 (fun g hg => (hR.2.2.2.1 g hg).1)).2.1 0 (by omega)), (EXT_tk hR a2 (by omega)).tr b4x, fun κ2 h5 => ?_⟩
    rw [f_X11_tick_b42, if_neg hx, a4 κ2 h5, bd_s, nmE, nI_1, b5 _ put_kV, put_put, show t + 1 + d = t + (d + 1) from by omega]
theorem st_tick {E : EE} {κ : K} {n ns t C : Nat} {a : Int32} (hR : REL E κ (kV κ 5 0) n ns t C) : DONE (lw_tick E κ a) C := by
  have hR0 := hR
  obtain ⟨⟨rfl, rfl, hO, h9⟩, ⟨q1, q2, q3, q4, q5⟩, hM, hQ, hS, hZ, hC⟩ := hR0
  have hn : E.1 ≤ 5 := hM.1.1.1
  have hG : kV κ 5 0 0 26 = nI E.1 := hM.1.1.2.1
  have hH : E.2.2.2.1 = 1 := hO.2.2.2.1
  rcases rg_cases (b := a) 1 100 (by omega) (by omega) with hb | ⟨N, h1, h100, rfl⟩
  · have hcl : f_X10_tick E κ a = some (addC κ 1 6, .inr 2) := by
      rw [f_X10_tick, i32_1, show (100 : Int32) = nI 100 from rfl]
      rcases hb with z | z
      · rw [if_pos z]; rfl
      · rw [if_neg (fun y => by rw [Int32.lt_iff_toInt_lt, nI_toInt (by omega)] at y z; omega), if_neg (Int32.not_le.mpr z)]; rfl
    exact ⟨E, _, E.1, E.2.1, t, by
      unfold lw_tick
      rw [show f_X10_tick E κ a = some (addC κ 1 6, .inr 2) from by exact hcl]
      dsimp only
      rw [show f_X11_tick E (lwS (addC κ 1 6) (.inr 2)) a = some (putM (lwS (addC κ 1 6) (.inr 2)) (mu (kV κ 5 0) 0 0 1), 0) from by rw [f_X11_tick, i32_1, show (100 : Int32) = nI 100 from rfl, in_f hb, bd_s, if_pos rfl, ← i32_1, f_X11_tick_b32, ref_n (by decide), bd_s, if_neg (by decide), lw_V (by omega)]; rfl]
      dsimp only
      rw [gdp_t (lwS_noX (by decide) rfl)], glueS (REL_no hR)⟩
  · have e3000 : (3000 : Int32) = nI 3000 := rfl
    have hin : ∀ κ : K, f_X11_in E κ (nI N) 1 100 = some (κ, 1) := fun κ => in_t (by rw [i32_1, nI_lt' (by omega) (by omega)]; omega) (by rw [show (100 : Int32) = nI 100 from rfl, nI_lt' (by omega) (by omega)]; omega)
    have hc1 : ¬ nI N < 1 := by rw [i32_1, nI_lt' (by omega) (by omega)]; omega
    have hc2 : nI N ≤ 100 := by rw [show (100 : Int32) = nI 100 from rfl, nI_le' (by omega) (by omega)]; omega
    by_cases hle : t + N ≤ 3000
    · obtain ⟨κ', μ', b1, b2, b3, b4, b4x, b5⟩ := tick_loop (N := N) h100 N 0 t FU FU κ (mu (kV κ 5 0) 0 0 0) (REL_thr (x := 0) hR) hle (by unfold FU; omega) (by unfold FU; omega) (by omega)
      have hext : EXT (kV κ 5 0) μ' := EXT_thr.tr b4x
      rw [← i32_0] at b1
      have b6 : ∀ κ2 : K, kV κ2 5 0 = mu (kV κ 5 0) 0 0 0 → f_X11_tick_b42 E FU κ2 (nI N) 0 = some (putM κ2 μ', nI (t + N)) := fun κ2 z => by rw [i32_0]; exact b5 κ2 z
      have hrel : REL E κ' μ' E.1 E.2.1 (t + N) (C + 1) := REL_C (d1 := 0) (d2 := 0) b3 (fun _ _ _ => rfl) rfl rfl (PAID_same rfl rfl) (by omega) (by omega)
      have hle2 : (nI t : Int32) + nI N ≤ nI 3000 := by rw [nI_add, nI_le' (by omega) (by omega)]; exact hle
      refine ⟨E, _, E.1, E.2.1, t + N, by
        unfold lw_tick
        rw [show f_X10_tick E κ (nI N) = some (κ', .inl (nI (t + N))) from by rw [f_X10_tick, if_neg hc1, if_pos hc2, q3, e3000, if_pos hle2, b1]]
        dsimp only
        rw [show f_X11_tick E (lwS κ' (.inl (nI (t + N)))) (nI N) = some (putM (lwS κ' (.inl (nI (t + N)))) μ', nI (t + N)) from by rw [f_X11_tick, hin, bd_s, if_neg (by decide), lw_V (by omega), b2, q4, e3000, if_pos hle2, f_X11_tick_b32, ref_0, bd_s, if_pos rfl, b6 _ (by rw [put_kV, lw_V (by omega), b2]), put_put]]
        dsimp only
        rw [gdp_t (lwS_okX (by rw [b4]; exact muS ⟨rfl, rfl⟩) rfl)], glueS hrel⟩
    · have hle2 : ¬ (nI t : Int32) + nI N ≤ nI 3000 := by rw [nI_add, nI_le' (by omega) (by omega)]; exact hle
      exact ⟨E, _, E.1, E.2.1, t, by
      unfold lw_tick
      rw [show f_X10_tick E κ (nI N) = some (addC κ 1 6, .inr 3) from by rw [f_X10_tick, if_neg hc1, if_pos hc2, q3, e3000, if_neg hle2]]
      dsimp only
      rw [show f_X11_tick E (lwS (addC κ 1 6) (.inr 3)) (nI N) = some (putM (lwS (addC κ 1 6) (.inr 3)) (mu (kV κ 5 0) 0 0 2), 0) from by rw [f_X11_tick, hin, bd_s, if_neg (by decide), lw_V (by omega), show kV (addC κ 1 6) 5 0 0 41 = nI t from q4, e3000, if_neg hle2, f_X11_tick_b32, ref_n (by decide), bd_s, if_neg (by decide), lw_V (by omega)]; rfl]
      dsimp only
      rw [gdp_t (lwS_noX (by decide) rfl)], glueS (REL_no hR)⟩
