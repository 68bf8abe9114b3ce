/-! sets of pages that go over -/
theorem bit_not : ∀ B, B < 256 → (255 : Int32) &&& (nI B ^^^ (-1)) = nI (255 - B) := by decide +kernel
def accU (B : Nat) : Nat → Nat
  | 0 => 0
  | k + 1 => if B.testBit k then accU B k else setB (accU B k) k
theorem acc_8 : ∀ B, B < 256 → accU B 8 = 255 - B := by decide +kernel
theorem acc_lt (B : Nat) : ∀ k, k ≤ 8 → accU B k < 256
  | 0, _ => (by show 0 < 256; omega)
  | k + 1, h => by
    unfold accU
    split
    · exact acc_lt B k (by omega)
    · exact set_lt _ (acc_lt B k (by omega)) k (by omega)
theorem bit_xor : ∀ B, B < 256 → ∀ p, p < 8 → B.testBit p = true → nI B ^^^ bitI p = nI (clrB B p) := by decide +kernel
theorem m1_add {l : Nat} (h : 1 ≤ l) : nI l + (-1) = nI (l - 1) := by
  rw [← Int32.sub_eq_add_neg, i32_1, nI_sub h]
/-- what is to be sent, and how many were -/
theorem REL_snd {E : EE} {κ κ' : K} {μ μ' : MU} {n ns t C g : Nat} (hR : REL E κ μ n ns t C) (hg : g < n) (hV : ∀ f i c k, ¬ (f = 0 ∧ i = g ∧ c = 0 ∧ (k = 13 ∨ k = 15)) → kV κ' f i c k = kV κ f i c k) (hN : kN κ' = kN κ) (hP : kP κ' = kP κ) (hC : kC κ' = kC κ) (er : ∀ c k, ¬ ((c = 30 ∨ c = 31 ∨ c = 32) ∧ k = g) → μ' c k = μ c k) (hS : SND (kV κ' 0 g) μ' g) (h13 : kV κ' 0 g 0 13 = μ' 32 g) : REL E κ' μ' n ns t (C + 1) := by
  obtain ⟨m1, m2, m3, m4, m5⟩ := hR.2.2.1
  have hQg := hR.2.2.2.1 g hg
  have hV0 : ∀ f i, ¬ (f = 0 ∧ i = g) → kV κ' f i = kV κ f i := fun f i z => by
    funext c k
    exact hV f i c k (by omega)
  have eV : ∀ c, c ≠ 0 → kV κ' 0 g c = kV κ 0 g c := fun c hc => by
    funext k
    exact hV 0 g c k (by omega)
  have e0 : ∀ k, k ≠ 13 → k ≠ 15 → kV κ' 0 g 0 k = kV κ 0 g 0 k := fun k a b => hV 0 g 0 k (by omega)
  have em : ∀ c, c ≠ 30 → c ≠ 31 → c ≠ 32 → μ' c = μ c := fun c a b d => by
    funext k
    exact er c k (by omega)
  have hO : OWN μ μ' g := ⟨em 0 (by omega) (by omega) (by omega), fun c hc => em c (by omega) (by omega) (by omega), fun c k _ _ _ hk => er c k (fun z => by
    obtain ⟨rfl | rfl | rfl, rfl⟩ := z <;> exact hk (Nat.div_one _))⟩
  refine REL_g (d1 := 0) (d2 := 0) hR hg hV0 (fun _ _ _ => by rw [hN]) (fun _ _ _ => by rw [hN]) hP (fun c hc => eV c (by omega)) (e0 12 (by omega) (by omega)) (TJ.row m1 (fun c hc => em c (by omega) (by omega) (by omega))) hO (fun c hc => em c (by omega) (by omega) (by omega)) ⟨?_, ?_, ?_, ?_⟩ (SAY_row hQg.1 (em 24 (by omega) (by omega) (by omega)) (em 35 (by omega) (by omega) (by omega)) (em 37 (by omega) (by omega) (by omega))) (CLK_e hQg.2.1 (em 22 (by omega) (by omega) (by omega)) (em 20 (by omega) (by omega) (by omega)) (em 21 (by omega) (by omega) (by omega))) (INQ_up (INQ_e hQg.2.2 (by rw [em 1 (by omega) (by omega) (by omega)]) (by rw [em 6 (by omega) (by omega) (by omega)]) (by rw [em 33 (by omega) (by omega) (by omega)]) (em 3 (by omega) (by omega) (by omega)) (em 5 (by omega) (by omega) (by omega)) (by rw [em 18 (by omega) (by omega) (by omega)]))) (PAID_same hN hC) (by omega) (by omega)
  · obtain ⟨a1, a2, a3, a4, a5, a6, q7, q8, q9, q10, a11, a12⟩ := (m4 g hg).1.1
    have hq : ∀ {c B x q}, QQ κ 0 g c B x q → 10 ≤ c → QQ κ' 0 g c B x q := fun y z => QQ_v y (by rw [eV _ (by omega)]) (eV _ (by omega)) (by rw [hN]) rfl (fun _ _ => rfl)
    obtain ⟨s1, s2, s3, s4, s5, s6, s7, s8⟩ := a1
    refine ⟨⟨by rw [e0 0 (by omega) (by omega)]; exact s1, by rw [e0 1 (by omega) (by omega), em 16 (by omega) (by omega) (by omega)]; exact s2, by rw [e0 2 (by omega) (by omega), em 17 (by omega) (by omega) (by omega)]; exact s3, by rw [e0 10 (by omega) (by omega), em 20 (by omega) (by omega) (by omega)]; exact s4, by rw [e0 11 (by omega) (by omega), em 23 (by omega) (by omega) (by omega)]; exact s5, h13, by rw [e0 16 (by omega) (by omega), em 18 (by omega) (by omega) (by omega)]; exact s7, by rw [e0 17 (by omega) (by omega), em 19 (by omega) (by omega) (by omega)]; exact s8⟩, EXI_v a2 (eV 38 (by omega)) (fun j _ => by rw [em 25 (by omega) (by omega) (by omega)]), BAR_v a3 (e0 14 (by omega) (by omega)) (fun p _ => by rw [em 27 (by omega) (by omega) (by omega)]), hS, PRO_v a5 (fun c _ _ => eV c (by omega)) (by rw [em 14 (by omega) (by omega) (by omega)]) (fun j _ => by rw [em 13 (by omega) (by omega) (by omega)]), LVT_v a6 (eV 5 (by omega)) (fun j _ _ => by rw [em 1 (by omega) (by omega) (by omega)]) (clock_e (by rw [em 0 (by omega) (by omega) (by omega)]) (by rw [em 20 (by omega) (by omega) (by omega)]) (by rw [em 21 (by omega) (by omega) (by omega)]) (by rw [em 22 (by omega) (by omega) (by omega)])), ?_, ?_, ?_, ?_, FOL_v a11 (eV 18 (by omega)) (fun j _ => eV _ (by omega)) (by rw [hN]) (by rw [em 33 (by omega) (by omega) (by omega)]) (fun j _ => by rw [em 3 (by omega) (by omega) (by omega)]) (fun j _ => by rw [em 4 (by omega) (by omega) (by omega)]) (e0 18 (by omega) (by omega)), STN_v a12 (fun j _ _ => eV _ (by omega)) (fun _ _ _ => by rw [hN])⟩
    · rw [em 1 (by omega) (by omega) (by omega), em 2 (by omega) (by omega) (by omega)]; exact hq q7 (by omega)
    · rw [em 35 (by omega) (by omega) (by omega), em 34 (by omega) (by omega) (by omega)]; exact hq q8 (by omega)
    · rw [em 37 (by omega) (by omega) (by omega), em 36 (by omega) (by omega) (by omega)]; exact hq q9 (by omega)
    · rw [em 6 (by omega) (by omega) (by omega), em 5 (by omega) (by omega) (by omega)]; exact hq q10 (by omega)
  · rw [row_e (em 1 (by omega) (by omega) (by omega))]
    exact MCH_m (m4 g hg).1.2.1 (fun j hj => eV (6 + j) (by omega))
  · rw [e0 12 (by omega) (by omega), em 24 (by omega) (by omega) (by omega)]; exact (m4 g hg).1.2.2.1
  · exact PLL_v (m4 g hg).1.2.2.2 (fun c _ _ => eV c (by omega)) (fun c _ _ => eV c (by omega)) (fun _ _ _ => by rw [hN]) (by rw [eV 5 (by omega)]) (e0 12 (by omega) (by omega)) (e0 18 (by omega) (by omega)) (MEQ_j fun j hj => eV (6 + j) (by omega))
theorem dead_E {E : EE} {κ : K} {g x : Nat} (h : kV κ 0 g 6 8 = nI x) (hx : x < 4) : f_X1_isDead E κ g = some (κ, if x = 3 then 1 else 0) := by
  rw [f_X1_isDead, f_X1_isDead_e, h]
  by_cases e : x = 3
  · rw [if_pos (by rw [e]; rfl), if_pos e, bd_s, gd_t (Or.inr rfl)]
  · rw [if_neg (by rw [l3, nI_eq' (by omega) (by omega)]; exact e), if_neg e, bd_s, gd_t (Or.inl rfl)]
theorem other_E {E : EE} {κ : K} {h : Nat} (hH : E.2.2.2.1 = 1) (hh : h < 2) : f_X10_otherOf E κ h = some (κ, 1 - h) := by
  rw [f_X10_otherOf, gd_t (host_lt hH (by omega))]
  have : h = 0 ∨ h = 1 := by omega
  rcases this with rfl | rfl
  · rw [if_pos rfl, gd_t (host_lt hH (by omega)), f_X10_otherOf_b25a]
  · rw [if_neg (by omega), gd_t (host_lt hH (by omega)), f_X10_otherOf_b25]
theorem one_m {h : Nat} (hh : h < 2) : (1 : Int32) - nI h = nI (1 - h) := by
  rw [i32_1, nI_sub (by omega)]
/-- a move begins -/
def movM (μ : MU) (g T : Nat) : MU := mu (mu (mu μ 0 0 0) 30 g 1) 31 g (nI T)
theorem mm_move {E : EE} {κ : K} {n g x h B : Nat} (hG : kV κ 5 0 0 26 = nI n) (hn : n ≤ 5) (hg : g < n) (h30 : kV κ 5 0 30 g = 0) (hst : kV κ 5 0 1 (55 * g + 49) = nI x) (hx : x < 3) (h15 : kV κ 5 0 15 g = nI h) (hh : h < 2) (h38 : kV κ 5 0 38 (1 - h) = 0) (hB : B < 256) (hb : ∀ p, p < 8 → (B.testBit p = true ↔ kV κ 5 0 27 (8 * g + p) = 0)) : f_X11_move E κ (nI g) = some (putM κ (movM (kV κ 5 0) g (255 - B)), nI (pop (255 - B))) := by
  have loop : ∀ d k m, k + d = 8 → d < m → f_X11_move_b100 E m (putM κ (movM (kV κ 5 0) g (accU B k))) (nI g) (nI k) = some (putM κ (movM (kV κ 5 0) g (255 - B)), nI (pop (255 - B))) := by
    intro d
    induction d with
    | zero =>
      intro k m hk hm
      obtain ⟨m, rfl⟩ : ∃ q, m = q + 1 := ⟨m - 1, by omega⟩
      have e : k = 8 := by omega
      subst e
      rw [f_X11_move_b100, if_pos (by rw [l8, nI_le' (by omega) (by omega)]; exact Nat.le_refl _), f_X11_move_b145, nI_cl (by omega), gdi (by omega), put_kV, show movM (kV κ 5 0) g (accU B 8) 31 g = nI (accU B 8) from muS ⟨rfl, rfl⟩, acc_8 B hB, bits_E (by omega), bd_s]
    | succ d ih =>
      intro k m hk hm
      obtain ⟨m, rfl⟩ : ∃ q, m = q + 1 := ⟨m - 1, by omega⟩
      have e27 : (movM (kV κ 5 0) g (accU B k)) 27 (8 * g + k) = kV κ 5 0 27 (8 * g + k) := by
        unfold movM
        rw [muD (by omega), muD (by omega), muD (by omega)]
      have e31 : (movM (kV κ 5 0) g (accU B k)) 31 g = nI (accU B k) := muS ⟨rfl, rfl⟩
      rw [f_X11_move_b100, if_neg (by rw [l8, nI_le' (by omega) (by omega)]; omega), nI_cl (by omega), gdi (by omega), l8, nI_mul, nI_add, nI_cl (by omega), gdi (by omega), put_kV, e27, e31]
      by_cases e : B.testBit k = true
      · rw [if_pos ((hb k (by omega)).mp e), f_X11_move_b137, nI_cl (by omega), gdi (by omega), or_0, nmE, nI_1, nmE, set5, put_kV, put_put, show mu (movM (kV κ 5 0) g (accU B k)) 31 g (nI (accU B k)) = movM (kV κ 5 0) g (accU B (k + 1)) from by unfold movM; rw [mu_mu]; rw [show accU B (k + 1) = accU B k from by show (if B.testBit k = true then _ else _) = _; rw [if_pos e]]]
        exact ih (k + 1) m (by omega) (by omega)
      · rw [if_neg (fun z => e ((hb k (by omega)).mpr z)), f_X11_move_b137, nI_cl (by omega), gdi (by omega), show (1 : Int32) <<< (nI k &&& 31) = bitI k from rfl, bit_set _ (acc_lt B k (by omega)) k (by omega), nmE, nI_1, nmE, set5, put_kV, put_put, show mu (movM (kV κ 5 0) g (accU B k)) 31 g (nI (setB (accU B k) k)) = movM (kV κ 5 0) g (accU B (k + 1)) from by unfold movM; rw [mu_mu]; rw [show accU B (k + 1) = setB (accU B k) k from by show (if B.testBit k = true then _ else _) = _; rw [if_neg e]]]
        exact ih (k + 1) m (by omega) (by omega)
  have l0 := loop 8 0 FU (by omega) (by unfold FU; omega)
  rw [nI_0] at l0
  rw [f_X11_move, isGuest_t hG hn hg, bd_s, if_neg (by decide), nI_cl (by omega), gdi (by omega), if_pos h30, l55, nI_mul, l49, nI_add, nI_cl (by omega), gdi (by omega), hst, if_neg (by rw [l3, nI_eq' (by omega) (by omega)]; omega), gdi (by omega), h15, one_m hh, nI_cl (by omega), gdi (by omega), if_pos h38, f_X11_move_b56, if_neg (by decide), if_neg (by decide), f_X11_move_b75, ref_0, bd_s, if_pos rfl, nI_cl (by omega), gdi (by omega), nmE, gdi (by omega), nmE]
  simp only [set5, put_kV, put_put]
  exact l0
theorem mm_move2 {E : EE} {κ : K} {n g x h : Nat} (hG : kV κ 5 0 0 26 = nI n) (hn : n ≤ 5) (hg : g < n) (hst : kV κ 5 0 1 (55 * g + 49) = nI x) (hx : x < 4) (h15 : kV κ 5 0 15 g = nI h) (hh : h < 2) (hno : ¬ (kV κ 5 0 30 g = 0 ∧ x < 3 ∧ kV κ 5 0 38 (1 - h) = 0)) : f_X11_move E κ (nI g) = some (putM κ (mu (kV κ 5 0) 0 0 2), 0) := by
  have fin : f_X11_move_b55 E κ (nI g) 1 = some (putM κ (mu (kV κ 5 0) 0 0 2), 0) := by
    rw [f_X11_move_b55, f_X11_move_b56, if_neg (by decide), if_pos rfl, f_X11_move_b75, ref_n (by decide), bd_s, if_neg (by decide)]
  rw [f_X11_move, isGuest_t hG hn hg, bd_s, if_neg (by decide), nI_cl (by omega), gdi (by omega)]
  by_cases z1 : kV κ 5 0 30 g = 0
  · rw [if_pos z1, l55, nI_mul, l49, nI_add, nI_cl (by omega), gdi (by omega), hst]
    by_cases z2 : x = 3
    · rw [if_pos (by rw [z2]; rfl), fin]
    · rw [if_neg (by rw [l3, nI_eq' (by omega) (by omega)]; exact z2), gdi (by omega), h15, one_m hh, nI_cl (by omega), gdi (by omega), if_neg (fun z => hno ⟨z1, by omega, z⟩), fin]
  · rw [if_neg z1, fin]
theorem EXT_mov {μ : MU} {g T : Nat} : EXT μ (movM μ g T) := by
  unfold movM
  exact (EXT_thr.tr (EXT_mu (by omega))).tr (EXT_mu (by omega))
theorem st_move {E : EE} {κ : K} {n ns t C : Nat} {a : Int32} (hR : REL E κ (kV κ 5 0) n ns t C) : DONE (lw_move E κ a) C := by
  have hR0 := hR
  obtain ⟨⟨rfl, rfl, hO, h9⟩, ⟨q1, q2, q3, q4, q5⟩, hM, hQ, hS, hZ, hC⟩ := hR0
  have hn : E.1 ≤ 5 := hM.1.1.1
  have hG : kV κ 5 0 0 26 = nI E.1 := hM.1.1.2.1
  have hH : E.2.2.2.1 = 1 := hO.2.2.2.1
  by_cases ha : vp_in a E.1
  · obtain ⟨g, hg, rfl⟩ := vp_ex (by omega) ha
    obtain ⟨x, hst, hx⟩ := (hM.1.1.2.2.1 g hg).1.st
    have e68 : kV κ 0 g 6 8 = nI x := ((hM.2.2.2.1 g hg).1.2.1.2.2.2.2.2.2.1).trans hst
    obtain ⟨h, hh, hP, h15⟩ := (hM.2.2.2.1 g hg).2.1.1
    obtain ⟨B, hB, b1, b2⟩ := (hM.2.2.2.1 g hg).1.1.2.2.1
    have hSN := (hM.2.2.2.1 g hg).1.1.2.2.2.1
    have h38 : kV κ 2 (1 - h) 0 4 = kV κ 5 0 38 (1 - h) := (hM.2.2.1 (1 - h) (by omega)).2.2.1
    by_cases hok : kV κ 5 0 30 g = 0 ∧ x < 3 ∧ kV κ 5 0 38 (1 - h) = 0
    · obtain ⟨o1, o2, o3⟩ := hok
      have e5 : kV (setV κ 0 g 0 15 (nI (255 - B))) 5 = kV κ 5 := by
        funext i c k
        exact vD (by omega)
      have hcl : f_X10_move E κ (nI g) = some (setV κ 0 g 0 15 (nI (255 - B)), .inl (nI (pop (255 - B)))) := by
        rw [f_X10_move, guestAt_ok q1 hn hg, bx_s, gd_t (show g < cntE E 0 from hg), moving_E hSN, bd_s, if_pos o1, dead_E e68 hx, bd_s, if_neg (show ¬ x = 3 by omega), if_pos rfl, hP, optG_s (host_lt hH hh), other_E hH hh, bd_s, gd_t (host_lt hH (show 1 - h < 2 by omega)), h38, if_pos o3, b1, bit_not B hB, nmE, vS ⟨rfl, rfl, rfl, rfl⟩, bitCount_E (show 255 - B < 256 by omega), bd_s]
      have hrel : REL E (setV κ 0 g 0 15 (nI (255 - B))) (movM (kV κ 5 0) g (255 - B)) E.1 E.2.1 t (C + 1) := by
        refine REL_snd (REL_thr (x := 0) hR) hg (fun f i c k z => vD (by omega)) rfl rfl rfl (fun c k z => by unfold movM; rw [muD (by omega), muD (by omega)]) (Or.inr ⟨by unfold movM; rw [muD (by omega)]; exact muS ⟨rfl, rfl⟩, 255 - B, by omega, vS ⟨rfl, rfl, rfl, rfl⟩, muS ⟨rfl, rfl⟩⟩) ?_
        unfold movM
        rw [vD (by omega), muD (by omega), muD (by omega), thr_c (by omega)]
        exact (hM.2.2.2.1 g hg).1.1.1.2.2.2.2.2.1
      exact ⟨E, _, E.1, E.2.1, t, by
      unfold lw_move
      rw [show f_X10_move E κ (nI g) = some (setV κ 0 g 0 15 (nI (255 - B)), .inl (nI (pop (255 - B)))) from by exact hcl]
      dsimp only
      rw [show f_X11_move E (lwS (setV κ 0 g 0 15 (nI (255 - B))) (.inl (nI (pop (255 - B))))) (nI g) = some (putM (lwS (setV κ 0 g 0 15 (nI (255 - B))) (.inl (nI (pop (255 - B))))) (movM (kV κ 5 0) g (255 - B)), nI (pop (255 - B))) from by rw [mm_move (n := E.1) (x := x) (h := h) (B := B) (by rw [lw_V (by omega), e5]; exact hG) hn hg (by rw [lw_V (by omega), e5]; exact o1) (by rw [lw_V (by omega), e5]; exact hst) o2 (by rw [lw_V (by omega), e5]; exact h15) hh (by rw [lw_V (by omega), e5]; exact o3) hB (by rw [lw_V (by omega), e5]; exact b2), lw_V (by omega), e5]]
      dsimp only
      rw [gdp_t (lwS_okX (by unfold movM; rw [muD (by omega), muD (by omega)]; exact muS ⟨rfl, rfl⟩) (rfl))], glueS (hrel)⟩
    · have hcl : f_X10_move E κ (nI g) = some (addC κ 1 6, .inr 3) := by
        rw [f_X10_move, guestAt_ok q1 hn hg, bx_s, gd_t (show g < cntE E 0 from hg), moving_E hSN, bd_s]
        by_cases z1 : kV κ 5 0 30 g = 0
        · rw [if_pos z1, dead_E e68 hx, bd_s]
          by_cases z2 : x = 3
          · rw [if_pos z2, if_neg (by decide)]; rfl
          · rw [if_neg z2, if_pos rfl, hP, optG_s (host_lt hH hh), other_E hH hh, bd_s, gd_t (host_lt hH (show 1 - h < 2 by omega)), h38, if_neg (fun z => hok ⟨z1, by omega, z⟩)]; rfl
        · rw [if_neg z1]; rfl
      exact ⟨E, _, E.1, E.2.1, t, by
      unfold lw_move
      rw [show f_X10_move E κ (nI g) = some (addC κ 1 6, .inr 3) from by exact hcl]
      dsimp only
      rw [show f_X11_move E (lwS (addC κ 1 6) (.inr 3)) (nI g) = some (putM (lwS (addC κ 1 6) (.inr 3)) (mu (kV κ 5 0) 0 0 2), 0) from by rw [mm_move2 (n := E.1) (x := x) (h := h) (by rw [lw_V (by omega)]; exact hG) hn hg (by rw [lw_V (by omega)]; exact hst) hx (by rw [lw_V (by omega)]; exact h15) hh (by rw [lw_V (by omega)]; exact hok), lw_V (by omega)]; rfl]
      dsimp only
      rw [gdp_t (lwS_noX (by decide) rfl)], glueS (REL_no hR)⟩
  · exact ⟨E, _, E.1, E.2.1, t, by
      unfold lw_move
      rw [show f_X10_move E κ a = some (addC κ 1 6, .inr 1) from by rw [f_X10_move, guestAt_no q1 hn ha, bx_r]]
      dsimp only
      rw [show f_X11_move E (lwS (addC κ 1 6) (.inr 1)) a = some (putM (lwS (addC κ 1 6) (.inr 1)) (mu (kV κ 5 0) 0 0 1), 0) from by rw [f_X11_move, isGuest_f (n := E.1) (by rw [lw_V (by omega)]; exact hG) hn ha, bd_s, if_pos rfl, f_X11_move_b55, f_X11_move_b56, if_pos rfl, f_X11_move_b75, ref_n (by decide), bd_s, if_neg (by decide), lw_V (by omega)]; rfl]
      dsimp only
      rw [gdp_t (lwS_noX (by decide) rfl)], glueS (REL_no hR)⟩
/-! rounds -/
theorem mu_4 {μ : MU} {c1 k1 c2 k2 : Nat} {a b c d : Int32} (h : ¬ (c1 = c2 ∧ k1 = k2)) : mu (mu (mu (mu μ c1 k1 a) c2 k2 b) c1 k1 c) c2 k2 d = mu (mu μ c1 k1 c) c2 k2 d := by
  funext x y
  by_cases e2 : x = c2 ∧ y = k2
  · rw [muS e2, muS e2]
  · rw [muD e2, muD e2]
    by_cases e1 : x = c1 ∧ y = k1
    · rw [muS e1, muS e1]
    · rw [muD e1, muD e2, muD e1, muD e1]
def sndV (v : MU) (T : Nat) (x : Int32) : MU := mu (mu v 0 15 (nI T)) 0 13 x
def sndR (μ : MU) (g T : Nat) (x : Int32) : MU := mu (mu μ 31 g (nI T)) 32 g x
theorem snd_set {κ : K} {g T T' : Nat} {v : MU} {x : Int32} (h : v = kV κ 0 g) : setV (setV (pv κ 0 g (sndV v T x)) 0 g 0 15 (nI T')) 0 g 0 13 (x + 1) = pv κ 0 g (sndV v T' (x + 1)) := by
  simp only [setp, pv_kV, pv_pv]
  unfold sndV
  rw [mu_4 (by omega)]
theorem sndR_set {κ : K} {g T T' : Nat} {μ : MU} {x : Int32} : setV (setV (putM κ (sndR μ g T x)) 5 0 31 g (nI T')) 5 0 32 g (x + 1) = putM κ (sndR μ g T' (x + 1)) := by
  simp only [set5, put_kV, put_put]
  unfold sndR
  rw [mu_4 (by omega)]
theorem snd_loop {E : EE} {κ : K} {g : Nat} (hg : g < 5) (μ : MU) : ∀ (d i l T m m2 : Nat) (x : Int32), i + d = 8 → l ≤ 8 → T < 256 → d < m → d < m2 → ∃ T' x', T' < 256 ∧ f_X1_sendPages_b4 E g m (pv κ 0 g (sndV (kV κ 0 g) T x)) (nI l) (nI i) = some (pv κ 0 g (sndV (kV κ 0 g) T' x'), ()) ∧ ∀ κ2 : K, f_X11_round_b54 E m2 (putM κ2 (sndR μ g T x)) (nI g) (nI l) (nI i) = some (putM κ2 (sndR μ g T' x'), nI (pop T')) := by
  have fin : ∀ (κ2 : K) (T : Nat) (x : Int32), T < 256 → f_X11_round_b112 E (putM κ2 (sndR μ g T x)) (nI g) = some (putM κ2 (sndR μ g T x), nI (pop T)) := fun κ2 T x hT => by
    rw [f_X11_round_b112, nI_cl (by omega), gdi (by omega), put_kV, show sndR μ g T x 31 g = nI T from by unfold sndR; rw [muD (by omega)]; exact muS ⟨rfl, rfl⟩, bits_E hT, bd_s]
  intro d
  induction d with
  | zero =>
    intro i l T m m2 x hi hl hT hm hm2
    obtain ⟨m, rfl⟩ : ∃ q, m = q + 1 := ⟨m - 1, by omega⟩
    obtain ⟨m2, rfl⟩ : ∃ q, m2 = q + 1 := ⟨m2 - 1, by omega⟩
    have hle : (8 : Int32) ≤ nI i := by rw [l8, nI_le' (by omega) (by omega)]; omega
    exact ⟨T, x, hT, by rw [f_X1_sendPages_b4, if_pos hle], fun κ2 => by rw [f_X11_round_b54, if_pos hle, fin κ2 T x hT]⟩
  | succ d ih =>
    intro i l T m m2 x hi hl hT hm hm2
    obtain ⟨m, rfl⟩ : ∃ q, m = q + 1 := ⟨m - 1, by omega⟩
    obtain ⟨m2, rfl⟩ : ∃ q, m2 = q + 1 := ⟨m2 - 1, by omega⟩
    have hle : ¬ (8 : Int32) ≤ nI i := by rw [l8, nI_le' (by omega) (by omega)]; omega
    by_cases hl0 : l = 0
    · have hl1 : nI l ≤ 0 := by rw [i32_0, nI_le' (by omega) (by omega)]; omega
      exact ⟨T, x, hT, by rw [f_X1_sendPages_b4, if_neg hle, if_pos hl1], fun κ2 => by rw [f_X11_round_b54, if_neg hle, if_pos hl1, fin κ2 T x hT]⟩
    · have hl1 : ¬ nI l ≤ 0 := by rw [i32_0, nI_le' (by omega) (by omega)]; omega
      have v15 : kV (pv κ 0 g (sndV (kV κ 0 g) T x)) 0 g 0 15 = nI T := by rw [pv_kV]; unfold sndV; rw [muD (by omega)]; exact muS ⟨rfl, rfl⟩
      have r31 : ∀ κ2 : K, kV (putM κ2 (sndR μ g T x)) 5 0 31 g = nI T := fun κ2 => by rw [put_kV]; unfold sndR; rw [muD (by omega)]; exact muS ⟨rfl, rfl⟩
      have hbit := bit_and T hT i (by omega)
      have hsh := bit_sh T hT i (by omega)
      by_cases e : T.testBit i = true
      · obtain ⟨T', x', a1, a2, a3⟩ := ih (i + 1) (l - 1) (clrB T i) m m2 (x + 1) (by omega) (by omega) (clr_lt T hT i (by omega)) (by omega) (by omega)
        refine ⟨T', x', a1, ?_, fun κ2 => ?_⟩
        · rw [e] at hbit
          rw [f_X1_sendPages_b4, if_neg hle, if_neg hl1, v15, show (1 : Int32) <<< (nI i &&& 31) = bitI i from rfl, if_neg (of_decide_eq_false hbit), bit_clr T hT i (by omega), nmE, vD (by omega), show kV (pv κ 0 g (sndV (kV κ 0 g) T x)) 0 g 0 13 = x from by rw [pv_kV]; exact muS ⟨rfl, rfl⟩, nmE, snd_set rfl, m1_add (by omega), nmE, f_X1_sendPages_b52, nI_1, nmE, a2]
        · rw [e, if_pos rfl] at hsh
          rw [f_X11_round_b54, if_neg hle, if_neg hl1, nI_cl (by omega), gdi (by omega), r31, hsh, if_pos (by decide), gdi (by omega), gdi (by omega), show (1 : Int32) <<< (nI i &&& 31) = bitI i from rfl, bit_xor T hT i (by omega) e, nmE, gdi (by omega), gdi (by omega), vD (by omega), show kV (putM κ2 (sndR μ g T x)) 5 0 32 g = x from by rw [put_kV]; exact muS ⟨rfl, rfl⟩, nmE, sndR_set, m1_add (by omega), nmE, f_X11_round_b106, nI_1, nmE, a3]
      · have ef : T.testBit i = false := Bool.eq_false_iff.mpr e
        obtain ⟨T', x', a1, a2, a3⟩ := ih (i + 1) l T m m2 x (by omega) hl hT (by omega) (by omega)
        refine ⟨T', x', a1, ?_, fun κ2 => ?_⟩
        · rw [ef] at hbit
          rw [f_X1_sendPages_b4, if_neg hle, if_neg hl1, v15, show (1 : Int32) <<< (nI i &&& 31) = bitI i from rfl, if_pos (of_decide_eq_true hbit), f_X1_sendPages_b52, nI_1, nmE, a2]
        · rw [ef, if_neg (by decide)] at hsh
          rw [f_X11_round_b54, if_neg hle, if_neg hl1, nI_cl (by omega), gdi (by omega), r31, hsh, if_neg (by decide), f_X11_round_b106, nI_1, nmE, a3]
theorem EXT_rnd {μ : MU} {g T : Nat} {x : Int32} : EXT μ (sndR (mu μ 0 0 0) g T x) := by
  unfold sndR
  exact (EXT_thr.tr (EXT_mu (by omega))).tr (EXT_mu (by omega))
theorem st_round {E : EE} {κ : K} {n ns t C : Nat} {a b : Int32} (hR : REL E κ (kV κ 5 0) n ns t C) : DONE (lw_round E κ a b) C := by
  have hR0 := hR
  obtain ⟨⟨rfl, rfl, hO, h9⟩, ⟨q1, q2, q3, q4, q5⟩, hM, hQ, hS, hZ, hC⟩ := hR0
  have hn : E.1 ≤ 5 := hM.1.1.1
  have hG : kV κ 5 0 0 26 = nI E.1 := hM.1.1.2.1
  have hH : E.2.2.2.1 = 1 := hO.2.2.2.1
  by_cases ha : vp_in a E.1
  · obtain ⟨g, hg, rfl⟩ := vp_ex (by omega) ha
    have hSN := (hM.2.2.2.1 g hg).1.1.2.2.2.1
    have h13 : kV κ 0 g 0 13 = kV κ 5 0 32 g := (hM.2.2.2.1 g hg).1.1.1.2.2.2.2.2.1
    rcases rg_cases (b := b) 1 8 (by omega) (by omega) with hb | ⟨l, l1, l8', rfl⟩
    · have hcl : f_X10_round E κ (nI g) b = some (addC κ 1 6, .inr 2) := by
        rw [f_X10_round, guestAt_ok q1 hn hg, bx_s, gd_t (show g < cntE E 0 from hg), i32_1, l8]
        rcases hb with z | z
        · rw [if_pos z]; rfl
        · rw [if_neg (fun y => by rw [Int32.lt_iff_toInt_lt, nI_toInt (by omega)] at y z; omega), if_neg (Int32.not_le.mpr z)]; rfl
      exact ⟨E, _, E.1, E.2.1, t, by
      unfold lw_round
      rw [show f_X10_round E κ (nI g) b = some (addC κ 1 6, .inr 2) from by exact hcl]
      dsimp only
      rw [show f_X11_round E (lwS (addC κ 1 6) (.inr 2)) (nI g) b = some (putM (lwS (addC κ 1 6) (.inr 2)) (mu (kV κ 5 0) 0 0 2), 0) from by rw [f_X11_round, isGuest_t (n := E.1) (by rw [lw_V (by omega)]; exact hG) hn hg, bd_s, if_neg (by decide), i32_1, l8, in_f hb, bd_s, if_pos rfl, f_X11_round_b41, ref_n (by decide), bd_s, if_neg (by decide), lw_V (by omega)]; rfl]
      dsimp only
      rw [gdp_t (lwS_noX (by decide) rfl)], glueS (REL_no hR)⟩
    · have hc1 : ¬ nI l < 1 := by rw [i32_1, nI_lt' (by omega) (by omega)]; omega
      have hc2 : nI l ≤ 8 := by rw [l8, nI_le' (by omega) (by omega)]; omega
      have hin : ∀ κ : K, f_X11_in E κ (nI l) 1 8 = some (κ, 1) := fun κ => in_t hc1 (by rw [l8, nI_lt' (by omega) (by omega)]; omega)
      rcases id hSN with ⟨h30, h15⟩ | ⟨h30, T, hT, h15, h31⟩
      · exact ⟨E, _, E.1, E.2.1, t, by
      unfold lw_round
      rw [show f_X10_round E κ (nI g) (nI l) = some (addC κ 1 6, .inr 3) from by rw [f_X10_round, guestAt_ok q1 hn hg, bx_s, gd_t (show g < cntE E 0 from hg), if_neg hc1, if_pos hc2, moving_E hSN, bd_s, if_pos h30]]
      dsimp only
      rw [show f_X11_round E (lwS (addC κ 1 6) (.inr 3)) (nI g) (nI l) = some (putM (lwS (addC κ 1 6) (.inr 3)) (mu (kV κ 5 0) 0 0 3), 0) from by rw [f_X11_round, isGuest_t (n := E.1) (by rw [lw_V (by omega)]; exact hG) hn hg, bd_s, if_neg (by decide), hin, bd_s, if_neg (by decide), nI_cl (by omega), gdi (by omega), lw_V (by omega), show kV (addC κ 1 6) 5 0 30 g = 0 from h30, if_pos rfl, f_X11_round_b41, ref_n (by decide), bd_s, if_neg (by decide), lw_V (by omega)]; rfl]
      dsimp only
      rw [gdp_t (lwS_noX (by decide) rfl)], glueS (REL_no hR)⟩
      · obtain ⟨T', x', a1, a2, a3⟩ := snd_loop (E := E) (κ := κ) (g := g) (by omega) (mu (kV κ 5 0) 0 0 0) 8 0 l T FU FU (kV κ 0 g 0 13) (by omega) l8' hT (by unfold FU; omega) (by unfold FU; omega)
        have s0 : pv κ 0 g (sndV (kV κ 0 g) T (kV κ 0 g 0 13)) = κ := by
          unfold sndV
          rw [mu_self (show kV κ 0 g 0 15 = nI T from h15), mu_self rfl, pv_self]
        have r0 : sndR (mu (kV κ 5 0) 0 0 0) g T (kV κ 0 g 0 13) = mu (kV κ 5 0) 0 0 0 := by
          unfold sndR
          rw [mu_self (show (mu (kV κ 5 0) 0 0 0) 31 g = nI T by rw [thr_c (by omega)]; exact h31), mu_self (by rw [thr_c (by omega)]; exact h13.symm)]
        rw [s0, ← i32_0] at a2
        rw [r0, ← i32_0] at a3
        have e5 : kV (pv κ 0 g (sndV (kV κ 0 g) T' x')) 5 = kV κ 5 := by
          funext i
          exact pv_n (by omega)
        have v15 : kV (pv κ 0 g (sndV (kV κ 0 g) T' x')) 0 g 0 15 = nI T' := by rw [pv_kV]; unfold sndV; rw [muD (by omega)]; exact muS ⟨rfl, rfl⟩
        have hcl : f_X10_round E κ (nI g) (nI l) = some (pv κ 0 g (sndV (kV κ 0 g) T' x'), .inl (nI (pop T'))) := by
          rw [f_X10_round, guestAt_ok q1 hn hg, bx_s, gd_t (show g < cntE E 0 from hg), if_neg hc1, if_pos hc2, moving_E hSN, bd_s, if_neg (by rw [h30]; decide), f_X1_sendPages, a2, bd_s, v15, bitCount_E a1, bd_s]
        have hrel : REL E (pv κ 0 g (sndV (kV κ 0 g) T' x')) (sndR (mu (kV κ 5 0) 0 0 0) g T' x') E.1 E.2.1 t (C + 1) := by
          refine REL_snd (REL_thr (x := 0) hR) hg (fun f i c k z => ?_) rfl rfl rfl (fun c k z => by unfold sndR; rw [muD (by omega), muD (by omega)]) (Or.inr ⟨by unfold sndR; rw [muD (by omega), muD (by omega), thr_c (by omega)]; exact h30, T', a1, v15, by unfold sndR; rw [muD (by omega)]; exact muS ⟨rfl, rfl⟩⟩) ?_
          · by_cases e : f = 0 ∧ i = g
            · obtain ⟨rfl, rfl⟩ := e
              rw [pv_kV]
              unfold sndV
              rw [muD (by omega), muD (by omega)]
            · rw [pv_n e]
          · rw [pv_kV]
            unfold sndV sndR
            rw [muS ⟨rfl, rfl⟩, muS ⟨rfl, rfl⟩]
        exact ⟨E, _, E.1, E.2.1, t, by
      unfold lw_round
      rw [show f_X10_round E κ (nI g) (nI l) = some (pv κ 0 g (sndV (kV κ 0 g) T' x'), .inl (nI (pop T'))) from by exact hcl]
      dsimp only
      rw [show f_X11_round E (lwS (pv κ 0 g (sndV (kV κ 0 g) T' x')) (.inl (nI (pop T')))) (nI g) (nI l) = some (putM (lwS (pv κ 0 g (sndV (kV κ 0 g) T' x')) (.inl (nI (pop T')))) (sndR (mu (kV κ 5 0) 0 0 0) g T' x'), nI (pop T')) from by rw [f_X11_round, isGuest_t (n := E.1) (by rw [lw_V (by omega), e5]; exact hG) hn hg, bd_s, if_neg (by decide), hin, bd_s, if_neg (by decide), nI_cl (by omega), gdi (by omega), lw_V (by omega), e5, if_neg (by rw [h30]; decide), f_X11_round_b41, ref_0, bd_s, if_pos rfl, lw_V (by omega), e5, a3]]
      dsimp only
      rw [gdp_t (lwS_okX (by unfold sndR; rw [muD (by omega), muD (by omega)]; exact muS ⟨rfl, rfl⟩) (rfl))], glueS (hrel)⟩
  · exact ⟨E, _, E.1, E.2.1, t, by
      unfold lw_round
      rw [show f_X10_round E κ a b = some (addC κ 1 6, .inr 1) from by rw [f_X10_round, guestAt_no q1 hn ha, bx_r]]
      dsimp only
      rw [show f_X11_round E (lwS (addC κ 1 6) (.inr 1)) a b = some (putM (lwS (addC κ 1 6) (.inr 1)) (mu (kV κ 5 0) 0 0 1), 0) from by rw [f_X11_round, isGuest_f (n := E.1) (by rw [lw_V (by omega)]; exact hG) hn ha, bd_s, if_pos rfl, f_X11_round_b41, ref_n (by decide), bd_s, if_neg (by decide), lw_V (by omega)]; rfl]
      dsimp only
      rw [gdp_t (lwS_noX (by decide) rfl)], glueS (REL_no hR)⟩
