theorem own_g {μ μ' : MU} {g g2 c : Nat} (hO : OWN μ μ' g) (hne : g2 ≠ g) (hw : wid c = 1) (h : c ≠ 27 ∧ c ≠ 28 ∧ c ≠ 29) : μ' c g2 = μ c g2 := hO.2.2 c g2 h.1 h.2.1 h.2.2 (by rw [hw, Nat.div_one]; exact hne)
theorem REL_G {E : EE} {κ κ' : K} {μ μ' : MU} {n ns t C g d1 d2 : Nat} (hR : REL E κ μ n ns t C) (hg : g < n) (hV : ∀ f i, ¬ (f = 0 ∧ i = g) → f ≠ 2 → f ≠ 5 → f ≠ 6 → kV κ' f i = kV κ f i) (hN : ∀ f i, ¬ (f = 0 ∧ i = g) → kN κ' f i = kN κ f i) (hP : ∀ f i, ¬ (f = 0 ∧ i = g) → kP κ' f i = kP κ f i) (hTJ : TJ μ' n) (hF : FRM μ' n) (hO : OWN μ μ' g) (hB : ∀ key, key / 8 < n → key / 8 ≠ g → (μ' 27 key = 0 ↔ μ 27 key = 0)) (hHO : ∀ h, h < 2 → RH (kV κ' 2 h) μ' n h ∧ ∀ k, kV κ' 2 h 0 k = kV κ 2 h 0 k) (hRG : RG κ' μ' g t) (hGP : GPT κ' μ' g ns) (hFP : FPL κ' g) (hSN : ∀ s, s < ns → PLK κ 9 s 0 g → PLK κ' 9 s 0 g) (em : ∀ c, 7 ≤ c → c ≤ 10 → μ' c = μ c) (hS : SAY μ' g t) (hC : CLK μ' g t) (hI : INQ μ' g (C + 1)) (hp : PAID n ns d1 d2 κ κ') (h1 : d1 ≤ 400) (h2 : d2 ≤ 5000) : REL E κ' μ' n ns t (C + 1) := by
  obtain ⟨g1, ⟨l1, l2, l3, l4, l5⟩, ⟨m1, m2, m3, m4, m5⟩, g4, g5, g6, g7⟩ := hR
  refine ⟨⟨g1.1, g1.2.1, g1.2.2.1, g1.2.2.2.1, fun i hi => by rw [hP 3 i (by omega)]; exact g1.2.2.2.2 i hi⟩, ⟨LsI_v l1 (by rw [hV 4 0 (by omega) (by omega) (by omega) (by omega)]) (hP 4 0 (by omega)), LsI_v l2 (by rw [hV 4 0 (by omega) (by omega) (by omega) (by omega)]) (hP 4 0 (by omega)), by rw [hV 4 0 (by omega) (by omega) (by omega) (by omega)]; exact l3, by rw [hO.1]; exact l4, l5⟩, ⟨hTJ, hF, fun h hh => ?_, fun g2 hg2 => ?_, fun s hs => ?_⟩, fun g2 hg2 => ?_, ⟨by rw [hO.1]; exact g5.1, g5.2.1, fun s hs => ?_⟩, ZER_own g6 hO hg, COST_p g7 hp h1 h2⟩
  · exact HO_v (m3 h hh) (Nat.le_refl _) (hHO h hh).1 (fun k _ => (hHO h hh).2 k) (hP 2 h (by omega)) (fun c a b => by rw [hO.2.1 c a])
  · by_cases e : g2 = g
    · subst e
      exact ⟨hRG, hGP, hFP⟩
    · have eV : kV κ' 0 g2 = kV κ 0 g2 := hV 0 g2 (by omega) (by omega) (by omega) (by omega)
      have eN : kN κ' 0 g2 = kN κ 0 g2 := hN 0 g2 (by omega)
      refine ⟨RG_n (m4 g2 hg2).1 (Ne.symm e) hO (fun p hp => hB _ (by omega) (by omega)) eV eN, GPT_v (m4 g2 hg2).2.1 (Nat.le_refl _) (hP 0 g2 (by omega)) (own_g hO e rfl (by omega)) (own_g hO e rfl (by omega)), (m4 g2 hg2).2.2.imp (fun z => by rw [eV]; exact z) (fun z => PLK_v z (fun j _ => by rw [eV]) (fun j _ => by rw [eN]) (fun c _ _ => by rw [eV]) (RANUP_e (by rw [eV])))⟩
  · obtain ⟨o, p0, p1, p2, p3, p4, p5, p6⟩ := m5 s hs
    have e9 : kV κ' 9 s = kV κ 9 s := hV 9 s (by omega) (by omega) (by omega) (by omega)
    have n9 : kN κ' 9 s = kN κ 9 s := hN 9 s (by omega)
    refine ⟨o, p0, by rw [hP 1 s (by omega)]; exact p1, by rw [hP 1 s (by omega)]; exact p2, by rw [em 9 (by omega) (by omega)]; exact p3, by rw [hV 1 s (by omega) (by omega) (by omega) (by omega), em 10 (by omega) (by omega)]; exact p4, KST_v p5 (fun j _ => by rw [e9]) (by rw [n9]) (fun k _ => by rw [em 7 (by omega) (by omega)]) (fun k _ => by rw [em 8 (by omega) (by omega)]), ?_⟩
    by_cases e : o = g
    · subst e
      exact hSN s hs p6
    · have eV : kV κ' 0 o = kV κ 0 o := hV 0 o (by omega) (by omega) (by omega) (by omega)
      exact PLK_v p6 (fun j _ => by rw [e9]) (fun j _ => by rw [n9]) (fun c _ _ => by rw [eV]) (RANUP_e (by rw [eV]))
  · by_cases e : g2 = g
    · subst e
      exact ⟨hS, hC, hI⟩
    · obtain ⟨a1, a2, ⟨m, b1, b2⟩, ⟨bb, b3, b4, b5⟩, b6⟩ := g4 g2 hg2
      refine ⟨?_, ?_, ⟨m, ?_, by omega⟩, ⟨bb, ?_, by omega, fun z => ?_⟩, ?_⟩
      · unfold SAY
        rw [own_g hO e rfl (by omega), own_g hO e rfl (by omega), own_g hO e rfl (by omega)]
        exact a1
      · unfold CLK
        rw [own_g hO e rfl (by omega), own_g hO e rfl (by omega), own_g hO e rfl (by omega)]
        exact a2
      · rw [hO.2.2 1 _ (by omega) (by omega) (by omega) (by show (55 * g2 + 54) / 55 ≠ g; omega)]; exact b1
      · rw [own_g hO e rfl (by omega)]; exact b3
      · rw [own_g hO e rfl (by omega)] at z
        obtain ⟨⟨a', y1, y2⟩, y3⟩ := b5 z
        exact ⟨⟨a', by rw [hO.2.2 3 _ (by omega) (by omega) (by omega) (by show (55 * g2 + 54) / 55 ≠ g; omega)]; exact y1, by omega⟩, fun k hk hk5 => by rw [hO.2.2 5 _ (by omega) (by omega) (by omega) (by show (512 * g2 + k) / 512 ≠ g; omega)]; exact y3 k hk hk5⟩
      · rw [own_g hO e rfl (by omega)]; exact b6
  · obtain ⟨a, y1, y2⟩ := g5.2.2 s hs
    exact ⟨a, by rw [em 7 (by omega) (by omega)]; exact y1, by omega⟩
/-- one scalar of a guest is set on both sides -/
theorem REL_s {E : EE} {κ : K} {μ μ' : MU} {n ns t C g k : Nat} {x : Int32} (hR : REL E κ μ n ns t C) (hg : g < n) (hk : k ≠ 12 ∧ k ≠ 14 ∧ k ≠ 15 ∧ k ≠ 18) (hO : OWN μ μ' g) (em : ∀ c, c < 18 ∨ 23 < c → μ' c = μ c) (s1 : SCA (kV (setV κ 0 g 0 k x) 0 g) μ' g) (ecl : clockM μ' g = clockM μ g) (hC : CLK μ' g t) (h18 : μ' 18 g = 0 ∨ μ' 18 g = 1) : REL E (setV κ 0 g 0 k x) μ' n ns t (C + 1) := by
  have fr := set_frame (κ := κ) (g := g) (c := 0) (k := k) (x := x)
  obtain ⟨m1, m2, m3, m4, m5⟩ := hR.2.2.1
  obtain ⟨a1, a2, ⟨m, b1, b2⟩, ⟨bb, b3, b4, b5⟩, b6⟩ := hR.2.2.2.1 g hg
  refine REL_G (d1 := 0) (d2 := 0) hR hg (fun f i a _ _ _ => fr.1 f i a) (fun _ _ _ => rfl) (fun _ _ _ => rfl) (TJ.row m1 (fun c hc => em c (by omega))) (FRM_row m2 (em 27 (by omega)) (em 28 (by omega))) hO (fun key _ _ => by rw [em 27 (by omega)]) (fun h hh => ⟨?_, fun k => by rw [fr.1 2 h (by omega)]⟩) (RG_sc (m4 g hg).1 hk s1 (fun c hc => em c (by omega)) (by rw [em 24 (by omega)]) ecl) (GPT_v (m4 g hg).2.1 (Nat.le_refl _) rfl (by rw [em 15 (by omega)]) (by rw [em 12 (by omega)])) ?_ (fun s hs z => ?_) (fun c a b => em c (by omega)) (SAY_row a1 (em 24 (by omega)) (em 35 (by omega)) (em 37 (by omega))) hC ⟨⟨m, by rw [em 1 (by omega)]; exact b1, by omega⟩, ⟨bb, by rw [em 6 (by omega)]; exact b3, by omega, fun z => ?_⟩, h18⟩ (PAID_same rfl rfl) (by omega) (by omega)
  · rw [fr.1 2 h (by omega)]
    exact RH_row (m3 h hh).1 (em 15 (by omega)) (em 28 (by omega)) (em 29 (by omega))
  · exact (m4 g hg).2.2.imp (fun z => by rw [fr.2 18 (by omega)]; exact z) (fun z => PLK_v z (fun j _ => fr.2 _ (by omega)) (fun _ _ => rfl) (fun c _ _ => fr.2 c (by omega)) (RANUP_e (vD (by omega))))
  · exact PLK_v z (fun j _ => by rw [fr.1 9 s (by omega)]) (fun _ _ => rfl) (fun c _ _ => fr.2 c (by omega)) (RANUP_e (vD (by omega)))
  · rw [em 33 (by omega)] at z
    obtain ⟨⟨a', y1, y2⟩, y3⟩ := b5 z
    exact ⟨⟨a', by rw [em 3 (by omega)]; exact y1, by omega⟩, fun k hk hk5 => by rw [em 5 (by omega)]; exact y3 k hk hk5⟩
theorem st_pause {E : EE} {κ : K} {n ns t C : Nat} {a b : Int32} (hb : b = 0 ∨ b = 1) (hR : REL E κ (kV κ 5 0) n ns t C) : DONE (lw_pause E κ a b) C := by
  have hR0 := hR
  obtain ⟨⟨rfl, rfl, hO, h9⟩, ⟨q1, q2, q3, q4, q5⟩, hM, hQ, hS, hZ, hC⟩ := hR0
  have hn : E.1 ≤ 5 := hM.1.1.1
  have hG : kV κ 5 0 0 26 = nI E.1 := hM.1.1.2.1
  have hH : E.2.2.2.1 = 1 := hO.2.2.2.1
  by_cases ha : vp_in a E.1
  · obtain ⟨g, hg, rfl⟩ := vp_ex (by omega) ha
    have hv : kV κ 0 g 0 16 = kV κ 5 0 18 g := (hM.2.2.2.1 g hg).1.1.1.2.2.2.2.2.2.1
    have hbit := (hQ g hg).2.2.2.2
    have hcl : f_X10_pause E κ (nI g) b = some (setV κ 0 g 0 16 b, .inl (kV κ 5 0 18 g)) := by
      rw [f_X10_pause, f_X10_pause_e, guestAt_ok q1 hn hg, bx_s, gd_t (show g < cntE E 0 from hg), nmE, gd_t hb, nmE, bx_s, hv, gd_t hbit]
    have em : ∀ c, c ≠ 0 → c ≠ 18 → (mu (mu (kV κ 5 0) 0 0 0) 18 g b) c = kV κ 5 0 c := fun c x y => by rw [mu_row y, mu_row x]
    have hrel : REL E (setV κ 0 g 0 16 b) (mu (mu (kV κ 5 0) 0 0 0) 18 g b) E.1 E.2.1 t (C + 1) := by
      refine REL_s (REL_thr (x := 0) hR) hg (by omega) (OWN_g (by omega) (by omega) rfl) (fun c hc => mu_row (by omega)) ?_ (clock_e (by rw [mu_row (by omega)]) (by rw [mu_row (by omega)]) (by rw [mu_row (by omega)]) (by rw [mu_row (by omega)])) ?_ (by rw [muS ⟨rfl, rfl⟩]; exact hb)
      · obtain ⟨s1, s2, s3, s4, s5, s6, s7, s8⟩ := (hM.2.2.2.1 g hg).1.1.1
        unfold SCA
        rw [vD (by omega), vD (by omega), vD (by omega), vD (by omega), vD (by omega), vD (by omega), vS ⟨rfl, rfl, rfl, rfl⟩, vD (by omega), muS ⟨rfl, rfl⟩, em 16 (by omega) (by omega), em 17 (by omega) (by omega), em 20 (by omega) (by omega), em 23 (by omega) (by omega), em 32 (by omega) (by omega), em 19 (by omega) (by omega)]
        exact ⟨s1, s2, s3, s4, s5, s6, rfl, s8⟩
      · unfold CLK
        rw [em 22 (by omega) (by omega), em 20 (by omega) (by omega), em 21 (by omega) (by omega)]
        exact (hQ g hg).2.1
    exact ⟨E, _, E.1, E.2.1, t, by
      unfold lw_pause
      rw [show f_X10_pause E κ (nI g) b = some (setV κ 0 g 0 16 b, .inl (kV κ 5 0 18 g)) from by exact hcl]
      dsimp only
      rw [show f_X11_pause E (lwB (setV κ 0 g 0 16 b) (.inl (kV κ 5 0 18 g))) (nI g) b = some (putM (lwB (setV κ 0 g 0 16 b) (.inl (kV κ 5 0 18 g))) (mu (mu (kV κ 5 0) 0 0 0) 18 g b), kV κ 5 0 18 g) from by rw [f_X11_pause, f_X11_pause_e, isGuest_t (n := E.1) (by rw [lwB_V (by omega)]; exact hG) hn hg, bd_s, if_neg (by decide), f_X11_pause_b14, ref_0, bd_s, if_pos rfl, nI_cl (by omega), gdi (by omega), nmE, gdi (by omega), gd_t hb, nmE, bd_s, put_kV, set5, put_kV, put_put, lwB_V (by omega), show kV (setV κ 0 g 0 16 b) 5 = kV κ 5 from by (funext i c k; exact vD (by omega)), thr_c (by omega), gd_t hbit]]
      dsimp only
      rw [gdp_t (lwB_okX (by rw [muD (by omega)]; exact muS ⟨rfl, rfl⟩) (rfl))], glueB (hrel)⟩
  · exact ⟨E, _, E.1, E.2.1, t, by
      unfold lw_pause
      rw [show f_X10_pause E κ a b = some (addC κ 1 6, .inr 1) from by rw [f_X10_pause, f_X10_pause_e, guestAt_no q1 hn ha, bx_r, bx_r]]
      dsimp only
      rw [show f_X11_pause E (lwB (addC κ 1 6) (.inr 1)) a b = some (putM (lwB (addC κ 1 6) (.inr 1)) (mu (kV κ 5 0) 0 0 1), 0) from by rw [f_X11_pause, f_X11_pause_e, isGuest_f (n := E.1) (by rw [lwB_V (by omega)]; exact hG) hn ha, bd_s, if_pos rfl, f_X11_pause_b14, ref_n (by decide), bd_s, if_neg (by decide), lwB_V (by omega), bd_s, gd_t (Or.inl rfl)]; rfl]
      dsimp only
      rw [gdp_t (lwB_noX (by decide) rfl)], glueB (REL_no hR)⟩
theorem st_mend {E : EE} {κ : K} {n ns t C : Nat} {a : Int32} (hR : REL E κ (kV κ 5 0) n ns t C) : DONE (lw_mend E κ a) C := by
  have hR0 := hR
  obtain ⟨⟨rfl, rfl, hO, h9⟩, ⟨q1, q2, q3, q4, q5⟩, hM, hQ, hS, hZ, hC⟩ := hR0
  have hn : E.1 ≤ 5 := hM.1.1.1
  have hG : kV κ 5 0 0 26 = nI E.1 := hM.1.1.2.1
  have hH : E.2.2.2.1 = 1 := hO.2.2.2.1
  by_cases ha : vp_in a 2
  · obtain ⟨h, hh, rfl⟩ := vp_ex (by omega) ha
    obtain ⟨o1, o2, o3, o4, o5, o6⟩ := hM.2.2.1 h hh
    have hin : ∀ κ : K, f_X11_in E κ (nI h) 0 1 = some (κ, 1) := fun κ => in_t (by rw [i32_0, nI_lt' (by omega) (by omega)]; omega) (by rw [i32_1, nI_lt' (by omega) (by omega)]; omega)
    by_cases h0 : kV κ 5 0 38 h = 0
    · refine ⟨E, _, E.1, E.2.1, t, by
        unfold lw_mend
        rw [show f_X10_mend E κ (nI h) = some (addC κ 1 6, .inr 3) from by rw [f_X10_mend, hostAt_ok hH hh, bx_s, gd_t (host_lt hH hh), o3, if_pos h0]]
        dsimp only
        rw [show f_X11_mend E (addC κ 1 6) (nI h) = some (putM (addC κ 1 6) (mu (kV κ 5 0) 0 0 2), ()) from by rw [f_X11_mend, hin, bd_s, if_neg (by decide), nI_cl (by omega), gdi (by omega), if_pos (show kV (addC κ 1 6) 5 0 38 h = 0 from h0), f_X11_mend_b28, ref_n (by decide), bd_s, if_neg (by decide)]; rfl]
        dsimp only
        rw [gdp_t ⟨⟨fun e z => by cases z; decide, by rw [put_kV]; rfl⟩, ONLY5_put, by rw [put_kV]; first | exact EXT_thr | exact EXT_thr.tr (EXT_mu (by omega))⟩], ?_⟩
      rw [put_kV]
      exact REL_k (REL_no hR) (fun f a b => put_ff a) rfl rfl rfl
    · have h1 := o4.resolve_left h0
      refine ⟨E, _, E.1, E.2.1, t, by
        unfold lw_mend
        rw [show f_X10_mend E κ (nI h) = some (setV κ 2 h 0 4 0, .inl ()) from by rw [f_X10_mend, hostAt_ok hH hh, bx_s, gd_t (host_lt hH hh), o3, if_neg h0, nmE]]
        dsimp only
        rw [show f_X11_mend E (setV κ 2 h 0 4 0) (nI h) = some (putM (setV κ 2 h 0 4 0) (mu (mu (kV κ 5 0) 0 0 0) 38 h 0), ()) from by rw [f_X11_mend, hin, bd_s, if_neg (by decide), nI_cl (by omega), gdi (by omega), show kV (setV κ 2 h 0 4 0) 5 = kV κ 5 from by (funext i c k; exact vD (by omega)), if_neg h0, f_X11_mend_b28, ref_0, bd_s, if_pos rfl, nI_cl (by omega), gdi (by omega), nmE, set5, put_kV, put_put, show kV (setV κ 2 h 0 4 0) 5 = kV κ 5 from by (funext i c k; exact vD (by omega))]]
        dsimp only
        rw [gdp_t ⟨⟨fun e z => (by cases z), by rw [put_kV, muD (by omega)]; exact muS ⟨rfl, rfl⟩⟩, ONLY5_put, by rw [put_kV]; first | exact EXT_thr | exact EXT_thr.tr (EXT_mu (by omega))⟩], ?_⟩
      rw [put_kV]
      have hr := REL_ok (x := 0) hR
      obtain ⟨r1, r2, r3, r4, r5, r6, r7⟩ := hr
      have eV : ∀ f, f ≠ 2 → kV (setV κ 2 h 0 4 0) f = kV κ f := fun f hf => by
        funext i c k
        exact vD (by omega)
      have em : ∀ c, c ≠ 38 → (mu (mu (kV κ 5 0) 0 0 0) 38 h 0) c = (mu (kV κ 5 0) 0 0 0) c := fun c hc => mu_row hc
      refine REL_k (κ := setV κ 2 h 0 4 0) ⟨r1, ⟨LsI_v r2.1 (by rw [eV 4 (by omega)]) rfl, LsI_v r2.2.1 (by rw [eV 4 (by omega)]) rfl, by rw [eV 4 (by omega)]; exact r2.2.2.1, by rw [em 0 (by omega)]; exact r2.2.2.2.1, r2.2.2.2.2⟩, MID_2 r3 eV rfl (fun _ _ => rfl) (TJ.row r3.1 (fun c hc => em c (by omega))) (fun h2 hh2 => ?_) (fun c hc => em c (by omega)), fun g hg => ⟨SAY_row (r4 g hg).1 (em 24 (by omega)) (em 35 (by omega)) (em 37 (by omega)), ?_, ?_⟩, ⟨by rw [em 0 (by omega)]; exact r5.1, r5.2.1, by rw [em 7 (by omega)]; exact r5.2.2⟩, ZER_e r6 (fun c _ b _ _ => em c (by omega)), r7⟩ (fun f a b => put_ff a) rfl rfl rfl
      · have hR2 : RH (kV (setV κ 2 h 0 4 0) 2 h2) (mu (mu (kV κ 5 0) 0 0 0) 38 h 0) E.1 h2 := by
          refine RH_wrow (RH_row (r3.2.2.1 h2 hh2).1 (em 15 (by omega)) (em 28 (by omega)) (em 29 (by omega))) ?_ ?_ ?_ <;> (funext k; exact vD (by omega))
        by_cases e : h2 = h
        · subst e
          exact ⟨hR2, by rw [vD (by omega)]; exact o2, by rw [vS ⟨rfl, rfl, rfl, rfl⟩, muS ⟨rfl, rfl⟩], by rw [muS ⟨rfl, rfl⟩]; exact Or.inl rfl, by rw [vD (by omega), em 40 (by omega), mu_row (by omega)]; exact o5, by rw [em 39 (by omega), mu_row (by omega)]; exact o6⟩
        · exact HO_v (r3.2.2.1 h2 hh2) (Nat.le_refl _) hR2 (fun k _ => vD (by omega)) rfl (fun c a b => muD (by omega))
      · unfold CLK
        rw [em 22 (by omega), em 20 (by omega), em 21 (by omega)]
        exact (r4 g hg).2.1
      · unfold INQ
        rw [em 1 (by omega), em 3 (by omega), em 5 (by omega), em 6 (by omega), em 33 (by omega), em 18 (by omega)]
        exact (r4 g hg).2.2
  · refine ⟨E, _, E.1, E.2.1, t, by
      unfold lw_mend
      rw [show f_X10_mend E κ a = some (addC κ 1 6, .inr 1) from by rw [f_X10_mend, hostAt_no ha, bx_r]]
      dsimp only
      rw [show f_X11_mend E (addC κ 1 6) a = some (putM (addC κ 1 6) (mu (kV κ 5 0) 0 0 1), ()) from by rw [f_X11_mend, i32_1, in_f (vp_not (n := 1) (by omega) ha), bd_s, if_pos rfl, f_X11_mend_b28, ref_n (by decide), bd_s, if_neg (by decide)]; rfl]
      dsimp only
      rw [gdp_t ⟨⟨fun e z => by cases z; decide, by rw [put_kV]; rfl⟩, ONLY5_put, by rw [put_kV]; first | exact EXT_thr | exact EXT_thr.tr (EXT_mu (by omega))⟩], ?_⟩
    rw [put_kV]
    exact REL_k (REL_no hR) (fun f a b => put_ff a) rfl rfl rfl
