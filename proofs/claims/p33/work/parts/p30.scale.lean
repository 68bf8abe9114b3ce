theorem rg_cases {b : Int32} (lo hi : Nat) (hl : lo < 2147483648) (hh : hi < 2147483648) : (b < nI lo ∨ nI hi < b) ∨ ∃ s, lo ≤ s ∧ s ≤ hi ∧ b = nI s := by
  by_cases h1 : b < nI lo
  · exact Or.inl (Or.inl h1)
  · by_cases h2 : nI hi < b
    · exact Or.inl (Or.inr h2)
    · rw [Int32.lt_iff_toInt_lt, nI_toInt hl] at h1
      rw [Int32.lt_iff_toInt_lt, nI_toInt hh] at h2
      refine Or.inr ⟨b.toInt.toNat, by omega, by omega, nI_of_toInt (by omega) (by omega)⟩
theorem restI_sub {x y : Nat} (hx : x < 10000) (hy : y < 10000) : restI (nI x - nI y) = nI ((x + 10000 - y) % 10000) := by
  have e : (nI x - nI y).toInt = (x : Int) - (y : Int) := by
    rw [Int32.toInt_sub, nI_toInt (by omega), nI_toInt (by omega), bm (by omega) (by omega)]
  have h := (rem_toI (nI x - nI y)).1
  have h0 : Int.tdiv ((x : Int) - y) 10000 = 0 := by
    by_cases h : y ≤ x
    · rw [Int.tdiv_eq_ediv_of_nonneg (by omega)]; omega
    · rw [show (x : Int) - y = -((y : Int) - x) from by omega, Int.neg_tdiv, Int.tdiv_eq_ediv_of_nonneg (by omega)]; omega
  rw [e, h0] at h
  have h2 : (nI x - nI y - (nI x - nI y) / 10000 * 10000) + 10000 = nI (x + 10000 - y) := by
    refine nI_of_toInt (by omega) ?_
    rw [Int32.toInt_add, h, show (10000 : Int32).toInt = 10000 from by decide, bm (by omega) (by omega)]
    omega
  unfold restI
  rw [h2, show (10000 : Int32) = nI 10000 from rfl, nI_mod (by omega) (by omega)]
/-- one guest has changed, hosts aside -/
theorem REL_g {E : EE} {κ κ' : K} {μ μ' : MU} {n ns t C g d1 d2 : Nat} (hR : REL E κ μ n ns t C) (hg : g < n) (hV : ∀ f i, ¬ (f = 0 ∧ i = g) → kV κ' f i = kV κ f i) (hN : ∀ f i, ¬ (f = 0 ∧ i = g) → kN κ' f i = kN κ f i) (hNg : ∀ c, 18 ≤ c → c < 32 → kN κ' 0 g c = kN κ 0 g c) (hP : kP κ' = kP κ) (ec : ∀ c, (1 ≤ c ∧ c ≤ 4) ∨ (18 ≤ c ∧ c < 32) → kV κ' 0 g c = kV κ 0 g c) (e12 : kV κ' 0 g 0 12 = kV κ 0 g 0 12) (hTJ : TJ μ' n) (hO : OWN μ μ' g) (em : ∀ c, c = 12 ∨ c = 15 ∨ (7 ≤ c ∧ c ≤ 10) ∨ c = 27 ∨ c = 28 ∨ c = 29 → μ' c = μ c) (hRG : RG κ' μ' g t) (hS : SAY μ' g t) (hC : CLK μ' g t) (hI : INQ μ' g (C + 1)) (hp : PAID n ns d1 d2 κ κ') (h1 : d1 ≤ 400) (h2 : d2 ≤ 5000) : REL E κ' μ' n ns t (C + 1) := by
  obtain ⟨m1, m2, m3, m4, m5⟩ := hR.2.2.1
  refine REL_G hR hg (fun f i a _ _ _ => hV f i a) hN (fun f i _ => by rw [hP]) hTJ (FRM_row m2 (em 27 (by omega)) (em 28 (by omega))) hO (fun key _ _ => by rw [em 27 (by omega)]) (fun h hh => ⟨?_, fun k => by rw [hV 2 h (by omega)]⟩) hRG (GPT_v (m4 g hg).2.1 (Nat.le_refl _) (by rw [hP]) (by rw [em 15 (by omega)]) (by rw [em 12 (by omega)])) ?_ (fun s hs z => ?_) (fun c a b => em c (by omega)) hS hC hI hp h1 h2
  · rw [hV 2 h (by omega)]
    exact RH_row (m3 h hh).1 (em 15 (by omega)) (em 28 (by omega)) (em 29 (by omega))
  · exact (m4 g hg).2.2.imp (fun z => by rw [ec 18 (by omega)]; exact z) (fun z => PLK_v z (fun j _ => ec _ (by omega)) (fun j _ => hNg _ (by omega) (by omega)) (fun c _ _ => ec c (by omega)) (RANUP_e e12))
  · exact PLK_v z (fun j _ => by rw [hV 9 s (by omega)]) (fun j _ => by rw [hN 9 s (by omega)]) (fun c _ _ => ec c (by omega)) (RANUP_e e12)
theorem INQ_up {μ : MU} {g C : Nat} (h : INQ μ g C) : INQ μ g (C + 1) := by
  obtain ⟨⟨m, b1, b2⟩, ⟨bb, b3, b4, b5⟩, b6⟩ := h
  exact ⟨⟨m, b1, by omega⟩, ⟨bb, b3, by omega, fun z => by obtain ⟨⟨a, y1, y2⟩, y3⟩ := b5 z; exact ⟨⟨a, y1, by omega⟩, y3⟩⟩, b6⟩
theorem INQ_e {μ μ' : MU} {g C : Nat} (h : INQ μ g C) (e1 : μ' 1 (55 * g + 54) = μ 1 (55 * g + 54)) (e6 : μ' 6 g = μ 6 g) (e33 : μ' 33 g = μ 33 g) (e3 : μ' 3 = μ 3) (e5 : μ' 5 = μ 5) (e18 : μ' 18 g = μ 18 g) : INQ μ' g C := by
  unfold INQ
  rw [e1, e6, e33, e3, e5, e18]
  exact h
theorem CLK_e {μ μ' : MU} {g t : Nat} (h : CLK μ g t) (e22 : μ' 22 = μ 22) (e20 : μ' 20 = μ 20) (e21 : μ' 21 = μ 21) : CLK μ' g t := by
  unfold CLK
  rw [e22, e20, e21]
  exact h
/-- the scale -/
def sclM (μ : MU) (g s : Nat) : MU := shiftM (mu (mu μ 0 0 0) 20 g (nI s)) g (clockM (mu μ 0 0 0) g)
theorem mm_scale {E : EE} {κ : K} {n g s : Nat} (hG : kV κ 5 0 0 26 = nI n) (hn : n ≤ 5) (hg : g < n) (h1 : 1 ≤ s) (h3 : s ≤ 3) : f_X11_scale E κ (nI g) (nI s) = some (putM κ (sclM (kV κ 5 0) g s), kV κ 5 0 20 g) := by
  rw [f_X11_scale, isGuest_t hG hn hg, bd_s, if_neg (by decide), in_t (by rw [i32_1, nI_lt' (by omega) (by omega)]; omega) (by rw [l3, nI_lt' (by omega) (by omega)]; omega), bd_s, if_neg (by decide), f_X11_scale_b27, ref_0, bd_s, if_pos rfl, nI_cl (by omega), gdi (by omega), nmE, m_clock (by omega), bd_s, gdi (by omega), nmE, set5, m_shift (by omega), bd_s]
  simp only [put_kV, put_put]
  rw [thr_c (by omega)]
  rfl
theorem REL_scale {E : EE} {κ : K} {μ : MU} {n ns t C g s : Nat} (hR : REL E κ μ n ns t C) (hg : g < n) (h1 : 1 ≤ s) (h3 : s ≤ 3) : REL E (setV κ 0 g 0 10 (nI s)) (sclM μ g s) n ns t (C + 1) := by
  obtain ⟨_, ⟨_, _, _, q4, q5⟩, hM, hQ, _⟩ := id hR
  obtain ⟨m, sc, sh, c1, c2, c3, c4, c5, c6⟩ := (hQ g hg).2.1
  have X : clockM (mu μ 0 0 0) g = nI (((t - m) * sc + sh) % 10000) := clock_v (by rw [muD (by omega)]; exact q4) (by rw [thr_c (by omega)]; exact c1) c2 (by rw [thr_c (by omega)]; exact c3) c4 (by rw [thr_c (by omega)]; exact c5) c6 (by omega)
  have hds : (t - m) * s ≤ 3000 * 3 := Nat.mul_le_mul (by omega) (by omega)
  have eS : sclM μ g s = mu (mu (mu μ 0 0 0) 20 g (nI s)) 21 g (nI (((((t - m) * sc + sh) % 10000) + 10000 - (t - m) * s) % 10000)) := by
    unfold sclM shiftM
    rw [X, show (mu (mu μ 0 0 0) 20 g (nI s)) 0 41 = nI t from by rw [muD (by omega), muD (by omega)]; exact q4, show (mu (mu μ 0 0 0) 20 g (nI s)) 22 g = nI m from by rw [muD (by omega), muD (by omega)]; exact c1, muS ⟨rfl, rfl⟩, nI_sub c2, nI_mul, restI_sub (Nat.mod_lt _ (by decide)) (by omega)]
  have em : ∀ c, c ≠ 0 → c ≠ 20 → c ≠ 21 → (mu (mu (mu μ 0 0 0) 20 g (nI s)) 21 g (nI (((((t - m) * sc + sh) % 10000) + 10000 - (t - m) * s) % 10000))) c = μ c := fun c x y z => by rw [mu_row z, mu_row y, mu_row x]
  have e20 : (mu (mu (mu μ 0 0 0) 20 g (nI s)) 21 g (nI (((((t - m) * sc + sh) % 10000) + 10000 - (t - m) * s) % 10000))) 20 g = nI s := by rw [muD (by omega), muS ⟨rfl, rfl⟩]
  have e21 : (mu (mu (mu μ 0 0 0) 20 g (nI s)) 21 g (nI (((((t - m) * sc + sh) % 10000) + 10000 - (t - m) * s) % 10000))) 21 g = nI (((((t - m) * sc + sh) % 10000) + 10000 - (t - m) * s) % 10000) := muS ⟨rfl, rfl⟩
  rw [eS]
  refine REL_s (REL_thr (x := 0) hR) hg (by omega) ((OWN_g (by omega) (by omega) rfl).trans (OWN_g (by omega) (by omega) rfl)) (fun c hc => by rw [mu_row (by omega), mu_row (by omega)]) ?_ ?_ ?_ ?_
  · obtain ⟨s1, s2, s3, s4, s5, s6, s7, s8⟩ := (hM.2.2.2.1 g hg).1.1.1
    unfold SCA
    rw [vD (by omega), vD (by omega), vD (by omega), vS ⟨rfl, rfl, rfl, rfl⟩, vD (by omega), vD (by omega), vD (by omega), vD (by omega), e20, em 16 (by omega) (by omega) (by omega), em 17 (by omega) (by omega) (by omega), em 18 (by omega) (by omega) (by omega), em 23 (by omega) (by omega) (by omega), em 32 (by omega) (by omega) (by omega), em 19 (by omega) (by omega) (by omega)]
    exact ⟨s1, s2, s3, rfl, s5, s6, s7, s8⟩
  · rw [X, clock_v (t := t) (m := m) (sc := s) (s := ((((t - m) * sc + sh) % 10000) + 10000 - (t - m) * s) % 10000) (by rw [muD (by omega), muD (by omega), muD (by omega)]; exact q4) (by rw [em 22 (by omega) (by omega) (by omega)]; exact c1) c2 e20 h3 e21 (Nat.mod_lt _ (by decide)) (by omega)]
    congr 1
    omega
  · exact ⟨m, s, _, by rw [em 22 (by omega) (by omega) (by omega)]; exact c1, c2, e20, h3, e21, Nat.mod_lt _ (by decide)⟩
  · rw [em 18 (by omega) (by omega) (by omega)]; exact (hQ g hg).2.2.2.2
theorem EXT_scl {μ : MU} {g s : Nat} : EXT μ (sclM μ g s) := by
  unfold sclM shiftM
  exact (EXT_thr.tr (EXT_mu (by omega))).tr (EXT_mu (by omega))
theorem st_scale {E : EE} {κ : K} {n ns t C : Nat} {a b : Int32} (hR : REL E κ (kV κ 5 0) n ns t C) : DONE (lw_scale E κ a b) C := by
  have hR0 := hR
  obtain ⟨⟨rfl, rfl, hO, h9⟩, ⟨q1, q2, q3, q4, q5⟩, hM, hQ, hS, hZ, hC⟩ := hR0
  have hn : E.1 ≤ 5 := hM.1.1.1
  have hG : kV κ 5 0 0 26 = nI E.1 := hM.1.1.2.1
  have hH : E.2.2.2.1 = 1 := hO.2.2.2.1
  by_cases ha : vp_in a E.1
  · obtain ⟨g, hg, rfl⟩ := vp_ex (by omega) ha
    rcases rg_cases (b := b) 1 3 (by omega) (by omega) with hb | ⟨s, h1, h3, rfl⟩
    · have hcl : f_X10_scale E κ (nI g) b = some (addC κ 1 6, .inr 2) := by
        rw [f_X10_scale, guestAt_ok q1 hn hg, bx_s, gd_t (show g < cntE E 0 from hg), i32_1, l3]
        rcases hb with z | z
        · rw [if_pos z]; rfl
        · rw [if_neg (fun y => by rw [Int32.lt_iff_toInt_lt, nI_toInt (by omega)] at y z; omega), if_neg (Int32.not_le.mpr z)]; rfl
      exact ⟨E, _, E.1, E.2.1, t, by
      unfold lw_scale
      rw [show f_X10_scale E κ (nI g) b = some (addC κ 1 6, .inr 2) from by exact hcl]
      dsimp only
      rw [show f_X11_scale E (lwS (addC κ 1 6) (.inr 2)) (nI g) b = some (putM (lwS (addC κ 1 6) (.inr 2)) (mu (kV κ 5 0) 0 0 2), 0) from by rw [f_X11_scale, isGuest_t (n := E.1) (by rw [lw_V (by omega)]; exact hG) hn hg, bd_s, if_neg (by decide), i32_1, l3, in_f hb, bd_s, if_pos rfl, f_X11_scale_b27, ref_n (by decide), bd_s, if_neg (by decide), lw_V (by omega)]; rfl]
      dsimp only
      rw [gdp_t (lwS_noX (by decide) rfl)], glueS (REL_no hR)⟩
    · have hv : kV κ 0 g 0 10 = kV κ 5 0 20 g := (hM.2.2.2.1 g hg).1.1.1.2.2.2.1
      have e5 : kV (setV κ 0 g 0 10 (nI s)) 5 = kV κ 5 := by
        funext i c k
        exact vD (by omega)
      exact ⟨E, _, E.1, E.2.1, t, by
      unfold lw_scale
      rw [show f_X10_scale E κ (nI g) (nI s) = some (setV κ 0 g 0 10 (nI s), .inl (kV κ 5 0 20 g)) from by rw [f_X10_scale, guestAt_ok q1 hn hg, bx_s, gd_t (show g < cntE E 0 from hg), if_neg (by rw [i32_1, nI_lt' (by omega) (by omega)]; omega), if_pos (by rw [l3, nI_le' (by omega) (by omega)]; omega), nmE, nmE, hv]]
      dsimp only
      rw [show f_X11_scale E (lwS (setV κ 0 g 0 10 (nI s)) (.inl (kV κ 5 0 20 g))) (nI g) (nI s) = some (putM (lwS (setV κ 0 g 0 10 (nI s)) (.inl (kV κ 5 0 20 g))) (sclM (kV κ 5 0) g s), kV κ 5 0 20 g) from by rw [mm_scale (n := E.1) (by rw [lw_V (by omega), e5]; exact hG) hn hg h1 h3, lw_V (by omega), e5]]
      dsimp only
      rw [gdp_t (lwS_okX (by show (shiftM (mu (mu (kV κ 5 0) 0 0 0) 20 g (nI s)) g _) 0 0 = 0; unfold shiftM; rw [muD (by omega), muD (by omega)]; exact muS ⟨rfl, rfl⟩) (rfl))], glueS (REL_scale hR hg h1 h3)⟩
  · exact ⟨E, _, E.1, E.2.1, t, by
      unfold lw_scale
      rw [show f_X10_scale E κ a b = some (addC κ 1 6, .inr 1) from by rw [f_X10_scale, guestAt_no q1 hn ha, bx_r]]
      dsimp only
      rw [show f_X11_scale E (lwS (addC κ 1 6) (.inr 1)) a b = some (putM (lwS (addC κ 1 6) (.inr 1)) (mu (kV κ 5 0) 0 0 1), 0) from by rw [f_X11_scale, isGuest_f (n := E.1) (by rw [lw_V (by omega)]; exact hG) hn ha, bd_s, if_pos rfl, f_X11_scale_b27, ref_n (by decide), bd_s, if_neg (by decide), lw_V (by omega)]; rfl]
      dsimp only
      rw [gdp_t (lwS_noX (by decide) rfl)], glueS (REL_no hR)⟩
/-- an interrupt is sent -/
theorem RG_flag {κ : K} {μ : MU} {g tt : Nat} (hG : RG κ μ g tt) : RG (setV κ 0 g 5 8 1) (mu μ 1 (55 * g + 52) 1) g tt := by
  obtain ⟨h1, h2, h3, h4, h5, h6, q7, q8, q9, q10, h11, h12⟩ := hG.1
  have fr := set_frame (κ := κ) (g := g) (c := 5) (k := 8) (x := 1)
  have eV := fr.2
  have e5 : ∀ k, k ≠ 8 → kV (setV κ 0 g 5 8 1) 0 g 5 k = kV κ 0 g 5 k := fun k hk => vD (by omega)
  have eR : ∀ c, c ≠ 1 → (mu μ 1 (55 * g + 52) 1) c = μ c := fun c hc => mu_row hc
  have hq : ∀ {c B x q}, QQ κ 0 g c B x q → c ≠ 5 ∧ c + 1 ≠ 5 → QQ (setV κ 0 g 5 8 1) 0 g c B x q := fun a b => QQ_v a (by rw [eV _ b.1]) (eV _ b.2) rfl rfl (fun _ _ => rfl)
  refine ⟨RGX_q hG.1 ⟨?_, ?_, ?_, ?_⟩ ?_ ?_ ?_ ?_ (fun c z => eV c (by omega)) (fun c _ _ => rfl) (fun c z => eR c (by omega)), ?_, ?_, ?_⟩
  · rw [muD (by omega), e5 6 (by omega)]; exact h6.1
  · rw [muD (by omega), e5 7 (by omega)]; exact h6.2.1
  · rw [muS ⟨rfl, rfl⟩]; exact vS ⟨rfl, rfl, rfl, rfl⟩
  · rw [e5 9 (by omega), clock_e (μ := μ) (by rw [eR 0 (by omega)]) (by rw [eR 20 (by omega)]) (by rw [eR 21 (by omega)]) (by rw [eR 22 (by omega)])]; exact h6.2.2.2
  · rw [muD (by omega), eR 2 (by omega)]; exact hq q7 (by omega)
  · rw [eR 35 (by omega), eR 34 (by omega)]; exact hq q8 (by omega)
  · rw [eR 37 (by omega), eR 36 (by omega)]; exact hq q9 (by omega)
  · rw [eR 6 (by omega), eR 5 (by omega)]; exact hq q10 (by omega)
  · rw [row_mu rfl]
    exact MCH_m (MCH_up hG.2.1 (by omega)) (fun j hj => eV (6 + j) (by omega))
  · rw [eV 0 (by omega), eR 24 (by omega)]; exact hG.2.2.1
  · exact PLL_v hG.2.2.2 (fun c _ _ => eV c (by omega)) (fun c _ _ => eV c (by omega)) (fun _ _ _ => rfl) (e5 5 (by omega)) (by rw [eV 0 (by omega)]) (by rw [eV 0 (by omega)]) (MEQ_j fun j hj => eV (6 + j) (by omega))
def sndM (μ : MU) (g : Nat) : MU := mu (mu (mu μ 0 0 0) 1 (55 * g + 52) 1) 1 (55 * g + 49) 0
theorem mm_send {E : EE} {κ : K} {n g x : Nat} (hG : kV κ 5 0 0 26 = nI n) (hn : n ≤ 5) (hg : g < n) (hx : x < 2) (hst : kV κ 5 0 1 (55 * g + 49) = nI x) : f_X11_send E κ (nI g) = some (putM κ (sndM (kV κ 5 0) g), if kV κ 5 0 1 (55 * g + 52) = 1 then 1 else 0) := by
  have b : ∀ y : Int32, f_X11_send_b84 E (putM κ (mu (kV κ 5 0) 0 0 0)) (nI (55 * g)) y = some (putM κ (sndM (kV κ 5 0) g), y) := fun y => by
    rw [f_X11_send_b84, l52, nI_add, nI_cl (by omega), gdi (by omega), nmE, l49, nI_add, nI_cl (by omega), gdi (by omega), nmE, set5, set5]
    simp only [put_kV, put_put]
    rfl
  rw [f_X11_send, f_X11_send_e, isGuest_t hG hn hg, bd_s, if_neg (by decide), l55, nI_mul, l49, nI_add, nI_cl (by omega), gdi (by omega), hst, f_X11_send_b26, if_neg (by decide), if_neg (by rw [l2, nI_eq' (by omega) (by omega)]; omega), if_neg (by rw [l3, nI_eq' (by omega) (by omega)]; omega), f_X11_send_b51, ref_0, bd_s, if_pos rfl, nmE, l55, nI_mul, l52, nI_add, nI_cl (by omega), gdi (by omega), put_kV, thr_c (by omega)]
  by_cases e : kV κ 5 0 1 (55 * g + 52) = 1
  · rw [if_pos e, if_pos e, b, bd_s, gd_t (Or.inr rfl)]
  · rw [if_neg e, if_neg e, b, bd_s, gd_t (Or.inl rfl)]
theorem mm_send2 {E : EE} {κ : K} {n g x : Nat} (hG : kV κ 5 0 0 26 = nI n) (hn : n ≤ 5) (hg : g < n) (hx : x = 2 ∨ x = 3) (hst : kV κ 5 0 1 (55 * g + 49) = nI x) : f_X11_send E κ (nI g) = some (putM κ (mu (kV κ 5 0) 0 0 2), 0) := by
  rw [f_X11_send, f_X11_send_e, isGuest_t hG hn hg, bd_s, if_neg (by decide), l55, nI_mul, l49, nI_add, nI_cl (by omega), gdi (by omega), hst, f_X11_send_b26, if_neg (by decide)]
  rcases hx with rfl | rfl
  · rw [if_pos (by decide), f_X11_send_b46, f_X11_send_b51, ref_n (by decide), bd_s, if_neg (by decide), bd_s, gd_t (Or.inl rfl)]
  · rw [if_neg (by decide), if_pos (by decide), f_X11_send_b46, f_X11_send_b51, ref_n (by decide), bd_s, if_neg (by decide), bd_s, gd_t (Or.inl rfl)]
theorem ended_E {E : EE} {κ : K} {g x : Nat} (h : kV κ 0 g 6 8 = nI x) (hx : x < 4) : f_X3_hasEnded E κ 0 g 6 = some (κ, if x < 2 then 0 else 1) := by
  rw [f_X3_hasEnded, f_X3_hasEnded_e, h]
  have : x = 0 ∨ x = 1 ∨ x = 2 ∨ x = 3 := by omega
  rcases this with rfl | rfl | rfl | rfl
  · rw [if_neg (by decide), if_neg (by decide), bd_s, gd_t (Or.inl rfl), if_pos (by omega)]
  · rw [if_neg (by decide), if_neg (by decide), bd_s, gd_t (Or.inl rfl), if_pos (by omega)]
  · rw [if_pos (by decide), f_X3_hasEnded_b16, bd_s, gd_t (Or.inr rfl), if_neg (by omega)]
  · rw [if_neg (by decide), if_pos (by decide), f_X3_hasEnded_b16, bd_s, gd_t (Or.inr rfl), if_neg (by omega)]
theorem ROK.st {μ : MU} {g : Nat} (h : ROK μ g) : ∃ x, μ 1 (55 * g + 49) = nI x ∧ x < 4 := by
  rcases h 49 (by omega) with ⟨_, z⟩ | z
  · omega
  · exact z
theorem REL_send {E : EE} {κ : K} {μ : MU} {n ns t C g x : Nat} (hR : REL E κ μ n ns t C) (hg : g < n) (hx : x < 2) (hst : μ 1 (55 * g + 49) = nI x) : ∃ κ', (∀ E : EE, f_X8_rouse E (setV κ 0 g 5 8 1) 0 g 5 = some (κ', ())) ∧ REL E κ' (sndM μ g) n ns t (C + 1) ∧ kV κ' 5 = kV κ 5 := by
  have hRt := REL_thr (x := 0) hR
  obtain ⟨_, ⟨_, _, _, q4, q5⟩, hM, hQ, _⟩ := hRt
  obtain ⟨r1, r2, r3, r4⟩ := hM.1.1.2.2.1 g hg
  have f1 := set_frame (κ := κ) (g := g) (c := 5) (k := 8) (x := 1)
  have hR1 : ROK (mu (mu μ 0 0 0) 1 (55 * g + 52) 1) g := ROK_1 r1 (rng_n (r := 1) (by decide))
  have hst1 : (mu (mu μ 0 0 0) 1 (55 * g + 52) 1) 1 (55 * g + 49) = nI x := by rw [muD (by omega), thr_c (by omega)]; exact hst
  obtain ⟨κ', a1, a2, a3, a4, a5, a6, a7⟩ := RG_rouse (RG_flag (hM.2.2.2.1 g hg).1) hR1
  have e0 : (if (mu (mu μ 0 0 0) 1 (55 * g + 52) 1) 1 (55 * g + 49) = 1 then (if (mu (mu μ 0 0 0) 1 (55 * g + 52) 1) 1 (55 * g + 51) = 1 then (0 : Int32) else if (mu (mu μ 0 0 0) 1 (55 * g + 52) 1) 1 (55 * g + 52) = 1 then 0 else (mu (mu μ 0 0 0) 1 (55 * g + 52) 1) 1 (55 * g + 49)) else (mu (mu μ 0 0 0) 1 (55 * g + 52) 1) 1 (55 * g + 49)) = 0 := by
    rw [muS ⟨rfl, rfl⟩, hst1]
    have : x = 0 ∨ x = 1 := by omega
    rcases this with rfl | rfl
    · rfl
    · rw [if_pos (show (nI 1 : Int32) = 1 from rfl)]
      split
      · rfl
      · exact if_pos rfl
  rw [e0] at a2
  have er : ∀ c, c ≠ 1 → (sndM μ g) c = (mu μ 0 0 0) c := fun c hc => by
    show (mu (mu (mu μ 0 0 0) 1 _ _) 1 _ _) c = _
    rw [mu_row hc, mu_row hc]
  have hV : ∀ f i, ¬ (f = 0 ∧ i = g) → kV κ' f i = kV κ f i := fun f i z => (a3 f i z).trans (f1.1 f i z)
  have eV : ∀ c, c ≠ 5 → c ≠ 6 → kV κ' 0 g c = kV κ 0 g c := fun c y z => (a4 c z).trans (f1.2 c y)
  refine ⟨κ', a1, REL_g (d1 := 0) (d2 := 0) (REL_thr (x := 0) hR) hg hV (fun _ _ _ => by rw [a5]; rfl) (fun _ _ _ => by rw [a5]; rfl) (by rw [a6]; rfl) (fun c hc => eV c (by omega) (by omega)) (by rw [eV 0 (by omega) (by omega)]) ?_ ((OWN_1 (k := 52) rfl (by omega)).trans (OWN_1 (k := 49) rfl (by omega))) (fun c hc => er c (by omega)) a2 (SAY_row (hQ g hg).1 (er 24 (by omega)) (er 35 (by omega)) (er 37 (by omega))) (CLK_e (hQ g hg).2.1 (er 22 (by omega)) (er 20 (by omega)) (er 21 (by omega))) (INQ_up (INQ_e (hQ g hg).2.2 ?_ (by rw [er 6 (by omega)]) (by rw [er 33 (by omega)]) (er 3 (by omega)) (er 5 (by omega)) (by rw [er 18 (by omega)]))) (PAID_same (by rw [a5]; rfl) (by rw [a7]; rfl)) (by omega) (by omega), ?_⟩
  · have s1 := s_1 (μ := mu μ 0 0 0) (j := 55 * g + 52) (k := 52) (x := 1) r1 (hM.1.2.1 g hg) rfl (by omega) (rng_n (r := 1) (by decide))
    have s2 := s_1 (μ := mu (mu μ 0 0 0) 1 (55 * g + 52) 1) (j := 55 * g + 49) (k := 49) (x := 0) s1.rok s1.qok rfl (by omega) (rng_n (r := 0) (by decide))
    exact TJ_step (TJ_step hM.1 hg s1) hg s2
  · show (mu (mu (mu μ 0 0 0) 1 _ _) 1 _ _) 1 (55 * g + 54) = _
    rw [muD (by omega), muD (by omega)]
  · funext i
    exact hV 5 i (by omega)
theorem EXT_snd {μ : MU} {g : Nat} : EXT μ (sndM μ g) := by
  unfold sndM
  exact (EXT_thr.tr (EXT_1 (by omega))).tr (EXT_1 (by omega))
theorem st_send {E : EE} {κ : K} {n ns t C : Nat} {a : Int32} (hR : REL E κ (kV κ 5 0) n ns t C) : DONE (lw_send E κ a) C := by
  have hR0 := hR
  obtain ⟨⟨rfl, rfl, hO, h9⟩, ⟨q1, q2, q3, q4, q5⟩, hM, hQ, hS, hZ, hC⟩ := hR0
  have hn : E.1 ≤ 5 := hM.1.1.1
  have hG : kV κ 5 0 0 26 = nI E.1 := hM.1.1.2.1
  have hH : E.2.2.2.1 = 1 := hO.2.2.2.1
  by_cases ha : vp_in a E.1
  · obtain ⟨g, hg, rfl⟩ := vp_ex (by omega) ha
    obtain ⟨r1, _⟩ := hM.1.1.2.2.1 g hg
    obtain ⟨x, hst, hx⟩ := r1.st
    have e68 : kV κ 0 g 6 8 = nI x := ((hM.2.2.2.1 g hg).1.2.1.2.2.2.2.2.2.1).trans hst
    by_cases h2 : x < 2
    · obtain ⟨κ', a1, a2, a3⟩ := REL_send hR hg h2 hst
      have hv : kV κ 0 g 5 8 = kV κ 5 0 1 (55 * g + 52) := (hM.2.2.2.1 g hg).1.1.2.2.2.2.2.1.2.2.1
      have hb := bit01 (k := 52) r1 (by omega)
      have hcl : f_X10_send E κ (nI g) = some (κ', .inl (kV κ 5 0 1 (55 * g + 52))) := by
        rw [f_X10_send, f_X10_send_e, guestAt_ok q1 hn hg, bx_s, gd_t (show g < cntE E 0 from hg), ended_E e68 hx, if_pos h2, bd_s, if_pos rfl, nmE, nmE, a1, bd_s, bx_s, hv, gd_t hb]
      exact ⟨E, _, E.1, E.2.1, t, by
      unfold lw_send
      rw [show f_X10_send E κ (nI g) = some (κ', .inl (kV κ 5 0 1 (55 * g + 52))) from by exact hcl]
      dsimp only
      rw [show f_X11_send E (lwB (κ') (.inl (kV κ 5 0 1 (55 * g + 52)))) (nI g) = some (putM (lwB (κ') (.inl (kV κ 5 0 1 (55 * g + 52)))) (sndM (kV κ 5 0) g), if kV κ 5 0 1 (55 * g + 52) = 1 then 1 else 0) from by rw [mm_send (n := E.1) (by rw [lwB_V (by omega), a3]; exact hG) hn hg h2 (by rw [lwB_V (by omega), a3]; exact hst), lwB_V (by omega), a3]]
      dsimp only
      rw [gdp_t (lwB_okX (by show (mu (mu (mu (kV κ 5 0) 0 0 0) 1 _ _) 1 _ _) 0 0 = 0; rw [muD (by omega), muD (by omega)]; exact muS ⟨rfl, rfl⟩) (by rcases hb with z | z <;> rw [z] <;> rfl))], glueB (a2)⟩
    · exact ⟨E, _, E.1, E.2.1, t, by
      unfold lw_send
      rw [show f_X10_send E κ (nI g) = some (addC κ 1 6, .inr 3) from by rw [f_X10_send, f_X10_send_e, guestAt_ok q1 hn hg, bx_s, gd_t (show g < cntE E 0 from hg), ended_E e68 hx, if_neg h2, bd_s, if_neg (by decide), bx_r]]
      dsimp only
      rw [show f_X11_send E (lwB (addC κ 1 6) (.inr 3)) (nI g) = some (putM (lwB (addC κ 1 6) (.inr 3)) (mu (kV κ 5 0) 0 0 2), 0) from by rw [mm_send2 (n := E.1) (x := x) (by rw [lwB_V (by omega)]; exact hG) hn hg (by omega) (by rw [lwB_V (by omega)]; exact hst), lwB_V (by omega)]; rfl]
      dsimp only
      rw [gdp_t (lwB_noX (by decide) rfl)], glueB (REL_no hR)⟩
  · exact ⟨E, _, E.1, E.2.1, t, by
      unfold lw_send
      rw [show f_X10_send E κ a = some (addC κ 1 6, .inr 1) from by rw [f_X10_send, f_X10_send_e, guestAt_no q1 hn ha, bx_r, bx_r]]
      dsimp only
      rw [show f_X11_send E (lwB (addC κ 1 6) (.inr 1)) a = some (putM (lwB (addC κ 1 6) (.inr 1)) (mu (kV κ 5 0) 0 0 1), 0) from by rw [f_X11_send, f_X11_send_e, isGuest_f (n := E.1) (by rw [lwB_V (by omega)]; exact hG) hn ha, bd_s, if_pos rfl, f_X11_send_b26, if_pos rfl, f_X11_send_b51, ref_n (by decide), bd_s, if_neg (by decide), lwB_V (by omega), bd_s, gd_t (Or.inl rfl)]; rfl]
      dsimp only
      rw [gdp_t (lwB_noX (by decide) rfl)], glueB (REL_no hR)⟩
/-- frames that hold pages -/
theorem used_both {E : EE} {κ : K} {μ : MU} {n h : Nat} (hn : n ≤ 5) (hR : RH (kV κ 2 h) μ n h) (hG : μ 0 26 = nI n) : ∀ d i a m m2, i + d = 16 → a ≤ i → d < m → d < m2 → ∃ r, f_X2_countUsed_b4 E h m κ (nI a) (nI i) = some (κ, nI r) ∧ ∀ κ2 : K, kV κ2 5 0 = μ → f_X11_used_b27 E m2 κ2 (nI h) (nI a) (nI i) = some (κ2, nI r) := by
  intro d
  induction d with
  | zero =>
    intro i a m m2 hi hai hm hm2
    obtain ⟨m, rfl⟩ : ∃ q, m = q + 1 := ⟨m - 1, by omega⟩
    obtain ⟨m2, rfl⟩ : ∃ q, m2 = q + 1 := ⟨m2 - 1, by omega⟩
    refine ⟨a, ?_, fun κ2 _ => ?_⟩
    · rw [f_X2_countUsed_b4, if_pos (by rw [l16, nI_le' (by omega) (by omega)]; omega)]
    · rw [f_X11_used_b27, if_pos (by rw [l16, nI_le' (by omega) (by omega)]; omega)]
  | succ d ih =>
    intro i a m m2 hi hai hm hm2
    obtain ⟨m, rfl⟩ : ∃ q, m = q + 1 := ⟨m - 1, by omega⟩
    obtain ⟨m2, rfl⟩ : ∃ q, m2 = q + 1 := ⟨m2 - 1, by omega⟩
    have hf := RH_free hn (f := i) (by omega) hR
    have hw := hR.2.1 i (by omega)
    have hc := cntU_le (inF (kV κ 2 h) (nI i)) 40
    unfold freeU at hf
    by_cases e : cntU (inF (kV κ 2 h) (nI i)) 40 = 0
    · obtain ⟨r, r1, r2⟩ := ih (i + 1) a m m2 (by omega) (by omega) (by omega) (by omega)
      have e2 : pageM μ n (nI h) (nI i) = -1 := of_decide_eq_true (hf.trans (decide_eq_true (by rw [hw, e]; rfl)))
      refine ⟨r, ?_, fun κ2 h5 => ?_⟩
      · rw [f_X2_countUsed_b4, if_neg (by rw [l16, nI_le' (by omega) (by omega)]; omega), nI_cl (by omega), gdi (by omega), hw, if_pos (by rw [i32_0, nI_le' (by omega) (by omega)]; omega), f_X2_countUsed_b22, nmE, nI_1, r1]
      · rw [f_X11_used_b27, if_neg (by rw [l16, nI_le' (by omega) (by omega)]; omega), m_pageIn (n := n) (by rw [h5]; exact hG) hn, h5, bd_s, if_pos e2, f_X11_used_b49, nmE, nmE, nI_1, i32_0, nI_add, Nat.add_zero, r2 κ2 h5]
    · obtain ⟨r, r1, r2⟩ := ih (i + 1) (a + 1) m m2 (by omega) (by omega) (by omega) (by omega)
      have e2 : ¬ pageM μ n (nI h) (nI i) = -1 := of_decide_eq_false (hf.trans (decide_eq_false (by rw [hw, nI_e0 (by omega)]; exact e)))
      refine ⟨r, ?_, fun κ2 h5 => ?_⟩
      · rw [f_X2_countUsed_b4, if_neg (by rw [l16, nI_le' (by omega) (by omega)]; omega), nI_cl (by omega), gdi (by omega), hw, if_neg (by rw [i32_0, nI_le' (by omega) (by omega)]; omega), nmE, nI_1, f_X2_countUsed_b22, nmE, nI_1, r1]
      · rw [f_X11_used_b27, if_neg (by rw [l16, nI_le' (by omega) (by omega)]; omega), m_pageIn (n := n) (by rw [h5]; exact hG) hn, h5, bd_s, if_neg e2, f_X11_used_b49, nmE, nmE, nI_1, nI_1, r2 κ2 h5]
theorem st_used {E : EE} {κ : K} {n ns t C : Nat} {a : Int32} (hR : REL E κ (kV κ 5 0) n ns t C) : DONE (lw_used E κ a) C := by
  have hR0 := hR
  obtain ⟨⟨rfl, rfl, hO, h9⟩, ⟨q1, q2, q3, q4, q5⟩, hM, hQ, hS, hZ, hC⟩ := hR0
  have hn : E.1 ≤ 5 := hM.1.1.1
  have hG : kV κ 5 0 0 26 = nI E.1 := hM.1.1.2.1
  have hH : E.2.2.2.1 = 1 := hO.2.2.2.1
  by_cases ha : vp_in a 2
  · obtain ⟨h, hh, rfl⟩ := vp_ex (by omega) ha
    have hRH := (hM.2.2.1 h hh).1
    obtain ⟨r, r1, r2⟩ := used_both (E := E) (μ := mu (kV κ 5 0) 0 0 0) hn (RH_row hRH (thr_c (by omega)) (thr_c (by omega)) (thr_c (by omega))) (by rw [muD (by omega)]; exact hG) 16 0 0 FU FU (by omega) (by omega) (by unfold FU; omega) (by unfold FU; omega)
    rw [← i32_0] at r1
    have r3 : ∀ κ2 : K, kV κ2 5 0 = mu (kV κ 5 0) 0 0 0 → f_X11_used_b27 E FU κ2 (nI h) 0 0 = some (κ2, nI r) := fun κ2 z => by rw [i32_0]; exact r2 κ2 z
    exact ⟨E, _, E.1, E.2.1, t, by
      unfold lw_used
      rw [show f_X10_used E κ (nI h) = some (κ, .inl (nI r)) from by rw [f_X10_used, hostAt_ok hH hh, bx_s, gd_t (host_lt hH hh), f_X2_countUsed, r1, bd_s]]
      dsimp only
      rw [show f_X11_used E (lwS κ (.inl (nI r))) (nI h) = some (putM (lwS κ (.inl (nI r))) (mu (kV κ 5 0) 0 0 0), nI r) from by rw [f_X11_used, in_t (by rw [i32_0, nI_lt' (by omega) (by omega)]; omega) (by rw [i32_1, nI_lt' (by omega) (by omega)]; omega), bd_s, if_neg (by decide), f_X11_used_b15, ref_0, bd_s, if_pos rfl, r3 _ (by rw [put_kV, lw_V (by omega)]), lw_V (by omega)]]
      dsimp only
      rw [gdp_t (lwS_ok (muS ⟨rfl, rfl⟩) (rfl))], glueS (REL_ok hR)⟩
  · exact ⟨E, _, E.1, E.2.1, t, by
      unfold lw_used
      rw [show f_X10_used E κ a = some (addC κ 1 6, .inr 1) from by rw [f_X10_used, hostAt_no ha, bx_r]]
      dsimp only
      rw [show f_X11_used E (lwS (addC κ 1 6) (.inr 1)) a = some (putM (lwS (addC κ 1 6) (.inr 1)) (mu (kV κ 5 0) 0 0 1), 0) from by rw [f_X11_used, i32_1, in_f (vp_not (n := 1) (by omega) ha), bd_s, if_pos rfl, ← i32_1, f_X11_used_b15, ref_n (by decide), bd_s, if_neg (by decide), lw_V (by omega)]; rfl]
      dsimp only
      rw [gdp_t (lwS_no (by decide) rfl)], glueS (REL_no hR)⟩
