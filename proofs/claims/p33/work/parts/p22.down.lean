theorem size_ok {E : EE} {κ : K} {n : Nat} (hL : LsI E κ 1 n) : f_Jx4a65c_size_8abf5_L1 E κ = some (κ, nI n) := by
  unfold f_Jx4a65c_size_8abf5_L1
  rw [hL.1]
theorem get_ok {E : EE} {κ : K} (hL : LsI E κ 1 E.1) (h5 : E.1 ≤ 5) {g : Nat} (hg : g < E.1) : f_Jx4a65c_get_915e3_L1 E κ (nI g) = some (κ, g) := by
  obtain ⟨h1, -, h3⟩ := hL
  obtain ⟨h4, h6, h7⟩ := h3 (by omega)
  unfold f_Jx4a65c_get_915e3_L1 f_J15_checkIndex_7cf53 f_J3_checkIndex_8e157 f_Jx4a65c_elementData_915e3_L1
  rw [h1, if_neg (nI_pos (by omega)), if_pos ((nI_ltI (by omega) (by omega)).mpr hg), bd_s, bd_s, gd_t ⟨h6, h4⟩, gd_t (nI_in (by omega) (by omega)), nI_cl (by omega), h7, if_pos hg, optG_s (show g < cntE E 0 from hg), bd_s, gd_t (show g < cntE E 0 from hg)]
theorem LsI_v {E : EE} {κ κ' : K} {c n : Nat} (h : LsI E κ c n) (e1 : kV κ' 4 0 c 2 = kV κ 4 0 c 2) (e2 : kP κ' 4 0 = kP κ 4 0) : LsI E κ' c n := by
  unfold LsI
  rw [e1, e2]
  exact h
theorem host_lt {E : EE} (hH : E.2.2.2.1 = 1) {h : Nat} (hh : h < 2) : h < cntE E 2 := by
  show h < 2 * E.2.2.2.1
  omega
theorem PLL_v {κ κ' : K} {g : Nat} (h : PLL κ g) (e1 : ∀ c, 1 ≤ c → c ≤ 4 → kV κ' 0 g c = kV κ 0 g c) (e12 : ∀ c, 12 ≤ c → c < 18 → kV κ' 0 g c = kV κ 0 g c) (eN : ∀ c, 12 ≤ c → c < 18 → kN κ' 0 g c = kN κ 0 g c) (e5 : kV κ' 0 g 5 5 = kV κ 0 g 5 5) (e0 : kV κ' 0 g 0 12 = kV κ 0 g 0 12) (e18 : kV κ' 0 g 0 18 = kV κ 0 g 0 18) (em : MEQ (mc (kV κ 0 g) 6) (mc (kV κ' 0 g) 6)) : PLL κ' g := by
  obtain ⟨st, nT, nS, nJ, T, S, J, r, hL, hst, l1, l2, l3, hr, l4, l5, hpl⟩ := h
  refine ⟨st, nT, nS, nJ, T, S, J, r, LST_v hL e12 eN, e5.trans hst, l1, l2, l3, e0.trans hr, l4, l5, ?_⟩
  rw [e18]
  rcases hpl with ⟨z1, z2⟩ | ⟨z1, z2⟩
  · refine Or.inl ⟨z1, ?_⟩
    rcases em.2 with e | ⟨e, _⟩
    · exact e.trans z2
    · rw [show (mc (kV κ 0 g) 6) 0 8 = 3 from z2] at e
      exact absurd e (by decide)
  · exact Or.inr ⟨z1, PLN_m (PLN_P z2 e1) em⟩
theorem RG_n {κ κ' : K} {μ μ' : MU} {g g2 tt : Nat} (h : RG κ μ g tt) (hne : g2 ≠ g) (hO : OWN μ μ' g2) (hB : ∀ p, p < 8 → (μ' 27 (8 * g + p) = 0 ↔ μ 27 (8 * g + p) = 0)) (eV : kV κ' 0 g = kV κ 0 g) (eN : kN κ' 0 g = kN κ 0 g) : RG κ' μ' g tt :=
  ⟨RGX_n h.1 hne hO hB eV (fun c => by rw [eN]), MCH_n h.2.1 hne hO eV, by rw [eV, h.2.2.1]; exact (hO.2.2 24 g (by omega) (by omega) (by omega) (by rw [show wid 24 = 1 from rfl, Nat.div_one]; exact Ne.symm hne)).symm, PLL_v h.2.2.2 (fun _ _ _ => by rw [eV]) (fun _ _ _ => by rw [eV]) (fun _ _ _ => by rw [eN]) (by rw [eV]) (by rw [eV]) (by rw [eV]) (by rw [eV]; exact MEQ_j fun _ _ => rfl)⟩
theorem rouse_E {E : EE} {κ : K} {g : Nat} (h7 : kV κ 0 g 5 7 = 0 ∨ kV κ 0 g 5 7 = 1) (h8 : kV κ 0 g 5 8 = 0 ∨ kV κ 0 g 5 8 = 1) : f_X8_rouse E κ 0 g 5 = some (if kV κ 0 g 6 8 = 1 ∧ (kV κ 0 g 5 7 = 1 ∨ kV κ 0 g 5 8 = 1) then setV κ 0 g 6 8 0 else κ, ()) := by
  rw [f_X8_rouse]
  by_cases h : kV κ 0 g 6 8 = 1
  · rw [if_pos h, pend_E h7 h8, bd_s]
    by_cases hp : kV κ 0 g 5 7 = 1 ∨ kV κ 0 g 5 8 = 1
    · rw [if_pos (decide_eq_true hp), if_neg (by decide), nmE, if_pos ⟨h, hp⟩]
    · rw [if_neg (show ¬ decide (kV κ 0 g 5 7 = 1 ∨ kV κ 0 g 5 8 = 1) = true from by rw [decide_eq_true_iff]; exact hp), if_pos rfl, if_neg (fun z => hp z.2)]
  · rw [if_neg h, if_neg (fun z => h z.1)]
/-- one guest wakes: what is changed on both sides -/
theorem RG_rouse {κ : K} {μ : MU} {g tt : Nat} (hG : RG κ μ g tt) (hR : ROK μ g) : ∃ κ', (∀ E : EE, f_X8_rouse E κ 0 g 5 = some (κ', ())) ∧ RG κ' (mu μ 1 (55 * g + 49) (if μ 1 (55 * g + 49) = 1 then (if μ 1 (55 * g + 51) = 1 then 0 else if μ 1 (55 * g + 52) = 1 then 0 else μ 1 (55 * g + 49)) else μ 1 (55 * g + 49))) g tt ∧ (∀ f i, ¬ (f = 0 ∧ i = g) → kV κ' f i = kV κ f i) ∧ (∀ c, c ≠ 6 → kV κ' 0 g c = kV κ 0 g c) ∧ kN κ' = kN κ ∧ kP κ' = kP κ ∧ kC κ' = kC κ := by
  have hv := hG.1.2.2.2.2.2.1
  have h7 : kV κ 0 g 5 7 = 0 ∨ kV κ 0 g 5 7 = 1 := by rw [hv.2.1]; exact bit01 hR (by omega)
  have h8 : kV κ 0 g 5 8 = 0 ∨ kV κ 0 g 5 8 = 1 := by rw [hv.2.2.1]; exact bit01 hR (by omega)
  have e68 : kV κ 0 g 6 8 = μ 1 (55 * g + 49) := hG.2.1.2.2.2.2.2.2.1
  refine ⟨_, fun E => rouse_E h7 h8, ?_⟩
  by_cases h : kV κ 0 g 6 8 = 1 ∧ (kV κ 0 g 5 7 = 1 ∨ kV κ 0 g 5 8 = 1)
  · have hx : (if μ 1 (55 * g + 49) = 1 then (if μ 1 (55 * g + 51) = 1 then 0 else if μ 1 (55 * g + 52) = 1 then 0 else μ 1 (55 * g + 49)) else μ 1 (55 * g + 49)) = 0 := by
      rw [hv.2.1, hv.2.2.1, e68] at h
      rw [if_pos h.1]
      rcases h.2 with z | z
      · rw [if_pos z]
      · rw [if_pos z]; split <;> rfl
    rw [if_pos h, hx]
    have e1 : setV κ 0 g 6 8 0 = pm κ 0 g 6 (mu (mc (kV κ 0 g) 6) 0 8 0) := by
      have := ps_0 (κ := κ) (f := 0) (i := g) (c := 6) (k := 8) (m := mc (kV κ 0 g) 6) (x := 0)
      rw [pm_self] at this
      exact this
    have hm1 : M1 μ (mu μ 1 (55 * g + 49) 0) g := M1_mu rfl (by omega)
    have eV : ∀ c, c < 6 ∨ 10 ≤ c → kV (pm κ 0 g 6 (mu (mc (kV κ 0 g) 6) 0 8 0)) 0 g c = kV κ 0 g c := fun c hc => pm_n (by omega)
    rw [e1]
    refine ⟨⟨RGX_v hG.1 ?_ ?_ ?_ (fun k _ _ => by rw [eV 0 (by omega)]) (fun c _ _ hc => eV c hc) (fun _ => rfl) (fun c k _ b _ _ _ _ _ _ _ => by rw [hm1.1 c b]) hm1.2.1 (by rw [hm1.1 0 (by omega)]), ?_, ?_, ?_⟩, fun f i hfi => ?_, fun c hc => ?_, rfl, rfl, rfl⟩
    · exact EXI_v hG.1.2.1 (by rw [eV 38 (by omega)]) (fun k _ => by rw [hm1.1 25 (by omega)])
    · exact BAR_v hG.1.2.2.1 (by rw [eV 0 (by omega)]) (fun p _ => by rw [hm1.1 27 (by omega)])
    · exact SND_v hG.1.2.2.2.1 (by rw [eV 0 (by omega)]) (by rw [hm1.1 30 (by omega)]) (by rw [hm1.1 31 (by omega)])
    · refine MCH_m ?_ pm_mc
      rw [row_mu rfl]
      exact MCH_how hG.2.1
    · rw [eV 0 (by omega), hm1.1 24 (by omega)]; exact hG.2.2.1
    · refine PLL_v hG.2.2.2 (fun c _ _ => eV c (by omega)) (fun c _ _ => eV c (by omega)) (fun _ _ _ => rfl) (by rw [eV 5 (by omega)]) (by rw [eV 0 (by omega)]) (by rw [eV 0 (by omega)]) ?_
      refine ⟨fun j k hr hn => ?_, Or.inr ⟨Or.inr h.1, Or.inl ?_⟩⟩
      · unfold rel at hr
        rw [pm_mc j (by omega), muD (by omega)]
      · rw [pm_mc 0 (by omega), muS ⟨rfl, rfl⟩]
    · funext c'
      exact pm_n (fun z => hfi ⟨z.1, z.2.1⟩)
    · rw [← e1]
      funext k
      exact vD (by omega)
  · have hx : (if μ 1 (55 * g + 49) = 1 then (if μ 1 (55 * g + 51) = 1 then 0 else if μ 1 (55 * g + 52) = 1 then 0 else μ 1 (55 * g + 49)) else μ 1 (55 * g + 49)) = μ 1 (55 * g + 49) := by
      rw [hv.2.1, hv.2.2.1, e68] at h
      split
      · rename_i z
        rw [if_neg (fun y => h ⟨z, Or.inl y⟩), if_neg (fun y => h ⟨z, Or.inr y⟩)]
      · rfl
    rw [if_neg h, hx, mu_self rfl]
    exact ⟨hG, fun _ _ _ => rfl, fun _ _ => rfl, rfl, rfl, rfl⟩
/-- the timer's part of a countdown -/
theorem RG_timer {κ : K} {μ : MU} {g t : Nat} (hG : RG κ μ g t) (hR : ROK μ g) (ht : μ 0 41 = nI t) (ht3 : t < 3000) : ∃ κ', (∀ E : EE, f_X8_countTimerDown E κ 0 g 5 = f_X8_countTimerDown_b40 E 0 g 5 κ') ∧ RG κ' (if μ 1 (55 * g + 50) = μ 0 41 + 1 then mu (mu μ 1 (55 * g + 50) (-1)) 1 (55 * g + 51) 1 else μ) g (t + 1) ∧ ROK (if μ 1 (55 * g + 50) = μ 0 41 + 1 then mu (mu μ 1 (55 * g + 50) (-1)) 1 (55 * g + 51) 1 else μ) g ∧ (∀ f i, ¬ (f = 0 ∧ i = g) → kV κ' f i = kV κ f i) ∧ (∀ c, c ≠ 5 → kV κ' 0 g c = kV κ 0 g c) ∧ kN κ' = kN κ ∧ kP κ' = kP κ ∧ kC κ' = kC κ := by
  have hv := hG.1.2.2.2.2.2.1
  obtain ⟨h1, h2, h3, h4, h5, h6, q7, q8, q9, q10, h11, h12⟩ := hG.1
  have h7 : kV κ 0 g 5 7 = 0 ∨ kV κ 0 g 5 7 = 1 := by rw [hv.2.1]; exact bit01 hR (by omega)
  rw [ht, nI_1]
  rcases hv.1 with ⟨z1, z2⟩ | ⟨d, d1, d2, z1, z2⟩
  · rw [if_neg (by rw [z1, m1_nI (by omega)]; exact id)]
    refine ⟨κ, fun E => by rw [f_X8_countTimerDown, z2, if_pos (show (0 : Int32) ≤ 0 by decide)], ⟨?_, hG.2⟩, hR, fun _ _ _ => rfl, fun _ _ => rfl, rfl, rfl, rfl⟩
    exact RGX_q hG.1 ⟨Or.inl ⟨z1, z2⟩, hv.2⟩ q7 q8 q9 q10 (fun _ _ => rfl) (fun _ _ _ => rfl) (fun _ _ => rfl)
  · let x7 : Int32 := if d = 1 then 1 else kV κ 0 g 5 7
    let κ' : K := setV (setV κ 0 g 5 6 (nI (d - 1))) 0 g 5 7 x7
    have e5 : ∀ k, k ≠ 6 → k ≠ 7 → kV κ' 0 g 5 k = kV κ 0 g 5 k := fun k a b => by
      show kV (setV (setV κ 0 g 5 6 (nI (d - 1))) 0 g 5 7 x7) 0 g 5 k = _
      rw [vD (by omega), vD (by omega)]
    have e56 : kV κ' 0 g 5 6 = nI (d - 1) := by
      show kV (setV (setV κ 0 g 5 6 (nI (d - 1))) 0 g 5 7 x7) 0 g 5 6 = _
      rw [vD (by omega), vS ⟨rfl, rfl, rfl, rfl⟩]
    have e57 : kV κ' 0 g 5 7 = x7 := vS ⟨rfl, rfl, rfl, rfl⟩
    have eV : ∀ c, c ≠ 5 → kV κ' 0 g c = kV κ 0 g c := fun c hc => by
      funext k
      show kV (setV (setV κ 0 g 5 6 (nI (d - 1))) 0 g 5 7 x7) 0 g c k = _
      rw [vD (by omega), vD (by omega)]
    have eO : ∀ f i, ¬ (f = 0 ∧ i = g) → kV κ' f i = kV κ f i := fun f i hfi => by
      funext c k
      show kV (setV (setV κ 0 g 5 6 (nI (d - 1))) 0 g 5 7 x7) f i c k = _
      rw [vD (fun z => hfi ⟨z.1, z.2.1⟩), vD (fun z => hfi ⟨z.1, z.2.1⟩)]
    have ev : ∀ E : EE, f_X8_countTimerDown E κ 0 g 5 = f_X8_countTimerDown_b40 E 0 g 5 κ' := fun E => by
      have ed : nI d - 1 = nI (d - 1) := by rw [i32_1, nI_sub (by omega)]
      rw [f_X8_countTimerDown, z2, i32_0, if_neg (by rw [nI_le' (by omega) (by omega)]; omega), nmE, ed, ← i32_0, vD (by omega), vS ⟨rfl, rfl, rfl, rfl⟩]
      unfold f_X8_countTimerDown_b32 f_X8_countTimerDown_b37
      by_cases e7 : kV κ 0 g 5 7 = 0
      · rw [if_pos e7]
        by_cases hd : d = 1
        · rw [if_pos (by rw [nI_e0 (by omega)]; omega), gd_t (Or.inr rfl), nmE, show (1 : Int32) = x7 from (if_pos hd).symm]
        · rw [if_neg (by rw [nI_e0 (by omega)]; omega), gd_t (Or.inl rfl), nmE, show (0 : Int32) = x7 from by show _ = if _ then _ else _; rw [if_neg hd, e7]]
      · rw [if_neg e7, gd_t (Or.inr rfl), nmE, show (1 : Int32) = x7 from by
          show _ = if _ then _ else _
          split
          · rfl
          · exact (h7.resolve_left e7).symm]
    have hq : ∀ {c B x q}, QQ κ 0 g c B x q → c ≠ 5 ∧ c + 1 ≠ 5 → QQ κ' 0 g c B x q := fun a b => QQ_v a (by rw [eV _ b.1]) (eV _ b.2) rfl rfl (fun _ _ => rfl)
    have hPL : PLL κ' g := PLL_v hG.2.2.2 (fun c _ _ => eV c (by omega)) (fun c _ _ => eV c (by omega)) (fun _ _ _ => rfl) (e5 5 (by omega) (by omega)) (by rw [eV 0 (by omega)]) (by rw [eV 0 (by omega)]) (MEQ_j fun j hj => eV (6 + j) (by omega))
    have hMe : ∀ j, j < 4 → (mc (kV κ' 0 g) 6) j = (mc (kV κ 0 g) 6) j := fun j hj => eV (6 + j) (by omega)
    refine ⟨κ', ev, ?_, ?_, eO, eV, rfl, rfl, rfl⟩
    · by_cases hd : d = 1
      · have hc : μ 1 (55 * g + 50) = nI (t + 1) := by rw [z1, hd]
        rw [if_pos hc]
        have eR := fun (c : Nat) (hc : c ≠ 1) => (mu_row (μ := mu μ 1 (55 * g + 50) (-1)) (c := 1) (k := 55 * g + 51) (x := 1) hc).trans (mu_row (μ := μ) (c := 1) (k := 55 * g + 50) (x := -1) hc)
        refine ⟨RGX_q hG.1 ⟨?_, ?_, ?_, ?_⟩ ?_ ?_ ?_ ?_ (fun c z => eV c (by omega)) (fun c _ _ => rfl) (fun c z => eR c (by omega)), ?_, ?_, hPL⟩
        · rw [muD (by omega), muS ⟨rfl, rfl⟩, e56, hd]; exact Or.inl ⟨rfl, rfl⟩
        · rw [muS ⟨rfl, rfl⟩, e57]; exact if_pos hd
        · rw [muD (by omega), muD (by omega), e5 8 (by omega) (by omega)]; exact hv.2.2.1
        · rw [e5 9 (by omega) (by omega), clock_e (μ := μ) (by rw [eR 0 (by omega)]) (by rw [eR 20 (by omega)]) (by rw [eR 21 (by omega)]) (by rw [eR 22 (by omega)])]; exact hv.2.2.2
        · rw [muD (by omega), muD (by omega), eR 2 (by omega)]; exact hq q7 (by omega)
        · rw [eR 35 (by omega), eR 34 (by omega)]; exact hq q8 (by omega)
        · rw [eR 37 (by omega), eR 36 (by omega)]; exact hq q9 (by omega)
        · rw [eR 6 (by omega), eR 5 (by omega)]; exact hq q10 (by omega)
        · rw [row_mu rfl, row_mu rfl]
          exact MCH_m (MCH_up (MCH_up hG.2.1 (by omega)) (by omega)) hMe
        · rw [eV 0 (by omega), eR 24 (by omega)]; exact hG.2.2.1
      · have hc : ¬ μ 1 (55 * g + 50) = nI (t + 1) := by rw [z1, nI_eq' (by omega) (by omega)]; omega
        rw [if_neg hc]
        refine ⟨RGX_q hG.1 ⟨Or.inr ⟨d - 1, by omega, by omega, by rw [z1]; congr 1; omega, e56⟩, ?_, ?_, ?_⟩ (hq q7 (by omega)) (hq q8 (by omega)) (hq q9 (by omega)) (hq q10 (by omega)) (fun c z => eV c (by omega)) (fun c _ _ => rfl) (fun c z => rfl), MCH_m hG.2.1 hMe, ?_, hPL⟩
        · rw [e57, show x7 = _ from if_neg hd]; exact hv.2.1
        · rw [e5 8 (by omega) (by omega)]; exact hv.2.2.1
        · rw [e5 9 (by omega) (by omega)]; exact hv.2.2.2
        · rw [eV 0 (by omega)]; exact hG.2.2.1
    · split
      · exact ROK_1 (ROK_1 hR (Or.inl ⟨rfl, by omega⟩)) (rng_n (r := 1) (by decide))
      · exact hR
theorem RG_down {κ : K} {μ : MU} {g t : Nat} (hG : RG κ μ g t) (hR : ROK μ g) (ht : μ 0 41 = nI t) (ht3 : t < 3000) : ∃ κ', (∀ E : EE, f_X8_countTimerDown E κ 0 g 5 = some (κ', ())) ∧ RG κ' (wkM μ g) g (t + 1) ∧ (∀ f i, ¬ (f = 0 ∧ i = g) → kV κ' f i = kV κ f i) ∧ (∀ c, c ≠ 5 → c ≠ 6 → kV κ' 0 g c = kV κ 0 g c) ∧ kN κ' = kN κ ∧ kP κ' = kP κ ∧ kC κ' = kC κ := by
  obtain ⟨κ1, a1, a2, a3, a4, a5, a6, a7, a8⟩ := RG_timer hG hR ht ht3
  obtain ⟨κ', b1, b2, b3, b4, b5, b6, b7⟩ := RG_rouse a2 a3
  refine ⟨κ', fun E => by rw [a1 E, f_X8_countTimerDown_b40, b1 E, bd_s], b2, fun f i hfi => (b3 f i hfi).trans (a4 f i hfi), fun c x y => (b4 c y).trans (a5 c x), b5.trans a6, b6.trans a7, b7.trans a8⟩
