theorem RGX_t {κ κ' : K} {μ : MU} {g tt : Nat} (h : RGX κ μ g tt) (s1 : SCA (kV κ' 0 g) μ g) (s2 : EXI (kV κ' 0 g) μ g) (s3 : BAR (kV κ' 0 g) μ g) (s4 : SND (kV κ' 0 g) μ g) (s5 : PRO (kV κ' 0 g) μ g) (s6 : LVT (kV κ' 0 g) μ g tt) (eV : ∀ c, 10 ≤ c → kV κ' 0 g c = kV κ 0 g c) (eN : ∀ c, 10 ≤ c → kN κ' 0 g c = kN κ 0 g c) (eD : kV κ' 0 g 0 18 = kV κ 0 g 0 18) : RGX κ' μ g tt := by
  obtain ⟨h1, h2, h3, h4, h5, h6, h7, h8, h9, h10, h11, h12⟩ := h
  have hq : ∀ {c B x q}, QQ κ 0 g c B x q → 10 ≤ c → QQ κ' 0 g c B x q := fun a b => QQ_v a (by rw [eV _ b]) (eV _ (by omega)) (eN _ (by omega)) rfl (fun _ _ => rfl)
  exact ⟨s1, s2, s3, s4, s5, s6, hq h7 (by omega), hq h8 (by omega), hq h9 (by omega), hq h10 (by omega), FOL_v h11 (eV 18 (by omega)) (fun j _ => eV _ (by omega)) (eN 25 (by omega)) rfl (fun _ _ => rfl) (fun _ _ => rfl) eD, STN_v h12 (fun j _ _ => eV _ (by omega)) (fun j _ _ => eN _ (by omega))⟩
/-- steps and ticks are counted -/
theorem RGX_cnt {κ : K} {μ : MU} {g tt c k : Nat} {x : Int32} (h : RGX κ μ g tt) (hc : (c = 5 ∧ k = 5) ∨ (c = 0 ∧ k = 12)) : RGX (setV κ 0 g c k x) μ g tt := by
  have e : ∀ c' k', ¬ (c' = c ∧ k' = k) → kV (setV κ 0 g c k x) 0 g c' k' = kV κ 0 g c' k' := fun c' k' z => vD (fun y => z y.2.2)
  have eV : ∀ c', c' ≠ 0 → c' ≠ 5 → kV (setV κ 0 g c k x) 0 g c' = kV κ 0 g c' := fun c' a b => by
    funext k'
    exact e c' k' (by omega)
  refine RGX_t h ?_ (EXI_v h.2.1 (eV 38 (by omega) (by omega)) (fun _ _ => rfl)) (BAR_v h.2.2.1 (e 0 14 (by omega)) (fun _ _ => Iff.rfl)) (SND_v h.2.2.2.1 (e 0 15 (by omega)) rfl rfl) (PRO_v h.2.2.2.2.1 (fun c' a b => eV c' (by omega) (by omega)) rfl (fun _ _ => rfl)) ?_ (fun c' a => eV c' (by omega) (by omega)) (fun _ _ => rfl) (e 0 18 (by omega))
  · unfold SCA
    rw [e 0 0 (by omega), e 0 1 (by omega), e 0 2 (by omega), e 0 10 (by omega), e 0 11 (by omega), e 0 13 (by omega), e 0 16 (by omega), e 0 17 (by omega)]
    exact h.1
  · unfold LVT
    rw [e 5 6 (by omega), e 5 7 (by omega), e 5 8 (by omega), e 5 9 (by omega)]
    exact h.2.2.2.2.2.1
theorem RGX_24 {κ : K} {μ : MU} {g g2 tt : Nat} {x : Int32} (h : RGX κ μ g tt) : RGX κ (mu μ 24 g2 x) g tt := by
  have e : ∀ c, c ≠ 24 → (mu μ 24 g2 x) c = μ c := fun c hc => mu_row hc
  have ec : clockM (mu μ 24 g2 x) g = clockM μ g := clock_e (by rw [e 0 (by omega)]) (by rw [e 20 (by omega)]) (by rw [e 21 (by omega)]) (by rw [e 22 (by omega)])
  unfold RGX SCA EXI BAR SND PRO LVT FOL at h ⊢
  rw [ec, e 1 (by omega), e 2 (by omega), e 3 (by omega), e 4 (by omega), e 5 (by omega), e 6 (by omega), e 13 (by omega), e 14 (by omega), e 16 (by omega), e 17 (by omega), e 18 (by omega), e 19 (by omega), e 20 (by omega), e 23 (by omega), e 25 (by omega), e 27 (by omega), e 30 (by omega), e 31 (by omega), e 32 (by omega), e 33 (by omega), e 34 (by omega), e 35 (by omega), e 36 (by omega), e 37 (by omega)]
  exact h
theorem t_int {E : EE} {κ : K} {μ : MU} {n s g h tt nT nS nJ st : Nat} {T S J : Nat → Int32} (hn : n ≤ 5) (hg : g < n) (hR : ROK μ g) (hT : TS κ μ n g h tt) (hM : MCH (mc (kV κ 0 g) 6) (row μ g)) (hL : LST κ g nT nS nJ T S J) (hJ3 : nJ < 3000) (hst : kV κ 0 g 5 5 = nI st) (hst3 : st < 3000) :
    (f_X8_letInterruptIn E κ 0 g 5 = some (κ, 0) ∧ intM μ g = μ) ∨ ∃ κ1 why μ1, (why = 2 ∨ why = 3) ∧ f_X8_letInterruptIn E κ 0 g 5 = some (κ1, 1) ∧ TS κ1 μ1 n g h tt ∧ GO n s κ κ1 μ μ1 g h ∧ (∀ j, j < 4 → (mc (kV κ1 0 g) 6) j = (enterC (mc (kV κ 0 g) 6) (nI why)) j) ∧ MCH (mc (kV κ1 0 g) 6) (row μ1 g) ∧ LST κ1 g nT nS (nJ + 1) T S (fun k => if k = nJ then nI (4 * st + why) else J k) ∧ intM μ g = mu μ1 25 (6 * g + 5) (μ1 25 (6 * g + 5) + 1) := by
  have hv := hT.1.2.2.2.2.2.1
  have m51 := bit01 hR (k := 51) (by omega)
  have m52 := bit01 hR (k := 52) (by omega)
  have m8 := bit01 hR (k := 8) (by omega)
  have h7 : kV κ 0 g 5 7 = 0 ∨ kV κ 0 g 5 7 = 1 := by rw [hv.2.1]; exact m51
  have h8 : kV κ 0 g 5 8 = 0 ∨ kV κ 0 g 5 8 = 1 := by rw [hv.2.2.1]; exact m52
  have e67 : kV κ 0 g 6 7 = μ 1 (55 * g + 8) := hM.2.2.2.2.2.1
  have e64 : kV κ 0 g 6 4 = μ 1 (55 * g + 5) := hM.2.2.1
  -- the flag k goes, its cause is let in
  have go : ∀ (k why : Nat), (k = 7 ∨ k = 8) → (why = 2 ∨ why = 3) → ∃ κ1, f_X8_letInterruptIn_b63 E 0 g 5 (setV κ 0 g 5 k 0) (nI why) = some (κ1, 1) ∧ TS κ1 (goToM (mu μ 1 (55 * g + (44 + k)) 0) g (nI why)) n g h tt ∧ GO n s κ κ1 μ (goToM (mu μ 1 (55 * g + (44 + k)) 0) g (nI why)) g h ∧ (∀ j, j < 4 → (mc (kV κ1 0 g) 6) j = (enterC (mc (kV κ 0 g) 6) (nI why)) j) ∧ MCH (mc (kV κ1 0 g) 6) (row (goToM (mu μ 1 (55 * g + (44 + k)) 0) g (nI why)) g) ∧ LST κ1 g nT nS (nJ + 1) T S (fun k => if k = nJ then nI (4 * st + why) else J k) := by
    intro k why hk hwhy
    obtain ⟨T1, G1, V1⟩ := t_flag (n := n) (s := s) hk hT
    have L1 : LST (setV κ 0 g 5 k 0) g nT nS nJ T S J := LST_v hL (fun c a b => V1 c (by omega)) (fun _ _ _ => rfl)
    obtain ⟨κ2, p1, p2, p3⟩ := n_add (E := E) (n0 := n) (s0 := s) (x := nI (4 * st + why)) L1.2.2 hJ3 (num_mem0 g (by omega) 17 (by decide)) (al0 hg)
    obtain ⟨T2, G2⟩ := TS_chn (h := h) T1 p2 (by omega)
    have em : ∀ j, j < 4 → kV κ2 0 g (6 + j) = (mc (kV κ 0 g) 6) j := fun j hj => by
      rw [p2.1 0 g (6 + j) (by omega), V1 (6 + j) (by omega)]
      rfl
    have e2 : κ2 = pm κ2 0 g 6 (mc (kV κ 0 g) 6) := (pm_eq em).symm
    obtain ⟨T3, G3⟩ := TS_m (s := s) (m := enterC (mc (kV κ 0 g) 6) (nI why)) T2 (M1_goTo (μ := mu μ 1 (55 * g + (44 + k)) 0) (x := nI why))
    refine ⟨pm κ2 0 g 6 (enterC (mc (kV κ 0 g) 6) (nI why)), ?_, T3, (G1.trans G2).trans G3, pm_mc, ?_, LST_pm ⟨NUM_chn L1.1 p2 (by omega), NUM_chn L1.2.1 p2 (by omega), p3⟩⟩
    · have e5 : kV (setV κ 0 g 5 k 0) 0 g 5 5 = nI st := by rw [vD (by omega)]; exact hst
      have hen : f_X3_enterHandler E κ2 0 g 6 (nI why) = some (pm κ2 0 g 6 (enterC (mc (kV κ 0 g) 6) (nI why)), ()) := by
        have := c_enter (E := E) (κ := κ2) (f := 0) (i := g) (c := 6) (m := mc (kV κ 0 g) 6) (why := nI why)
        rw [← e2] at this
        exact this
      rw [f_X8_letInterruptIn_b63, e5, l4, nI_mul, nI_add, Nat.mul_comm st 4]
      rw [show f_X4_add E (setV κ 0 g 5 k 0) 0 g (5 + 11) (nI (4 * st + why)) = some (κ2, ()) from p1, bd_s]
      rw [show f_X3_enterHandler E κ2 0 g (5 + 1) (nI why) = _ from hen, bd_s]
    · refine MCH_m ?_ pm_mc
      refine sim_goTo ?_
      rw [row_mu rfl]
      exact MCH_up hM (by omega)
  have hE := f_X8_letInterruptIn_e.eq_1 E κ 0 g 5
  have pE := pend_E (E := E) h7 h8
  by_cases hp : kV κ 0 g 5 7 = 1 ∨ kV κ 0 g 5 8 = 1
  · have hp' : μ 1 (55 * g + 51) = 1 ∨ μ 1 (55 * g + 52) = 1 := by rw [← hv.2.1, ← hv.2.2.1]; exact hp
    rw [if_pos (decide_eq_true hp)] at pE
    by_cases hm : μ 1 (55 * g + 8) = 0
    · by_cases hh : μ 1 (55 * g + 5) = -1
      · refine Or.inl ⟨?_, ?_⟩
        · rw [f_X8_letInterruptIn, hE, pE, bd_s, if_neg (by decide), if_pos (e67.trans hm), if_pos (e64.trans hh), bd_s, gd_t (Or.inl rfl)]
        · unfold intM
          rw [if_neg (fun z => z.2.2 hh)]
      · refine Or.inr ?_
        have hE2 : f_X8_letInterruptIn E κ 0 g 5 = bd (if kV κ 0 g 5 7 = 0 then f_X8_letInterruptIn_b42 E 0 g 5 κ 3 else f_X8_letInterruptIn_b42 E 0 g 5 κ 2) fun κ x => gd (x = 0 ∨ x = 1) (some (κ, x)) := by
          rw [f_X8_letInterruptIn, hE, pE, bd_s, if_neg (by decide), if_pos (e67.trans hm), if_neg (by rw [e64]; exact hh)]
        by_cases h51 : kV κ 0 g 5 7 = 0
        · obtain ⟨κ1, r1, r2, r3, r4, r5, r6⟩ := go 8 3 (Or.inr rfl) (Or.inr rfl)
          refine ⟨κ1, 3, _, Or.inr rfl, ?_, r2, r3, r4, r5, r6, ?_⟩
          · rw [hE2, if_pos h51, f_X8_letInterruptIn_b42, if_pos h51, nmE]
            rw [show f_X8_letInterruptIn_b63 E 0 g 5 (setV κ 0 g 5 8 0) 3 = some (κ1, 1) from r1, bd_s, gd_t (Or.inr rfl)]
          · unfold intM
            rw [if_pos ⟨hp', hm, hh⟩, if_neg (by rw [← hv.2.1, h51]; decide)]
            try dsimp only
            rw [goTo_25]
            rw [goToM_row (show (25 : Nat) ≠ 1 by omega)]
        · have h71 := h7.resolve_left h51
          obtain ⟨κ1, r1, r2, r3, r4, r5, r6⟩ := go 7 2 (Or.inl rfl) (Or.inl rfl)
          refine ⟨κ1, 2, _, Or.inl rfl, ?_, r2, r3, r4, r5, r6, ?_⟩
          · rw [hE2, if_neg h51, f_X8_letInterruptIn_b42, if_neg h51, nmE]
            rw [show f_X8_letInterruptIn_b63 E 0 g 5 (setV κ 0 g 5 7 0) 2 = some (κ1, 1) from r1, bd_s, gd_t (Or.inr rfl)]
          · unfold intM
            rw [if_pos ⟨hp', hm, hh⟩, if_pos (by rw [← hv.2.1]; exact h71)]
            try dsimp only
            rw [goTo_25]
            rw [goToM_row (show (25 : Nat) ≠ 1 by omega)]
    · refine Or.inl ⟨?_, ?_⟩
      · rw [f_X8_letInterruptIn, hE, pE, bd_s, if_neg (by decide), if_neg (by rw [show kV κ 0 g (5 + 1) 7 = _ from e67]; exact hm), bd_s, gd_t (Or.inl rfl)]
      · unfold intM
        rw [if_neg (fun z => hm z.2.1)]
  · have hp' : ¬ (μ 1 (55 * g + 51) = 1 ∨ μ 1 (55 * g + 52) = 1) := by rw [← hv.2.1, ← hv.2.2.1]; exact hp
    rw [if_neg (by rw [decide_eq_true_iff]; exact hp)] at pE
    refine Or.inl ⟨?_, ?_⟩
    · rw [f_X8_letInterruptIn, hE, pE, bd_s, if_pos rfl, bd_s, gd_t (Or.inl rfl)]
    · unfold intM
      rw [if_neg (fun z => hp' z.1)]
/-- the lists that tell what a guest's machine has done -/
def PLL (κ : K) (g : Nat) : Prop := ∃ st nT nS nJ T S J r, LST κ g nT nS nJ T S J ∧ kV κ 0 g 5 5 = nI st ∧ nT ≤ st ∧ nS ≤ st ∧ nJ ≤ st ∧ kV κ 0 g 0 12 = nI r ∧ st ≤ r ∧ r ≤ 3000 ∧ ((kV κ 0 g 0 18 = 1 ∧ kV κ 0 g 6 8 = 3) ∨ (kV κ 0 g 0 18 = 0 ∧ PLN (kV κ 0 g) (mc (kV κ 0 g) 6) st nT nS nJ T S J))
def RG (κ : K) (μ : MU) (g tt : Nat) : Prop := RGX κ μ g tt ∧ MCH (mc (kV κ 0 g) 6) (row μ g) ∧ kV κ 0 g 0 12 = μ 24 g ∧ PLL κ g
def GX (n s : Nat) (κ κ' : K) (μ μ' : MU) (g h : Nat) : Prop := FG n s 0 0 κ κ' g h ∧ OWN μ μ' g ∧ (∀ key, key / 8 < n → key / 8 ≠ g → (μ' 27 key = 0 ↔ μ 27 key = 0)) ∧ (∀ h2 w2, h2 < 2 → h2 ≠ h → RH w2 μ n h2 → RH w2 μ' n h2) ∧ (∀ c, (1 ≤ c ∧ c ≤ 4) ∨ (18 ≤ c ∧ c < 32) → kV κ' 0 g c = kV κ 0 g c) ∧ (∀ c, 18 ≤ c → c < 32 → kN κ' 0 g c = kN κ 0 g c) ∧ ∀ r, kV κ 0 g 0 12 = nI r → r < 3000 → ∃ r', r ≤ r' ∧ r' ≤ 3000 ∧ kV κ' 0 g 0 12 = nI r'
theorem exM_keep {μ : MU} {n g h : Nat} {c : Nat} (hR : ROK μ g) (hQ : QOK μ g) (hP : PRG μ g) (ht : TM μ) (hc : c ≠ 1 ∧ c ≠ 2 ∧ c ≠ 25 ∧ c ≠ 27 ∧ c ≠ 28 ∧ c ≠ 29 ∧ c ≠ 31 ∧ (c < 34 ∨ 37 < c)) : (exM μ n g h) c = μ c :=
  (s_ex hR hQ hP ht).2.2.2.2.2.1 c (by omega) (by omega) (by omega) (by omega) (by omega) (by omega) (by omega) (by omega) (by omega) (by omega) (by omega)
theorem t_run {E : EE} {κ : K} {μ : MU} {n s g h t a0 b0 : Nat} (hn : n ≤ 5) (hg : g < n) (hh2 : h < 2) (hE2 : h < cntE E 2) (hP : kP κ 0 g 0 8 = some h) (hH : μ 15 g = nI h) (hR : ROK μ g) (hQ : QOK μ g) (hPr : PRG μ g) (htk : kV κ 2 h 0 5 = μ 0 41 + 1) (ht : μ 0 41 = nI t) (ht3 : t < 3000) (h0 : μ 1 (55 * g + 49) = 0) (hG : RG κ μ g (t + 1)) (hRH : RH (kV κ 2 h) μ n h) (hF : FRM μ n) (ha : μ 35 g = nI a0) (ha3 : a0 < 3000) (hb : μ 37 g = nI b0) (hb3 : b0 < 3000) (hr3 : ∀ r, μ 24 g = nI r → r < 2147483648 → r < 3000) :
    ∃ κ', f_X1_runTick E κ g = some (κ', ()) ∧ RG κ' (runM μ n g h) g (t + 1) ∧ RH (kV κ' 2 h) (runM μ n g h) n h ∧ FRM (runM μ n g h) n ∧ GX n s κ κ' μ (runM μ n g h) g h := by
  obtain ⟨hX, hM, h24, st, nT, nS, nJ, T, S, J, r, hL, hst, l1, l2, l3, hr, l4, l5, hpl⟩ := hG
  have hr2 : r < 3000 := hr3 r (h24.symm.trans hr) (by omega)
  have h68 : kV κ 0 g 6 8 = 0 := hM.2.2.2.2.2.2.1.trans h0
  have hpn : kV κ 0 g 0 18 = 0 ∧ PLN (kV κ 0 g) (mc (kV κ 0 g) 6) st nT nS nJ T S J := hpl.resolve_left (fun z => by rw [h68] at z; exact absurd z.2 (by decide))
  let μa : MU := mu μ 24 g (μ 24 g + 1)
  have ea : ∀ c, c ≠ 24 → μa c = μ c := fun c hc => mu_row hc
  have hTa : TS κ μa n g h (t + 1) := ⟨RGX_24 hX, RH_row hRH (ea 15 (by omega)) (ea 28 (by omega)) (ea 29 (by omega)), FRM_row hF (ea 27 (by omega)) (ea 28 (by omega))⟩
  have hMa : MCH (mc (kV κ 0 g) 6) (row μa g) := by rw [row_e (ea 1 (by omega))]; exact hM
  have hRa : ROK μa g := ROK_row hR (ea 1 (by omega))
  have hQa : QOK μa g := by unfold QOK; rw [ea 1 (by omega), ea 2 (by omega)]; exact hQ
  have hPra : PRG μa g := by unfold PRG; rw [ea 13 (by omega), ea 14 (by omega)]; exact hPr
  have hTMa : TM μa := ⟨t, by omega, by rw [ea 0 (by omega)]; exact ht⟩
  have hOa : FG n s 0 0 κ κ g h ∧ OWN μ μa g ∧ (∀ key, key / 8 < n → key / 8 ≠ g → (μa 27 key = 0 ↔ μ 27 key = 0)) ∧ (∀ h2 w2, h2 < 2 → h2 ≠ h → RH w2 μ n h2 → RH w2 μa n h2) := ⟨FG.rfl, OWN_g (by omega) (by omega) rfl, fun key _ _ => by rw [ea 27 (by omega)], fun h2 w2 _ _ z => RH_row z (ea 15 (by omega)) (ea 28 (by omega)) (ea 29 (by omega))⟩
  -- from the store κ1 on: the instruction, then the counts
  have fin : ∀ (κ1 : K) (μ1 m1 : MU) (nJ' : Nat) (J' : Nat → Int32), intM μa g = μ1 → TS κ1 μ1 n g h (t + 1) → GO n s κ κ1 μa μ1 g h → (∀ j, j < 4 → (mc (kV κ1 0 g) 6) j = m1 j) → MCH (mc (kV κ1 0 g) 6) (row μ1 g) → LST κ1 g nT nS nJ' T S J' → nJ' ≤ nJ + 1 → (∀ k, k < nJ → J' k = J k) → ((nJ' = nJ ∧ mc (kV κ1 0 g) 6 = mc (kV κ 0 g) 6) ∨ ∃ why, (why = 2 ∨ why = 3) ∧ nJ' = nJ + 1 ∧ J' nJ = nI (4 * st + why) ∧ ∀ j, j < 4 → (mc (kV κ1 0 g) 6) j = (enterC (mc (kV κ 0 g) 6) (nI why)) j) → ∃ κ', f_X1_runTick_b15 E g κ1 = some (κ', ()) ∧ RG κ' (runM μ n g h) g (t + 1) ∧ RH (kV κ' 2 h) (runM μ n g h) n h ∧ FRM (runM μ n g h) n ∧ GX n s κ κ' μ (runM μ n g h) g h := by
    intro κ1 μ1 m1 nJ' J' eμ T1 G1 hm1 M1' L1 c1 c2 c3
    have ei : ∀ c, c ≠ 1 → c ≠ 25 → μ1 c = μa c := fun c x y => by rw [← eμ]; exact intM_row ⟨x, y⟩
    have hR1 : ROK μ1 g := by rw [← eμ]; exact ROK_int hRa
    have hQ1 : QOK μ1 g := by rw [← eμ]; exact (s_int hRa hQa).2.1
    have hPr1 : PRG μ1 g := by unfold PRG; rw [ei 13 (by omega) (by omega), ei 14 (by omega) (by omega)]; exact hPra
    have e49 : μ1 1 (55 * g + 49) = 0 := by
      have z := M1'.2.2.2.2.2.2.1
      have z2 : (mc (kV κ1 0 g) 6) 0 8 = 0 := by
        rcases c3 with ⟨_, e⟩ | ⟨why, _, _, _, e⟩
        · rw [e]; exact h68
        · rw [e 0 (by omega)]
          unfold enterC
          rw [muD (by omega), muD (by omega), muD (by omega), muD (by omega)]
          exact h68
      exact z.symm.trans z2
    obtain ⟨κ2, q1, T2, G2, M2, nT', nS', T', S', L2, d1, d2, d3, d4, d5⟩ := t_next (E := E) (s := s) hn hg hh2 hE2 (by rw [G1.1.2.2.2.1]; exact hP) (by rw [ei 15 (by omega) (by omega), ea 15 (by omega)]; exact hH) hR1 hPr1 (by rw [G1.1.2.1, ei 0 (by omega) (by omega), ea 0 (by omega)]; exact htk) (by rw [ei 0 (by omega) (by omega), ea 0 (by omega)]; exact ht) e49 T1 M1' L1 (by omega) (by omega) (by rw [ei 35 (by omega) (by omega), ea 35 (by omega)]; exact ha) ha3 (by rw [ei 37 (by omega) (by omega), ea 37 (by omega)]; exact hb) hb3
    have er : runM μ n g h = exM μ1 n g h := by unfold runM; rw [← eμ]
    rw [er]
    have G12 := G1.trans G2
    have hst2 : kV κ2 0 g 5 5 = nI st := by rw [G12.2.2.2.2.2.2.1]; exact hst
    have hr12 : kV κ2 0 g 0 12 = nI r := by rw [G12.2.2.2.2.1 12 (by omega) (by omega)]; exact hr
    let κ3 : K := setV κ2 0 g 5 5 (nI (st + 1))
    let κ4 : K := setV κ3 0 g 0 12 (nI (r + 1))
    have e34 : ∀ c k, ¬ (c = 5 ∧ k = 5) → ¬ (c = 0 ∧ k = 12) → kV κ4 0 g c k = kV κ2 0 g c k := fun c k x y => by
      show kV (setV (setV κ2 0 g 5 5 (nI (st + 1))) 0 g 0 12 (nI (r + 1))) 0 g c k = _
      rw [vD (by omega), vD (by omega)]
    have e34c : ∀ c, c ≠ 0 → c ≠ 5 → kV κ4 0 g c = kV κ2 0 g c := fun c x y => by
      funext k
      exact e34 c k (by omega) (by omega)
    have eH : kV κ4 2 h = kV κ2 2 h := by
      funext c k
      show kV (setV (setV κ2 0 g 5 5 (nI (st + 1))) 0 g 0 12 (nI (r + 1))) 2 h c k = _
      rw [vD (by omega), vD (by omega)]
    have emc : ∀ j, j < 4 → (mc (kV κ4 0 g) 6) j = (mc (kV κ2 0 g) 6) j := fun j hj => e34c (6 + j) (by omega) (by omega)
    refine ⟨κ4, ?_, ⟨RGX_cnt (RGX_cnt T2.1 (Or.inl ⟨rfl, rfl⟩)) (Or.inr ⟨rfl, rfl⟩), MCH_m M2 emc, ?_, st + 1, nT', nS', nJ', T', S', J', r + 1, ?_, ?_, by omega, by omega, by omega, ?_, by omega, by omega, Or.inr ⟨?_, ?_⟩⟩, by rw [eH]; exact T2.2.1, T2.2.2, ?_⟩
    · rw [f_X1_runTick_b15, q1, bd_s, nmE, hst2, nI_1, nmE, show kV (setV κ2 0 g 5 5 (nI (st + 1))) 0 g 0 12 = nI r from by rw [vD (by omega)]; exact hr12, nI_1]
    · rw [exM_keep hR1 hQ1 hPr1 ⟨t, by omega, by rw [ei 0 (by omega) (by omega), ea 0 (by omega)]; exact ht⟩ (by omega), ei 24 (by omega) (by omega), show μa 24 g = μ 24 g + 1 from muS ⟨rfl, rfl⟩, show kV κ4 0 g 0 12 = nI (r + 1) from vS ⟨rfl, rfl, rfl, rfl⟩, ← h24, hr, nI_1]
    · exact LST_v L2 (fun c x y => e34c c (by omega) (by omega)) (fun _ _ _ => rfl)
    · show kV (setV (setV κ2 0 g 5 5 (nI (st + 1))) 0 g 0 12 (nI (r + 1))) 0 g 5 5 = _
      rw [vD (by omega)]
      exact vS ⟨rfl, rfl, rfl, rfl⟩
    · exact vS ⟨rfl, rfl, rfl, rfl⟩
    · rw [e34 0 18 (by omega) (by omega), G12.2.2.2.2.1 18 (by omega) (by omega)]; exact hpn.1
    · have hp1 : PLN (kV κ 0 g) (mc (kV κ 0 g) 6) st nT nS nJ T' S' J' := PLN_l hpn.2 d3 d4 c2
      have hst : STP (kV κ1 0 g) (mc (kV κ 0 g) 6) (mc (kV κ2 0 g) 6) nT nT' nS nS' nJ nJ' T' S' J' st := by
        refine ⟨Or.inl h68, mc (kV κ1 0 g) 6, c3, d5⟩
      have eP1 : ∀ c, 1 ≤ c → c ≤ 4 → kV κ1 0 g c = kV κ 0 g c := G1.2.2.2.2.2.1
      have hp2 := PLN_s (PLN_P hp1 eP1) hst
      refine PLN_m (PLN_P hp2 (fun c x y => ?_)) (MEQ_j emc)
      rw [e34c c (by omega) (by omega)]
      exact G2.2.2.2.2.2.1 c x y
    · have F4 : FG n s 0 0 κ2 κ4 g h := FG_set.tr FG_set
      refine ⟨(G12.1).tr F4, hOa.2.1.trans G12.2.1, fun key x y => (G12.2.2.1 key x y).trans (hOa.2.2.1 key x y), fun h2 w2 x y z => G12.2.2.2.1 h2 w2 x y (hOa.2.2.2 h2 w2 x y z), fun c hc => ?_, fun c x y => (G12.2.2.2.2.2.2.2 c x y).2, fun r0 z1 z2 => ?_⟩
      · rw [e34c c (by omega) (by omega)]
        rcases hc with ⟨x, y⟩ | ⟨x, y⟩
        · exact G12.2.2.2.2.2.1 c x y
        · exact (G12.2.2.2.2.2.2.2 c x y).1
      · rw [hr, nI_eq' (by omega) (by omega)] at z1
        exact ⟨r + 1, by omega, by omega, vS ⟨rfl, rfl, rfl, rfl⟩⟩
  rcases t_int (E := E) (s := s) hn hg hRa hTa hMa hL (by omega) hst (by omega) with ⟨i1, i2⟩ | ⟨κ1, why, μ1, i1, i2, i3, i4, i5, i6, i7, i8⟩
  · obtain ⟨κ', f1, f2⟩ := fin κ μa (mc (kV κ 0 g) 6) nJ J i2 hTa GO.rfl (fun _ _ => rfl) hMa hL (by omega) (fun _ _ => rfl) (Or.inl ⟨rfl, rfl⟩)
    exact ⟨κ', by rw [f_X1_runTick, i1, bd_s, if_pos rfl]; exact f1, f2⟩
  · obtain ⟨κ2, r1, r2, r3, r4, r5⟩ := t_exit (E := E) (s := s) (k := 5) (by omega) i3
    have em : ∀ j, j < 4 → (mc (kV κ2 0 g) 6) j = (mc (kV κ1 0 g) 6) j := fun j hj => r4 (6 + j) (by omega)
    obtain ⟨κ', f1, f2⟩ := fin κ2 _ (enterC (mc (kV κ 0 g) 6) (nI why)) (nJ + 1) _ i8 r2 (i4.trans r3) (fun j hj => (em j hj).trans (i5 j hj)) (by rw [row_c (by omega)]; exact MCH_m i6 em) (LST_v i7 (fun c x y => r4 c (by omega)) (fun c _ _ => by rw [r5])) (by omega) (fun k hk => if_neg (by omega)) (Or.inr ⟨why, i1, rfl, if_pos rfl, fun j hj => (em j hj).trans (i5 j hj)⟩)
    exact ⟨κ', by rw [f_X1_runTick, i2, bd_s, if_neg (by decide), show (5 : Int32) = nI 5 from rfl, r1, bd_s]; exact f1, f2⟩
