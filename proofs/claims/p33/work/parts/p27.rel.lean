/-- fewer inputs wait, or as many -/
def MNY (μ μ' : MU) (g : Nat) : Prop := ∀ m, m ≤ 512 → μ 1 (55 * g + 54) = nI m → ∃ m', m' ≤ m ∧ μ' 1 (55 * g + 54) = nI m'
theorem MNY_e {μ μ' : MU} {g : Nat} (h : μ' 1 (55 * g + 54) = μ 1 (55 * g + 54)) : MNY μ μ' g := fun m _ e => ⟨m, Nat.le_refl _, h.trans e⟩
theorem MNY.trans {μ μ1 μ2 : MU} {g : Nat} (h : MNY μ μ1 g) (h' : MNY μ1 μ2 g) : MNY μ μ2 g := fun m hm e => by
  obtain ⟨m1, a, b⟩ := h m hm e
  obtain ⟨m2, c, d⟩ := h' m1 (by omega) b
  exact ⟨m2, by omega, d⟩
theorem MNY_tak {μ : MU} {g : Nat} : MNY μ (takM μ g).1 g := fun m hm e => by
  rw [tak_1]
  by_cases h : μ 1 (55 * g + 54) = 0
  · rw [if_pos h]; exact ⟨m, Nat.le_refl _, e⟩
  · rw [if_neg h, muS ⟨rfl, rfl⟩, e]
    have hm0 : m ≠ 0 := fun z => h (by rw [e, z]; rfl)
    exact ⟨m - 1, by omega, by rw [i32_1, nI_sub (by omega)]⟩
theorem MNY_1 {μ μ' : MU} {g : Nat} (h : M1 μ μ' g) : MNY μ μ' g := MNY_e (h.2.1 54 (by omega) (by omega))
theorem MNY_do {μ : MU} {n g w a b h : Nat} (hR : ROK μ g) (hV : VN w a b) (hw : w < 14) : MNY μ (doM μ n g w a b h) g := by
  obtain ⟨v1, v2, v3, v4, v5, v6, v7, v8⟩ := hV
  have cs : w = 0 ∨ w = 1 ∨ (w = 2 ∨ w = 3) ∨ w = 4 ∨ w = 5 ∨ w = 6 ∨ w = 7 ∨ w = 8 ∨ w = 9 ∨ w = 10 ∨ w = 11 ∨ w = 12 ∨ w = 13 := by omega
  have e25 : ∀ k x, (mu μ 25 k x) 1 = μ 1 := fun k x => mu_row (by omega)
  rcases cs with rfl | rfl | e | rfl | rfl | rfl | rfl | rfl | rfl | rfl | rfl | rfl | rfl
  · have := v1 (by omega)
    exact MNY_1 ((M1_mu rfl (by omega)).trans (M1_mu rfl (by omega)))
  · have := v1 (by omega)
    exact MNY_1 ((M1_mu rfl (by omega)).trans (M1_mu rfl (by omega)))
  · have h1 := v1 (by omega)
    have h2 := v3 (by omega)
    have e2 : doM μ n g w a b h = lsM μ n g w a b h := by rcases e with rfl | rfl <;> rfl
    rw [e2]
    unfold lsM
    dsimp only
    split
    · exact MNY_1 M1_fault
    · split
      · exact MNY_1 M1_fault
      · rename_i z1 z2
        obtain ⟨v, ev, hv⟩ := (hR.view (k := (μ 1 (55 * g + b)).toNatClampNeg / 4) (by omega)).resolve_left z2
        rw [ev, nI_cl (by omega)]
        split
        · refine MNY_e ?_
          rw [muD (by omega), muD (by omega), touch_row (by omega)]
        · refine MNY_e ?_
          rw [muD (by omega), muD (by omega), touch_row (by omega)]
  · exact MNY_1 (M1_mu rfl (by omega))
  · have := v2 rfl
    exact MNY_1 ((M1_mu (k := 9 + a) (by omega) (by omega)).trans (M1_mu rfl (by omega)))
  · show MNY μ (if b = 0 then mu (sayM _ g _) 1 (55 * g + 4) (μ 1 (55 * g + 4) + 1) else mu (mu _ 1 (55 * g + 50) _) 1 (55 * g + 4) (μ 1 (55 * g + 4) + 1)) g
    split
    · refine MNY_e ?_
      rw [muD (by omega), say_row (by omega), e25]
    · refine MNY_e ?_
      rw [muD (by omega), muD (by omega), e25]
  · have h1 := v1 (by omega)
    show MNY μ (mu (mu (if b = 0 then takM (mu μ 25 (6 * g + 3) (μ 25 (6 * g + 3) + 1)) g else if b = 1 then (mu μ 25 (6 * g + 3) (μ 25 (6 * g + 3) + 1), clockM (mu μ 25 (6 * g + 3) (μ 25 (6 * g + 3) + 1)) g) else (mu μ 25 (6 * g + 3) (μ 25 (6 * g + 3) + 1), (mu μ 25 (6 * g + 3) (μ 25 (6 * g + 3) + 1)) 1 (55 * g + 7))).1 1 (55 * g + a) _) 1 (55 * g + 4) (μ 1 (55 * g + 4) + 1)) g
    refine MNY.trans (μ1 := (if b = 0 then takM (mu μ 25 (6 * g + 3) (μ 25 (6 * g + 3) + 1)) g else if b = 1 then (mu μ 25 (6 * g + 3) (μ 25 (6 * g + 3) + 1), clockM (mu μ 25 (6 * g + 3) (μ 25 (6 * g + 3) + 1)) g) else (mu μ 25 (6 * g + 3) (μ 25 (6 * g + 3) + 1), (mu μ 25 (6 * g + 3) (μ 25 (6 * g + 3) + 1)) 1 (55 * g + 7))).1) ?_ (MNY_1 ((M1_mu rfl (by omega)).trans (M1_mu rfl (by omega))))
    split
    · exact MNY.trans (MNY_e (μ' := mu μ 25 (6 * g + 3) (μ 25 (6 * g + 3) + 1)) (by rw [e25])) MNY_tak
    · split
      · exact MNY_e (congrFun (e25 (6 * g + 3) (μ 25 (6 * g + 3) + 1)) (55 * g + 54))
      · exact MNY_e (congrFun (e25 (6 * g + 3) (μ 25 (6 * g + 3) + 1)) (55 * g + 54))
  · refine MNY_e ?_
    show (mu (mu (mu μ 25 _ _) 1 (55 * g + 49) _) 1 (55 * g + 4) _) 1 (55 * g + 54) = _
    rw [muD (by omega), muD (by omega), e25]
  · exact MNY_1 ((M1_mu rfl (by omega)).trans (M1_mu rfl (by omega)))
  · exact MNY_1 ((M1_mu rfl (by omega)).trans (M1_mu rfl (by omega)))
  · exact MNY_1 ((M1_mu rfl (by omega)).trans (M1_mu rfl (by omega)))
  · refine MNY_e ?_
    show (mu (giveM μ g b) 1 (55 * g + 4) _) 1 (55 * g + 54) = _
    rw [muD (by omega), give_1]
    exact (M1_clr (v4 rfl) 4 (Nat.le_refl _)).2.1 54 (by omega) (by omega)
  · refine MNY_e ?_
    show (mu (mu (mu μ 25 _ _) 1 (55 * g + 49) _) 1 (55 * g + 4) _) 1 (55 * g + 54) = _
    rw [muD (by omega), muD (by omega), e25]
theorem MNY_run {μ : MU} {n g h : Nat} (hR : ROK μ g) (hP : PRG μ g) : MNY μ (runM μ n g h) g := by
  let μa : MU := mu μ 24 g (μ 24 g + 1)
  have ha : μa 1 = μ 1 := mu_row (by omega)
  have hRa : ROK μa g := ROK_row hR ha
  have hRi : ROK (intM μa g) g := ROK_int hRa
  have h1 : MNY μ (intM μa g) g := by
    refine MNY_e ?_
    unfold intM goToM
    dsimp only
    split
    · split
      · rw [muD (by omega), muD (by omega), muD (by omega), muD (by omega), mu_row (by omega), muD (by omega), ha]
      · rw [muD (by omega), muD (by omega), muD (by omega), muD (by omega), mu_row (by omega), muD (by omega), ha]
    · rw [ha]
  refine h1.trans ?_
  show MNY (intM μa g) (exM (intM μa g) n g h) g
  unfold exM
  split
  · obtain ⟨N, hN24, hN, hcode⟩ := hP
    rename_i hx
    obtain ⟨x, ex, hx25⟩ := hRi.nx
    have e13 : (intM μa g) 13 = μ 13 := by rw [intM_row (by omega)]; exact mu_row (by omega)
    have e14 : (intM μa g) 14 = μ 14 := by rw [intM_row (by omega)]; exact mu_row (by omega)
    rw [ex, e14, hN, nI_lt' (by omega) (by omega)] at hx
    obtain ⟨w, hV, ew⟩ := hcode x hx
    dsimp only
    rw [ex, nI_cl (by omega), e13, ew, nI_cl (by have := hV.1; omega)]
    exact MNY_do hRi hV.vn hV.1
  · exact MNY_e (muD (by omega))
/-- how many inputs there may be, and what kept ones there are -/
def INQ (μ : MU) (g C : Nat) : Prop := (∃ m, μ 1 (55 * g + 54) = nI m ∧ m ≤ C) ∧ (∃ b, μ 6 g = nI b ∧ b ≤ C ∧ (μ 33 g = 1 → (∃ a, μ 3 (55 * g + 54) = nI a ∧ a + b ≤ C) ∧ ∀ k, k < b → k < 512 → ∃ r, r < 10000 ∧ μ 5 (512 * g + k) = nI r)) ∧ (μ 18 g = 0 ∨ μ 18 g = 1)
/-- a record done again speaks of a guest -/
def RPI (E : EE) (κ : K) (n : Nat) : Prop := ∀ i, i < cntE E 3 → ∃ g, g < n ∧ kP κ 3 i 0 1 = some g
def ZER (μ : MU) (n : Nat) : Prop := ∀ c k, c ≠ 0 → c < 38 → ¬ (7 ≤ c ∧ c ≤ 10) → ¬ (27 ≤ c ∧ c ≤ 29) → n ≤ k / wid c → k / wid c < 5 → μ c k = 0
theorem ZER_own {μ μ' : MU} {n g : Nat} (h : ZER μ n) (hO : OWN μ μ' g) (hg : g < n) : ZER μ' n := fun c k a b d e f i => by
  rw [hO.2.2 c k (by omega) (by omega) (by omega) (by omega)]
  exact h c k a b d e f i
theorem ZER_e {μ μ' : MU} {n : Nat} (h : ZER μ n) (e : ∀ c, c ≠ 0 → c < 38 → ¬ (7 ≤ c ∧ c ≤ 10) → ¬ (27 ≤ c ∧ c ≤ 29) → μ' c = μ c) : ZER μ' n := fun c k a b d e2 f i => by
  rw [e c a b d e2]
  exact h c k a b d e2 f i
def COST (κ : K) (n ns C : Nat) : Prop := 8 * (kC κ).1 ≤ 3200 * C + 4000 + WT κ n ns ∧ (kC κ).2 ≤ 5000 * C + 60000 + 2 * WT κ n ns
theorem COST_p {κ κ' : K} {n ns C d1 d2 : Nat} (h : COST κ n ns C) (hp : PAID n ns d1 d2 κ κ') (h1 : d1 ≤ 400) (h2 : d2 ≤ 5000) : COST κ' n ns (C + 1) := by
  unfold COST PAID at *
  omega
def REL (E : EE) (κ : K) (μ : MU) (n ns t C : Nat) : Prop := (E.1 = n ∧ E.2.1 = ns ∧ OKE E ∧ cntE E 9 = ns ∧ RPI E κ n) ∧ (LsI E κ 1 n ∧ LsI E κ 2 ns ∧ kV κ 4 0 0 3 = nI t ∧ μ 0 41 = nI t ∧ t ≤ 3000) ∧ MID κ μ n ns (fun _ => t) ∧ (∀ g, g < n → SAY μ g t ∧ CLK μ g t ∧ INQ μ g C) ∧ (μ 0 11 = nI ns ∧ ns ≤ 10 ∧ ∀ s, s < ns → ∃ a, μ 7 (55 * s + 54) = nI a ∧ a ≤ C) ∧ ZER μ n ∧ COST κ n ns C
/-- the relation speaks of the class's part of the store alone -/
theorem MID_k {κ κ' : K} {μ : MU} {n ns : Nat} {tf : Nat → Nat} (h : MID κ μ n ns tf) (eV : ∀ f, f ≠ 5 → f ≠ 6 → kV κ' f = kV κ f) (eN : kN κ' = kN κ) (eP : kP κ' = kP κ) : MID κ' μ n ns tf := by
  obtain ⟨h1, h2, h3, h4, h5⟩ := h
  refine ⟨h1, h2, fun q hq => HO_v (h3 q hq) (Nat.le_refl _) (by rw [eV 2 (by omega) (by omega)]; exact (h3 q hq).1) (fun k _ => by rw [eV 2 (by omega) (by omega)]) (by rw [eP]) (fun _ _ _ => rfl), fun g hg => ⟨RG_e (h4 g hg).1 (by rw [eV 0 (by omega) (by omega)]) (by rw [eN]) (fun _ _ => rfl), GPT_v (h4 g hg).2.1 (Nat.le_refl _) (by rw [eP]) rfl rfl, (h4 g hg).2.2.imp (fun z => by rw [eV 0 (by omega) (by omega)]; exact z) (fun z => PLK_v z (fun j _ => by rw [eV 0 (by omega) (by omega)]) (fun j _ => by rw [eN]) (fun c _ _ => by rw [eV 0 (by omega) (by omega)]) (RANUP_e (by rw [eV 0 (by omega) (by omega)])))⟩, fun s hs => SNP_v (h5 s hs) (Nat.le_refl _) (by rw [eV 1 (by omega) (by omega)]) (by rw [eV 9 (by omega) (by omega)]) (by rw [eN]) (by rw [eP]) (fun _ _ _ _ _ _ _ => rfl) (fun g _ => ⟨fun c _ _ => by rw [eV 0 (by omega) (by omega)], RANUP_e (by rw [eV 0 (by omega) (by omega)])⟩)⟩
theorem REL_k {E : EE} {κ κ' : K} {μ : MU} {n ns t C : Nat} (h : REL E κ μ n ns t C) (eV : ∀ f, f ≠ 5 → f ≠ 6 → kV κ' f = kV κ f) (eN : kN κ' = kN κ) (eP : kP κ' = kP κ) (eC : kC κ' = kC κ) : REL E κ' μ n ns t C := by
  obtain ⟨h1, ⟨l1, l2, l3, l4, l5⟩, h3, h4, h5, h6, h7⟩ := h
  refine ⟨⟨h1.1, h1.2.1, h1.2.2.1, h1.2.2.2.1, by unfold RPI; rw [eP]; exact h1.2.2.2.2⟩, ⟨LsI_v l1 (by rw [eV 4 (by omega) (by omega)]) (by rw [eP]), LsI_v l2 (by rw [eV 4 (by omega) (by omega)]) (by rw [eP]), by rw [eV 4 (by omega) (by omega)]; exact l3, l4, l5⟩, MID_k h3 eV eN eP, h4, h5, h6, ?_⟩
  unfold COST WT at *
  rw [eN, eC]
  exact h7
/-- which exception was thrown does not matter to the relation -/
theorem MID_thr {κ : K} {μ : MU} {n ns : Nat} {tf : Nat → Nat} {x : Int32} (h : MID κ μ n ns tf) : MID κ (mu μ 0 0 x) n ns tf := by
  obtain ⟨h1, h2, h3, h4, h5⟩ := h
  have er : ∀ c, c ≠ 0 → (mu μ 0 0 x) c = μ c := fun c hc => mu_row hc
  refine ⟨⟨⟨h1.1.1, by rw [muD (by omega)]; exact h1.1.2.1, fun g hg => ?_, by rw [er 39 (by omega)]; exact h1.1.2.2.2⟩, fun g hg => ?_, ?_⟩, FRM_row h2 (er 27 (by omega)) (er 28 (by omega)), fun q hq => HO_v (h3 q hq) (Nat.le_refl _) (RH_row (h3 q hq).1 (er 15 (by omega)) (er 28 (by omega)) (er 29 (by omega))) (fun k _ => rfl) rfl (fun c a b => by rw [er c (by omega)]), fun g hg => ⟨?_, GPT_v (h4 g hg).2.1 (Nat.le_refl _) rfl (by rw [er 15 (by omega)]) (by rw [er 12 (by omega)]), (h4 g hg).2.2⟩, fun s hs => SNP_v (h5 s hs) (Nat.le_refl _) rfl rfl rfl rfl (fun c _ _ k _ _ _ => by rw [er c (by omega)]) (fun g _ => ⟨fun _ _ _ => rfl, RANUP_e rfl⟩)⟩
  · obtain ⟨a, b, c, d⟩ := h1.1.2.2.1 g hg
    exact ⟨ROK_row a (er 1 (by omega)), by unfold PRG; rw [er 13 (by omega), er 14 (by omega)]; exact b, PAG_row c (er 27 (by omega)) (er 28 (by omega)), by rw [er 15 (by omega)]; exact d⟩
  · unfold QOK
    rw [er 1 (by omega), er 2 (by omega)]
    exact h1.2.1 g hg
  · obtain ⟨t, a, b⟩ := h1.2.2
    exact ⟨t, a, by rw [muD (by omega)]; exact b⟩
  · have hG := (h4 g hg).1
    refine ⟨RGX_v hG.1 ?_ ?_ ?_ (fun k _ _ => rfl) (fun c _ _ _ => rfl) (fun c => rfl) (fun c k a _ _ _ _ _ _ _ _ => by rw [er c a.1]) (fun k _ _ => by rw [er 1 (by omega)]) (by rw [muD (by omega)]), by rw [row_c (by omega)]; exact hG.2.1, by rw [er 24 (by omega)]; exact hG.2.2.1, hG.2.2.2⟩
    · exact EXI_v hG.1.2.1 rfl (fun k _ => by rw [er 25 (by omega)])
    · exact BAR_v hG.1.2.2.1 rfl (fun p _ => by rw [er 27 (by omega)])
    · exact SND_v hG.1.2.2.2.1 rfl (by rw [er 30 (by omega)]) (by rw [er 31 (by omega)])
theorem REL_thr {E : EE} {κ : K} {μ : MU} {n ns t C : Nat} {x : Int32} (h : REL E κ μ n ns t C) : REL E κ (mu μ 0 0 x) n ns t C := by
  obtain ⟨h1, ⟨l1, l2, l3, l4, l5⟩, h3, h4, h5, h6, h7⟩ := h
  have er : ∀ c, c ≠ 0 → (mu μ 0 0 x) c = μ c := fun c hc => mu_row hc
  refine ⟨h1, ⟨l1, l2, l3, by rw [muD (by omega)]; exact l4, l5⟩, MID_thr h3, fun g hg => ⟨SAY_row (h4 g hg).1 (er 24 (by omega)) (er 35 (by omega)) (er 37 (by omega)), ?_, ?_⟩, ⟨by rw [muD (by omega)]; exact h5.1, h5.2.1, by rw [er 7 (by omega)]; exact h5.2.2⟩, ZER_e h6 (fun c a _ _ _ => er c a), h7⟩
  · unfold CLK
    rw [er 22 (by omega), er 20 (by omega), er 21 (by omega)]
    exact (h4 g hg).2.1
  · unfold INQ
    rw [er 1 (by omega), er 3 (by omega), er 5 (by omega), er 6 (by omega), er 33 (by omega), er 18 (by omega)]
    exact (h4 g hg).2.2
/-- one call more -/
theorem REL_C {E : EE} {κ κ' : K} {μ : MU} {n ns t C d1 d2 : Nat} (h : REL E κ μ n ns t C) (eV : ∀ f, f ≠ 5 → f ≠ 6 → kV κ' f = kV κ f) (eN : kN κ' = kN κ) (eP : kP κ' = kP κ) (hp : PAID n ns d1 d2 κ κ') (h1 : d1 ≤ 400) (h2 : d2 ≤ 5000) : REL E κ' μ n ns t (C + 1) := by
  obtain ⟨g1, ⟨l1, l2, l3, l4, l5⟩, g3, g4, g5, g6, g7⟩ := h
  refine ⟨⟨g1.1, g1.2.1, g1.2.2.1, g1.2.2.2.1, by unfold RPI; rw [eP]; exact g1.2.2.2.2⟩, ⟨LsI_v l1 (by rw [eV 4 (by omega) (by omega)]) (by rw [eP]), LsI_v l2 (by rw [eV 4 (by omega) (by omega)]) (by rw [eP]), by rw [eV 4 (by omega) (by omega)]; exact l3, l4, l5⟩, MID_k g3 eV eN eP, fun g hg => ⟨(g4 g hg).1, (g4 g hg).2.1, ?_⟩, ⟨g5.1, g5.2.1, fun s hs => ?_⟩, g6, COST_p g7 hp h1 h2⟩
  · obtain ⟨⟨m, a, b⟩, ⟨bb, c, d, e⟩, b18⟩ := (g4 g hg).2.2
    exact ⟨⟨m, a, by omega⟩, ⟨bb, c, by omega, fun z => by obtain ⟨⟨a', q1, q2⟩, q3⟩ := e z; exact ⟨⟨a', q1, by omega⟩, q3⟩⟩, b18⟩
  · obtain ⟨a, b, c⟩ := g5.2.2 s hs
    exact ⟨a, b, by omega⟩
