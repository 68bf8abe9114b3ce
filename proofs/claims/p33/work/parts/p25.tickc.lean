theorem RGX_sc {κ κ' : K} {μ μ' : MU} {g tt : Nat} (h : RGX κ μ g tt) (s1 : SCA (kV κ' 0 g) μ' g) (e14 : kV κ' 0 g 0 14 = kV κ 0 g 0 14) (e15 : kV κ' 0 g 0 15 = kV κ 0 g 0 15) (eV : ∀ c, c ≠ 0 → kV κ' 0 g c = kV κ 0 g c) (eN : ∀ c, kN κ' 0 g c = kN κ 0 g c) (em : ∀ c, c < 15 ∨ (24 < c ∧ c ≠ 32) → μ' c = μ c) (ecl : clockM μ' g = clockM μ g) (eD : kV κ' 0 g 0 18 = kV κ 0 g 0 18) : RGX κ' μ' g tt := by
  obtain ⟨h1, h2, h3, h4, h5, h6, q7, q8, q9, q10, h11, h12⟩ := h
  have hq : ∀ {c B x q}, QQ κ 0 g c B x q → c ≠ 0 → QQ κ' 0 g c B x q := fun a b => QQ_v a (by rw [eV _ b]) (eV _ (by omega)) (eN _) rfl (fun _ _ => rfl)
  refine ⟨s1, EXI_v h2 (eV 38 (by omega)) (fun k _ => by rw [em 25 (by omega)]), BAR_v h3 e14 (fun p _ => by rw [em 27 (by omega)]), SND_v h4 e15 (by rw [em 30 (by omega)]) (by rw [em 31 (by omega)]), PRO_v h5 (fun c _ _ => eV c (by omega)) (by rw [em 14 (by omega)]) (fun k _ => by rw [em 13 (by omega)]), LVT_v h6 (eV 5 (by omega)) (fun k _ _ => by rw [em 1 (by omega)]) ecl, ?_, ?_, ?_, ?_, FOL_v h11 (eV 18 (by omega)) (fun j _ => eV _ (by omega)) (eN _) (by rw [em 33 (by omega)]) (fun k _ => by rw [em 3 (by omega)]) (fun k _ => by rw [em 4 (by omega)]) eD, STN_v h12 (fun j _ _ => eV _ (by omega)) (fun j _ _ => eN _)⟩
  · rw [em 1 (by omega), em 2 (by omega)]; exact hq q7 (by omega)
  · rw [em 35 (by omega), em 34 (by omega)]; exact hq q8 (by omega)
  · rw [em 37 (by omega), em 36 (by omega)]; exact hq q9 (by omega)
  · rw [em 6 (by omega), em 5 (by omega)]; exact hq q10 (by omega)
/-- a scalar of a guest is set anew on both sides -/
theorem RG_sc {κ : K} {μ μ' : MU} {g tt k : Nat} {x : Int32} (h : RG κ μ g tt) (hk : k ≠ 12 ∧ k ≠ 14 ∧ k ≠ 15 ∧ k ≠ 18) (s1 : SCA (kV (setV κ 0 g 0 k x) 0 g) μ' g) (em : ∀ c, c < 15 ∨ (24 < c ∧ c ≠ 32) → μ' c = μ c) (e24 : μ' 24 g = μ 24 g) (ecl : clockM μ' g = clockM μ g) : RG (setV κ 0 g 0 k x) μ' g tt := by
  have eV : ∀ c, c ≠ 0 → kV (setV κ 0 g 0 k x) 0 g c = kV κ 0 g c := fun c hc => by
    funext j
    exact vD (by omega)
  have e0 : ∀ j, j ≠ k → kV (setV κ 0 g 0 k x) 0 g 0 j = kV κ 0 g 0 j := fun j hj => vD (by omega)
  refine ⟨RGX_sc h.1 s1 (e0 14 (by omega)) (e0 15 (by omega)) eV (fun _ => rfl) em ecl (e0 18 (by omega)), ?_, by rw [e0 12 (by omega), e24]; exact h.2.2.1, PLL_v h.2.2.2 (fun c _ _ => eV c (by omega)) (fun c _ _ => eV c (by omega)) (fun _ _ _ => rfl) (by rw [eV 5 (by omega)]) (e0 12 (by omega)) (e0 18 (by omega)) (MEQ_j fun j _ => eV (6 + j) (by omega))⟩
  rw [row_e (em 1 (by omega))]
  exact MCH_m h.2.1 (fun j _ => eV (6 + j) (by omega))
theorem RG_stl {κ : K} {μ : MU} {g tt : Nat} (h : RG κ μ g tt) : RG (setV κ 0 g 0 11 (kV κ 0 g 0 11 + 1)) (mu μ 23 g (μ 23 g + 1)) g tt := by
  have em : ∀ c, c ≠ 23 → (mu μ 23 g (μ 23 g + 1)) c = μ c := fun c hc => mu_row hc
  refine RG_sc h (by omega) ?_ (fun c hc => em c (by omega)) (by rw [em 24 (by omega)]) (clock_e (by rw [em 0 (by omega)]) (by rw [em 20 (by omega)]) (by rw [em 21 (by omega)]) (by rw [em 22 (by omega)]))
  obtain ⟨a1, a2, a3, a4, a5, a6, a7, a8⟩ := h.1.1
  unfold SCA
  rw [vD (by omega), vD (by omega), vD (by omega), vD (by omega), vS ⟨rfl, rfl, rfl, rfl⟩, vD (by omega), vD (by omega), vD (by omega), em 16 (by omega), em 17 (by omega), em 20 (by omega), muS ⟨rfl, rfl⟩, em 32 (by omega), em 18 (by omega), em 19 (by omega), a5]
  exact ⟨a1, a2, a3, a4, rfl, a6, a7, a8⟩
theorem set_frame {κ : K} {g c k : Nat} {x : Int32} : (∀ f i, ¬ (f = 0 ∧ i = g) → kV (setV κ 0 g c k x) f i = kV κ f i) ∧ ∀ c', c' ≠ c → kV (setV κ 0 g c k x) 0 g c' = kV κ 0 g c' := by
  refine ⟨fun f i hfi => ?_, fun c' hc => ?_⟩
  · funext c' k'
    exact vD (fun z => hfi ⟨z.1, z.2.1⟩)
  · funext k'
    exact vD (by omega)
theorem HFR_0 {n s g : Nat} {κ κ' : K} (hV : ∀ f i, ¬ (f = 0 ∧ i = g) → kV κ' f i = kV κ f i) (hN : kN κ' = kN κ) (hP : kP κ' = kP κ) (hC : kC κ' = kC κ) : HFR n s 0 0 κ κ' :=
  ⟨fun f a _ => by funext i; exact hV f i (by omega), by rw [hP], by rw [hP], fun _ _ => by rw [hP], PAID_same hN hC⟩
theorem LsI_h {E : EE} {κ κ' : K} {n s c m : Nat} (h : LsI E κ c m) (hf : HFR n s 0 0 κ κ') : LsI E κ' c m := LsI_v h (by rw [hf.1 4 (by omega) (by omega)]) (by rw [hf.2.1])
theorem stl_step {μ : MU} {h : Int32} {g k : Nat} : stlU μ h g (k + 1) = mu (stlU μ h g k) 23 k ((stlU μ h g k) 23 k + (if k = g then 0 else if canM (stlU μ h g k) k h = true then 1 else 0)) := rfl
theorem t_steal {E : EE} {κ : K} {μ : MU} {n ns h g tt : Nat} (hE : E.1 = n) (hH : E.2.2.2.1 = 1) (hh : h < 2) (hg : g < n) (hL : LsI E κ 1 n) (hM : MID κ μ n ns (fun _ => tt)) : ∃ κ', f_X10_giveTurn_b34 E h FU κ g 0 = f_X10_giveTurn_b90 E h κ' g ∧ MID κ' (stlU μ (nI h) g n) n ns (fun _ => tt) ∧ HFR n ns 0 0 κ κ' ∧ kV κ' 2 = kV κ 2 := by
  subst hE
  have hn : E.1 ≤ 5 := hM.1.1.1
  have loop : ∀ (d i m : Nat) (κ1 : K), i + d = E.1 → d < m → MID κ1 (stlU μ (nI h) g i) E.1 ns (fun _ => tt) → HFR E.1 ns 0 0 κ κ1 → kV κ1 2 = kV κ 2 → ∃ κ', f_X10_giveTurn_b34 E h m κ1 g (nI i) = f_X10_giveTurn_b90 E h κ' g ∧ MID κ' (stlU μ (nI h) g E.1) E.1 ns (fun _ => tt) ∧ HFR E.1 ns 0 0 κ κ' ∧ kV κ' 2 = kV κ 2 := by
    intro d
    induction d with
    | zero =>
      intro i m κ1 hi hm M1 F1 V1
      obtain ⟨m, rfl⟩ : ∃ q, m = q + 1 := ⟨m - 1, by omega⟩
      have e : i = E.1 := by omega
      subst e
      exact ⟨κ1, by rw [f_X10_giveTurn_b34, size_ok (LsI_h hL F1), bd_s, if_pos (by rw [nI_le' (by omega) (by omega)]; exact Nat.le_refl _)], M1, F1, V1⟩
    | succ d ih =>
      intro i m κ1 hi hm M1 F1 V1
      obtain ⟨m, rfl⟩ : ∃ q, m = q + 1 := ⟨m - 1, by omega⟩
      have hL1 := LsI_h hL F1
      have hi5 : i < E.1 := by omega
      rw [f_X10_giveTurn_b34, size_ok hL1, bd_s, if_neg (by rw [nI_le' (by omega) (by omega)]; omega), get_ok hL1 hn hi5, bd_s, gd_t (show i < cntE E 0 from hi5)]
      have same : (if i = g then (0 : Int32) else if canM (stlU μ (nI h) g i) i (nI h) = true then 1 else 0) = 0 → stlU μ (nI h) g (i + 1) = stlU μ (nI h) g i := fun z => by
        rw [stl_step, z]
        exact mu_self (by simp)
      by_cases e : i = g
      · rw [if_pos e, f_X10_giveTurn_b84, nmE, nI_1]
        exact ih (i + 1) m κ1 (by omega) (by omega) (by rw [same (if_pos e)]; exact M1) F1 V1
      · rw [if_neg e, can_E hH hh (M1.2.2.2.1 i hi5).1 (M1.2.2.2.1 i hi5).2.1, bd_s]
        by_cases hc : canM (stlU μ (nI h) g i) i (nI h) = true
        · rw [if_pos hc, if_neg (by decide), nmE, f_X10_giveTurn_b84, nmE, nI_1]
          have est : stlU μ (nI h) g (i + 1) = mu (stlU μ (nI h) g i) 23 i ((stlU μ (nI h) g i) 23 i + 1) := by rw [stl_step, if_neg e, if_pos hc]
          have fr := set_frame (κ := κ1) (g := i) (c := 0) (k := 11) (x := kV κ1 0 i 0 11 + 1)
          have em : ∀ c, c ≠ 23 → (mu (stlU μ (nI h) g i) 23 i ((stlU μ (nI h) g i) 23 i + 1)) c = (stlU μ (nI h) g i) c := fun c hc => mu_row hc
          refine ih (i + 1) m _ (by omega) (by omega) ?_ (F1.tr (HFR_0 fr.1 rfl rfl rfl)) (by funext j; rw [fr.1 2 j (by omega), V1])
          rw [est]
          refine MID_tf (MID_1 M1 hi5 fr.1 rfl rfl (TJ.row M1.1 (fun c hc => em c (by omega))) (OWN_g (by omega) (by omega) rfl) (em 27 (by omega)) (em 28 (by omega)) (em 29 (by omega)) (fun c _ _ _ _ _ => em c (by omega)) (RG_stl (M1.2.2.2.1 i hi5).1) (fun c hc => fr.2 c (by omega)) (RANUP_e (vD (by omega)))) (fun g2 _ => ?_)
          split <;> rfl
        · rw [if_neg hc, if_pos rfl, f_X10_giveTurn_b84, nmE, nI_1]
          exact ih (i + 1) m κ1 (by omega) (by omega) (by rw [same (by rw [if_neg e, if_neg hc])]; exact M1) F1 V1
  have := loop E.1 0 FU κ (by omega) (by unfold FU; omega) hM HFR.rfl rfl
  rw [nI_0] at this
  exact this
theorem run_row {μ : MU} {n g h c : Nat} (hR : ROK μ g) (hQ : QOK μ g) (hP : PRG μ g) (ht : TM μ) (hc : c ≠ 1 ∧ c ≠ 2 ∧ c ≠ 24 ∧ c ≠ 25 ∧ c ≠ 27 ∧ c ≠ 28 ∧ c ≠ 29 ∧ c ≠ 31 ∧ (c < 34 ∨ 37 < c)) : (runM μ n g h) c = μ c := by
  rw [(s_run hR hQ hP ht).2.2.2.2.2.1 c (by omega) (by omega) (by omega) (by omega) (by omega) (by omega) (by omega) (by omega) (by omega) (by omega) (by omega)]
  exact mu_row (by omega)
theorem TJ_run {μ : MU} {n g h : Nat} (hT : TJ μ n) (hg : g < n) : TJ (runM μ n g h) n := by
  obtain ⟨a1, a2, a3, _⟩ := hT.1.2.2.1 g hg
  have hT2 : TJ (mu μ 24 g (μ 24 g + 1)) n := TJ.row hT (fun c hc => mu_row (by omega))
  exact TJ_step hT2 hg (s_run a1 (hT.2.1 g hg) a2 hT.2.2)
/-- the chosen guest has its tick -/
theorem t_turn {E : EE} {κ : K} {μ : MU} {n ns h g t Bg : Nat} (hE : E.1 = n) (hH : E.2.2.2.1 = 1) (hh : h < 2) (hg : g < n) (hM : MID κ μ n ns (fun _ => t + 1)) (htk : kV κ 2 h 0 5 = μ 0 41 + 1) (ht : μ 0 41 = nI t) (ht3 : t < 3000) (hc : canM μ g (nI h) = true) (hS : SAY μ g Bg) (hB : Bg ≤ t) : ∃ κ', f_X1_runTick E κ g = some (κ', ()) ∧ MID κ' (runM μ n g h) n ns (fun _ => t + 1) ∧ HFR n ns 0 0 κ κ' := by
  obtain ⟨hTJ, hF, hHO, hGG, hSN⟩ := hM
  have hn : n ≤ 5 := hTJ.1.1
  obtain ⟨r1, r2, r3, _⟩ := hTJ.1.2.2.1 g hg
  have rQ := hTJ.2.1 g hg
  unfold canM at hc
  rw [Bool.and_eq_true, Bool.and_eq_true] at hc
  have c15 : μ 15 g = nI h := of_decide_eq_true hc.1.1
  have c49 : μ 1 (55 * g + 49) = 0 := of_decide_eq_true hc.1.2
  obtain ⟨gR, gP, gF⟩ := hGG g hg
  have hP8 : kP κ 0 g 0 8 = some h := by
    obtain ⟨h', z1, z2, z3⟩ := gP.1
    rw [c15, nI_eq' (by omega) (by omega)] at z3
    rw [z2, z3]
  obtain ⟨a0, b0, r, s1, s2, s3, s4, s5⟩ := hS
  obtain ⟨κ', q1, q2, q3, q4, q5, q6, q7, q8, q9, q10, q11⟩ := t_run (E := E) (s := ns) hn hg hh (host_lt hH hh) hP8 c15 r1 rQ r2 htk ht ht3 c49 gR (hHO h hh).1 hF s1 (by omega) s2 (by omega) (fun x hx hx2 => by rw [s3, nI_eq' (by omega) hx2] at hx; omega)
  have row := fun (c : Nat) (hc : c ≠ 1 ∧ c ≠ 2 ∧ c ≠ 24 ∧ c ≠ 25 ∧ c ≠ 27 ∧ c ≠ 28 ∧ c ≠ 29 ∧ c ≠ 31 ∧ (c < 34 ∨ 37 < c)) => run_row (n := n) (h := h) r1 rQ r2 hTJ.2.2 hc
  have hran : RANUP κ κ' g := fun r0 z1 z2 => by
    rw [gR.2.2.1, s3] at z1
    rw [nI_eq' (by omega) (by omega)] at z1
    exact q11 r0 (by rw [gR.2.2.1, s3, z1]) (by omega)
  have hprog : ∀ g2, g2 < n → (∀ c, 1 ≤ c → c ≤ 4 → kV κ' 0 g2 c = kV κ 0 g2 c) ∧ RANUP κ κ' g2 := by
    intro g2 hg2
    by_cases e : g2 = g
    · subst e
      exact ⟨fun c a b => q9 c (Or.inl ⟨a, b⟩), hran⟩
    · exact ⟨fun c a b => by rw [q5.1 0 g2 (by omega) (by omega)], RANUP_e (by rw [q5.1 0 g2 (by omega) (by omega)])⟩
  refine ⟨κ', q1, ⟨TJ_run hTJ hg, q4, fun h2 hh2 => ?_, fun g2 hg2 => ⟨?_, GPT_v (hGG g2 hg2).2.1 (Nat.le_refl _) (by rw [q5.2.2.2.1]) (by rw [row 15 (by omega)]) (by rw [row 12 (by omega)]), ?_⟩, fun s hs => SNP_v (hSN s hs) (Nat.le_refl _) (q5.1 1 s (by omega) (by omega)) (q5.1 9 s (by omega) (by omega)) (q5.2.2.1 9 s (by omega)) (by rw [q5.2.2.2.1]) (fun c a b k _ _ _ => by rw [row c (by omega)]) hprog⟩, ?_⟩
  · by_cases e : h2 = h
    · subst e
      exact HO_v (hHO h2 hh2) (Nat.le_refl _) q3 (fun k _ => by rw [q5.2.1]) (by rw [q5.2.2.2.1]) (fun c a b => by rw [row c (by omega)])
    · exact HO_v (hHO h2 hh2) (Nat.le_refl _) (by rw [q5.1 2 h2 (by omega) (by omega)]; exact q8 h2 _ hh2 e (hHO h2 hh2).1) (fun k _ => by rw [q5.1 2 h2 (by omega) (by omega)]) (by rw [q5.2.2.2.1]) (fun c a b => by rw [row c (by omega)])
  · by_cases e : g2 = g
    · subst e; exact q2
    · exact RG_n (hGG g2 hg2).1 (Ne.symm e) q6 (fun p hp => q7 _ (by omega) (by omega)) (q5.1 0 g2 (by omega) (by omega)) (q5.2.2.1 0 g2 (by omega))
  · have hf : ∀ c, 18 ≤ c → c < 32 → kV κ' 0 g2 c = kV κ 0 g2 c ∧ kN κ' 0 g2 c = kN κ 0 g2 c := by
      intro c x y
      by_cases e : g2 = g
      · subst e; exact ⟨q9 c (Or.inr ⟨x, y⟩), q10 c x y⟩
      · rw [q5.1 0 g2 (by omega) (by omega), q5.2.2.1 0 g2 (by omega)]
        exact ⟨rfl, rfl⟩
    exact (hGG g2 hg2).2.2.imp (fun z => by rw [(hf 18 (by omega) (by omega)).1]; exact z) (fun z => PLK_v z (fun j _ => (hf _ (by omega) (by omega)).1) (fun j _ => (hf _ (by omega) (by omega)).2) (hprog g2 hg2).1 (hprog g2 hg2).2)
  · exact ⟨fun f a b => by funext i; exact q5.1 f i (by omega) (by omega), by rw [q5.2.2.2.1], by rw [q5.2.2.2.1], fun _ _ => by rw [q5.2.2.2.1], q5.2.2.2.2⟩
theorem can_row {μ μ' : MU} {g : Nat} {h : Int32} (e1 : μ' 1 = μ 1) (e15 : μ' 15 = μ 15) (e18 : μ' 18 = μ 18) : canM μ' g h = canM μ g h := by
  unfold canM
  rw [e1, e15, e18]
theorem SAY_row {μ μ' : MU} {g t : Nat} (h : SAY μ g t) (e24 : μ' 24 = μ 24) (e35 : μ' 35 = μ 35) (e37 : μ' 37 = μ 37) : SAY μ' g t := by
  unfold SAY
  rw [e24, e35, e37]
  exact h
theorem t_host {E : EE} {κ : K} {μ : MU} {n ns h t : Nat} {B : Nat → Nat} (hE : E.1 = n) (hH : E.2.2.2.1 = 1) (hh : h < 2) (hL : LsI E κ 1 n) (hM : MID κ μ n ns (fun _ => t + 1)) (ht : μ 0 41 = nI t) (ht3 : t < 3000) (htc : kV κ 4 0 0 3 = nI t) (hS : ∀ g, g < n → SAY μ g (B g)) (hB : ∀ g, g < n → μ 15 g = nI h → B g ≤ t) : ∃ κ', f_X10_giveTurn E κ h = some (κ', ()) ∧ MID κ' (hostM μ n h) n ns (fun _ => t + 1) ∧ HFR n ns 0 0 κ κ' := by
  have hO := hM.2.2.1 h hh
  unfold hostM
  rw [f_X10_giveTurn, hO.2.2.1]
  by_cases h0 : μ 38 h = 0
  · rw [if_pos h0, if_pos h0]
    obtain ⟨κ1, o, p1, p2, p3, p4⟩ := t_choose hE hH hh hL hM
    rw [p1, bd_s]
    rcases p2 with ⟨rfl, e2⟩ | ⟨g, hg, rfl, e2⟩
    · rw [optG_0, if_pos e2, f_X10_giveTurn_b16]
      exact ⟨κ1, rfl, p3, p4⟩
    · have hn := hM.1.1.1
      have hcan : canM μ g (nI h) = true := by
        rcases chM_2 (h := h) hM.1.1 hh with w | ⟨g', w1, w2, w3⟩
        · rw [e2, nI_m1 (by omega)] at w; exact w.elim
        · rw [e2, nI_eq' (by omega) (by omega)] at w2
          rw [w2]; exact w3
      rw [optG_s (show g < cntE E 0 from by rw [show cntE E 0 = E.1 from rfl, hE]; exact hg), if_neg (by rw [e2, nI_m1 (by omega)]; exact id), e2, nI_cl (by omega)]
      have e4 : kV κ1 4 0 0 3 = nI t := by rw [p4.1 4 (by omega) (by omega)]; exact htc
      rw [f_X10_giveTurn_b16a, nmE, e4, nI_1]
      have eV : ∀ f, f ≠ 2 → kV (setV κ1 2 h 0 5 (nI (t + 1))) f = kV κ1 f := fun f hf => by
        funext i c k
        exact vD (by omega)
      have hM2 : MID (setV κ1 2 h 0 5 (nI (t + 1))) (chM μ n h).1 n ns (fun _ => t + 1) := by
        refine MID_2 p3 eV rfl (fun _ _ => rfl) p3.1 (fun h2 hh2 => ?_) (fun _ _ => rfl)
        refine HO_v (p3.2.2.1 h2 hh2) (Nat.le_refl _) ?_ (fun k hk => vD (by omega)) rfl (fun _ _ _ => rfl)
        refine RH_wrow (p3.2.2.1 h2 hh2).1 ?_ ?_ ?_ <;> (funext k; exact vD (by omega))
      have F2 : HFR n ns 0 0 κ1 (setV κ1 2 h 0 5 (nI (t + 1))) := ⟨fun f _ b => eV f b, rfl, rfl, fun _ _ => rfl, PAID_same rfl rfl⟩
      obtain ⟨κ3, q1, q2, q3, q4⟩ := t_steal hE hH hh hg (LsI_h hL (p4.tr F2)) hM2
      have rw1 : ∀ c, c ≠ 23 → c ≠ 39 → c ≠ 40 → (stlU (chM μ n h).1 (nI h) g n) c = μ c := fun c a b d => by rw [stlU_row a, chM_row ⟨b, d⟩]
      have e41 : (stlU (chM μ n h).1 (nI h) g n) 0 41 = nI t := by rw [rw1 0 (by omega) (by omega) (by omega)]; exact ht
      have c15 : μ 15 g = nI h := by
        unfold canM at hcan
        rw [Bool.and_eq_true, Bool.and_eq_true] at hcan
        exact of_decide_eq_true hcan.1.1
      obtain ⟨κ4, u1, u2, u3⟩ := t_turn (E := E) hE hH hh hg q2 (by rw [q4, e41, nI_1]; exact vS ⟨rfl, rfl, rfl, rfl⟩) e41 ht3 (by rw [can_row (rw1 1 (by omega) (by omega) (by omega)) (rw1 15 (by omega) (by omega) (by omega)) (rw1 18 (by omega) (by omega) (by omega))]; exact hcan) (SAY_row (hS g hg) (rw1 24 (by omega) (by omega) (by omega)) (rw1 35 (by omega) (by omega) (by omega)) (rw1 37 (by omega) (by omega) (by omega))) (hB g hg c15)
      exact ⟨κ4, by rw [q1, f_X10_giveTurn_b90, u1, bd_s], u2, (p4.tr F2).tr (q3.tr u3)⟩
  · rw [if_neg h0, if_neg h0, f_X10_giveTurn_b16]
    exact ⟨κ, rfl, hM, HFR.rfl⟩
