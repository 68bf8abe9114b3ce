theorem case_ok {E : EE} {κ : K} {n ns t C : Nat} {o a1 a2 a3 a4 : Int32} (hC : C < 512) (hR : REL E κ (kV κ 5 0) n ns t C) : DONE (lawCase (E, κ) o a1 a2 a3 a4) C := by
  unfold lawCase
  by_cases e0 : o &&& 31 = 0
  · rw [if_pos e0]
    exact st_guest (bI_01 _) hR
  rw [if_neg e0]
  by_cases e1 : o &&& 31 = 1
  · rw [if_pos e1]
    exact st_instruct  hR
  rw [if_neg e1]
  by_cases e2 : o &&& 31 = 2
  · rw [if_pos e2]
    exact st_pause (bI_01 _) hR
  rw [if_neg e2]
  by_cases e3 : o &&& 31 = 3
  · rw [if_pos e3]
    exact st_scale  hR
  rw [if_neg e3]
  by_cases e4 : o &&& 31 = 4
  · rw [if_pos e4]
    exact st_input hC hR
  rw [if_neg e4]
  by_cases e5 : o &&& 31 = 5
  · rw [if_pos e5]
    exact st_send  hR
  rw [if_neg e5]
  by_cases e6 : o &&& 31 = 6
  · rw [if_pos e6]
    exact st_tick  hR
  rw [if_neg e6]
  by_cases e7 : o &&& 31 = 7
  · rw [if_pos e7]
    exact st_share  hR
  rw [if_neg e7]
  by_cases e8 : o &&& 31 = 8
  · rw [if_pos e8]
    exact st_move  hR
  rw [if_neg e8]
  by_cases e9 : o &&& 31 = 9
  · rw [if_pos e9]
    exact st_round  hR
  rw [if_neg e9]
  by_cases e10 : o &&& 31 = 10
  · rw [if_pos e10]
    exact st_land  hR
  rw [if_neg e10]
  by_cases e11 : o &&& 31 = 11
  · rw [if_pos e11]
    exact st_snapshot  hR
  rw [if_neg e11]
  by_cases e12 : o &&& 31 = 12
  · rw [if_pos e12]
    exact st_restore  hR
  rw [if_neg e12]
  by_cases e13 : o &&& 31 = 13
  · rw [if_pos e13]
    exact st_follow (bI_01 _) hR
  rw [if_neg e13]
  by_cases e14 : o &&& 31 = 14
  · rw [if_pos e14]
    exact st_step  hR
  rw [if_neg e14]
  by_cases e15 : o &&& 31 = 15
  · rw [if_pos e15]
    exact st_fail hC hR
  rw [if_neg e15]
  by_cases e16 : o &&& 31 = 16
  · rw [if_pos e16]
    exact st_mend  hR
  rw [if_neg e16]
  by_cases e17 : o &&& 31 = 17
  · rw [if_pos e17]
    exact st_time  hR
  rw [if_neg e17]
  by_cases e18 : o &&& 31 = 18
  · rw [if_pos e18]
    exact st_of  hR
  rw [if_neg e18]
  by_cases e19 : o &&& 31 = 19
  · rw [if_pos e19]
    exact st_register  hR
  rw [if_neg e19]
  by_cases e20 : o &&& 31 = 20
  · rw [if_pos e20]
    exact st_word  hR
  rw [if_neg e20]
  by_cases e21 : o &&& 31 = 21
  · rw [if_pos e21]
    exact st_pageOf  hR
  rw [if_neg e21]
  by_cases e22 : o &&& 31 = 22
  · rw [if_pos e22]
    exact st_frameOf  hR
  rw [if_neg e22]
  by_cases e23 : o &&& 31 = 23
  · rw [if_pos e23]
    exact st_used  hR
  rw [if_neg e23]
  by_cases e24 : o &&& 31 = 24
  · rw [if_pos e24]
    exact st_exits  hR
  rw [if_neg e24]
  by_cases e25 : o &&& 31 = 25
  · rw [if_pos e25]
    exact st_out  hR
  rw [if_neg e25]
  by_cases e26 : o &&& 31 = 26
  · rw [if_pos e26]
    exact st_outAt  hR
  rw [if_neg e26]
  by_cases e27 : o &&& 31 = 27
  · rw [if_pos e27]
    exact st_held  hR
  rw [if_neg e27]
  by_cases e28 : o &&& 31 = 28
  · rw [if_pos e28]
    exact st_stored  hR
  rw [if_neg e28]
  by_cases e29 : o &&& 31 = 29
  · rw [if_pos e29]
    exact st_isAsPlain  hR
  rw [if_neg e29]
  exact ⟨E, κ, n, ns, t, rfl, REL_C (d1 := 0) (d2 := 0) hR (fun _ _ _ => rfl) rfl rfl (PAID_same rfl rfl) (by omega) (by omega)⟩
theorem cap_all {E : EE} {κ : K} {μ : MU} {n ns t C : Nat} (hR : REL E κ μ n ns t C) : WT κ n ns ≤ 570000 := by
  obtain ⟨_, _, ⟨m1, m2, m3, m4, m5⟩, _⟩ := hR
  have h := sumL_max (f := fun p => if aliveN n ns p = true then kN κ p.1 p.2.1 p.2.2 else 0) (m := 6000) (l := numPl) (fun p hp => by
    obtain ⟨f, i, c⟩ := p
    show (if aliveN n ns (f, i, c) = true then kN κ f i c else 0) ≤ 6000
    by_cases e : aliveN n ns (f, i, c) = true
    · rw [if_pos e]
      have hp2 := hp
      unfold aliveN at e
      simp only [Bool.or_eq_true, Bool.and_eq_true, decide_eq_true_eq] at e
      unfold numPl at hp2
      simp only [List.mem_append, List.mem_flatMap, List.mem_map, List.mem_range] at hp2
      rcases hp2 with ⟨g, hg, c', hc, he⟩ | ⟨s, hs, c', hc, he⟩
      · injection he with he1 he2
        injection he2 with he2 he3
        subst he1 he2 he3
        obtain ⟨⟨_, _, _, _, _, _, ⟨_, _, _, q1⟩, ⟨_, _, _, q2⟩, ⟨_, _, _, q3⟩, ⟨_, _, _, q4⟩, _, q5⟩, _, _, ⟨_, _, _, _, _, _, _, _, q6, _⟩⟩ := (m4 g (by omega)).1
        obtain ⟨_, _, _, z5⟩ := q5 5 (by omega)
        obtain ⟨_, _, _, z7⟩ := q5 7 (by omega)
        obtain ⟨_, _, _, z9⟩ := q5 9 (by omega)
        obtain ⟨_, _, _, z11⟩ := q5 11 (by omega)
        simp only [List.mem_cons, List.not_mem_nil, or_false] at hc
        rcases hc with rfl | rfl | rfl | rfl | rfl | rfl | rfl | rfl | rfl | rfl | rfl
        · exact (CAP_ge q1.2.2.1).2
        · exact (CAP_ge q6.1.2.2.1).2
        · exact (CAP_ge q6.2.1.2.2.1).2
        · exact (CAP_ge q6.2.2.2.2.1).2
        · exact (CAP_ge z5.2.2.1).2
        · exact (CAP_ge z7.2.2.1).2
        · exact (CAP_ge z9.2.2.1).2
        · exact (CAP_ge z11.2.2.1).2
        · exact (CAP_ge q4.2.2.1).2
        · exact (CAP_ge q3.2.2.1).2
        · exact (CAP_ge q2.2.2.1).2
      · injection he with he1 he2
        injection he2 with he2 he3
        subst he1 he2 he3
        obtain ⟨_, _, _, _, _, _, ⟨_, _, _, _, _, _, ⟨_, _, _, k1⟩, _⟩, ⟨_, _, _, _, _, _, _, _, p1, p2, p3, _⟩⟩ := m5 s (by omega)
        simp only [List.mem_cons, List.not_mem_nil, or_false] at hc
        rcases hc with rfl | rfl | rfl | rfl
        · exact (CAP_ge k1.2.2.1).2
        · exact (CAP_ge p1.2.2.1).2
        · exact (CAP_ge p2.2.2.1).2
        · exact (CAP_ge p3.2.2.1).2
    · rw [if_neg e]; exact Nat.zero_le _)
  rw [num_len] at h
  unfold WT
  omega
theorem run_go {L : Nat} {xs : Nat → Int32} (hL : L ≤ 2560) : ∀ (d C : Nat) (E : EE) (κ : K) (n ns t : Nat), C + d = 512 → REL E κ (kV κ 5 0) n ns t C → ∃ x', lawRun L xs (d + 1) (5 * C) (E, κ) = some x' ∧ (kC x'.2).1 ≤ 601024 ∧ (kC x'.2).2 ≤ 7293034 := by
  have fin : ∀ (C : Nat) (E : EE) (κ : K) (n ns t : Nat), C ≤ 512 → REL E κ (kV κ 5 0) n ns t C → (kC κ).1 ≤ 601024 ∧ (kC κ).2 ≤ 7293034 := fun C E κ n ns t hC hR => by
    have hW := cap_all hR
    obtain ⟨_, _, _, _, _, _, c1, c2⟩ := hR
    omega
  intro d
  induction d with
  | zero =>
    intro C E κ n ns t hC hR
    refine ⟨(E, κ), ?_, fin C E κ n ns t (by omega) hR⟩
    rw [lawRun, gdp_t hR.1.2.2.1, if_neg (by omega)]
  | succ d ih =>
    intro C E κ n ns t hC hR
    by_cases e : 5 * C + 5 ≤ L
    · obtain ⟨E', κ', n', ns', t', h1, h2⟩ := case_ok (o := xs (5 * C)) (a1 := xs (5 * C + 1)) (a2 := xs (5 * C + 2)) (a3 := xs (5 * C + 3)) (a4 := xs (5 * C + 4)) (by omega) hR
      obtain ⟨x', r1, r2⟩ := ih (C + 1) E' κ' n' ns' t' (by omega) h2
      refine ⟨x', ?_, r2⟩
      rw [lawRun, gdp_t hR.1.2.2.1, if_pos e, h1]
      exact r1
    · refine ⟨(E, κ), ?_, fin C E κ n ns t (by omega) hR⟩
      rw [lawRun, gdp_t hR.1.2.2.1, if_neg e]
/-! the beginning -/
theorem ki_5 {c : Nat} (hc : c < 41) (k : Nat) : kV kI 5 0 c k = rvI ((cX11 0).getD (pmM c) rz) k := by
  have e : nwF 5 0 41 pmM 5 0 c = some (pmM c) := if_pos ⟨rfl, rfl, hc⟩
  show (match nwF 6 0 1 (fun c => c) 5 0 c with | some m => rvI (([.inr (2, 1, .inr (.inl fun _ => 0))] : List RC).getD m rz) k | none => kM.1 5 0 c k) = _
  rw [nwF_n (by omega)]
  show (match nwF 5 0 41 pmM 5 0 c with | some m => rvI ((cX11 0).getD m rz) k | none => _) = _
  rw [e]
theorem ki_o {f i c : Nat} (h5 : f ≠ 5) (h6 : f ≠ 6) : kV kI f i c = kV kH f i c ∧ kN kI f i c = kN kH f i c ∧ kP kI f i c = kP kH f i c := by
  refine ⟨?_, ?_, ?_⟩
  · unfold kI; rw [aK_Vn (nwF_n (by omega)), vC]; unfold kM; rw [aK_Vn (nwF_n (by omega)), vC, vC]
  · unfold kI; rw [aK_Nn (nwF_n (by omega)), nC]; unfold kM; rw [aK_Nn (nwF_n (by omega)), nC, nC]
  · unfold kI; rw [aK_Pn (nwF_n (by omega)), pC]; unfold kM; rw [aK_Pn (nwF_n (by omega)), pC, pC]
theorem kh_V {f i c m : Nat} (h : nwH f i c = some m) (k : Nat) : kV kH f i c k = rvI ((cX10 0).getD m rz) k ∧ kP kH f i c k = rvP ((cX10 0).getD m rz) k := by
  refine ⟨?_, ?_⟩
  · show (match nwH f i c with | some m => rvI ((cX10 0).getD m rz) k | none => _) = _
    rw [h]
  · show (match nwH f i c with | some m => rvP ((cX10 0).getD m rz) k | none => _) = _
    rw [h]
theorem nwh_4 {c : Nat} (hc : c < 4) : nwH 4 0 c = some c := if_pos ⟨rfl, rfl, hc⟩
theorem nwh_2 {i c : Nat} (hi : i < 2) (hc : c < 4) : nwH 2 i c = some (4 + 4 * i + c) := by
  unfold nwH
  rw [if_neg (by omega), if_pos ⟨rfl, hi, hc⟩]
theorem ki_0 {c : Nat} (h0 : c ≠ 0) (hc : c < 41) (h : c ≠ 39) (h28 : c ≠ 28) (h12 : c ≠ 12) (k : Nat) : kV kI 5 0 c k = 0 := by
  rw [ki_5 hc]
  obtain rfl | rfl | rfl | rfl | rfl | rfl | rfl | rfl | rfl | rfl | rfl | rfl | rfl | rfl | rfl | rfl | rfl | rfl | rfl | rfl | rfl | rfl | rfl | rfl | rfl | rfl | rfl | rfl | rfl | rfl | rfl | rfl | rfl | rfl | rfl | rfl | rfl : c = 1 ∨ c = 2 ∨ c = 3 ∨ c = 4 ∨ c = 5 ∨ c = 6 ∨ c = 7 ∨ c = 8 ∨ c = 9 ∨ c = 10 ∨ c = 11 ∨ c = 13 ∨ c = 14 ∨ c = 15 ∨ c = 16 ∨ c = 17 ∨ c = 18 ∨ c = 19 ∨ c = 20 ∨ c = 21 ∨ c = 22 ∨ c = 23 ∨ c = 24 ∨ c = 25 ∨ c = 27 ∨ c = 29 ∨ c = 30 ∨ c = 31 ∨ c = 32 ∨ c = 33 ∨ c = 34 ∨ c = 35 ∨ c = 36 ∨ c = 37 ∨ c = 38 ∨ c = 40 ∨ c = 26 := by omega
  all_goals rfl
theorem REL_ini : REL EI kI (kV kI 5 0) 0 0 0 0 := by
  have h2 : ∀ h, h < 2 → ∀ c, c < 4 → ∀ k, kV kI 2 h c k = rvI ((cX10 0).getD (4 + 4 * h + c) rz) k ∧ kP kI 2 h c k = rvP ((cX10 0).getD (4 + 4 * h + c) rz) k := fun h hh c hc k => by
    rw [(ki_o (by omega) (by omega)).1, (ki_o (by omega) (by omega)).2.2]
    exact kh_V (nwh_2 hh hc) k
  have h4 : ∀ c, c < 4 → ∀ k, kV kI 4 0 c k = rvI ((cX10 0).getD c rz) k ∧ kP kI 4 0 c k = rvP ((cX10 0).getD c rz) k := fun c hc k => by
    rw [(ki_o (by omega) (by omega)).1, (ki_o (by omega) (by omega)).2.2]
    exact kh_V (nwh_4 hc) k
  have h1 : ∀ h, h < 2 → ∀ k, k < 40 → kV kI 2 h 1 k = -1 := fun h hh k hk => by
    rw [(h2 h hh 1 (by omega) k).1]
    obtain rfl | rfl : h = 0 ∨ h = 1 := by omega
    · show (if k < 40 then (-1 : Int32) else 0) = -1
      rw [if_pos hk]
    · show (if k < 40 then (-1 : Int32) else 0) = -1
      rw [if_pos hk]
  refine ⟨⟨rfl, rfl, ⟨⟨by decide, by decide +kernel⟩, ⟨by decide, by decide +kernel⟩, by decide +kernel, rfl, fun r hr => by cases hr⟩, rfl, fun i hi => absurd hi (Nat.not_lt_zero i)⟩, ⟨⟨?_, fun _ => ⟨rfl, ?_⟩, fun z => absurd z (Nat.lt_irrefl 0)⟩, ⟨?_, fun _ => ⟨rfl, ?_⟩, fun z => absurd z (Nat.lt_irrefl 0)⟩, ?_, ?_, by omega⟩, ⟨⟨⟨by omega, ?_, fun g hg => absurd hg (Nat.not_lt_zero g), fun h hh => Or.inl ?_⟩, fun g hg => absurd hg (Nat.not_lt_zero g), ⟨0, by omega, ?_⟩⟩, fun key hk => absurd hk (Nat.not_lt_zero _), fun h hh => ⟨⟨fun key hk => ?_, fun f hf => ?_, fun f hf => ?_⟩, ?_, ?_, Or.inl ?_, ?_, Or.inl ⟨?_, ?_⟩⟩, fun g hg => absurd hg (Nat.not_lt_zero g), fun s hs => absurd hs (Nat.not_lt_zero s)⟩, fun g hg => absurd hg (Nat.not_lt_zero g), ⟨?_, by omega, fun s hs => absurd hs (Nat.not_lt_zero s)⟩, fun c k a b d e _ _ => ?_, ?_, ?_⟩
  · rw [(h4 1 (by omega) 2).1]; rfl
  · rw [(h4 1 (by omega) 1).2]; rfl
  · rw [(h4 2 (by omega) 2).1]; rfl
  · rw [(h4 2 (by omega) 1).2]; rfl
  · rw [(h4 0 (by omega) 3).1]; rfl
  · rw [ki_5 (by omega)]; rfl
  · rw [ki_5 (by omega)]; rfl
  · rw [ki_5 (by omega)]
    obtain rfl | rfl : h = 0 ∨ h = 1 := by omega
    all_goals rfl
  · rw [ki_5 (by omega)]; rfl
  · rw [h1 h hh key hk, if_neg (fun z => absurd z.1 (Nat.not_lt_zero _))]
  · rw [(h2 h hh 2 (by omega) f).1, cntU_0.mpr (fun j hj => by unfold inF; rw [h1 h hh j hj]; exact decide_eq_false (fun z => by rw [m1_nI (by omega)] at z; exact z))]
    obtain rfl | rfl : h = 0 ∨ h = 1 := by omega
    all_goals rfl
  · rw [(h2 h hh 3 (by omega) f).1, ki_0 (by omega) (by omega) (by omega) (by omega) (by omega)]
    obtain rfl | rfl : h = 0 ∨ h = 1 := by omega
    all_goals rfl
  · rw [(h2 h hh 0 (by omega) 0).1]
    obtain rfl | rfl : h = 0 ∨ h = 1 := by omega
    all_goals rfl
  · rw [(h2 h hh 0 (by omega) 4).1, ki_0 (by omega) (by omega) (by omega) (by omega) (by omega)]
    obtain rfl | rfl : h = 0 ∨ h = 1 := by omega
    all_goals rfl
  · exact ki_0 (by omega) (by omega) (by omega) (by omega) (by omega) h
  · rw [(h2 h hh 0 (by omega) 7).1, ki_0 (by omega) (by omega) (by omega) (by omega) (by omega)]
    obtain rfl | rfl : h = 0 ∨ h = 1 := by omega
    all_goals rfl
  · rw [ki_5 (by omega)]
    obtain rfl | rfl : h = 0 ∨ h = 1 := by omega
    all_goals rfl
  · rw [(h2 h hh 0 (by omega) 6).2]
    obtain rfl | rfl : h = 0 ∨ h = 1 := by omega
    all_goals rfl
  · rw [ki_5 (by omega)]; rfl
  · by_cases z : c = 12
    · subst z
      rw [ki_5 (by omega)]; rfl
    · exact ki_0 a (by omega) (by omega) (by omega) z k
  · show 8 * (kC kI).1 ≤ 3200 * 0 + 4000 + WT kI 0 0
    have e : (kC kI).1 = 52 := rfl
    omega
  · show (kC kI).2 ≤ 5000 * 0 + 60000 + 2 * WT kI 0 0
    have e : (kC kI).2 = 44738 := rfl
    omega
theorem law_all {L : Nat} {xs : Nat → Int32} (hL : L ≤ 2560) : ∃ f x', lawRun L xs f 0 (EI, kI) = some x' ∧ (kC x'.2).1 ≤ 601024 ∧ (kC x'.2).2 ≤ 7293034 := by
  obtain ⟨x', h⟩ := run_go hL 512 0 EI kI 0 0 0 (by omega) REL_ini
  exact ⟨513, x', h⟩
