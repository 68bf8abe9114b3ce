set_option maxRecDepth 100000 in
theorem mw825 : Cond.methodLink RL 158 yL_of ∈ gwl := gwl_tb 1049 rfl rfl
set_option maxRecDepth 100000 in
theorem mw826 : Cond.static yL_of ∈ gwl := gwl_tb 1050 rfl rfl
set_option maxRecDepth 100000 in
theorem mw827 : Cond.codeWith yL_of cL_of 4 (some .int) [(0, 6, 7, 13), (0, 6, 11, 16)] ∈ gwl := gwl_tb 1051 rfl rfl
set_option maxRecDepth 100000 in
theorem mw828 : Cond.methodLink RL 160 yL_register ∈ gwl := gwl_tb 1057 rfl rfl
set_option maxRecDepth 100000 in
theorem mw829 : Cond.static yL_register ∈ gwl := gwl_tb 1058 rfl rfl
set_option maxRecDepth 100000 in
theorem mw830 : Cond.codeWith yL_register cL_register 4 (some .int) [(0, 6, 7, 13)] ∈ gwl := gwl_tb 1059 rfl rfl
set_option maxRecDepth 100000 in
theorem mw831 : Cond.methodLink RL 162 yL_word ∈ gwl := gwl_tb 1064 rfl rfl
set_option maxRecDepth 100000 in
theorem mw832 : Cond.static yL_word ∈ gwl := gwl_tb 1065 rfl rfl
set_option maxRecDepth 100000 in
theorem mw833 : Cond.codeWith yL_word cL_word 5 (some .int) [(0, 7, 8, 13)] ∈ gwl := gwl_tb 1066 rfl rfl
set_option maxRecDepth 100000 in
theorem mw834 : Cond.methodLink RL 165 yL_pageOf ∈ gwl := gwl_tb 1071 rfl rfl
set_option maxRecDepth 100000 in
theorem mw835 : Cond.static yL_pageOf ∈ gwl := gwl_tb 1072 rfl rfl
set_option maxRecDepth 100000 in
theorem mw836 : Cond.codeWith yL_pageOf cL_pageOf 4 (some .int) [(0, 6, 7, 13)] ∈ gwl := gwl_tb 1073 rfl rfl
set_option maxRecDepth 100000 in
theorem mw837 : Cond.methodLink RL 167 yL_frameOf ∈ gwl := gwl_tb 1083 rfl rfl
set_option maxRecDepth 100000 in
theorem mw838 : Cond.static yL_frameOf ∈ gwl := gwl_tb 1084 rfl rfl
set_option maxRecDepth 100000 in
theorem mw839 : Cond.codeWith yL_frameOf cL_frameOf 4 (some .int) [(0, 6, 7, 13)] ∈ gwl := gwl_tb 1085 rfl rfl
set_option maxRecDepth 100000 in
theorem mw840 : Cond.methodLink RL 169 yL_used ∈ gwl := gwl_tb 1090 rfl rfl
set_option maxRecDepth 100000 in
theorem mw841 : Cond.static yL_used ∈ gwl := gwl_tb 1091 rfl rfl
set_option maxRecDepth 100000 in
theorem mw842 : Cond.codeWith yL_used cL_used 3 (some .int) [(0, 5, 6, 13)] ∈ gwl := gwl_tb 1092 rfl rfl
set_option maxRecDepth 100000 in
theorem mw843 : Cond.methodLink RL 171 yL_exits ∈ gwl := gwl_tb 1101 rfl rfl
set_option maxRecDepth 100000 in
theorem mw844 : Cond.static yL_exits ∈ gwl := gwl_tb 1102 rfl rfl
set_option maxRecDepth 100000 in
theorem mw845 : Cond.codeWith yL_exits cL_exits 4 (some .int) [(0, 6, 7, 13), (0, 6, 11, 16)] ∈ gwl := gwl_tb 1103 rfl rfl
set_option maxRecDepth 100000 in
theorem mw846 : Cond.methodLink RL 173 yL_out ∈ gwl := gwl_tb 1109 rfl rfl
set_option maxRecDepth 100000 in
theorem mw847 : Cond.static yL_out ∈ gwl := gwl_tb 1110 rfl rfl
set_option maxRecDepth 100000 in
theorem mw848 : Cond.codeWith yL_out cL_out 3 (some .int) [(0, 5, 6, 13)] ∈ gwl := gwl_tb 1111 rfl rfl
set_option maxRecDepth 100000 in
theorem mw849 : Cond.methodLink RL 175 yL_outAt ∈ gwl := gwl_tb 1116 rfl rfl
set_option maxRecDepth 100000 in
theorem mw850 : Cond.static yL_outAt ∈ gwl := gwl_tb 1117 rfl rfl
set_option maxRecDepth 100000 in
theorem mw851 : Cond.codeWith yL_outAt cL_outAt 4 (some .int) [(0, 6, 7, 13)] ∈ gwl := gwl_tb 1118 rfl rfl
set_option maxRecDepth 100000 in
theorem mw852 : Cond.methodLink RL 177 yL_held ∈ gwl := gwl_tb 1123 rfl rfl
set_option maxRecDepth 100000 in
theorem mw853 : Cond.static yL_held ∈ gwl := gwl_tb 1124 rfl rfl
set_option maxRecDepth 100000 in
theorem mw854 : Cond.codeWith yL_held cL_held 3 (some .int) [(0, 5, 6, 13)] ∈ gwl := gwl_tb 1125 rfl rfl
set_option maxRecDepth 100000 in
theorem mw855 : Cond.methodLink RL 179 yL_stored ∈ gwl := gwl_tb 1130 rfl rfl
set_option maxRecDepth 100000 in
theorem mw856 : Cond.static yL_stored ∈ gwl := gwl_tb 1131 rfl rfl
set_option maxRecDepth 100000 in
theorem mw857 : Cond.codeWith yL_stored cL_stored 3 (some .int) [(0, 5, 6, 13)] ∈ gwl := gwl_tb 1132 rfl rfl
set_option maxRecDepth 100000 in
theorem mw858 : Cond.methodLink RL 181 yL_plain ∈ gwl := gwl_tb 1137 rfl rfl
set_option maxRecDepth 100000 in
theorem mw859 : Cond.static yL_plain ∈ gwl := gwl_tb 1138 rfl rfl
set_option maxRecDepth 100000 in
theorem mw860 : Cond.codeWith yL_plain cL_plain 3 (some .int) [(0, 13, 14, 13)] ∈ gwl := gwl_tb 1139 rfl rfl
theorem pd_L_of : (yL_of).cls ≠ "java/lang/invoke/MethodHandle" ∧ (yL_of).cls ≠ "java/lang/invoke/VarHandle" ∧ (parseMethodDescriptor (yL_of).desc).map (fun d => d.parameters.length) = some 3 := ⟨by decide +kernel, by decide +kernel, by decide +kernel⟩
theorem pd_L_register : (yL_register).cls ≠ "java/lang/invoke/MethodHandle" ∧ (yL_register).cls ≠ "java/lang/invoke/VarHandle" ∧ (parseMethodDescriptor (yL_register).desc).map (fun d => d.parameters.length) = some 3 := ⟨by decide +kernel, by decide +kernel, by decide +kernel⟩
theorem pd_L_word : (yL_word).cls ≠ "java/lang/invoke/MethodHandle" ∧ (yL_word).cls ≠ "java/lang/invoke/VarHandle" ∧ (parseMethodDescriptor (yL_word).desc).map (fun d => d.parameters.length) = some 4 := ⟨by decide +kernel, by decide +kernel, by decide +kernel⟩
theorem pd_L_pageOf : (yL_pageOf).cls ≠ "java/lang/invoke/MethodHandle" ∧ (yL_pageOf).cls ≠ "java/lang/invoke/VarHandle" ∧ (parseMethodDescriptor (yL_pageOf).desc).map (fun d => d.parameters.length) = some 3 := ⟨by decide +kernel, by decide +kernel, by decide +kernel⟩
theorem pd_L_frameOf : (yL_frameOf).cls ≠ "java/lang/invoke/MethodHandle" ∧ (yL_frameOf).cls ≠ "java/lang/invoke/VarHandle" ∧ (parseMethodDescriptor (yL_frameOf).desc).map (fun d => d.parameters.length) = some 3 := ⟨by decide +kernel, by decide +kernel, by decide +kernel⟩
theorem pd_L_used : (yL_used).cls ≠ "java/lang/invoke/MethodHandle" ∧ (yL_used).cls ≠ "java/lang/invoke/VarHandle" ∧ (parseMethodDescriptor (yL_used).desc).map (fun d => d.parameters.length) = some 2 := ⟨by decide +kernel, by decide +kernel, by decide +kernel⟩
theorem pd_L_exits : (yL_exits).cls ≠ "java/lang/invoke/MethodHandle" ∧ (yL_exits).cls ≠ "java/lang/invoke/VarHandle" ∧ (parseMethodDescriptor (yL_exits).desc).map (fun d => d.parameters.length) = some 3 := ⟨by decide +kernel, by decide +kernel, by decide +kernel⟩
theorem pd_L_out : (yL_out).cls ≠ "java/lang/invoke/MethodHandle" ∧ (yL_out).cls ≠ "java/lang/invoke/VarHandle" ∧ (parseMethodDescriptor (yL_out).desc).map (fun d => d.parameters.length) = some 2 := ⟨by decide +kernel, by decide +kernel, by decide +kernel⟩
theorem pd_L_outAt : (yL_outAt).cls ≠ "java/lang/invoke/MethodHandle" ∧ (yL_outAt).cls ≠ "java/lang/invoke/VarHandle" ∧ (parseMethodDescriptor (yL_outAt).desc).map (fun d => d.parameters.length) = some 3 := ⟨by decide +kernel, by decide +kernel, by decide +kernel⟩
theorem pd_L_held : (yL_held).cls ≠ "java/lang/invoke/MethodHandle" ∧ (yL_held).cls ≠ "java/lang/invoke/VarHandle" ∧ (parseMethodDescriptor (yL_held).desc).map (fun d => d.parameters.length) = some 2 := ⟨by decide +kernel, by decide +kernel, by decide +kernel⟩
theorem pd_L_stored : (yL_stored).cls ≠ "java/lang/invoke/MethodHandle" ∧ (yL_stored).cls ≠ "java/lang/invoke/VarHandle" ∧ (parseMethodDescriptor (yL_stored).desc).map (fun d => d.parameters.length) = some 2 := ⟨by decide +kernel, by decide +kernel, by decide +kernel⟩
theorem pd_L_plain : (yL_plain).cls ≠ "java/lang/invoke/MethodHandle" ∧ (yL_plain).cls ≠ "java/lang/invoke/VarHandle" ∧ (parseMethodDescriptor (yL_plain).desc).map (fun d => d.parameters.length) = some 2 := ⟨by decide +kernel, by decide +kernel, by decide +kernel⟩
theorem pop_le (T : Nat) : pop T ≤ 8 := popU_le T 8
theorem bm_sub {x : Nat} (h : x < 10000) : ((-1 : Int32) - nI x).toInt = -1 - (x : Int) := by
  rw [Int32.toInt_sub, nI_toInt (by omega), show (-1 : Int32).toInt = -1 from by decide, Int.bmod_def]
  split <;> omega
theorem bm_neg {x : Nat} (h : x < 10000) : (-(nI x)).toInt = -(x : Int) := by
  rw [Int32.toInt_neg, nI_toInt (by omega), Int.bmod_def]
  split <;> omega
theorem outA {c x : Nat} {low : Int32} (hc : c ≤ 20000) (hx : x < 10000) : ¬ vp_in (if low = 0 then (nI c) + (nI x) else (-1) - (nI x)) c := by
  rw [vp_in_iff]
  split
  · rw [nI_add, nI_toInt (by omega)]; omega
  · rw [bm_sub hx]; omega
theorem outB {c x : Nat} {low : Int32} (hc : c ≤ 20000) (hx : x < 10000) : (if low = 0 then (nI (c + 1)) + (nI x) else -(nI x)) < nI 1 ∨ nI c < (if low = 0 then (nI (c + 1)) + (nI x) else -(nI x)) := by
  split
  · right; rw [nI_add, nI_lt' (by omega) (by omega)]; omega
  · left; rw [Int32.lt_iff_toInt_lt, bm_neg hx, nI_toInt (by omega)]; omega
theorem insX1 {v b c : Int32} (h : ¬ vp_in v 14) : ¬ insOK v b c := fun ⟨k, hk, e, _⟩ => h (by rw [e]; exact nI_in hk (by decide))
theorem insX2 {v c : Int32} (h : ¬ vp_in v 4) : ¬ insOK (nI 0) v c := fun ⟨k, hk, e, o, _⟩ => by
  rw [nI_eq' (by omega) (by omega)] at e
  subst e
  exact o.elim (fun z => absurd z (by decide)) h
theorem insX3 {v b : Int32} (h : ¬ vp_in v 10000) : ¬ insOK (nI 0) b v := fun ⟨k, hk, e, _, o⟩ => by
  rw [nI_eq' (by omega) (by omega)] at e
  subst e
  exact o.elim (fun z => absurd z (by decide)) h
set_option maxHeartbeats 4000000 in
set_option maxRecDepth 100000 in
theorem c_L_refuses {l : Launch} (hfl : l.stackTraces = false) {E : EE} {κ : K} {n ns t C : Nat} (hR : REL E κ (kV κ 5 0) n ns t C) {s : S2} {h : Nat} (hh : h < 2) (hs : s.1 h = (E, κ)) {a : Nat → Int32} (ha : s.2.1 = some a) (a0 : a 0 = nI n) (a1 : a 1 = nI ns) {x : Nat} (hx : x < 10000) : ConM l yL_refuses cL_refuses 10 (some .boolean) 11 306 [.inr (some (shP h (4, 0, 0))), .inr (some (2, 0, 0)), .inl (.int (nI x))] s (sp s 50 300) (some (.inl (.int 1))) := by
  have hn5 : n ≤ 5 := hR.2.2.1.1.1.1
  have hns : ns ≤ 10 := hR.2.2.2.2.1.2.1
  have h0 : PC 10 E 4 0 0 := hR.1.2.2.1.1
  have hH : E.2.2.2.1 = 1 := hR.1.2.2.1.2.2.2.1
  have hRN : rawN E := hR.1.2.2.1.2.2.2.2
  obtain ⟨low, hlow⟩ : ∃ v : Int32, (if nI (x % 2) = 0 then nI 1 else nI 0) = v := ⟨_, rfl⟩
  obtain ⟨vg, evg, fvg⟩ : ∃ v : Int32, (if low = 0 then (nI n) + (nI x) else (-1) - (nI x)) = v ∧ ¬ vp_in v n := ⟨_, rfl, outA (by omega) hx⟩
  obtain ⟨vh, evh, fvh⟩ : ∃ v : Int32, (if low = 0 then (nI 2) + (nI x) else (-1) - (nI x)) = v ∧ ¬ vp_in v 2 := ⟨_, rfl, outA (by omega) hx⟩
  obtain ⟨vs, evs, fvs⟩ : ∃ v : Int32, (if low = 0 then (nI ns) + (nI x) else (-1) - (nI x)) = v ∧ ¬ vp_in v ns := ⟨_, rfl, outA (by omega) hx⟩
  obtain ⟨w4, ew4, fw4⟩ : ∃ v : Int32, (if low = 0 then (nI 5) + (nI x) else -(nI x)) = v ∧ (v < nI 1 ∨ nI 4 < v) := ⟨_, rfl, outB (by omega) hx⟩
  obtain ⟨w100, ew100, fw100⟩ : ∃ v : Int32, (if low = 0 then (nI 101) + (nI x) else -(nI x)) = v ∧ (v < nI 1 ∨ nI 100 < v) := ⟨_, rfl, outB (by omega) hx⟩
  refine ConM_of hfl (by decide) (Nat.le_of_ble_eq_true rfl) rfl ⟨_, rfl, nar_b (Or.inr rfl)⟩ ?_
  intro X B g O hKP hmL hE
  change J X B (sp s 0 0) 0 [(0, .inr (some (shP h (4, 0, 0)))), (1, .inr (some (2, 0, 0))), (2, .inl (.int (nI x)))] []
  refine J_iload_n O.mo dL_refuses_0 2 rfl ?_
  refine J_iconst O.mo (v := nI 2) dL_refuses_1 (by decide) ?_
  refine J_iremE O.mo dL_refuses_2 (by decide) (v := nI (x % 2)) (nI_mod (by omega) (by omega)) ?_
  suffices K3 : J X B (sp s 0 0) 11 [(0, .inr (some (shP h (4, 0, 0)))), (1, .inr (some (2, 0, 0))), (2, .inl (.int (nI x)))] [.inl (.int low)] by
    rw [← hlow] at K3
    refine J_if_ne O.mo (tgt := 10) dL_refuses_3 (by decide) (fun hc4 => ?_) (fun hc4 => ?_)
    · refine J_iconst O.mo (v := nI 0) dL_refuses_10 (by decide) ?_
      rw [if_neg hc4] at K3
      exact K3
    · refine J_iconst O.mo (v := nI 1) dL_refuses_6 (by decide) ?_
      refine J_goto O.mo (tgt := 11) dL_refuses_7 (by decide) ?_
      rw [if_pos hc4] at K3
      exact K3
  refine J_istore_n O.mo dL_refuses_11 (by rw [hmL]; decide) rfl rfl ?_
  refine J_iload_n O.mo dL_refuses_12 0 rfl ?_
  suffices K13 : J X B (sp s 0 0) 27 [(3, .inl (.int low)), (0, .inr (some (shP h (4, 0, 0)))), (1, .inr (some (2, 0, 0))), (2, .inl (.int (nI x)))] [.inl (.int vg)] by
    rw [← evg] at K13
    refine J_if_eq O.mo (tgt := 22) dL_refuses_13 (by decide) (fun hc8 => ?_) (fun hc8 => ?_)
    · refine J_aload_n O.mo dL_refuses_22 2 rfl ?_
      refine J_iconst O.mo (v := nI 0) dL_refuses_23 (by decide) ?_
      refine J_nldE (s2 := (sp s 0 0)) O ha (nI_in (c := 0) (N := 12) (by decide) (by decide)) (v := nI n) (by rw [nI_cl (n := 0) (by decide)]; exact a0) dL_refuses_24 ?_
      refine J_iload_n O.mo dL_refuses_25 3 rfl ?_
      refine J_iadd O.mo dL_refuses_26 ?_
      rw [if_pos hc8] at K13
      exact K13
    · refine J_iconst O.mo (v := -1) dL_refuses_16 (by decide) ?_
      refine J_iload_n O.mo dL_refuses_17 3 rfl ?_
      refine J_isub O.mo dL_refuses_18 ?_
      refine J_goto O.mo (tgt := 27) dL_refuses_19 (by decide) ?_
      rw [if_neg hc8] at K13
      exact K13
  refine J_istore O.mo dL_refuses_27 (by rw [hmL]; decide) rfl rfl ?_
  refine J_iload_n O.mo dL_refuses_29 1 rfl ?_
  suffices K30 : J X B (sp s 0 0) 42 [(4, .inl (.int vg)), (3, .inl (.int low)), (0, .inr (some (shP h (4, 0, 0)))), (1, .inr (some (2, 0, 0))), (2, .inl (.int (nI x)))] [.inl (.int vh)] by
    rw [← evh] at K30
    refine J_if_eq O.mo (tgt := 39) dL_refuses_30 (by decide) (fun hc12 => ?_) (fun hc12 => ?_)
    · refine J_iconst O.mo (v := nI 2) dL_refuses_39 (by decide) ?_
      refine J_iload_n O.mo dL_refuses_40 4 rfl ?_
      refine J_iadd O.mo dL_refuses_41 ?_
      rw [if_pos hc12] at K30
      exact K30
    · refine J_iconst O.mo (v := -1) dL_refuses_33 (by decide) ?_
      refine J_iload_n O.mo dL_refuses_34 4 rfl ?_
      refine J_isub O.mo dL_refuses_35 ?_
      refine J_goto O.mo (tgt := 42) dL_refuses_36 (by decide) ?_
      rw [if_neg hc12] at K30
      exact K30
  refine J_istore O.mo dL_refuses_42 (by rw [hmL]; decide) rfl rfl ?_
  refine J_aload_n O.mo dL_refuses_44 3 rfl ?_
  refine J_iload O.mo dL_refuses_45 0 rfl ?_
  refine J_iconst O.mo (v := nI 1) dL_refuses_47 (by decide) ?_
  refine J_iconst O.mo (v := nI 1) dL_refuses_48 (by decide) ?_
  refine J_askW (s := s) (h := h) (A := 0) (D := 0) (da := 1) (db := 6) O hKP hh hs (l10_0 h0) (as := [.inr (some (4, 0, 0)), .inl (.int vh), .inl (.int (nI 1)), .inl (.int (nI 1))]) (rest := []) (r := some (.inl (.int (-2000000001)))) (c_L_guest hfl h0 hH hRN (Or.inr rfl) (nh_guest hR fvh) (fun e z => by cases z; decide)) trivial Cov_add rfl rfl mw820 mw821 mw770 mw822 pd_L_guest rfl (by decide) rfl (Nat.le_of_ble_eq_true rfl) (sk_v (sk_v (sk_v (sk_p (sM_h hh) (sk_p sM_n (sk_v sk_0)))))) sm_0 dL_refuses_49 ?_
  show J X B (sp s (1) (6)) 52 [(5, .inl (.int vh)), (4, .inl (.int vg)), (3, .inl (.int low)), (0, .inr (some (shP h (4, 0, 0)))), (1, .inr (some (2, 0, 0))), (2, .inl (.int (nI x)))] [.inl (.int (-2000000001))]
  refine J_ldcM O mw649 dL_refuses_52 ?_
  refine J_icmp_ne O.mo (tgt := 436) dL_refuses_54 (by decide) (fun hc => absurd (rfl) hc) (fun _ => ?_)
  refine J_aload_n O.mo dL_refuses_57 3 rfl ?_
  refine J_iload_n O.mo dL_refuses_58 5 rfl ?_
  refine J_iconst O.mo (v := nI 2) dL_refuses_59 (by decide) ?_
  refine J_iremE O.mo dL_refuses_60 (by decide) (v := nI (x % 2)) (nI_mod (by omega) (by omega)) ?_
  refine J_iload_n O.mo dL_refuses_61 2 rfl ?_
  suffices K62 : J X B (sp s (1) (6)) 73 [(5, .inl (.int vh)), (4, .inl (.int vg)), (3, .inl (.int low)), (0, .inr (some (shP h (4, 0, 0)))), (1, .inr (some (2, 0, 0))), (2, .inl (.int (nI x)))] [.inl (.int w4), .inl (.int (nI (x % 2))), .inr (some (shP h (4, 0, 0)))] by
    rw [← ew4] at K62
    refine J_if_eq O.mo (tgt := 70) dL_refuses_62 (by decide) (fun hc16 => ?_) (fun hc16 => ?_)
    · refine J_iconst O.mo (v := nI 5) dL_refuses_70 (by decide) ?_
      refine J_iload_n O.mo dL_refuses_71 5 rfl ?_
      refine J_iadd O.mo dL_refuses_72 ?_
      rw [if_pos hc16] at K62
      exact K62
    · refine J_iload_n O.mo dL_refuses_65 5 rfl ?_
      refine J_inegM O.mo dL_refuses_66 ?_
      refine J_goto O.mo (tgt := 73) dL_refuses_67 (by decide) ?_
      rw [if_neg hc16] at K62
      exact K62
  refine J_iconst O.mo (v := nI 1) dL_refuses_73 (by decide) ?_
  refine J_askW (s := s) (h := h) (A := 1) (D := 6) (da := 1) (db := 6) O hKP hh hs (l10_0 h0) (as := [.inr (some (4, 0, 0)), .inl (.int (nI (x % 2))), .inl (.int w4), .inl (.int (nI 1))]) (rest := []) (r := some (.inl (.int (-2000000002)))) (c_L_guest hfl h0 hH hRN (Or.inr rfl) (na_guest hR (Nat.mod_lt _ (by decide)) fw4) (fun e z => by cases z; decide)) trivial Cov_add rfl rfl mw820 mw821 mw770 mw822 pd_L_guest rfl (by decide) rfl (Nat.le_of_ble_eq_true rfl) (sk_v (sk_v (sk_v (sk_p (sM_h hh) (sk_p sM_n (sk_v sk_0)))))) sm_0 dL_refuses_74 ?_
  show J X B (sp s (2) (12)) 77 [(5, .inl (.int vh)), (4, .inl (.int vg)), (3, .inl (.int low)), (0, .inr (some (shP h (4, 0, 0)))), (1, .inr (some (2, 0, 0))), (2, .inl (.int (nI x)))] [.inl (.int (-2000000002))]
  refine J_ldcM O mw652 dL_refuses_77 ?_
  refine J_icmp_ne O.mo (tgt := 436) dL_refuses_79 (by decide) (fun hc => absurd (rfl) hc) (fun _ => ?_)
  refine J_aload_n O.mo dL_refuses_82 3 rfl ?_
  refine J_iload O.mo dL_refuses_83 1 rfl ?_
  refine J_iconst O.mo (v := nI 0) dL_refuses_85 (by decide) ?_
  refine J_iconst O.mo (v := nI 0) dL_refuses_86 (by decide) ?_
  refine J_iconst O.mo (v := nI 0) dL_refuses_87 (by decide) ?_
  refine J_askW (s := s) (h := h) (A := 2) (D := 12) (da := 1) (db := 6) O hKP hh hs (l10_0 h0) (as := [.inr (some (4, 0, 0)), .inl (.int vg), .inl (.int (nI 0)), .inl (.int (nI 0)), .inl (.int (nI 0))]) (rest := []) (r := some (.inl (.int (-2000000001)))) (c_L_op hfl h0 (ng_instruct hR fvg) (fun e z => by cases z; decide)) trivial Cov_add rfl rfl mw768 mw769 mw770 mw771 pd_L_op rfl (by decide) rfl (Nat.le_of_ble_eq_true rfl) (sk_v (sk_v (sk_v (sk_p (sM_h hh) (sk_p sM_n (sk_v sk_0)))))) sm_0 dL_refuses_88 ?_
  show J X B (sp s (3) (18)) 91 [(5, .inl (.int vh)), (4, .inl (.int vg)), (3, .inl (.int low)), (0, .inr (some (shP h (4, 0, 0)))), (1, .inr (some (2, 0, 0))), (2, .inl (.int (nI x)))] [.inl (.int (-2000000001))]
  refine J_ldcM O mw649 dL_refuses_91 ?_
  refine J_icmp_ne O.mo (tgt := 436) dL_refuses_93 (by decide) (fun hc => absurd (rfl) hc) (fun _ => ?_)
  refine J_aload_n O.mo dL_refuses_96 3 rfl ?_
  refine J_iload O.mo dL_refuses_97 1 rfl ?_
  refine J_iconst O.mo (v := nI 1) dL_refuses_99 (by decide) ?_
  refine J_askW (s := s) (h := h) (A := 3) (D := 18) (da := 1) (db := 6) O hKP hh hs (l10_0 h0) (as := [.inr (some (4, 0, 0)), .inl (.int vg), .inl (.int (nI 1))]) (rest := []) (r := some (.inl (.int (-2000000001)))) (c_L_pause hfl h0 (ng_pause hR fvg) (fun e z => by cases z; decide)) trivial Cov_add rfl rfl mw772 mw773 mw770 mw774 pd_L_pause rfl (by decide) rfl (Nat.le_of_ble_eq_true rfl) (sk_v (sk_v (sk_v (sk_p (sM_h hh) (sk_p sM_n (sk_v sk_0)))))) sm_0 dL_refuses_100 ?_
  show J X B (sp s (4) (24)) 103 [(5, .inl (.int vh)), (4, .inl (.int vg)), (3, .inl (.int low)), (0, .inr (some (shP h (4, 0, 0)))), (1, .inr (some (2, 0, 0))), (2, .inl (.int (nI x)))] [.inl (.int (-2000000001))]
  refine J_ldcM O mw649 dL_refuses_103 ?_
  refine J_icmp_ne O.mo (tgt := 436) dL_refuses_105 (by decide) (fun hc => absurd (rfl) hc) (fun _ => ?_)
  refine J_aload_n O.mo dL_refuses_108 3 rfl ?_
  refine J_iload O.mo dL_refuses_109 1 rfl ?_
  refine J_iconst O.mo (v := nI 1) dL_refuses_111 (by decide) ?_
  refine J_askW (s := s) (h := h) (A := 4) (D := 24) (da := 1) (db := 6) O hKP hh hs (l10_0 h0) (as := [.inr (some (4, 0, 0)), .inl (.int vg), .inl (.int (nI 1))]) (rest := []) (r := some (.inl (.int (-2000000001)))) (c_L_scale hfl h0 (ng_scale hR fvg) (fun e z => by cases z; decide)) trivial Cov_add rfl rfl mw775 mw776 mw770 mw777 pd_L_scale rfl (by decide) rfl (Nat.le_of_ble_eq_true rfl) (sk_v (sk_v (sk_v (sk_p (sM_h hh) (sk_p sM_n (sk_v sk_0)))))) sm_0 dL_refuses_112 ?_
  show J X B (sp s (5) (30)) 115 [(5, .inl (.int vh)), (4, .inl (.int vg)), (3, .inl (.int low)), (0, .inr (some (shP h (4, 0, 0)))), (1, .inr (some (2, 0, 0))), (2, .inl (.int (nI x)))] [.inl (.int (-2000000001))]
  refine J_ldcM O mw649 dL_refuses_115 ?_
  refine J_icmp_ne O.mo (tgt := 436) dL_refuses_117 (by decide) (fun hc => absurd (rfl) hc) (fun _ => ?_)
  refine J_aload_n O.mo dL_refuses_120 3 rfl ?_
  refine J_iload O.mo dL_refuses_121 1 rfl ?_
  refine J_iconst O.mo (v := nI 0) dL_refuses_123 (by decide) ?_
  refine J_askW (s := s) (h := h) (A := 5) (D := 30) (da := 1) (db := 6) O hKP hh hs (l10_0 h0) (as := [.inr (some (4, 0, 0)), .inl (.int vg), .inl (.int (nI 0))]) (rest := []) (r := some (.inl (.int (-2000000001)))) (c_L_input hfl h0 (ng_input hR fvg) (fun e z => by cases z; decide)) trivial Cov_add rfl rfl mw778 mw779 mw770 mw780 pd_L_input rfl (by decide) rfl (Nat.le_of_ble_eq_true rfl) (sk_v (sk_v (sk_v (sk_p (sM_h hh) (sk_p sM_n (sk_v sk_0)))))) sm_0 dL_refuses_124 ?_
  show J X B (sp s (6) (36)) 127 [(5, .inl (.int vh)), (4, .inl (.int vg)), (3, .inl (.int low)), (0, .inr (some (shP h (4, 0, 0)))), (1, .inr (some (2, 0, 0))), (2, .inl (.int (nI x)))] [.inl (.int (-2000000001))]
  refine J_ldcM O mw649 dL_refuses_127 ?_
  refine J_icmp_ne O.mo (tgt := 436) dL_refuses_129 (by decide) (fun hc => absurd (rfl) hc) (fun _ => ?_)
  refine J_aload_n O.mo dL_refuses_132 3 rfl ?_
  refine J_iload O.mo dL_refuses_133 1 rfl ?_
  refine J_askW (s := s) (h := h) (A := 6) (D := 36) (da := 1) (db := 6) O hKP hh hs (l10_0 h0) (as := [.inr (some (4, 0, 0)), .inl (.int vg)]) (rest := []) (r := some (.inl (.int (-2000000001)))) (c_L_send hfl h0 (ng_send hR fvg) (fun e z => by cases z; decide)) trivial Cov_add rfl rfl mw781 mw782 mw770 mw783 pd_L_send rfl (by decide) rfl (Nat.le_of_ble_eq_true rfl) (sk_v (sk_v (sk_v (sk_p (sM_h hh) (sk_p sM_n (sk_v sk_0)))))) sm_0 dL_refuses_135 ?_
  show J X B (sp s (7) (42)) 138 [(5, .inl (.int vh)), (4, .inl (.int vg)), (3, .inl (.int low)), (0, .inr (some (shP h (4, 0, 0)))), (1, .inr (some (2, 0, 0))), (2, .inl (.int (nI x)))] [.inl (.int (-2000000001))]
  refine J_ldcM O mw649 dL_refuses_138 ?_
  refine J_icmp_ne O.mo (tgt := 436) dL_refuses_140 (by decide) (fun hc => absurd (rfl) hc) (fun _ => ?_)
  refine J_aload_n O.mo dL_refuses_143 3 rfl ?_
  refine J_iload_n O.mo dL_refuses_144 2 rfl ?_
  suffices K145 : J X B (sp s (7) (42)) 157 [(5, .inl (.int vh)), (4, .inl (.int vg)), (3, .inl (.int low)), (0, .inr (some (shP h (4, 0, 0)))), (1, .inr (some (2, 0, 0))), (2, .inl (.int (nI x)))] [.inl (.int w100), .inr (some (shP h (4, 0, 0)))] by
    rw [← ew100] at K145
    refine J_if_eq O.mo (tgt := 153) dL_refuses_145 (by decide) (fun hc20 => ?_) (fun hc20 => ?_)
    · refine J_bipush O.mo (v := nI 101) dL_refuses_153 (by decide) ?_
      refine J_iload_n O.mo dL_refuses_155 5 rfl ?_
      refine J_iadd O.mo dL_refuses_156 ?_
      rw [if_pos hc20] at K145
      exact K145
    · refine J_iload_n O.mo dL_refuses_148 5 rfl ?_
      refine J_inegM O.mo dL_refuses_149 ?_
      refine J_goto O.mo (tgt := 157) dL_refuses_150 (by decide) ?_
      rw [if_neg hc20] at K145
      exact K145
  refine J_askW (s := s) (h := h) (A := 7) (D := 42) (da := 1) (db := 6) O hKP hh hs (l10_0 h0) (as := [.inr (some (4, 0, 0)), .inl (.int w100)]) (rest := []) (r := some (.inl (.int (-2000000002)))) (c_L_tick hfl h0 (na_tick hR fw100) (fun e z => by cases z; decide)) trivial Cov_add rfl rfl mw784 mw785 mw770 mw786 pd_L_tick rfl (by decide) rfl (Nat.le_of_ble_eq_true rfl) (sk_v (sk_v (sk_v (sk_p (sM_h hh) (sk_p sM_n (sk_v sk_0)))))) sm_0 dL_refuses_157 ?_
  show J X B (sp s (8) (48)) 160 [(5, .inl (.int vh)), (4, .inl (.int vg)), (3, .inl (.int low)), (0, .inr (some (shP h (4, 0, 0)))), (1, .inr (some (2, 0, 0))), (2, .inl (.int (nI x)))] [.inl (.int (-2000000002))]
  refine J_ldcM O mw652 dL_refuses_160 ?_
  refine J_icmp_ne O.mo (tgt := 436) dL_refuses_162 (by decide) (fun hc => absurd (rfl) hc) (fun _ => ?_)
  refine J_aload_n O.mo dL_refuses_165 3 rfl ?_
  refine J_iload O.mo dL_refuses_166 0 rfl ?_
  refine J_askW (s := s) (h := h) (A := 8) (D := 48) (da := 1) (db := 6) O hKP hh hs (l10_0 h0) (as := [.inr (some (4, 0, 0)), .inl (.int vh)]) (rest := []) (r := some (.inl (.int (-2000000001)))) (c_L_share hfl h0 (nh_share hR fvh) (fun e z => by cases z; decide)) trivial Cov_add rfl rfl mw787 mw788 mw770 mw789 pd_L_share rfl (by decide) rfl (Nat.le_of_ble_eq_true rfl) (sk_v (sk_v (sk_v (sk_p (sM_h hh) (sk_p sM_n (sk_v sk_0)))))) sm_0 dL_refuses_168 ?_
  show J X B (sp s (9) (54)) 171 [(5, .inl (.int vh)), (4, .inl (.int vg)), (3, .inl (.int low)), (0, .inr (some (shP h (4, 0, 0)))), (1, .inr (some (2, 0, 0))), (2, .inl (.int (nI x)))] [.inl (.int (-2000000001))]
  refine J_ldcM O mw649 dL_refuses_171 ?_
  refine J_icmp_ne O.mo (tgt := 436) dL_refuses_173 (by decide) (fun hc => absurd (rfl) hc) (fun _ => ?_)
  refine J_aload_n O.mo dL_refuses_176 3 rfl ?_
  refine J_iload O.mo dL_refuses_177 1 rfl ?_
  refine J_askW (s := s) (h := h) (A := 9) (D := 54) (da := 1) (db := 6) O hKP hh hs (l10_0 h0) (as := [.inr (some (4, 0, 0)), .inl (.int vg)]) (rest := []) (r := some (.inl (.int (-2000000001)))) (c_L_move hfl h0 (ng_move hR fvg) (fun e z => by cases z; decide)) trivial Cov_add rfl rfl mw790 mw791 mw770 mw792 pd_L_move rfl (by decide) rfl (Nat.le_of_ble_eq_true rfl) (sk_v (sk_v (sk_v (sk_p (sM_h hh) (sk_p sM_n (sk_v sk_0)))))) sm_0 dL_refuses_179 ?_
  show J X B (sp s (10) (60)) 182 [(5, .inl (.int vh)), (4, .inl (.int vg)), (3, .inl (.int low)), (0, .inr (some (shP h (4, 0, 0)))), (1, .inr (some (2, 0, 0))), (2, .inl (.int (nI x)))] [.inl (.int (-2000000001))]
  refine J_ldcM O mw649 dL_refuses_182 ?_
  refine J_icmp_ne O.mo (tgt := 436) dL_refuses_184 (by decide) (fun hc => absurd (rfl) hc) (fun _ => ?_)
  refine J_aload_n O.mo dL_refuses_187 3 rfl ?_
  refine J_iload O.mo dL_refuses_188 1 rfl ?_
  refine J_iconst O.mo (v := nI 1) dL_refuses_190 (by decide) ?_
  refine J_askW (s := s) (h := h) (A := 10) (D := 60) (da := 1) (db := 6) O hKP hh hs (l10_0 h0) (as := [.inr (some (4, 0, 0)), .inl (.int vg), .inl (.int (nI 1))]) (rest := []) (r := some (.inl (.int (-2000000001)))) (c_L_round hfl h0 (ng_round hR fvg) (fun e z => by cases z; decide)) trivial Cov_add rfl rfl mw793 mw794 mw770 mw795 pd_L_round rfl (by decide) rfl (Nat.le_of_ble_eq_true rfl) (sk_v (sk_v (sk_v (sk_p (sM_h hh) (sk_p sM_n (sk_v sk_0)))))) sm_0 dL_refuses_191 ?_
  show J X B (sp s (11) (66)) 194 [(5, .inl (.int vh)), (4, .inl (.int vg)), (3, .inl (.int low)), (0, .inr (some (shP h (4, 0, 0)))), (1, .inr (some (2, 0, 0))), (2, .inl (.int (nI x)))] [.inl (.int (-2000000001))]
  refine J_ldcM O mw649 dL_refuses_194 ?_
  refine J_icmp_ne O.mo (tgt := 436) dL_refuses_196 (by decide) (fun hc => absurd (rfl) hc) (fun _ => ?_)
  refine J_aload_n O.mo dL_refuses_199 3 rfl ?_
  refine J_iload O.mo dL_refuses_200 1 rfl ?_
  refine J_iconst O.mo (v := nI 1) dL_refuses_202 (by decide) ?_
  refine J_askW (s := s) (h := h) (A := 11) (D := 66) (da := 1) (db := 6) O hKP hh hs (l10_0 h0) (as := [.inr (some (4, 0, 0)), .inl (.int vg), .inl (.int (nI 1))]) (rest := []) (r := some (.inl (.int (-2000000001)))) (c_L_land hfl h0 (ng_land hR fvg) (fun e z => by cases z; decide)) trivial Cov_add rfl rfl mw796 mw797 mw770 mw798 pd_L_land rfl (by decide) rfl (Nat.le_of_ble_eq_true rfl) (sk_v (sk_v (sk_v (sk_p (sM_h hh) (sk_p sM_n (sk_v sk_0)))))) sm_0 dL_refuses_203 ?_
  show J X B (sp s (12) (72)) 206 [(5, .inl (.int vh)), (4, .inl (.int vg)), (3, .inl (.int low)), (0, .inr (some (shP h (4, 0, 0)))), (1, .inr (some (2, 0, 0))), (2, .inl (.int (nI x)))] [.inl (.int (-2000000001))]
  refine J_ldcM O mw649 dL_refuses_206 ?_
  refine J_icmp_ne O.mo (tgt := 436) dL_refuses_208 (by decide) (fun hc => absurd (rfl) hc) (fun _ => ?_)
  refine J_aload_n O.mo dL_refuses_211 3 rfl ?_
  refine J_iload O.mo dL_refuses_212 1 rfl ?_
  refine J_askW (s := s) (h := h) (A := 12) (D := 72) (da := 1) (db := 6) O hKP hh hs (l10_0 h0) (as := [.inr (some (4, 0, 0)), .inl (.int vg)]) (rest := []) (r := some (.inl (.int (-2000000001)))) (c_L_snapshot hfl h0 hH hRN (ng_snapshot hR fvg) (fun e z => by cases z; decide)) trivial Cov_add rfl rfl mw814 mw815 mw770 mw816 pd_L_snapshot rfl (by decide) rfl (Nat.le_of_ble_eq_true rfl) (sk_v (sk_v (sk_v (sk_p (sM_h hh) (sk_p sM_n (sk_v sk_0)))))) sm_0 dL_refuses_214 ?_
  show J X B (sp s (13) (78)) 217 [(5, .inl (.int vh)), (4, .inl (.int vg)), (3, .inl (.int low)), (0, .inr (some (shP h (4, 0, 0)))), (1, .inr (some (2, 0, 0))), (2, .inl (.int (nI x)))] [.inl (.int (-2000000001))]
  refine J_ldcM O mw649 dL_refuses_217 ?_
  refine J_icmp_ne O.mo (tgt := 436) dL_refuses_219 (by decide) (fun hc => absurd (rfl) hc) (fun _ => ?_)
  refine J_aload_n O.mo dL_refuses_222 3 rfl ?_
  refine J_iload O.mo dL_refuses_223 1 rfl ?_
  refine J_iconst O.mo (v := nI 0) dL_refuses_225 (by decide) ?_
  refine J_askW (s := s) (h := h) (A := 13) (D := 78) (da := 1) (db := 6) O hKP hh hs (l10_0 h0) (as := [.inr (some (4, 0, 0)), .inl (.int vg), .inl (.int (nI 0))]) (rest := []) (r := some (.inl (.int (-2000000001)))) (c_L_restore hfl h0 (ng_restore hR fvg) (fun e z => by cases z; decide)) trivial Cov_add rfl rfl mw799 mw800 mw770 mw801 pd_L_restore rfl (by decide) rfl (Nat.le_of_ble_eq_true rfl) (sk_v (sk_v (sk_v (sk_p (sM_h hh) (sk_p sM_n (sk_v sk_0)))))) sm_0 dL_refuses_226 ?_
  show J X B (sp s (14) (84)) 229 [(5, .inl (.int vh)), (4, .inl (.int vg)), (3, .inl (.int low)), (0, .inr (some (shP h (4, 0, 0)))), (1, .inr (some (2, 0, 0))), (2, .inl (.int (nI x)))] [.inl (.int (-2000000001))]
  refine J_ldcM O mw649 dL_refuses_229 ?_
  refine J_icmp_ne O.mo (tgt := 436) dL_refuses_231 (by decide) (fun hc => absurd (rfl) hc) (fun _ => ?_)
  refine J_aload_n O.mo dL_refuses_234 3 rfl ?_
  refine J_iload O.mo dL_refuses_235 1 rfl ?_
  refine J_iconst O.mo (v := nI 0) dL_refuses_237 (by decide) ?_
  refine J_askW (s := s) (h := h) (A := 14) (D := 84) (da := 1) (db := 6) O hKP hh hs (l10_0 h0) (as := [.inr (some (4, 0, 0)), .inl (.int vg), .inl (.int (nI 0))]) (rest := []) (r := some (.inl (.int (-2000000001)))) (c_L_follow hfl h0 (ng_follow hR fvg) (fun e z => by cases z; decide)) trivial Cov_add rfl rfl mw802 mw803 mw770 mw804 pd_L_follow rfl (by decide) rfl (Nat.le_of_ble_eq_true rfl) (sk_v (sk_v (sk_v (sk_p (sM_h hh) (sk_p sM_n (sk_v sk_0)))))) sm_0 dL_refuses_238 ?_
  show J X B (sp s (15) (90)) 241 [(5, .inl (.int vh)), (4, .inl (.int vg)), (3, .inl (.int low)), (0, .inr (some (shP h (4, 0, 0)))), (1, .inr (some (2, 0, 0))), (2, .inl (.int (nI x)))] [.inl (.int (-2000000001))]
  refine J_ldcM O mw649 dL_refuses_241 ?_
  refine J_icmp_ne O.mo (tgt := 436) dL_refuses_243 (by decide) (fun hc => absurd (rfl) hc) (fun _ => ?_)
  refine J_aload_n O.mo dL_refuses_246 3 rfl ?_
  refine J_iload O.mo dL_refuses_247 1 rfl ?_
  refine J_askW (s := s) (h := h) (A := 15) (D := 90) (da := 1) (db := 6) O hKP hh hs (l10_0 h0) (as := [.inr (some (4, 0, 0)), .inl (.int vg)]) (rest := []) (r := some (.inl (.int (-2000000001)))) (c_L_step hfl h0 (ng_step hR fvg) (fun e z => by cases z; decide)) trivial Cov_add rfl rfl mw805 mw806 mw770 mw807 pd_L_step rfl (by decide) rfl (Nat.le_of_ble_eq_true rfl) (sk_v (sk_v (sk_v (sk_p (sM_h hh) (sk_p sM_n (sk_v sk_0)))))) sm_0 dL_refuses_249 ?_
  show J X B (sp s (16) (96)) 252 [(5, .inl (.int vh)), (4, .inl (.int vg)), (3, .inl (.int low)), (0, .inr (some (shP h (4, 0, 0)))), (1, .inr (some (2, 0, 0))), (2, .inl (.int (nI x)))] [.inl (.int (-2000000001))]
  refine J_ldcM O mw649 dL_refuses_252 ?_
  refine J_icmp_ne O.mo (tgt := 436) dL_refuses_254 (by decide) (fun hc => absurd (rfl) hc) (fun _ => ?_)
  refine J_aload_n O.mo dL_refuses_257 3 rfl ?_
  refine J_iload O.mo dL_refuses_258 0 rfl ?_
  refine J_askW (s := s) (h := h) (A := 16) (D := 96) (da := 1) (db := 6) O hKP hh hs (l10_0 h0) (as := [.inr (some (4, 0, 0)), .inl (.int vh)]) (rest := []) (r := some (.inl (.int (-2000000001)))) (c_L_fail hfl h0 (nh_fail hR fvh) (fun e z => by cases z; decide)) trivial Cov_add rfl rfl mw808 mw809 mw770 mw810 pd_L_fail rfl (by decide) rfl (Nat.le_of_ble_eq_true rfl) (sk_v (sk_v (sk_v (sk_p (sM_h hh) (sk_p sM_n (sk_v sk_0)))))) sm_0 dL_refuses_260 ?_
  show J X B (sp s (17) (102)) 263 [(5, .inl (.int vh)), (4, .inl (.int vg)), (3, .inl (.int low)), (0, .inr (some (shP h (4, 0, 0)))), (1, .inr (some (2, 0, 0))), (2, .inl (.int (nI x)))] [.inl (.int (-2000000001))]
  refine J_ldcM O mw649 dL_refuses_263 ?_
  refine J_icmp_ne O.mo (tgt := 436) dL_refuses_265 (by decide) (fun hc => absurd (rfl) hc) (fun _ => ?_)
  refine J_aload_n O.mo dL_refuses_268 3 rfl ?_
  refine J_iload O.mo dL_refuses_269 0 rfl ?_
  refine J_askW (s := s) (h := h) (A := 17) (D := 102) (da := 1) (db := 6) O hKP hh hs (l10_0 h0) (as := [.inr (some (4, 0, 0)), .inl (.int vh)]) (rest := []) (r := some (.inl (.int (-2000000001)))) (c_L_mend hfl h0 (nh_mend hR fvh) (fun e z => by cases z; decide)) trivial Cov_add rfl rfl mw811 mw812 mw770 mw813 pd_L_mend rfl (by decide) rfl (Nat.le_of_ble_eq_true rfl) (sk_v (sk_v (sk_v (sk_p (sM_h hh) (sk_p sM_n (sk_v sk_0)))))) sm_0 dL_refuses_271 ?_
  show J X B (sp s (18) (108)) 274 [(5, .inl (.int vh)), (4, .inl (.int vg)), (3, .inl (.int low)), (0, .inr (some (shP h (4, 0, 0)))), (1, .inr (some (2, 0, 0))), (2, .inl (.int (nI x)))] [.inl (.int (-2000000001))]
  refine J_ldcM O mw649 dL_refuses_274 ?_
  refine J_icmp_ne O.mo (tgt := 436) dL_refuses_276 (by decide) (fun hc => absurd (rfl) hc) (fun _ => ?_)
  refine J_aload_n O.mo dL_refuses_279 3 rfl ?_
  refine J_iload O.mo dL_refuses_280 1 rfl ?_
  refine J_iconst O.mo (v := nI 0) dL_refuses_282 (by decide) ?_
  refine J_askW (s := s) (h := h) (A := 18) (D := 108) (da := 1) (db := 6) O hKP hh hs (l10_0 h0) (as := [.inr (some (4, 0, 0)), .inl (.int vg), .inl (.int (nI 0))]) (rest := []) (r := some (.inl (.int (-2000000001)))) (c_L_of hfl h0 (ng_of hR fvg) (fun e z => by cases z; decide)) trivial Cov_add rfl rfl mw825 mw826 mw770 mw827 pd_L_of rfl (by decide) rfl (Nat.le_of_ble_eq_true rfl) (sk_v (sk_v (sk_v (sk_p (sM_h hh) (sk_p sM_n (sk_v sk_0)))))) sm_0 dL_refuses_283 ?_
  show J X B (sp s (19) (114)) 286 [(5, .inl (.int vh)), (4, .inl (.int vg)), (3, .inl (.int low)), (0, .inr (some (shP h (4, 0, 0)))), (1, .inr (some (2, 0, 0))), (2, .inl (.int (nI x)))] [.inl (.int (-2000000001))]
  refine J_ldcM O mw649 dL_refuses_286 ?_
  refine J_icmp_ne O.mo (tgt := 436) dL_refuses_288 (by decide) (fun hc => absurd (rfl) hc) (fun _ => ?_)
  refine J_aload_n O.mo dL_refuses_291 3 rfl ?_
  refine J_iload O.mo dL_refuses_292 1 rfl ?_
  refine J_iconst O.mo (v := nI 0) dL_refuses_294 (by decide) ?_
  refine J_askW (s := s) (h := h) (A := 19) (D := 114) (da := 1) (db := 6) O hKP hh hs (l10_0 h0) (as := [.inr (some (4, 0, 0)), .inl (.int vg), .inl (.int (nI 0))]) (rest := []) (r := some (.inl (.int (-2000000001)))) (c_L_register hfl h0 (ng_register hR fvg) (fun e z => by cases z; decide)) trivial Cov_add rfl rfl mw828 mw829 mw770 mw830 pd_L_register rfl (by decide) rfl (Nat.le_of_ble_eq_true rfl) (sk_v (sk_v (sk_v (sk_p (sM_h hh) (sk_p sM_n (sk_v sk_0)))))) sm_0 dL_refuses_295 ?_
  show J X B (sp s (20) (120)) 298 [(5, .inl (.int vh)), (4, .inl (.int vg)), (3, .inl (.int low)), (0, .inr (some (shP h (4, 0, 0)))), (1, .inr (some (2, 0, 0))), (2, .inl (.int (nI x)))] [.inl (.int (-2000000001))]
  refine J_ldcM O mw649 dL_refuses_298 ?_
  refine J_icmp_ne O.mo (tgt := 436) dL_refuses_300 (by decide) (fun hc => absurd (rfl) hc) (fun _ => ?_)
  refine J_aload_n O.mo dL_refuses_303 3 rfl ?_
  refine J_iload O.mo dL_refuses_304 1 rfl ?_
  refine J_iconst O.mo (v := nI 0) dL_refuses_306 (by decide) ?_
  refine J_iconst O.mo (v := nI 0) dL_refuses_307 (by decide) ?_
  refine J_askW (s := s) (h := h) (A := 20) (D := 120) (da := 1) (db := 6) O hKP hh hs (l10_0 h0) (as := [.inr (some (4, 0, 0)), .inl (.int vg), .inl (.int (nI 0)), .inl (.int (nI 0))]) (rest := []) (r := some (.inl (.int (-2000000001)))) (c_L_word hfl h0 (ng_word hR fvg) (fun e z => by cases z; decide)) trivial Cov_add rfl rfl mw831 mw832 mw770 mw833 pd_L_word rfl (by decide) rfl (Nat.le_of_ble_eq_true rfl) (sk_v (sk_v (sk_v (sk_p (sM_h hh) (sk_p sM_n (sk_v sk_0)))))) sm_0 dL_refuses_308 ?_
  show J X B (sp s (21) (126)) 311 [(5, .inl (.int vh)), (4, .inl (.int vg)), (3, .inl (.int low)), (0, .inr (some (shP h (4, 0, 0)))), (1, .inr (some (2, 0, 0))), (2, .inl (.int (nI x)))] [.inl (.int (-2000000001))]
  refine J_ldcM O mw649 dL_refuses_311 ?_
  refine J_icmp_ne O.mo (tgt := 436) dL_refuses_313 (by decide) (fun hc => absurd (rfl) hc) (fun _ => ?_)
  refine J_aload_n O.mo dL_refuses_316 3 rfl ?_
  refine J_iload O.mo dL_refuses_317 1 rfl ?_
  refine J_iconst O.mo (v := nI 0) dL_refuses_319 (by decide) ?_
  refine J_askW (s := s) (h := h) (A := 21) (D := 126) (da := 1) (db := 6) O hKP hh hs (l10_0 h0) (as := [.inr (some (4, 0, 0)), .inl (.int vg), .inl (.int (nI 0))]) (rest := []) (r := some (.inl (.int (-2000000001)))) (c_L_pageOf hfl h0 (ng_pageOf hR fvg) (fun e z => by cases z; decide)) trivial Cov_add rfl rfl mw834 mw835 mw770 mw836 pd_L_pageOf rfl (by decide) rfl (Nat.le_of_ble_eq_true rfl) (sk_v (sk_v (sk_v (sk_p (sM_h hh) (sk_p sM_n (sk_v sk_0)))))) sm_0 dL_refuses_320 ?_
  show J X B (sp s (22) (132)) 323 [(5, .inl (.int vh)), (4, .inl (.int vg)), (3, .inl (.int low)), (0, .inr (some (shP h (4, 0, 0)))), (1, .inr (some (2, 0, 0))), (2, .inl (.int (nI x)))] [.inl (.int (-2000000001))]
  refine J_ldcM O mw649 dL_refuses_323 ?_
  refine J_icmp_ne O.mo (tgt := 436) dL_refuses_325 (by decide) (fun hc => absurd (rfl) hc) (fun _ => ?_)
  refine J_aload_n O.mo dL_refuses_328 3 rfl ?_
  refine J_iload O.mo dL_refuses_329 1 rfl ?_
  refine J_iconst O.mo (v := nI 0) dL_refuses_331 (by decide) ?_
  refine J_askW (s := s) (h := h) (A := 22) (D := 132) (da := 1) (db := 6) O hKP hh hs (l10_0 h0) (as := [.inr (some (4, 0, 0)), .inl (.int vg), .inl (.int (nI 0))]) (rest := []) (r := some (.inl (.int (-2000000001)))) (c_L_frameOf hfl h0 (ng_frameOf hR fvg) (fun e z => by cases z; decide)) trivial Cov_add rfl rfl mw837 mw838 mw770 mw839 pd_L_frameOf rfl (by decide) rfl (Nat.le_of_ble_eq_true rfl) (sk_v (sk_v (sk_v (sk_p (sM_h hh) (sk_p sM_n (sk_v sk_0)))))) sm_0 dL_refuses_332 ?_
  show J X B (sp s (23) (138)) 335 [(5, .inl (.int vh)), (4, .inl (.int vg)), (3, .inl (.int low)), (0, .inr (some (shP h (4, 0, 0)))), (1, .inr (some (2, 0, 0))), (2, .inl (.int (nI x)))] [.inl (.int (-2000000001))]
  refine J_ldcM O mw649 dL_refuses_335 ?_
  refine J_icmp_ne O.mo (tgt := 436) dL_refuses_337 (by decide) (fun hc => absurd (rfl) hc) (fun _ => ?_)
  refine J_aload_n O.mo dL_refuses_340 3 rfl ?_
  refine J_iload O.mo dL_refuses_341 0 rfl ?_
  refine J_askW (s := s) (h := h) (A := 23) (D := 138) (da := 1) (db := 6) O hKP hh hs (l10_0 h0) (as := [.inr (some (4, 0, 0)), .inl (.int vh)]) (rest := []) (r := some (.inl (.int (-2000000001)))) (c_L_used hfl h0 (nh_used hR fvh) (fun e z => by cases z; decide)) trivial Cov_add rfl rfl mw840 mw841 mw770 mw842 pd_L_used rfl (by decide) rfl (Nat.le_of_ble_eq_true rfl) (sk_v (sk_v (sk_v (sk_p (sM_h hh) (sk_p sM_n (sk_v sk_0)))))) sm_0 dL_refuses_343 ?_
  show J X B (sp s (24) (144)) 346 [(5, .inl (.int vh)), (4, .inl (.int vg)), (3, .inl (.int low)), (0, .inr (some (shP h (4, 0, 0)))), (1, .inr (some (2, 0, 0))), (2, .inl (.int (nI x)))] [.inl (.int (-2000000001))]
  refine J_ldcM O mw649 dL_refuses_346 ?_
  refine J_icmp_ne O.mo (tgt := 436) dL_refuses_348 (by decide) (fun hc => absurd (rfl) hc) (fun _ => ?_)
  refine J_aload_n O.mo dL_refuses_351 3 rfl ?_
  refine J_iload O.mo dL_refuses_352 1 rfl ?_
  refine J_iconst O.mo (v := nI 0) dL_refuses_354 (by decide) ?_
  refine J_askW (s := s) (h := h) (A := 24) (D := 144) (da := 1) (db := 6) O hKP hh hs (l10_0 h0) (as := [.inr (some (4, 0, 0)), .inl (.int vg), .inl (.int (nI 0))]) (rest := []) (r := some (.inl (.int (-2000000001)))) (c_L_exits hfl h0 (ng_exits hR fvg) (fun e z => by cases z; decide)) trivial Cov_add rfl rfl mw843 mw844 mw770 mw845 pd_L_exits rfl (by decide) rfl (Nat.le_of_ble_eq_true rfl) (sk_v (sk_v (sk_v (sk_p (sM_h hh) (sk_p sM_n (sk_v sk_0)))))) sm_0 dL_refuses_355 ?_
  show J X B (sp s (25) (150)) 358 [(5, .inl (.int vh)), (4, .inl (.int vg)), (3, .inl (.int low)), (0, .inr (some (shP h (4, 0, 0)))), (1, .inr (some (2, 0, 0))), (2, .inl (.int (nI x)))] [.inl (.int (-2000000001))]
  refine J_ldcM O mw649 dL_refuses_358 ?_
  refine J_icmp_ne O.mo (tgt := 436) dL_refuses_360 (by decide) (fun hc => absurd (rfl) hc) (fun _ => ?_)
  refine J_aload_n O.mo dL_refuses_363 3 rfl ?_
  refine J_iload O.mo dL_refuses_364 1 rfl ?_
  refine J_askW (s := s) (h := h) (A := 25) (D := 150) (da := 1) (db := 6) O hKP hh hs (l10_0 h0) (as := [.inr (some (4, 0, 0)), .inl (.int vg)]) (rest := []) (r := some (.inl (.int (-2000000001)))) (c_L_out hfl h0 (ng_out hR fvg) (fun e z => by cases z; decide)) trivial Cov_add rfl rfl mw846 mw847 mw770 mw848 pd_L_out rfl (by decide) rfl (Nat.le_of_ble_eq_true rfl) (sk_v (sk_v (sk_v (sk_p (sM_h hh) (sk_p sM_n (sk_v sk_0)))))) sm_0 dL_refuses_366 ?_
  show J X B (sp s (26) (156)) 369 [(5, .inl (.int vh)), (4, .inl (.int vg)), (3, .inl (.int low)), (0, .inr (some (shP h (4, 0, 0)))), (1, .inr (some (2, 0, 0))), (2, .inl (.int (nI x)))] [.inl (.int (-2000000001))]
  refine J_ldcM O mw649 dL_refuses_369 ?_
  refine J_icmp_ne O.mo (tgt := 436) dL_refuses_371 (by decide) (fun hc => absurd (rfl) hc) (fun _ => ?_)
  refine J_aload_n O.mo dL_refuses_374 3 rfl ?_
  refine J_iload O.mo dL_refuses_375 1 rfl ?_
  refine J_iconst O.mo (v := nI 0) dL_refuses_377 (by decide) ?_
  refine J_askW (s := s) (h := h) (A := 26) (D := 156) (da := 1) (db := 6) O hKP hh hs (l10_0 h0) (as := [.inr (some (4, 0, 0)), .inl (.int vg), .inl (.int (nI 0))]) (rest := []) (r := some (.inl (.int (-2000000001)))) (c_L_outAt hfl h0 (ng_outAt hR fvg) (fun e z => by cases z; decide)) trivial Cov_add rfl rfl mw849 mw850 mw770 mw851 pd_L_outAt rfl (by decide) rfl (Nat.le_of_ble_eq_true rfl) (sk_v (sk_v (sk_v (sk_p (sM_h hh) (sk_p sM_n (sk_v sk_0)))))) sm_0 dL_refuses_378 ?_
  show J X B (sp s (27) (162)) 381 [(5, .inl (.int vh)), (4, .inl (.int vg)), (3, .inl (.int low)), (0, .inr (some (shP h (4, 0, 0)))), (1, .inr (some (2, 0, 0))), (2, .inl (.int (nI x)))] [.inl (.int (-2000000001))]
  refine J_ldcM O mw649 dL_refuses_381 ?_
  refine J_icmp_ne O.mo (tgt := 436) dL_refuses_383 (by decide) (fun hc => absurd (rfl) hc) (fun _ => ?_)
  refine J_aload_n O.mo dL_refuses_386 3 rfl ?_
  refine J_iload O.mo dL_refuses_387 1 rfl ?_
  refine J_askW (s := s) (h := h) (A := 27) (D := 162) (da := 1) (db := 6) O hKP hh hs (l10_0 h0) (as := [.inr (some (4, 0, 0)), .inl (.int vg)]) (rest := []) (r := some (.inl (.int (-2000000001)))) (c_L_held hfl h0 (ng_held hR fvg) (fun e z => by cases z; decide)) trivial Cov_add rfl rfl mw852 mw853 mw770 mw854 pd_L_held rfl (by decide) rfl (Nat.le_of_ble_eq_true rfl) (sk_v (sk_v (sk_v (sk_p (sM_h hh) (sk_p sM_n (sk_v sk_0)))))) sm_0 dL_refuses_389 ?_
  show J X B (sp s (28) (168)) 392 [(5, .inl (.int vh)), (4, .inl (.int vg)), (3, .inl (.int low)), (0, .inr (some (shP h (4, 0, 0)))), (1, .inr (some (2, 0, 0))), (2, .inl (.int (nI x)))] [.inl (.int (-2000000001))]
  refine J_ldcM O mw649 dL_refuses_392 ?_
  refine J_icmp_ne O.mo (tgt := 436) dL_refuses_394 (by decide) (fun hc => absurd (rfl) hc) (fun _ => ?_)
  refine J_aload_n O.mo dL_refuses_397 3 rfl ?_
  refine J_iload_n O.mo dL_refuses_398 2 rfl ?_
  suffices K399 : J X B (sp s (28) (168)) 413 [(5, .inl (.int vh)), (4, .inl (.int vg)), (3, .inl (.int low)), (0, .inr (some (shP h (4, 0, 0)))), (1, .inr (some (2, 0, 0))), (2, .inl (.int (nI x)))] [.inl (.int vs), .inr (some (shP h (4, 0, 0)))] by
    rw [← evs] at K399
    refine J_if_eq O.mo (tgt := 408) dL_refuses_399 (by decide) (fun hc24 => ?_) (fun hc24 => ?_)
    · refine J_aload_n O.mo dL_refuses_408 4 rfl ?_
      refine J_iconst O.mo (v := nI 1) dL_refuses_409 (by decide) ?_
      refine J_nldE (s2 := (sp s (28) (168))) O ha (nI_in (c := 1) (N := 12) (by decide) (by decide)) (v := nI ns) (by rw [nI_cl (n := 1) (by decide)]; exact a1) dL_refuses_410 ?_
      refine J_iload_n O.mo dL_refuses_411 5 rfl ?_
      refine J_iadd O.mo dL_refuses_412 ?_
      rw [if_pos hc24] at K399
      exact K399
    · refine J_iconst O.mo (v := -1) dL_refuses_402 (by decide) ?_
      refine J_iload_n O.mo dL_refuses_403 5 rfl ?_
      refine J_isub O.mo dL_refuses_404 ?_
      refine J_goto O.mo (tgt := 413) dL_refuses_405 (by decide) ?_
      rw [if_neg hc24] at K399
      exact K399
  refine J_askW (s := s) (h := h) (A := 28) (D := 168) (da := 1) (db := 6) O hKP hh hs (l10_0 h0) (as := [.inr (some (4, 0, 0)), .inl (.int vs)]) (rest := []) (r := some (.inl (.int (-2000000001)))) (c_L_stored hfl h0 (ns_stored hR fvs) (fun e z => by cases z; decide)) trivial Cov_add rfl rfl mw855 mw856 mw770 mw857 pd_L_stored rfl (by decide) rfl (Nat.le_of_ble_eq_true rfl) (sk_v (sk_v (sk_v (sk_p (sM_h hh) (sk_p sM_n (sk_v sk_0)))))) sm_0 dL_refuses_413 ?_
  show J X B (sp s (29) (174)) 416 [(5, .inl (.int vh)), (4, .inl (.int vg)), (3, .inl (.int low)), (0, .inr (some (shP h (4, 0, 0)))), (1, .inr (some (2, 0, 0))), (2, .inl (.int (nI x)))] [.inl (.int (-2000000001))]
  refine J_ldcM O mw649 dL_refuses_416 ?_
  refine J_icmp_ne O.mo (tgt := 436) dL_refuses_418 (by decide) (fun hc => absurd (rfl) hc) (fun _ => ?_)
  refine J_aload_n O.mo dL_refuses_421 3 rfl ?_
  refine J_iload O.mo dL_refuses_422 1 rfl ?_
  refine J_askW (s := s) (h := h) (A := 29) (D := 174) (da := 1) (db := 6) O hKP hh hs (l10_0 h0) (as := [.inr (some (4, 0, 0)), .inl (.int vg)]) (rest := []) (r := some (.inl (.int (-2000000001)))) (c_L_plain hfl h0 hH hRN (ng_isAsPlain hR fvg) (fun e z => by cases z; decide)) trivial Cov_add rfl rfl mw858 mw859 mw770 mw860 pd_L_plain rfl (by decide) rfl (Nat.le_of_ble_eq_true rfl) (sk_v (sk_v (sk_v (sk_p (sM_h hh) (sk_p sM_n (sk_v sk_0)))))) sm_0 dL_refuses_424 ?_
  show J X B (sp s (30) (180)) 427 [(5, .inl (.int vh)), (4, .inl (.int vg)), (3, .inl (.int low)), (0, .inr (some (shP h (4, 0, 0)))), (1, .inr (some (2, 0, 0))), (2, .inl (.int (nI x)))] [.inl (.int (-2000000001))]
  refine J_ldcM O mw649 dL_refuses_427 ?_
  refine J_icmp_ne O.mo (tgt := 436) dL_refuses_429 (by decide) (fun hc => absurd (rfl) hc) (fun _ => ?_)
  refine J_iconst O.mo (v := nI 1) dL_refuses_432 (by decide) ?_
  refine J_goto O.mo (tgt := 437) dL_refuses_433 (by decide) ?_
  refine J_istore O.mo dL_refuses_437 (by rw [hmL]; decide) rfl rfl ?_
  refine J_aload_n O.mo dL_refuses_439 5 rfl ?_
  refine J_iconst O.mo (v := nI 0) dL_refuses_440 (by decide) ?_
  refine J_nldE (s2 := (sp s (30) (180))) O ha (nI_in (c := 0) (N := 12) (by decide) (by decide)) (v := nI n) (by rw [nI_cl (n := 0) (by decide)]; exact a0) dL_refuses_441 ?_
  refine J_if_ne O.mo (tgt := 448) dL_refuses_442 (by decide) (fun hc25 => ?_) (fun hc25 => ?_)
  · have hn0 : 0 < n := by rcases Nat.eq_zero_or_pos n with z | z; exact absurd (by rw [z]; rfl) hc25; exact z
    obtain ⟨o, ho, ho1⟩ : ∃ o, o < n ∧ (nI (x / 3)) - (nI (x / 3)) / (nI n) * (nI n) = nI o := ⟨_, Nat.mod_lt _ hn0, nI_mod (by omega) (by omega)⟩
    obtain ⟨m9, q9, hm9⟩ : ∃ v, f_X10_of E κ (nI o) (nI 9) = some (κ, .inl v) ∧ ((v < 0 ∧ kV κ 5 0 30 o = 0) ∨ (¬ v < 0 ∧ ¬ kV κ 5 0 30 o = 0)) := by
      rcases qa_of9 hR ho with ⟨z, q⟩ | ⟨z, T, hT, q⟩
      · exact ⟨_, q, Or.inl ⟨by decide, z⟩⟩
      · exact ⟨_, q, Or.inr ⟨nI_pos (by have := pop_le T; omega), z⟩⟩
    obtain ⟨mv, emv, hmv⟩ : ∃ v : Int32, (if m9 < 0 then nI 0 else nI 1) = v ∧ ((v = 0 ∧ kV κ 5 0 30 o = 0) ∨ (¬ v = 0 ∧ ¬ kV κ 5 0 30 o = 0)) := by
      rcases hm9 with ⟨z, y⟩ | ⟨z, y⟩
      · exact ⟨_, rfl, Or.inl ⟨by rw [if_pos z]; rfl, y⟩⟩
      · exact ⟨_, rfl, Or.inr ⟨by rw [if_neg z]; decide, y⟩⟩
    obtain ⟨z14, ez14, fz14⟩ : ∃ v : Int32, (if low = 0 then (nI 14) + (nI x) else (-1) - (nI x)) = v ∧ ¬ vp_in v 14 := ⟨_, rfl, outA (by omega) hx⟩
    obtain ⟨z4, ez4, fz4⟩ : ∃ v : Int32, (if low = 0 then (nI 4) + (nI x) else (-1) - (nI x)) = v ∧ ¬ vp_in v 4 := ⟨_, rfl, outA (by omega) hx⟩
    obtain ⟨zm, ezm, fzm⟩ : ∃ v : Int32, (if low = 0 then (nI 10000) + (nI x) else (-1) - (nI x)) = v ∧ ¬ vp_in v 10000 := ⟨_, rfl, outA (by omega) hx⟩
    obtain ⟨z11, ez11, fz11⟩ : ∃ v : Int32, (if low = 0 then (nI 11) + (nI x) else (-1) - (nI x)) = v ∧ ¬ vp_in v 11 := ⟨_, rfl, outA (by omega) hx⟩
    obtain ⟨z8, ez8, fz8⟩ : ∃ v : Int32, (if low = 0 then (nI 8) + (nI x) else (-1) - (nI x)) = v ∧ ¬ vp_in v 8 := ⟨_, rfl, outA (by omega) hx⟩
    obtain ⟨z6, ez6, fz6⟩ : ∃ v : Int32, (if low = 0 then (nI 6) + (nI x) else (-1) - (nI x)) = v ∧ ¬ vp_in v 6 := ⟨_, rfl, outA (by omega) hx⟩
    obtain ⟨y3, ey3, fy3⟩ : ∃ v : Int32, (if low = 0 then (nI 4) + (nI x) else -(nI x)) = v ∧ (v < nI 1 ∨ nI 3 < v) := ⟨_, rfl, outB (by omega) hx⟩
    obtain ⟨y8, ey8, fy8⟩ : ∃ v : Int32, (if low = 0 then (nI 9) + (nI x) else -(nI x)) = v ∧ (v < nI 1 ∨ nI 8 < v) := ⟨_, rfl, outB (by omega) hx⟩
    obtain ⟨vo, evo, fvo⟩ : ∃ v : Int32, (if low = 0 then (kV κ 5 0 35 o) + (nI x) else (-1) - (nI x)) = v ∧ ∀ m, kV κ 5 0 35 o = nI m → m ≤ 3000 → ¬ vp_in v m := ⟨_, rfl, fun m z hm => by rw [z]; exact outA (by omega) hx⟩
    refine J_iload_n O.mo dL_refuses_448 6 rfl ?_
    refine J_iconst O.mo (v := nI 3) dL_refuses_449 (by decide) ?_
    refine J_idivE O.mo dL_refuses_450 (by decide) (v := nI (x / 3)) (nI_div (by omega) (by omega)) ?_
    refine J_aload_n O.mo dL_refuses_451 5 rfl ?_
    refine J_iconst O.mo (v := nI 0) dL_refuses_452 (by decide) ?_
    refine J_nldE (s2 := (sp s (30) (180))) O ha (nI_in (c := 0) (N := 12) (by decide) (by decide)) (v := nI n) (by rw [nI_cl (n := 0) (by decide)]; exact a0) dL_refuses_453 ?_
    refine J_iremE O.mo dL_refuses_454 hc25 (v := nI o) ho1 ?_
    refine J_istore O.mo dL_refuses_455 (by rw [hmL]; decide) rfl rfl ?_
    refine J_aload_n O.mo dL_refuses_457 5 rfl ?_
    refine J_iload O.mo dL_refuses_458 0 rfl ?_
    refine J_bipush O.mo (v := nI 9) dL_refuses_460 (by decide) ?_
    refine J_askW (s := s) (h := h) (A := 30) (D := 180) (da := 0) (db := 0) O hKP hh hs (l10_0 h0) (as := [.inr (some (4, 0, 0)), .inl (.int (nI o)), .inl (.int (nI 9))]) (rest := []) (r := some (.inl (.int m9))) (c_L_of hfl h0 q9 (fun e z => by cases z)) trivial Cov.rf rfl rfl mw825 mw826 mw770 mw827 pd_L_of rfl (by decide) rfl (Nat.le_of_ble_eq_true rfl) (sk_v (sk_v (sk_v (sk_v (sk_v (sk_p (sM_h hh) (sk_p sM_n (sk_v sk_0)))))))) sm_0 dL_refuses_462 ?_
    show J X B (sp s (30) (180)) 465 [(7, .inl (.int (nI o))), (6, .inl (.int (nI 1))), (5, .inl (.int vh)), (4, .inl (.int vg)), (3, .inl (.int low)), (0, .inr (some (shP h (4, 0, 0)))), (1, .inr (some (2, 0, 0))), (2, .inl (.int (nI x)))] [.inl (.int m9)]
    suffices K465 : J X B (sp s (30) (180)) 473 [(7, .inl (.int (nI o))), (6, .inl (.int (nI 1))), (5, .inl (.int vh)), (4, .inl (.int vg)), (3, .inl (.int low)), (0, .inr (some (shP h (4, 0, 0)))), (1, .inr (some (2, 0, 0))), (2, .inl (.int (nI x)))] [.inl (.int mv)] by
      rw [← emv] at K465
      refine J_if_lt O.mo (tgt := 472) dL_refuses_465 (by decide) (fun hc29 => ?_) (fun hc29 => ?_)
      · refine J_iconst O.mo (v := nI 0) dL_refuses_472 (by decide) ?_
        rw [if_pos hc29] at K465
        exact K465
      · refine J_iconst O.mo (v := nI 1) dL_refuses_468 (by decide) ?_
        refine J_goto O.mo (tgt := 473) dL_refuses_469 (by decide) ?_
        rw [if_neg hc29] at K465
        exact K465
    refine J_istore O.mo dL_refuses_473 (by rw [hmL]; decide) rfl rfl ?_
    refine J_aload_n O.mo dL_refuses_475 6 rfl ?_
    refine J_iload O.mo dL_refuses_476 1 rfl ?_
    refine J_iconst O.mo (v := nI 0) dL_refuses_478 (by decide) ?_
    refine J_askW (s := s) (h := h) (A := 30) (D := 180) (da := 0) (db := 0) O hKP hh hs (l10_0 h0) (as := [.inr (some (4, 0, 0)), .inl (.int (nI o)), .inl (.int (nI 0))]) (rest := []) (r := some (.inl (.int (kV κ 5 0 1 (55 * o + 49))))) (c_L_of hfl h0 (qa_of0 hR ho) (fun e z => by cases z)) trivial Cov.rf rfl rfl mw825 mw826 mw770 mw827 pd_L_of rfl (by decide) rfl (Nat.le_of_ble_eq_true rfl) (sk_v (sk_v (sk_v (sk_v (sk_v (sk_v (sk_p (sM_h hh) (sk_p sM_n (sk_v sk_0))))))))) sm_0 dL_refuses_479 ?_
    show J X B (sp s (30) (180)) 482 [(8, .inl (.int mv)), (7, .inl (.int (nI o))), (6, .inl (.int (nI 1))), (5, .inl (.int vh)), (4, .inl (.int vg)), (3, .inl (.int low)), (0, .inr (some (shP h (4, 0, 0)))), (1, .inr (some (2, 0, 0))), (2, .inl (.int (nI x)))] [.inl (.int (kV κ 5 0 1 (55 * o + 49)))]
    refine J_istore O.mo dL_refuses_482 (by rw [hmL]; decide) rfl rfl ?_
    refine J_iload O.mo dL_refuses_484 3 rfl ?_
    refine J_if_eq O.mo (tgt := 992) dL_refuses_486 (by decide) (fun hc => absurd hc (show ¬ nI 1 = 0 from by decide)) (fun _ => ?_)
    refine J_aload_n O.mo dL_refuses_489 7 rfl ?_
    refine J_iload O.mo dL_refuses_490 2 rfl ?_
    refine J_iload_n O.mo dL_refuses_492 6 rfl ?_
    suffices K493 : J X B (sp s (30) (180)) 506 [(9, .inl (.int (kV κ 5 0 1 (55 * o + 49)))), (8, .inl (.int mv)), (7, .inl (.int (nI o))), (6, .inl (.int (nI 1))), (5, .inl (.int vh)), (4, .inl (.int vg)), (3, .inl (.int low)), (0, .inr (some (shP h (4, 0, 0)))), (1, .inr (some (2, 0, 0))), (2, .inl (.int (nI x)))] [.inl (.int z14), .inl (.int (nI o)), .inr (some (shP h (4, 0, 0)))] by
      rw [← ez14] at K493
      refine J_if_eq O.mo (tgt := 502) dL_refuses_493 (by decide) (fun hc33 => ?_) (fun hc33 => ?_)
      · refine J_bipush O.mo (v := nI 14) dL_refuses_502 (by decide) ?_
        refine J_iload_n O.mo dL_refuses_504 9 rfl ?_
        refine J_iadd O.mo dL_refuses_505 ?_
        rw [if_pos hc33] at K493
        exact K493
      · refine J_iconst O.mo (v := -1) dL_refuses_496 (by decide) ?_
        refine J_iload_n O.mo dL_refuses_497 9 rfl ?_
        refine J_isub O.mo dL_refuses_498 ?_
        refine J_goto O.mo (tgt := 506) dL_refuses_499 (by decide) ?_
        rw [if_neg hc33] at K493
        exact K493
    refine J_iconst O.mo (v := nI 0) dL_refuses_506 (by decide) ?_
    refine J_iconst O.mo (v := nI 0) dL_refuses_507 (by decide) ?_
    refine J_askW (s := s) (h := h) (A := 30) (D := 180) (da := 1) (db := 6) O hKP hh hs (l10_0 h0) (as := [.inr (some (4, 0, 0)), .inl (.int (nI o)), .inl (.int z14), .inl (.int (nI 0)), .inl (.int (nI 0))]) (rest := []) (r := some (.inl (.int (-2000000002)))) (c_L_op hfl h0 (na_instruct hR ho (insX1 fz14)) (fun e z => by cases z; decide)) trivial Cov_add rfl rfl mw768 mw769 mw770 mw771 pd_L_op rfl (by decide) rfl (Nat.le_of_ble_eq_true rfl) (sk_v (sk_v (sk_v (sk_v (sk_v (sk_v (sk_v (sk_p (sM_h hh) (sk_p sM_n (sk_v sk_0)))))))))) sm_0 dL_refuses_508 ?_
    show J X B (sp s (31) (186)) 511 [(9, .inl (.int (kV κ 5 0 1 (55 * o + 49)))), (8, .inl (.int mv)), (7, .inl (.int (nI o))), (6, .inl (.int (nI 1))), (5, .inl (.int vh)), (4, .inl (.int vg)), (3, .inl (.int low)), (0, .inr (some (shP h (4, 0, 0)))), (1, .inr (some (2, 0, 0))), (2, .inl (.int (nI x)))] [.inl (.int (-2000000002))]
    refine J_ldcM O mw652 dL_refuses_511 ?_
    refine J_icmp_ne O.mo (tgt := 992) dL_refuses_513 (by decide) (fun hc => absurd (rfl) hc) (fun _ => ?_)
    refine J_aload_n O.mo dL_refuses_516 7 rfl ?_
    refine J_iload O.mo dL_refuses_517 2 rfl ?_
    refine J_iconst O.mo (v := nI 0) dL_refuses_519 (by decide) ?_
    refine J_iload_n O.mo dL_refuses_520 6 rfl ?_
    suffices K521 : J X B (sp s (31) (186)) 533 [(9, .inl (.int (kV κ 5 0 1 (55 * o + 49)))), (8, .inl (.int mv)), (7, .inl (.int (nI o))), (6, .inl (.int (nI 1))), (5, .inl (.int vh)), (4, .inl (.int vg)), (3, .inl (.int low)), (0, .inr (some (shP h (4, 0, 0)))), (1, .inr (some (2, 0, 0))), (2, .inl (.int (nI x)))] [.inl (.int z4), .inl (.int (nI 0)), .inl (.int (nI o)), .inr (some (shP h (4, 0, 0)))] by
      rw [← ez4] at K521
      refine J_if_eq O.mo (tgt := 530) dL_refuses_521 (by decide) (fun hc37 => ?_) (fun hc37 => ?_)
      · refine J_iconst O.mo (v := nI 4) dL_refuses_530 (by decide) ?_
        refine J_iload_n O.mo dL_refuses_531 9 rfl ?_
        refine J_iadd O.mo dL_refuses_532 ?_
        rw [if_pos hc37] at K521
        exact K521
      · refine J_iconst O.mo (v := -1) dL_refuses_524 (by decide) ?_
        refine J_iload_n O.mo dL_refuses_525 9 rfl ?_
        refine J_isub O.mo dL_refuses_526 ?_
        refine J_goto O.mo (tgt := 533) dL_refuses_527 (by decide) ?_
        rw [if_neg hc37] at K521
        exact K521
    refine J_iconst O.mo (v := nI 0) dL_refuses_533 (by decide) ?_
    refine J_askW (s := s) (h := h) (A := 31) (D := 186) (da := 1) (db := 6) O hKP hh hs (l10_0 h0) (as := [.inr (some (4, 0, 0)), .inl (.int (nI o)), .inl (.int (nI 0)), .inl (.int z4), .inl (.int (nI 0))]) (rest := []) (r := some (.inl (.int (-2000000002)))) (c_L_op hfl h0 (na_instruct hR ho (insX2 fz4)) (fun e z => by cases z; decide)) trivial Cov_add rfl rfl mw768 mw769 mw770 mw771 pd_L_op rfl (by decide) rfl (Nat.le_of_ble_eq_true rfl) (sk_v (sk_v (sk_v (sk_v (sk_v (sk_v (sk_v (sk_p (sM_h hh) (sk_p sM_n (sk_v sk_0)))))))))) sm_0 dL_refuses_534 ?_
    show J X B (sp s (32) (192)) 537 [(9, .inl (.int (kV κ 5 0 1 (55 * o + 49)))), (8, .inl (.int mv)), (7, .inl (.int (nI o))), (6, .inl (.int (nI 1))), (5, .inl (.int vh)), (4, .inl (.int vg)), (3, .inl (.int low)), (0, .inr (some (shP h (4, 0, 0)))), (1, .inr (some (2, 0, 0))), (2, .inl (.int (nI x)))] [.inl (.int (-2000000002))]
    refine J_ldcM O mw652 dL_refuses_537 ?_
    refine J_icmp_ne O.mo (tgt := 992) dL_refuses_539 (by decide) (fun hc => absurd (rfl) hc) (fun _ => ?_)
    refine J_aload_n O.mo dL_refuses_542 7 rfl ?_
    refine J_iload O.mo dL_refuses_543 2 rfl ?_
    refine J_iconst O.mo (v := nI 0) dL_refuses_545 (by decide) ?_
    refine J_iconst O.mo (v := nI 0) dL_refuses_546 (by decide) ?_
    refine J_iload_n O.mo dL_refuses_547 6 rfl ?_
    suffices K548 : J X B (sp s (32) (192)) 562 [(9, .inl (.int (kV κ 5 0 1 (55 * o + 49)))), (8, .inl (.int mv)), (7, .inl (.int (nI o))), (6, .inl (.int (nI 1))), (5, .inl (.int vh)), (4, .inl (.int vg)), (3, .inl (.int low)), (0, .inr (some (shP h (4, 0, 0)))), (1, .inr (some (2, 0, 0))), (2, .inl (.int (nI x)))] [.inl (.int zm), .inl (.int (nI 0)), .inl (.int (nI 0)), .inl (.int (nI o)), .inr (some (shP h (4, 0, 0)))] by
      rw [← ezm] at K548
      refine J_if_eq O.mo (tgt := 557) dL_refuses_548 (by decide) (fun hc41 => ?_) (fun hc41 => ?_)
      · refine J_sipush O.mo (v := nI 10000) dL_refuses_557 (by decide) ?_
        refine J_iload_n O.mo dL_refuses_560 9 rfl ?_
        refine J_iadd O.mo dL_refuses_561 ?_
        rw [if_pos hc41] at K548
        exact K548
      · refine J_iconst O.mo (v := -1) dL_refuses_551 (by decide) ?_
        refine J_iload_n O.mo dL_refuses_552 9 rfl ?_
        refine J_isub O.mo dL_refuses_553 ?_
        refine J_goto O.mo (tgt := 562) dL_refuses_554 (by decide) ?_
        rw [if_neg hc41] at K548
        exact K548
    refine J_askW (s := s) (h := h) (A := 32) (D := 192) (da := 1) (db := 6) O hKP hh hs (l10_0 h0) (as := [.inr (some (4, 0, 0)), .inl (.int (nI o)), .inl (.int (nI 0)), .inl (.int (nI 0)), .inl (.int zm)]) (rest := []) (r := some (.inl (.int (-2000000002)))) (c_L_op hfl h0 (na_instruct hR ho (insX3 fzm)) (fun e z => by cases z; decide)) trivial Cov_add rfl rfl mw768 mw769 mw770 mw771 pd_L_op rfl (by decide) rfl (Nat.le_of_ble_eq_true rfl) (sk_v (sk_v (sk_v (sk_v (sk_v (sk_v (sk_v (sk_p (sM_h hh) (sk_p sM_n (sk_v sk_0)))))))))) sm_0 dL_refuses_562 ?_
    show J X B (sp s (33) (198)) 565 [(9, .inl (.int (kV κ 5 0 1 (55 * o + 49)))), (8, .inl (.int mv)), (7, .inl (.int (nI o))), (6, .inl (.int (nI 1))), (5, .inl (.int vh)), (4, .inl (.int vg)), (3, .inl (.int low)), (0, .inr (some (shP h (4, 0, 0)))), (1, .inr (some (2, 0, 0))), (2, .inl (.int (nI x)))] [.inl (.int (-2000000002))]
    refine J_ldcM O mw652 dL_refuses_565 ?_
    refine J_icmp_ne O.mo (tgt := 992) dL_refuses_567 (by decide) (fun hc => absurd (rfl) hc) (fun _ => ?_)
    refine J_aload_n O.mo dL_refuses_570 7 rfl ?_
    refine J_iload O.mo dL_refuses_571 2 rfl ?_
    refine J_bipush O.mo (v := nI 7) dL_refuses_573 (by decide) ?_
    refine J_askW (s := s) (h := h) (A := 33) (D := 198) (da := 0) (db := 0) O hKP hh hs (l10_0 h0) (as := [.inr (some (4, 0, 0)), .inl (.int (nI o)), .inl (.int (nI 7))]) (rest := []) (r := some (.inl (.int (kV κ 5 0 24 o)))) (c_L_of hfl h0 (qa_of7 hR ho) (fun e z => by cases z)) trivial Cov.rf rfl rfl mw825 mw826 mw770 mw827 pd_L_of rfl (by decide) rfl (Nat.le_of_ble_eq_true rfl) (sk_v (sk_v (sk_v (sk_v (sk_v (sk_v (sk_v (sk_p (sM_h hh) (sk_p sM_n (sk_v sk_0)))))))))) sm_0 dL_refuses_575 ?_
    show J X B (sp s (33) (198)) 578 [(9, .inl (.int (kV κ 5 0 1 (55 * o + 49)))), (8, .inl (.int mv)), (7, .inl (.int (nI o))), (6, .inl (.int (nI 1))), (5, .inl (.int vh)), (4, .inl (.int vg)), (3, .inl (.int low)), (0, .inr (some (shP h (4, 0, 0)))), (1, .inr (some (2, 0, 0))), (2, .inl (.int (nI x)))] [.inl (.int (kV κ 5 0 24 o))]
    suffices K578 : J X B (sp s 34 204) 596 [(9, .inl (.int (kV κ 5 0 1 (55 * o + 49)))), (8, .inl (.int mv)), (7, .inl (.int (nI o))), (6, .inl (.int (nI 1))), (5, .inl (.int vh)), (4, .inl (.int vg)), (3, .inl (.int low)), (0, .inr (some (shP h (4, 0, 0)))), (1, .inr (some (2, 0, 0))), (2, .inl (.int (nI x)))] [] by
      refine J_if_eq O.mo (tgt := 596) dL_refuses_578 (by decide) (fun hc42 => ?_) (fun hc42 => ?_)
      · skip
        refine J_sp O (a' := 34) (b' := 204) (by decide) (by decide) ?_
        exact K578
      · refine J_aload_n O.mo dL_refuses_581 7 rfl ?_
        refine J_iload O.mo dL_refuses_582 2 rfl ?_
        refine J_bipush O.mo (v := nI 13) dL_refuses_584 (by decide) ?_
        refine J_iconst O.mo (v := nI 0) dL_refuses_586 (by decide) ?_
        refine J_iconst O.mo (v := nI 0) dL_refuses_587 (by decide) ?_
        refine J_askW (s := s) (h := h) (A := 33) (D := 198) (da := 1) (db := 6) O hKP hh hs (l10_0 h0) (as := [.inr (some (4, 0, 0)), .inl (.int (nI o)), .inl (.int (nI 13)), .inl (.int (nI 0)), .inl (.int (nI 0))]) (rest := []) (r := some (.inl (.int (-2000000003)))) (c_L_op hfl h0 (no_instruct (k := 13) hR ho (by decide) (Or.inl rfl) (Or.inl rfl) hc42) (fun e z => by cases z; decide)) trivial Cov_add rfl rfl mw768 mw769 mw770 mw771 pd_L_op rfl (by decide) rfl (Nat.le_of_ble_eq_true rfl) (sk_v (sk_v (sk_v (sk_v (sk_v (sk_v (sk_v (sk_p (sM_h hh) (sk_p sM_n (sk_v sk_0)))))))))) sm_0 dL_refuses_588 ?_
        show J X B (sp s (34) (204)) 591 [(9, .inl (.int (kV κ 5 0 1 (55 * o + 49)))), (8, .inl (.int mv)), (7, .inl (.int (nI o))), (6, .inl (.int (nI 1))), (5, .inl (.int vh)), (4, .inl (.int vg)), (3, .inl (.int low)), (0, .inr (some (shP h (4, 0, 0)))), (1, .inr (some (2, 0, 0))), (2, .inl (.int (nI x)))] [.inl (.int (-2000000003))]
        refine J_ldcM O mw655 dL_refuses_591 ?_
        refine J_icmp_ne O.mo (tgt := 992) dL_refuses_593 (by decide) (fun hc => absurd (rfl) hc) (fun _ => ?_)
        exact K578
    refine J_aload_n O.mo dL_refuses_596 7 rfl ?_
    refine J_iload O.mo dL_refuses_597 2 rfl ?_
    refine J_iload_n O.mo dL_refuses_599 6 rfl ?_
    suffices K600 : J X B (sp s (34) (204)) 611 [(9, .inl (.int (kV κ 5 0 1 (55 * o + 49)))), (8, .inl (.int mv)), (7, .inl (.int (nI o))), (6, .inl (.int (nI 1))), (5, .inl (.int vh)), (4, .inl (.int vg)), (3, .inl (.int low)), (0, .inr (some (shP h (4, 0, 0)))), (1, .inr (some (2, 0, 0))), (2, .inl (.int (nI x)))] [.inl (.int y3), .inl (.int (nI o)), .inr (some (shP h (4, 0, 0)))] by
      rw [← ey3] at K600
      refine J_if_eq O.mo (tgt := 608) dL_refuses_600 (by decide) (fun hc46 => ?_) (fun hc46 => ?_)
      · refine J_iconst O.mo (v := nI 4) dL_refuses_608 (by decide) ?_
        refine J_iload_n O.mo dL_refuses_609 9 rfl ?_
        refine J_iadd O.mo dL_refuses_610 ?_
        rw [if_pos hc46] at K600
        exact K600
      · refine J_iload_n O.mo dL_refuses_603 9 rfl ?_
        refine J_inegM O.mo dL_refuses_604 ?_
        refine J_goto O.mo (tgt := 611) dL_refuses_605 (by decide) ?_
        rw [if_neg hc46] at K600
        exact K600
    refine J_askW (s := s) (h := h) (A := 34) (D := 204) (da := 1) (db := 6) O hKP hh hs (l10_0 h0) (as := [.inr (some (4, 0, 0)), .inl (.int (nI o)), .inl (.int y3)]) (rest := []) (r := some (.inl (.int (-2000000002)))) (c_L_scale hfl h0 (na_scale hR ho fy3) (fun e z => by cases z; decide)) trivial Cov_add rfl rfl mw775 mw776 mw770 mw777 pd_L_scale rfl (by decide) rfl (Nat.le_of_ble_eq_true rfl) (sk_v (sk_v (sk_v (sk_v (sk_v (sk_v (sk_v (sk_p (sM_h hh) (sk_p sM_n (sk_v sk_0)))))))))) sm_0 dL_refuses_611 ?_
    show J X B (sp s (35) (210)) 614 [(9, .inl (.int (kV κ 5 0 1 (55 * o + 49)))), (8, .inl (.int mv)), (7, .inl (.int (nI o))), (6, .inl (.int (nI 1))), (5, .inl (.int vh)), (4, .inl (.int vg)), (3, .inl (.int low)), (0, .inr (some (shP h (4, 0, 0)))), (1, .inr (some (2, 0, 0))), (2, .inl (.int (nI x)))] [.inl (.int (-2000000002))]
    refine J_ldcM O mw652 dL_refuses_614 ?_
    refine J_icmp_ne O.mo (tgt := 992) dL_refuses_616 (by decide) (fun hc => absurd (rfl) hc) (fun _ => ?_)
    refine J_aload_n O.mo dL_refuses_619 7 rfl ?_
    refine J_iload O.mo dL_refuses_620 2 rfl ?_
    refine J_iload_n O.mo dL_refuses_622 6 rfl ?_
    suffices K623 : J X B (sp s (35) (210)) 637 [(9, .inl (.int (kV κ 5 0 1 (55 * o + 49)))), (8, .inl (.int mv)), (7, .inl (.int (nI o))), (6, .inl (.int (nI 1))), (5, .inl (.int vh)), (4, .inl (.int vg)), (3, .inl (.int low)), (0, .inr (some (shP h (4, 0, 0)))), (1, .inr (some (2, 0, 0))), (2, .inl (.int (nI x)))] [.inl (.int zm), .inl (.int (nI o)), .inr (some (shP h (4, 0, 0)))] by
      rw [← ezm] at K623
      refine J_if_eq O.mo (tgt := 632) dL_refuses_623 (by decide) (fun hc50 => ?_) (fun hc50 => ?_)
      · refine J_sipush O.mo (v := nI 10000) dL_refuses_632 (by decide) ?_
        refine J_iload_n O.mo dL_refuses_635 9 rfl ?_
        refine J_iadd O.mo dL_refuses_636 ?_
        rw [if_pos hc50] at K623
        exact K623
      · refine J_iconst O.mo (v := -1) dL_refuses_626 (by decide) ?_
        refine J_iload_n O.mo dL_refuses_627 9 rfl ?_
        refine J_isub O.mo dL_refuses_628 ?_
        refine J_goto O.mo (tgt := 637) dL_refuses_629 (by decide) ?_
        rw [if_neg hc50] at K623
        exact K623
    refine J_askW (s := s) (h := h) (A := 35) (D := 210) (da := 1) (db := 6) O hKP hh hs (l10_0 h0) (as := [.inr (some (4, 0, 0)), .inl (.int (nI o)), .inl (.int zm)]) (rest := []) (r := some (.inl (.int (-2000000002)))) (c_L_input hfl h0 (na_input hR ho fzm) (fun e z => by cases z; decide)) trivial Cov_add rfl rfl mw778 mw779 mw770 mw780 pd_L_input rfl (by decide) rfl (Nat.le_of_ble_eq_true rfl) (sk_v (sk_v (sk_v (sk_v (sk_v (sk_v (sk_v (sk_p (sM_h hh) (sk_p sM_n (sk_v sk_0)))))))))) sm_0 dL_refuses_637 ?_
    show J X B (sp s (36) (216)) 640 [(9, .inl (.int (kV κ 5 0 1 (55 * o + 49)))), (8, .inl (.int mv)), (7, .inl (.int (nI o))), (6, .inl (.int (nI 1))), (5, .inl (.int vh)), (4, .inl (.int vg)), (3, .inl (.int low)), (0, .inr (some (shP h (4, 0, 0)))), (1, .inr (some (2, 0, 0))), (2, .inl (.int (nI x)))] [.inl (.int (-2000000002))]
    refine J_ldcM O mw652 dL_refuses_640 ?_
    refine J_icmp_ne O.mo (tgt := 992) dL_refuses_642 (by decide) (fun hc => absurd (rfl) hc) (fun _ => ?_)
    refine J_iload O.mo dL_refuses_645 0 rfl ?_
    refine J_iconst O.mo (v := nI 2) dL_refuses_647 (by decide) ?_
    suffices K648 : J X B (sp s 37 222) 662 [(9, .inl (.int (kV κ 5 0 1 (55 * o + 49)))), (8, .inl (.int mv)), (7, .inl (.int (nI o))), (6, .inl (.int (nI 1))), (5, .inl (.int vh)), (4, .inl (.int vg)), (3, .inl (.int low)), (0, .inr (some (shP h (4, 0, 0)))), (1, .inr (some (2, 0, 0))), (2, .inl (.int (nI x)))] [] by
      refine J_icmp_lt O.mo (tgt := 662) dL_refuses_648 (by decide) (fun hc51 => ?_) (fun hc51 => ?_)
      · skip
        refine J_sp O (a' := 37) (b' := 222) (by decide) (by decide) ?_
        exact K648
      · refine J_aload_n O.mo dL_refuses_651 7 rfl ?_
        refine J_iload O.mo dL_refuses_652 2 rfl ?_
        refine J_askW (s := s) (h := h) (A := 36) (D := 216) (da := 1) (db := 6) O hKP hh hs (l10_0 h0) (as := [.inr (some (4, 0, 0)), .inl (.int (nI o))]) (rest := []) (r := some (.inl (.int (-2000000003)))) (c_L_send hfl h0 (no_send hR ho hc51) (fun e z => by cases z; decide)) trivial Cov_add rfl rfl mw781 mw782 mw770 mw783 pd_L_send rfl (by decide) rfl (Nat.le_of_ble_eq_true rfl) (sk_v (sk_v (sk_v (sk_v (sk_v (sk_v (sk_v (sk_p (sM_h hh) (sk_p sM_n (sk_v sk_0)))))))))) sm_0 dL_refuses_654 ?_
        show J X B (sp s (37) (222)) 657 [(9, .inl (.int (kV κ 5 0 1 (55 * o + 49)))), (8, .inl (.int mv)), (7, .inl (.int (nI o))), (6, .inl (.int (nI 1))), (5, .inl (.int vh)), (4, .inl (.int vg)), (3, .inl (.int low)), (0, .inr (some (shP h (4, 0, 0)))), (1, .inr (some (2, 0, 0))), (2, .inl (.int (nI x)))] [.inl (.int (-2000000003))]
        refine J_ldcM O mw655 dL_refuses_657 ?_
        refine J_icmp_ne O.mo (tgt := 992) dL_refuses_659 (by decide) (fun hc => absurd (rfl) hc) (fun _ => ?_)
        exact K648
    refine J_iload O.mo dL_refuses_662 1 rfl ?_
    suffices K664 : J X B (sp s 39 234) 729 [(9, .inl (.int (kV κ 5 0 1 (55 * o + 49)))), (8, .inl (.int mv)), (7, .inl (.int (nI o))), (6, .inl (.int (nI 1))), (5, .inl (.int vh)), (4, .inl (.int vg)), (3, .inl (.int low)), (0, .inr (some (shP h (4, 0, 0)))), (1, .inr (some (2, 0, 0))), (2, .inl (.int (nI x)))] [] by
      refine J_if_eq O.mo (tgt := 705) dL_refuses_664 (by decide) (fun hc52 => ?_) (fun hc52 => ?_)
      · have h30 : kV κ 5 0 30 o = 0 := by rcases hmv with ⟨_, y⟩ | ⟨y, _⟩; exact y; exact absurd hc52 y
        refine J_aload_n O.mo dL_refuses_705 7 rfl ?_
        refine J_iload O.mo dL_refuses_706 2 rfl ?_
        refine J_iconst O.mo (v := nI 1) dL_refuses_708 (by decide) ?_
        refine J_askW (s := s) (h := h) (A := 37) (D := 222) (da := 1) (db := 6) O hKP hh hs (l10_0 h0) (as := [.inr (some (4, 0, 0)), .inl (.int (nI o)), .inl (.int (nI 1))]) (rest := []) (r := some (.inl (.int (-2000000003)))) (c_L_round hfl h0 (no_round hR ho (l := 1) (by decide) (by decide) h30) (fun e z => by cases z; decide)) trivial Cov_add rfl rfl mw793 mw794 mw770 mw795 pd_L_round rfl (by decide) rfl (Nat.le_of_ble_eq_true rfl) (sk_v (sk_v (sk_v (sk_v (sk_v (sk_v (sk_v (sk_p (sM_h hh) (sk_p sM_n (sk_v sk_0)))))))))) sm_0 dL_refuses_709 ?_
        show J X B (sp s (38) (228)) 712 [(9, .inl (.int (kV κ 5 0 1 (55 * o + 49)))), (8, .inl (.int mv)), (7, .inl (.int (nI o))), (6, .inl (.int (nI 1))), (5, .inl (.int vh)), (4, .inl (.int vg)), (3, .inl (.int low)), (0, .inr (some (shP h (4, 0, 0)))), (1, .inr (some (2, 0, 0))), (2, .inl (.int (nI x)))] [.inl (.int (-2000000003))]
        refine J_ldcM O mw655 dL_refuses_712 ?_
        refine J_icmp_ne O.mo (tgt := 992) dL_refuses_714 (by decide) (fun hc => absurd (rfl) hc) (fun _ => ?_)
        refine J_aload_n O.mo dL_refuses_717 7 rfl ?_
        refine J_iload O.mo dL_refuses_718 2 rfl ?_
        refine J_iload_n O.mo dL_refuses_720 6 rfl ?_
        refine J_askW (s := s) (h := h) (A := 38) (D := 228) (da := 1) (db := 6) O hKP hh hs (l10_0 h0) (as := [.inr (some (4, 0, 0)), .inl (.int (nI o)), .inl (.int low)]) (rest := []) (r := some (.inl (.int (-2000000003)))) (c_L_land hfl h0 (no_land hR ho h30) (fun e z => by cases z; decide)) trivial Cov_add rfl rfl mw796 mw797 mw770 mw798 pd_L_land rfl (by decide) rfl (Nat.le_of_ble_eq_true rfl) (sk_v (sk_v (sk_v (sk_v (sk_v (sk_v (sk_v (sk_p (sM_h hh) (sk_p sM_n (sk_v sk_0)))))))))) sm_0 dL_refuses_721 ?_
        show J X B (sp s (39) (234)) 724 [(9, .inl (.int (kV κ 5 0 1 (55 * o + 49)))), (8, .inl (.int mv)), (7, .inl (.int (nI o))), (6, .inl (.int (nI 1))), (5, .inl (.int vh)), (4, .inl (.int vg)), (3, .inl (.int low)), (0, .inr (some (shP h (4, 0, 0)))), (1, .inr (some (2, 0, 0))), (2, .inl (.int (nI x)))] [.inl (.int (-2000000003))]
        refine J_ldcM O mw655 dL_refuses_724 ?_
        refine J_icmp_ne O.mo (tgt := 992) dL_refuses_726 (by decide) (fun hc => absurd (rfl) hc) (fun _ => ?_)
        exact K664
      · have h30 : ¬ kV κ 5 0 30 o = 0 := by rcases hmv with ⟨y, _⟩ | ⟨_, y⟩; exact absurd y hc52; exact y
        refine J_aload_n O.mo dL_refuses_667 7 rfl ?_
        refine J_iload O.mo dL_refuses_668 2 rfl ?_
        refine J_askW (s := s) (h := h) (A := 37) (D := 222) (da := 1) (db := 6) O hKP hh hs (l10_0 h0) (as := [.inr (some (4, 0, 0)), .inl (.int (nI o))]) (rest := []) (r := some (.inl (.int (-2000000003)))) (c_L_move hfl h0 (no_move hR ho h30) (fun e z => by cases z; decide)) trivial Cov_add rfl rfl mw790 mw791 mw770 mw792 pd_L_move rfl (by decide) rfl (Nat.le_of_ble_eq_true rfl) (sk_v (sk_v (sk_v (sk_v (sk_v (sk_v (sk_v (sk_p (sM_h hh) (sk_p sM_n (sk_v sk_0)))))))))) sm_0 dL_refuses_670 ?_
        show J X B (sp s (38) (228)) 673 [(9, .inl (.int (kV κ 5 0 1 (55 * o + 49)))), (8, .inl (.int mv)), (7, .inl (.int (nI o))), (6, .inl (.int (nI 1))), (5, .inl (.int vh)), (4, .inl (.int vg)), (3, .inl (.int low)), (0, .inr (some (shP h (4, 0, 0)))), (1, .inr (some (2, 0, 0))), (2, .inl (.int (nI x)))] [.inl (.int (-2000000003))]
        refine J_ldcM O mw655 dL_refuses_673 ?_
        refine J_icmp_ne O.mo (tgt := 992) dL_refuses_675 (by decide) (fun hc => absurd (rfl) hc) (fun _ => ?_)
        refine J_aload_n O.mo dL_refuses_678 7 rfl ?_
        refine J_iload O.mo dL_refuses_679 2 rfl ?_
        refine J_iload_n O.mo dL_refuses_681 6 rfl ?_
        suffices K682 : J X B (sp s (38) (228)) 694 [(9, .inl (.int (kV κ 5 0 1 (55 * o + 49)))), (8, .inl (.int mv)), (7, .inl (.int (nI o))), (6, .inl (.int (nI 1))), (5, .inl (.int vh)), (4, .inl (.int vg)), (3, .inl (.int low)), (0, .inr (some (shP h (4, 0, 0)))), (1, .inr (some (2, 0, 0))), (2, .inl (.int (nI x)))] [.inl (.int y8), .inl (.int (nI o)), .inr (some (shP h (4, 0, 0)))] by
          rw [← ey8] at K682
          refine J_if_eq O.mo (tgt := 690) dL_refuses_682 (by decide) (fun hc56 => ?_) (fun hc56 => ?_)
          · refine J_bipush O.mo (v := nI 9) dL_refuses_690 (by decide) ?_
            refine J_iload_n O.mo dL_refuses_692 9 rfl ?_
            refine J_iadd O.mo dL_refuses_693 ?_
            rw [if_pos hc56] at K682
            exact K682
          · refine J_iload_n O.mo dL_refuses_685 9 rfl ?_
            refine J_inegM O.mo dL_refuses_686 ?_
            refine J_goto O.mo (tgt := 694) dL_refuses_687 (by decide) ?_
            rw [if_neg hc56] at K682
            exact K682
        refine J_askW (s := s) (h := h) (A := 38) (D := 228) (da := 1) (db := 6) O hKP hh hs (l10_0 h0) (as := [.inr (some (4, 0, 0)), .inl (.int (nI o)), .inl (.int y8)]) (rest := []) (r := some (.inl (.int (-2000000002)))) (c_L_round hfl h0 (na_round hR ho fy8) (fun e z => by cases z; decide)) trivial Cov_add rfl rfl mw793 mw794 mw770 mw795 pd_L_round rfl (by decide) rfl (Nat.le_of_ble_eq_true rfl) (sk_v (sk_v (sk_v (sk_v (sk_v (sk_v (sk_v (sk_p (sM_h hh) (sk_p sM_n (sk_v sk_0)))))))))) sm_0 dL_refuses_694 ?_
        show J X B (sp s (39) (234)) 697 [(9, .inl (.int (kV κ 5 0 1 (55 * o + 49)))), (8, .inl (.int mv)), (7, .inl (.int (nI o))), (6, .inl (.int (nI 1))), (5, .inl (.int vh)), (4, .inl (.int vg)), (3, .inl (.int low)), (0, .inr (some (shP h (4, 0, 0)))), (1, .inr (some (2, 0, 0))), (2, .inl (.int (nI x)))] [.inl (.int (-2000000002))]
        refine J_ldcM O mw652 dL_refuses_697 ?_
        refine J_icmp_ne O.mo (tgt := 992) dL_refuses_699 (by decide) (fun hc => absurd (rfl) hc) (fun _ => ?_)
        refine J_goto O.mo (tgt := 729) dL_refuses_702 (by decide) ?_
        exact K664
    refine J_iload O.mo dL_refuses_729 0 rfl ?_
    refine J_iconst O.mo (v := nI 3) dL_refuses_731 (by decide) ?_
    suffices K732 : J X B (sp s 41 246) 758 [(9, .inl (.int (kV κ 5 0 1 (55 * o + 49)))), (8, .inl (.int mv)), (7, .inl (.int (nI o))), (6, .inl (.int (nI 1))), (5, .inl (.int vh)), (4, .inl (.int vg)), (3, .inl (.int low)), (0, .inr (some (shP h (4, 0, 0)))), (1, .inr (some (2, 0, 0))), (2, .inl (.int (nI x)))] [] by
      refine J_icmp_ne O.mo (tgt := 758) dL_refuses_732 (by decide) (fun hc57 => ?_) (fun hc57 => ?_)
      · skip
        refine J_sp O (a' := 41) (b' := 246) (by decide) (by decide) ?_
        exact K732
      · refine J_aload_n O.mo dL_refuses_735 7 rfl ?_
        refine J_iload O.mo dL_refuses_736 2 rfl ?_
        refine J_askW (s := s) (h := h) (A := 39) (D := 234) (da := 1) (db := 6) O hKP hh hs (l10_0 h0) (as := [.inr (some (4, 0, 0)), .inl (.int (nI o))]) (rest := []) (r := some (.inl (.int (-2000000003)))) (c_L_snapshot hfl h0 hH hRN (no_snapshot hR ho hc57) (fun e z => by cases z; decide)) trivial Cov_add rfl rfl mw814 mw815 mw770 mw816 pd_L_snapshot rfl (by decide) rfl (Nat.le_of_ble_eq_true rfl) (sk_v (sk_v (sk_v (sk_v (sk_v (sk_v (sk_v (sk_p (sM_h hh) (sk_p sM_n (sk_v sk_0)))))))))) sm_0 dL_refuses_738 ?_
        show J X B (sp s (40) (240)) 741 [(9, .inl (.int (kV κ 5 0 1 (55 * o + 49)))), (8, .inl (.int mv)), (7, .inl (.int (nI o))), (6, .inl (.int (nI 1))), (5, .inl (.int vh)), (4, .inl (.int vg)), (3, .inl (.int low)), (0, .inr (some (shP h (4, 0, 0)))), (1, .inr (some (2, 0, 0))), (2, .inl (.int (nI x)))] [.inl (.int (-2000000003))]
        refine J_ldcM O mw655 dL_refuses_741 ?_
        refine J_icmp_ne O.mo (tgt := 992) dL_refuses_743 (by decide) (fun hc => absurd (rfl) hc) (fun _ => ?_)
        refine J_aload_n O.mo dL_refuses_746 7 rfl ?_
        refine J_iload O.mo dL_refuses_747 2 rfl ?_
        refine J_iload_n O.mo dL_refuses_749 6 rfl ?_
        refine J_askW (s := s) (h := h) (A := 40) (D := 240) (da := 1) (db := 6) O hKP hh hs (l10_0 h0) (as := [.inr (some (4, 0, 0)), .inl (.int (nI o)), .inl (.int low)]) (rest := []) (r := some (.inl (.int (-2000000003)))) (c_L_follow hfl h0 (no_follow hR ho hc57) (fun e z => by cases z; decide)) trivial Cov_add rfl rfl mw802 mw803 mw770 mw804 pd_L_follow rfl (by decide) rfl (Nat.le_of_ble_eq_true rfl) (sk_v (sk_v (sk_v (sk_v (sk_v (sk_v (sk_v (sk_p (sM_h hh) (sk_p sM_n (sk_v sk_0)))))))))) sm_0 dL_refuses_750 ?_
        show J X B (sp s (41) (246)) 753 [(9, .inl (.int (kV κ 5 0 1 (55 * o + 49)))), (8, .inl (.int mv)), (7, .inl (.int (nI o))), (6, .inl (.int (nI 1))), (5, .inl (.int vh)), (4, .inl (.int vg)), (3, .inl (.int low)), (0, .inr (some (shP h (4, 0, 0)))), (1, .inr (some (2, 0, 0))), (2, .inl (.int (nI x)))] [.inl (.int (-2000000003))]
        refine J_ldcM O mw655 dL_refuses_753 ?_
        refine J_icmp_ne O.mo (tgt := 992) dL_refuses_755 (by decide) (fun hc => absurd (rfl) hc) (fun _ => ?_)
        exact K732
    refine J_aload_n O.mo dL_refuses_758 7 rfl ?_
    refine J_iload O.mo dL_refuses_759 2 rfl ?_
    refine J_iload_n O.mo dL_refuses_761 6 rfl ?_
    suffices K762 : J X B (sp s (41) (246)) 776 [(9, .inl (.int (kV κ 5 0 1 (55 * o + 49)))), (8, .inl (.int mv)), (7, .inl (.int (nI o))), (6, .inl (.int (nI 1))), (5, .inl (.int vh)), (4, .inl (.int vg)), (3, .inl (.int low)), (0, .inr (some (shP h (4, 0, 0)))), (1, .inr (some (2, 0, 0))), (2, .inl (.int (nI x)))] [.inl (.int vs), .inl (.int (nI o)), .inr (some (shP h (4, 0, 0)))] by
      rw [← evs] at K762
      refine J_if_eq O.mo (tgt := 771) dL_refuses_762 (by decide) (fun hc61 => ?_) (fun hc61 => ?_)
      · refine J_aload_n O.mo dL_refuses_771 8 rfl ?_
        refine J_iconst O.mo (v := nI 1) dL_refuses_772 (by decide) ?_
        refine J_nldE (s2 := (sp s (41) (246))) O ha (nI_in (c := 1) (N := 12) (by decide) (by decide)) (v := nI ns) (by rw [nI_cl (n := 1) (by decide)]; exact a1) dL_refuses_773 ?_
        refine J_iload_n O.mo dL_refuses_774 9 rfl ?_
        refine J_iadd O.mo dL_refuses_775 ?_
        rw [if_pos hc61] at K762
        exact K762
      · refine J_iconst O.mo (v := -1) dL_refuses_765 (by decide) ?_
        refine J_iload_n O.mo dL_refuses_766 9 rfl ?_
        refine J_isub O.mo dL_refuses_767 ?_
        refine J_goto O.mo (tgt := 776) dL_refuses_768 (by decide) ?_
        rw [if_neg hc61] at K762
        exact K762
    refine J_askW (s := s) (h := h) (A := 41) (D := 246) (da := 1) (db := 6) O hKP hh hs (l10_0 h0) (as := [.inr (some (4, 0, 0)), .inl (.int (nI o)), .inl (.int vs)]) (rest := []) (r := some (.inl (.int (-2000000001)))) (c_L_restore hfl h0 (ns_restore hR ho fvs) (fun e z => by cases z; decide)) trivial Cov_add rfl rfl mw799 mw800 mw770 mw801 pd_L_restore rfl (by decide) rfl (Nat.le_of_ble_eq_true rfl) (sk_v (sk_v (sk_v (sk_v (sk_v (sk_v (sk_v (sk_p (sM_h hh) (sk_p sM_n (sk_v sk_0)))))))))) sm_0 dL_refuses_776 ?_
    show J X B (sp s (42) (252)) 779 [(9, .inl (.int (kV κ 5 0 1 (55 * o + 49)))), (8, .inl (.int mv)), (7, .inl (.int (nI o))), (6, .inl (.int (nI 1))), (5, .inl (.int vh)), (4, .inl (.int vg)), (3, .inl (.int low)), (0, .inr (some (shP h (4, 0, 0)))), (1, .inr (some (2, 0, 0))), (2, .inl (.int (nI x)))] [.inl (.int (-2000000001))]
    refine J_ldcM O mw649 dL_refuses_779 ?_
    refine J_icmp_ne O.mo (tgt := 992) dL_refuses_781 (by decide) (fun hc => absurd (rfl) hc) (fun _ => ?_)
    refine J_aload_n O.mo dL_refuses_784 7 rfl ?_
    refine J_iload O.mo dL_refuses_785 2 rfl ?_
    refine J_iload_n O.mo dL_refuses_787 6 rfl ?_
    suffices K788 : J X B (sp s (42) (252)) 801 [(9, .inl (.int (kV κ 5 0 1 (55 * o + 49)))), (8, .inl (.int mv)), (7, .inl (.int (nI o))), (6, .inl (.int (nI 1))), (5, .inl (.int vh)), (4, .inl (.int vg)), (3, .inl (.int low)), (0, .inr (some (shP h (4, 0, 0)))), (1, .inr (some (2, 0, 0))), (2, .inl (.int (nI x)))] [.inl (.int z11), .inl (.int (nI o)), .inr (some (shP h (4, 0, 0)))] by
      rw [← ez11] at K788
      refine J_if_eq O.mo (tgt := 797) dL_refuses_788 (by decide) (fun hc65 => ?_) (fun hc65 => ?_)
      · refine J_bipush O.mo (v := nI 11) dL_refuses_797 (by decide) ?_
        refine J_iload_n O.mo dL_refuses_799 9 rfl ?_
        refine J_iadd O.mo dL_refuses_800 ?_
        rw [if_pos hc65] at K788
        exact K788
      · refine J_iconst O.mo (v := -1) dL_refuses_791 (by decide) ?_
        refine J_iload_n O.mo dL_refuses_792 9 rfl ?_
        refine J_isub O.mo dL_refuses_793 ?_
        refine J_goto O.mo (tgt := 801) dL_refuses_794 (by decide) ?_
        rw [if_neg hc65] at K788
        exact K788
    refine J_askW (s := s) (h := h) (A := 42) (D := 252) (da := 1) (db := 6) O hKP hh hs (l10_0 h0) (as := [.inr (some (4, 0, 0)), .inl (.int (nI o)), .inl (.int z11)]) (rest := []) (r := some (.inl (.int (-2000000002)))) (c_L_of hfl h0 (na_of hR ho (vp_not (n := 10) (by decide) fz11)) (fun e z => by cases z; decide)) trivial Cov_add rfl rfl mw825 mw826 mw770 mw827 pd_L_of rfl (by decide) rfl (Nat.le_of_ble_eq_true rfl) (sk_v (sk_v (sk_v (sk_v (sk_v (sk_v (sk_v (sk_p (sM_h hh) (sk_p sM_n (sk_v sk_0)))))))))) sm_0 dL_refuses_801 ?_
    show J X B (sp s (43) (258)) 804 [(9, .inl (.int (kV κ 5 0 1 (55 * o + 49)))), (8, .inl (.int mv)), (7, .inl (.int (nI o))), (6, .inl (.int (nI 1))), (5, .inl (.int vh)), (4, .inl (.int vg)), (3, .inl (.int low)), (0, .inr (some (shP h (4, 0, 0)))), (1, .inr (some (2, 0, 0))), (2, .inl (.int (nI x)))] [.inl (.int (-2000000002))]
    refine J_ldcM O mw652 dL_refuses_804 ?_
    refine J_icmp_ne O.mo (tgt := 992) dL_refuses_806 (by decide) (fun hc => absurd (rfl) hc) (fun _ => ?_)
    refine J_aload_n O.mo dL_refuses_809 7 rfl ?_
    refine J_iload O.mo dL_refuses_810 2 rfl ?_
    refine J_iload_n O.mo dL_refuses_812 6 rfl ?_
    suffices K813 : J X B (sp s (43) (258)) 825 [(9, .inl (.int (kV κ 5 0 1 (55 * o + 49)))), (8, .inl (.int mv)), (7, .inl (.int (nI o))), (6, .inl (.int (nI 1))), (5, .inl (.int vh)), (4, .inl (.int vg)), (3, .inl (.int low)), (0, .inr (some (shP h (4, 0, 0)))), (1, .inr (some (2, 0, 0))), (2, .inl (.int (nI x)))] [.inl (.int z4), .inl (.int (nI o)), .inr (some (shP h (4, 0, 0)))] by
      rw [← ez4] at K813
      refine J_if_eq O.mo (tgt := 822) dL_refuses_813 (by decide) (fun hc69 => ?_) (fun hc69 => ?_)
      · refine J_iconst O.mo (v := nI 4) dL_refuses_822 (by decide) ?_
        refine J_iload_n O.mo dL_refuses_823 9 rfl ?_
        refine J_iadd O.mo dL_refuses_824 ?_
        rw [if_pos hc69] at K813
        exact K813
      · refine J_iconst O.mo (v := -1) dL_refuses_816 (by decide) ?_
        refine J_iload_n O.mo dL_refuses_817 9 rfl ?_
        refine J_isub O.mo dL_refuses_818 ?_
        refine J_goto O.mo (tgt := 825) dL_refuses_819 (by decide) ?_
        rw [if_neg hc69] at K813
        exact K813
    refine J_askW (s := s) (h := h) (A := 43) (D := 258) (da := 1) (db := 6) O hKP hh hs (l10_0 h0) (as := [.inr (some (4, 0, 0)), .inl (.int (nI o)), .inl (.int z4)]) (rest := []) (r := some (.inl (.int (-2000000001)))) (c_L_register hfl h0 (na_register hR ho fz4) (fun e z => by cases z; decide)) trivial Cov_add rfl rfl mw828 mw829 mw770 mw830 pd_L_register rfl (by decide) rfl (Nat.le_of_ble_eq_true rfl) (sk_v (sk_v (sk_v (sk_v (sk_v (sk_v (sk_v (sk_p (sM_h hh) (sk_p sM_n (sk_v sk_0)))))))))) sm_0 dL_refuses_825 ?_
    show J X B (sp s (44) (264)) 828 [(9, .inl (.int (kV κ 5 0 1 (55 * o + 49)))), (8, .inl (.int mv)), (7, .inl (.int (nI o))), (6, .inl (.int (nI 1))), (5, .inl (.int vh)), (4, .inl (.int vg)), (3, .inl (.int low)), (0, .inr (some (shP h (4, 0, 0)))), (1, .inr (some (2, 0, 0))), (2, .inl (.int (nI x)))] [.inl (.int (-2000000001))]
    refine J_ldcM O mw649 dL_refuses_828 ?_
    refine J_icmp_ne O.mo (tgt := 992) dL_refuses_830 (by decide) (fun hc => absurd (rfl) hc) (fun _ => ?_)
    refine J_aload_n O.mo dL_refuses_833 7 rfl ?_
    refine J_iload O.mo dL_refuses_834 2 rfl ?_
    refine J_iload_n O.mo dL_refuses_836 6 rfl ?_
    suffices K837 : J X B (sp s (44) (264)) 850 [(9, .inl (.int (kV κ 5 0 1 (55 * o + 49)))), (8, .inl (.int mv)), (7, .inl (.int (nI o))), (6, .inl (.int (nI 1))), (5, .inl (.int vh)), (4, .inl (.int vg)), (3, .inl (.int low)), (0, .inr (some (shP h (4, 0, 0)))), (1, .inr (some (2, 0, 0))), (2, .inl (.int (nI x)))] [.inl (.int z8), .inl (.int (nI o)), .inr (some (shP h (4, 0, 0)))] by
      rw [← ez8] at K837
      refine J_if_eq O.mo (tgt := 846) dL_refuses_837 (by decide) (fun hc73 => ?_) (fun hc73 => ?_)
      · refine J_bipush O.mo (v := nI 8) dL_refuses_846 (by decide) ?_
        refine J_iload_n O.mo dL_refuses_848 9 rfl ?_
        refine J_iadd O.mo dL_refuses_849 ?_
        rw [if_pos hc73] at K837
        exact K837
      · refine J_iconst O.mo (v := -1) dL_refuses_840 (by decide) ?_
        refine J_iload_n O.mo dL_refuses_841 9 rfl ?_
        refine J_isub O.mo dL_refuses_842 ?_
        refine J_goto O.mo (tgt := 850) dL_refuses_843 (by decide) ?_
        rw [if_neg hc73] at K837
        exact K837
    refine J_iconst O.mo (v := nI 0) dL_refuses_850 (by decide) ?_
    refine J_askW (s := s) (h := h) (A := 44) (D := 264) (da := 1) (db := 6) O hKP hh hs (l10_0 h0) (as := [.inr (some (4, 0, 0)), .inl (.int (nI o)), .inl (.int z8), .inl (.int (nI 0))]) (rest := []) (r := some (.inl (.int (-2000000001)))) (c_L_word hfl h0 (na_word hR ho fz8) (fun e z => by cases z; decide)) trivial Cov_add rfl rfl mw831 mw832 mw770 mw833 pd_L_word rfl (by decide) rfl (Nat.le_of_ble_eq_true rfl) (sk_v (sk_v (sk_v (sk_v (sk_v (sk_v (sk_v (sk_p (sM_h hh) (sk_p sM_n (sk_v sk_0)))))))))) sm_0 dL_refuses_851 ?_
    show J X B (sp s (45) (270)) 854 [(9, .inl (.int (kV κ 5 0 1 (55 * o + 49)))), (8, .inl (.int mv)), (7, .inl (.int (nI o))), (6, .inl (.int (nI 1))), (5, .inl (.int vh)), (4, .inl (.int vg)), (3, .inl (.int low)), (0, .inr (some (shP h (4, 0, 0)))), (1, .inr (some (2, 0, 0))), (2, .inl (.int (nI x)))] [.inl (.int (-2000000001))]
    refine J_ldcM O mw649 dL_refuses_854 ?_
    refine J_icmp_ne O.mo (tgt := 992) dL_refuses_856 (by decide) (fun hc => absurd (rfl) hc) (fun _ => ?_)
    refine J_aload_n O.mo dL_refuses_859 7 rfl ?_
    refine J_iload O.mo dL_refuses_860 2 rfl ?_
    refine J_iconst O.mo (v := nI 0) dL_refuses_862 (by decide) ?_
    refine J_iload_n O.mo dL_refuses_863 6 rfl ?_
    suffices K864 : J X B (sp s (45) (270)) 876 [(9, .inl (.int (kV κ 5 0 1 (55 * o + 49)))), (8, .inl (.int mv)), (7, .inl (.int (nI o))), (6, .inl (.int (nI 1))), (5, .inl (.int vh)), (4, .inl (.int vg)), (3, .inl (.int low)), (0, .inr (some (shP h (4, 0, 0)))), (1, .inr (some (2, 0, 0))), (2, .inl (.int (nI x)))] [.inl (.int z4), .inl (.int (nI 0)), .inl (.int (nI o)), .inr (some (shP h (4, 0, 0)))] by
      rw [← ez4] at K864
      refine J_if_eq O.mo (tgt := 873) dL_refuses_864 (by decide) (fun hc77 => ?_) (fun hc77 => ?_)
      · refine J_iconst O.mo (v := nI 4) dL_refuses_873 (by decide) ?_
        refine J_iload_n O.mo dL_refuses_874 9 rfl ?_
        refine J_iadd O.mo dL_refuses_875 ?_
        rw [if_pos hc77] at K864
        exact K864
      · refine J_iconst O.mo (v := -1) dL_refuses_867 (by decide) ?_
        refine J_iload_n O.mo dL_refuses_868 9 rfl ?_
        refine J_isub O.mo dL_refuses_869 ?_
        refine J_goto O.mo (tgt := 876) dL_refuses_870 (by decide) ?_
        rw [if_neg hc77] at K864
        exact K864
    refine J_askW (s := s) (h := h) (A := 45) (D := 270) (da := 1) (db := 6) O hKP hh hs (l10_0 h0) (as := [.inr (some (4, 0, 0)), .inl (.int (nI o)), .inl (.int (nI 0)), .inl (.int z4)]) (rest := []) (r := some (.inl (.int (-2000000001)))) (c_L_word hfl h0 (nb_word hR ho (p := 0) (by decide) fz4) (fun e z => by cases z; decide)) trivial Cov_add rfl rfl mw831 mw832 mw770 mw833 pd_L_word rfl (by decide) rfl (Nat.le_of_ble_eq_true rfl) (sk_v (sk_v (sk_v (sk_v (sk_v (sk_v (sk_v (sk_p (sM_h hh) (sk_p sM_n (sk_v sk_0)))))))))) sm_0 dL_refuses_876 ?_
    show J X B (sp s (46) (276)) 879 [(9, .inl (.int (kV κ 5 0 1 (55 * o + 49)))), (8, .inl (.int mv)), (7, .inl (.int (nI o))), (6, .inl (.int (nI 1))), (5, .inl (.int vh)), (4, .inl (.int vg)), (3, .inl (.int low)), (0, .inr (some (shP h (4, 0, 0)))), (1, .inr (some (2, 0, 0))), (2, .inl (.int (nI x)))] [.inl (.int (-2000000001))]
    refine J_ldcM O mw649 dL_refuses_879 ?_
    refine J_icmp_ne O.mo (tgt := 992) dL_refuses_881 (by decide) (fun hc => absurd (rfl) hc) (fun _ => ?_)
    refine J_aload_n O.mo dL_refuses_884 7 rfl ?_
    refine J_iload O.mo dL_refuses_885 2 rfl ?_
    refine J_iload_n O.mo dL_refuses_887 6 rfl ?_
    suffices K888 : J X B (sp s (46) (276)) 901 [(9, .inl (.int (kV κ 5 0 1 (55 * o + 49)))), (8, .inl (.int mv)), (7, .inl (.int (nI o))), (6, .inl (.int (nI 1))), (5, .inl (.int vh)), (4, .inl (.int vg)), (3, .inl (.int low)), (0, .inr (some (shP h (4, 0, 0)))), (1, .inr (some (2, 0, 0))), (2, .inl (.int (nI x)))] [.inl (.int z8), .inl (.int (nI o)), .inr (some (shP h (4, 0, 0)))] by
      rw [← ez8] at K888
      refine J_if_eq O.mo (tgt := 897) dL_refuses_888 (by decide) (fun hc81 => ?_) (fun hc81 => ?_)
      · refine J_bipush O.mo (v := nI 8) dL_refuses_897 (by decide) ?_
        refine J_iload_n O.mo dL_refuses_899 9 rfl ?_
        refine J_iadd O.mo dL_refuses_900 ?_
        rw [if_pos hc81] at K888
        exact K888
      · refine J_iconst O.mo (v := -1) dL_refuses_891 (by decide) ?_
        refine J_iload_n O.mo dL_refuses_892 9 rfl ?_
        refine J_isub O.mo dL_refuses_893 ?_
        refine J_goto O.mo (tgt := 901) dL_refuses_894 (by decide) ?_
        rw [if_neg hc81] at K888
        exact K888
    refine J_askW (s := s) (h := h) (A := 46) (D := 276) (da := 1) (db := 6) O hKP hh hs (l10_0 h0) (as := [.inr (some (4, 0, 0)), .inl (.int (nI o)), .inl (.int z8)]) (rest := []) (r := some (.inl (.int (-2000000001)))) (c_L_pageOf hfl h0 (na_pageOf hR ho fz8) (fun e z => by cases z; decide)) trivial Cov_add rfl rfl mw834 mw835 mw770 mw836 pd_L_pageOf rfl (by decide) rfl (Nat.le_of_ble_eq_true rfl) (sk_v (sk_v (sk_v (sk_v (sk_v (sk_v (sk_v (sk_p (sM_h hh) (sk_p sM_n (sk_v sk_0)))))))))) sm_0 dL_refuses_901 ?_
    show J X B (sp s (47) (282)) 904 [(9, .inl (.int (kV κ 5 0 1 (55 * o + 49)))), (8, .inl (.int mv)), (7, .inl (.int (nI o))), (6, .inl (.int (nI 1))), (5, .inl (.int vh)), (4, .inl (.int vg)), (3, .inl (.int low)), (0, .inr (some (shP h (4, 0, 0)))), (1, .inr (some (2, 0, 0))), (2, .inl (.int (nI x)))] [.inl (.int (-2000000001))]
    refine J_ldcM O mw649 dL_refuses_904 ?_
    refine J_icmp_ne O.mo (tgt := 992) dL_refuses_906 (by decide) (fun hc => absurd (rfl) hc) (fun _ => ?_)
    refine J_aload_n O.mo dL_refuses_909 7 rfl ?_
    refine J_iload O.mo dL_refuses_910 2 rfl ?_
    refine J_iload_n O.mo dL_refuses_912 6 rfl ?_
    suffices K913 : J X B (sp s (47) (282)) 926 [(9, .inl (.int (kV κ 5 0 1 (55 * o + 49)))), (8, .inl (.int mv)), (7, .inl (.int (nI o))), (6, .inl (.int (nI 1))), (5, .inl (.int vh)), (4, .inl (.int vg)), (3, .inl (.int low)), (0, .inr (some (shP h (4, 0, 0)))), (1, .inr (some (2, 0, 0))), (2, .inl (.int (nI x)))] [.inl (.int z8), .inl (.int (nI o)), .inr (some (shP h (4, 0, 0)))] by
      rw [← ez8] at K913
      refine J_if_eq O.mo (tgt := 922) dL_refuses_913 (by decide) (fun hc85 => ?_) (fun hc85 => ?_)
      · refine J_bipush O.mo (v := nI 8) dL_refuses_922 (by decide) ?_
        refine J_iload_n O.mo dL_refuses_924 9 rfl ?_
        refine J_iadd O.mo dL_refuses_925 ?_
        rw [if_pos hc85] at K913
        exact K913
      · refine J_iconst O.mo (v := -1) dL_refuses_916 (by decide) ?_
        refine J_iload_n O.mo dL_refuses_917 9 rfl ?_
        refine J_isub O.mo dL_refuses_918 ?_
        refine J_goto O.mo (tgt := 926) dL_refuses_919 (by decide) ?_
        rw [if_neg hc85] at K913
        exact K913
    refine J_askW (s := s) (h := h) (A := 47) (D := 282) (da := 1) (db := 6) O hKP hh hs (l10_0 h0) (as := [.inr (some (4, 0, 0)), .inl (.int (nI o)), .inl (.int z8)]) (rest := []) (r := some (.inl (.int (-2000000001)))) (c_L_frameOf hfl h0 (na_frameOf hR ho fz8) (fun e z => by cases z; decide)) trivial Cov_add rfl rfl mw837 mw838 mw770 mw839 pd_L_frameOf rfl (by decide) rfl (Nat.le_of_ble_eq_true rfl) (sk_v (sk_v (sk_v (sk_v (sk_v (sk_v (sk_v (sk_p (sM_h hh) (sk_p sM_n (sk_v sk_0)))))))))) sm_0 dL_refuses_926 ?_
    show J X B (sp s (48) (288)) 929 [(9, .inl (.int (kV κ 5 0 1 (55 * o + 49)))), (8, .inl (.int mv)), (7, .inl (.int (nI o))), (6, .inl (.int (nI 1))), (5, .inl (.int vh)), (4, .inl (.int vg)), (3, .inl (.int low)), (0, .inr (some (shP h (4, 0, 0)))), (1, .inr (some (2, 0, 0))), (2, .inl (.int (nI x)))] [.inl (.int (-2000000001))]
    refine J_ldcM O mw649 dL_refuses_929 ?_
    refine J_icmp_ne O.mo (tgt := 992) dL_refuses_931 (by decide) (fun hc => absurd (rfl) hc) (fun _ => ?_)
    refine J_aload_n O.mo dL_refuses_934 7 rfl ?_
    refine J_iload O.mo dL_refuses_935 2 rfl ?_
    refine J_iload_n O.mo dL_refuses_937 6 rfl ?_
    suffices K938 : J X B (sp s (48) (288)) 951 [(9, .inl (.int (kV κ 5 0 1 (55 * o + 49)))), (8, .inl (.int mv)), (7, .inl (.int (nI o))), (6, .inl (.int (nI 1))), (5, .inl (.int vh)), (4, .inl (.int vg)), (3, .inl (.int low)), (0, .inr (some (shP h (4, 0, 0)))), (1, .inr (some (2, 0, 0))), (2, .inl (.int (nI x)))] [.inl (.int z6), .inl (.int (nI o)), .inr (some (shP h (4, 0, 0)))] by
      rw [← ez6] at K938
      refine J_if_eq O.mo (tgt := 947) dL_refuses_938 (by decide) (fun hc89 => ?_) (fun hc89 => ?_)
      · refine J_bipush O.mo (v := nI 6) dL_refuses_947 (by decide) ?_
        refine J_iload_n O.mo dL_refuses_949 9 rfl ?_
        refine J_iadd O.mo dL_refuses_950 ?_
        rw [if_pos hc89] at K938
        exact K938
      · refine J_iconst O.mo (v := -1) dL_refuses_941 (by decide) ?_
        refine J_iload_n O.mo dL_refuses_942 9 rfl ?_
        refine J_isub O.mo dL_refuses_943 ?_
        refine J_goto O.mo (tgt := 951) dL_refuses_944 (by decide) ?_
        rw [if_neg hc89] at K938
        exact K938
    refine J_askW (s := s) (h := h) (A := 48) (D := 288) (da := 1) (db := 6) O hKP hh hs (l10_0 h0) (as := [.inr (some (4, 0, 0)), .inl (.int (nI o)), .inl (.int z6)]) (rest := []) (r := some (.inl (.int (-2000000002)))) (c_L_exits hfl h0 (na_exits hR ho fz6) (fun e z => by cases z; decide)) trivial Cov_add rfl rfl mw843 mw844 mw770 mw845 pd_L_exits rfl (by decide) rfl (Nat.le_of_ble_eq_true rfl) (sk_v (sk_v (sk_v (sk_v (sk_v (sk_v (sk_v (sk_p (sM_h hh) (sk_p sM_n (sk_v sk_0)))))))))) sm_0 dL_refuses_951 ?_
    show J X B (sp s (49) (294)) 954 [(9, .inl (.int (kV κ 5 0 1 (55 * o + 49)))), (8, .inl (.int mv)), (7, .inl (.int (nI o))), (6, .inl (.int (nI 1))), (5, .inl (.int vh)), (4, .inl (.int vg)), (3, .inl (.int low)), (0, .inr (some (shP h (4, 0, 0)))), (1, .inr (some (2, 0, 0))), (2, .inl (.int (nI x)))] [.inl (.int (-2000000002))]
    refine J_ldcM O mw652 dL_refuses_954 ?_
    refine J_icmp_ne O.mo (tgt := 992) dL_refuses_956 (by decide) (fun hc => absurd (rfl) hc) (fun _ => ?_)
    refine J_aload_n O.mo dL_refuses_959 7 rfl ?_
    refine J_iload O.mo dL_refuses_960 2 rfl ?_
    refine J_iload_n O.mo dL_refuses_962 6 rfl ?_
    suffices K963 : J X B (sp s (49) (294)) 980 [(9, .inl (.int (kV κ 5 0 1 (55 * o + 49)))), (8, .inl (.int mv)), (7, .inl (.int (nI o))), (6, .inl (.int (nI 1))), (5, .inl (.int vh)), (4, .inl (.int vg)), (3, .inl (.int low)), (0, .inr (some (shP h (4, 0, 0)))), (1, .inr (some (2, 0, 0))), (2, .inl (.int (nI x)))] [.inl (.int vo), .inl (.int (nI o)), .inr (some (shP h (4, 0, 0)))] by
      rw [← evo] at K963
      refine J_if_eq O.mo (tgt := 972) dL_refuses_963 (by decide) (fun hc90 => ?_) (fun hc90 => ?_)
      · refine J_aload_n O.mo dL_refuses_972 7 rfl ?_
        refine J_iload O.mo dL_refuses_973 2 rfl ?_
        refine J_askW (s := s) (h := h) (A := 49) (D := 294) (da := 0) (db := 0) O hKP hh hs (l10_0 h0) (as := [.inr (some (4, 0, 0)), .inl (.int (nI o))]) (rest := [.inl (.int (nI o)), .inr (some (shP h (4, 0, 0)))]) (r := some (.inl (.int (kV κ 5 0 35 o)))) (c_L_out hfl h0 (qa_out hR ho) (fun e z => by cases z)) trivial Cov.rf rfl rfl mw846 mw847 mw770 mw848 pd_L_out rfl (by decide) rfl (Nat.le_of_ble_eq_true rfl) (sk_v (sk_v (sk_v (sk_v (sk_v (sk_v (sk_v (sk_p (sM_h hh) (sk_p sM_n (sk_v sk_0)))))))))) (sm_v (sm_p (sM_h hh) sm_0)) dL_refuses_975 ?_
        show J X B (sp s (49) (294)) 978 [(9, .inl (.int (kV κ 5 0 1 (55 * o + 49)))), (8, .inl (.int mv)), (7, .inl (.int (nI o))), (6, .inl (.int (nI 1))), (5, .inl (.int vh)), (4, .inl (.int vg)), (3, .inl (.int low)), (0, .inr (some (shP h (4, 0, 0)))), (1, .inr (some (2, 0, 0))), (2, .inl (.int (nI x)))] [.inl (.int (kV κ 5 0 35 o)), .inl (.int (nI o)), .inr (some (shP h (4, 0, 0)))]
        refine J_iload_n O.mo dL_refuses_978 9 rfl ?_
        refine J_iadd O.mo dL_refuses_979 ?_
        rw [if_pos hc90] at K963
        exact K963
      · refine J_iconst O.mo (v := -1) dL_refuses_966 (by decide) ?_
        refine J_iload_n O.mo dL_refuses_967 9 rfl ?_
        refine J_isub O.mo dL_refuses_968 ?_
        refine J_goto O.mo (tgt := 980) dL_refuses_969 (by decide) ?_
        rw [if_neg hc90] at K963
        exact K963
    refine J_askW (s := s) (h := h) (A := 49) (D := 294) (da := 1) (db := 6) O hKP hh hs (l10_0 h0) (as := [.inr (some (4, 0, 0)), .inl (.int (nI o)), .inl (.int vo)]) (rest := []) (r := some (.inl (.int (-2000000001)))) (c_L_outAt hfl h0 (na_outAt hR ho fvo) (fun e z => by cases z; decide)) trivial Cov_add rfl rfl mw849 mw850 mw770 mw851 pd_L_outAt rfl (by decide) rfl (Nat.le_of_ble_eq_true rfl) (sk_v (sk_v (sk_v (sk_v (sk_v (sk_v (sk_v (sk_p (sM_h hh) (sk_p sM_n (sk_v sk_0)))))))))) sm_0 dL_refuses_980 ?_
    show J X B (sp s (50) (300)) 983 [(9, .inl (.int (kV κ 5 0 1 (55 * o + 49)))), (8, .inl (.int mv)), (7, .inl (.int (nI o))), (6, .inl (.int (nI 1))), (5, .inl (.int vh)), (4, .inl (.int vg)), (3, .inl (.int low)), (0, .inr (some (shP h (4, 0, 0)))), (1, .inr (some (2, 0, 0))), (2, .inl (.int (nI x)))] [.inl (.int (-2000000001))]
    refine J_ldcM O mw649 dL_refuses_983 ?_
    refine J_icmp_ne O.mo (tgt := 992) dL_refuses_985 (by decide) (fun hc => absurd (rfl) hc) (fun _ => ?_)
    refine J_iconst O.mo (v := nI 1) dL_refuses_988 (by decide) ?_
    refine J_goto O.mo (tgt := 993) dL_refuses_989 (by decide) ?_
    exact hE _ _ dL_refuses_993
  · refine J_iload O.mo dL_refuses_445 0 rfl ?_
    refine J_sp O (a' := 50) (b' := 300) (by decide) (by decide) ?_
    exact hE _ _ dL_refuses_447
