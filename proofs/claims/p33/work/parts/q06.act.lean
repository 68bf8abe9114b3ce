set_option maxRecDepth 100000 in
theorem mw772 : Cond.methodLink RL 125 yL_pause ∈ gwl := gwl_tb 608 rfl rfl
set_option maxRecDepth 100000 in
theorem mw773 : Cond.static yL_pause ∈ gwl := gwl_tb 609 rfl rfl
set_option maxRecDepth 100000 in
theorem mw774 : Cond.codeWith yL_pause cL_pause 4 (some .int) [(0, 14, 15, 13)] ∈ gwl := gwl_tb 610 rfl rfl
set_option maxRecDepth 100000 in
theorem mw775 : Cond.methodLink RL 128 yL_scale ∈ gwl := gwl_tb 615 rfl rfl
set_option maxRecDepth 100000 in
theorem mw776 : Cond.static yL_scale ∈ gwl := gwl_tb 616 rfl rfl
set_option maxRecDepth 100000 in
theorem mw777 : Cond.codeWith yL_scale cL_scale 4 (some .int) [(0, 6, 7, 13), (0, 6, 11, 16)] ∈ gwl := gwl_tb 617 rfl rfl
set_option maxRecDepth 100000 in
theorem mw778 : Cond.methodLink RL 131 yL_input ∈ gwl := gwl_tb 623 rfl rfl
set_option maxRecDepth 100000 in
theorem mw779 : Cond.static yL_input ∈ gwl := gwl_tb 624 rfl rfl
set_option maxRecDepth 100000 in
theorem mw780 : Cond.codeWith yL_input cL_input 4 (some .int) [(0, 6, 7, 13), (0, 6, 11, 16), (0, 6, 15, 19)] ∈ gwl := gwl_tb 625 rfl rfl
set_option maxRecDepth 100000 in
theorem mw781 : Cond.methodLink RL 133 yL_send ∈ gwl := gwl_tb 646 rfl rfl
set_option maxRecDepth 100000 in
theorem mw782 : Cond.static yL_send ∈ gwl := gwl_tb 647 rfl rfl
set_option maxRecDepth 100000 in
theorem mw783 : Cond.codeWith yL_send cL_send 3 (some .int) [(0, 13, 14, 13), (0, 13, 18, 19)] ∈ gwl := gwl_tb 648 rfl rfl
set_option maxRecDepth 100000 in
theorem mw784 : Cond.methodLink RL 136 yL_tick ∈ gwl := gwl_tb 666 rfl rfl
set_option maxRecDepth 100000 in
theorem mw785 : Cond.static yL_tick ∈ gwl := gwl_tb 667 rfl rfl
set_option maxRecDepth 100000 in
theorem mw786 : Cond.codeWith yL_tick cL_tick 3 (some .int) [(0, 5, 6, 16), (0, 5, 10, 19)] ∈ gwl := gwl_tb 668 rfl rfl
set_option maxRecDepth 100000 in
theorem mw787 : Cond.methodLink RL 138 yL_share ∈ gwl := gwl_tb 849 rfl rfl
set_option maxRecDepth 100000 in
theorem mw788 : Cond.static yL_share ∈ gwl := gwl_tb 850 rfl rfl
set_option maxRecDepth 100000 in
theorem mw789 : Cond.codeWith yL_share cL_share 3 (some .int) [(0, 5, 6, 13)] ∈ gwl := gwl_tb 851 rfl rfl
set_option maxRecDepth 100000 in
theorem mw790 : Cond.methodLink RL 140 yL_move ∈ gwl := gwl_tb 872 rfl rfl
set_option maxRecDepth 100000 in
theorem mw791 : Cond.static yL_move ∈ gwl := gwl_tb 873 rfl rfl
set_option maxRecDepth 100000 in
theorem mw792 : Cond.codeWith yL_move cL_move 3 (some .int) [(0, 5, 6, 13), (0, 5, 10, 19)] ∈ gwl := gwl_tb 874 rfl rfl
set_option maxRecDepth 100000 in
theorem mw793 : Cond.methodLink RL 142 yL_round ∈ gwl := gwl_tb 895 rfl rfl
set_option maxRecDepth 100000 in
theorem mw794 : Cond.static yL_round ∈ gwl := gwl_tb 896 rfl rfl
set_option maxRecDepth 100000 in
theorem mw795 : Cond.codeWith yL_round cL_round 4 (some .int) [(0, 6, 7, 13), (0, 6, 11, 16), (0, 6, 15, 19)] ∈ gwl := gwl_tb 897 rfl rfl
set_option maxRecDepth 100000 in
theorem mw796 : Cond.methodLink RL 144 yL_land ∈ gwl := gwl_tb 908 rfl rfl
set_option maxRecDepth 100000 in
theorem mw797 : Cond.static yL_land ∈ gwl := gwl_tb 909 rfl rfl
set_option maxRecDepth 100000 in
theorem mw798 : Cond.codeWith yL_land cL_land 4 (some .int) [(0, 6, 7, 13), (0, 6, 11, 19)] ∈ gwl := gwl_tb 910 rfl rfl
set_option maxRecDepth 100000 in
theorem mw799 : Cond.methodLink RL 148 yL_restore ∈ gwl := gwl_tb 966 rfl rfl
set_option maxRecDepth 100000 in
theorem mw800 : Cond.static yL_restore ∈ gwl := gwl_tb 967 rfl rfl
set_option maxRecDepth 100000 in
theorem mw801 : Cond.codeWith yL_restore cL_restore 4 (some .int) [(0, 6, 7, 13), (0, 6, 11, 19)] ∈ gwl := gwl_tb 968 rfl rfl
set_option maxRecDepth 100000 in
theorem mw802 : Cond.methodLink RL 150 yL_follow ∈ gwl := gwl_tb 989 rfl rfl
set_option maxRecDepth 100000 in
theorem mw803 : Cond.static yL_follow ∈ gwl := gwl_tb 990 rfl rfl
set_option maxRecDepth 100000 in
theorem mw804 : Cond.codeWith yL_follow cL_follow 4 (some .int) [(0, 14, 15, 13), (0, 14, 19, 19)] ∈ gwl := gwl_tb 991 rfl rfl
set_option maxRecDepth 100000 in
theorem mw805 : Cond.methodLink RL 152 yL_step ∈ gwl := gwl_tb 1011 rfl rfl
set_option maxRecDepth 100000 in
theorem mw806 : Cond.static yL_step ∈ gwl := gwl_tb 1012 rfl rfl
set_option maxRecDepth 100000 in
theorem mw807 : Cond.codeWith yL_step cL_step 3 (some .int) [(0, 5, 6, 13), (0, 5, 10, 19)] ∈ gwl := gwl_tb 1013 rfl rfl
set_option maxRecDepth 100000 in
theorem mw808 : Cond.methodLink RL 154 yL_fail ∈ gwl := gwl_tb 1019 rfl rfl
set_option maxRecDepth 100000 in
theorem mw809 : Cond.static yL_fail ∈ gwl := gwl_tb 1020 rfl rfl
set_option maxRecDepth 100000 in
theorem mw810 : Cond.codeWith yL_fail cL_fail 3 (some .int) [(0, 5, 6, 13), (0, 5, 10, 19)] ∈ gwl := gwl_tb 1021 rfl rfl
set_option maxRecDepth 100000 in
theorem mw811 : Cond.methodLink RL 156 yL_mend ∈ gwl := gwl_tb 1041 rfl rfl
set_option maxRecDepth 100000 in
theorem mw812 : Cond.static yL_mend ∈ gwl := gwl_tb 1042 rfl rfl
set_option maxRecDepth 100000 in
theorem mw813 : Cond.codeWith yL_mend cL_mend 3 (some .int) [(0, 6, 7, 13), (0, 6, 11, 19)] ∈ gwl := gwl_tb 1043 rfl rfl
set_option maxRecDepth 100000 in
theorem mw814 : Cond.methodLink RL 146 yL_snapshot ∈ gwl := gwl_tb 919 rfl rfl
set_option maxRecDepth 100000 in
theorem mw815 : Cond.static yL_snapshot ∈ gwl := gwl_tb 920 rfl rfl
set_option maxRecDepth 100000 in
theorem mw816 : Cond.codeWith yL_snapshot cL_snapshot 3 (some .int) [(0, 5, 6, 13), (0, 5, 10, 19)] ∈ gwl := gwl_tb 921 rfl rfl
set_option maxRecDepth 100000 in
theorem mw817 : Cond.methodLink RL 184 yL_opBy ∈ gwl := gwl_tb 1186 rfl rfl
set_option maxRecDepth 100000 in
theorem mw818 : Cond.static yL_opBy ∈ gwl := gwl_tb 1187 rfl rfl
set_option maxRecDepth 100000 in
theorem mw819 : Cond.code yL_opBy cL_opBy 6 (some .int) ∈ gwl := gwl_tb 1188 rfl rfl
set_option maxRecDepth 100000 in
theorem mw820 : Cond.methodLink RL 116 yL_guest ∈ gwl := gwl_tb 125 rfl rfl
set_option maxRecDepth 100000 in
theorem mw821 : Cond.static yL_guest ∈ gwl := gwl_tb 126 rfl rfl
set_option maxRecDepth 100000 in
theorem mw822 : Cond.codeWith yL_guest cL_guest 5 (some .int) [(0, 7, 8, 13), (0, 7, 13, 16), (0, 7, 18, 19)] ∈ gwl := gwl_tb 127 rfl rfl
theorem pd_L_pause : (yL_pause).cls ≠ "java/lang/invoke/MethodHandle" ∧ (yL_pause).cls ≠ "java/lang/invoke/VarHandle" ∧ (parseMethodDescriptor (yL_pause).desc).map (fun d => d.parameters.length) = some 3 := ⟨by decide +kernel, by decide +kernel, by decide +kernel⟩
theorem pd_L_scale : (yL_scale).cls ≠ "java/lang/invoke/MethodHandle" ∧ (yL_scale).cls ≠ "java/lang/invoke/VarHandle" ∧ (parseMethodDescriptor (yL_scale).desc).map (fun d => d.parameters.length) = some 3 := ⟨by decide +kernel, by decide +kernel, by decide +kernel⟩
theorem pd_L_input : (yL_input).cls ≠ "java/lang/invoke/MethodHandle" ∧ (yL_input).cls ≠ "java/lang/invoke/VarHandle" ∧ (parseMethodDescriptor (yL_input).desc).map (fun d => d.parameters.length) = some 3 := ⟨by decide +kernel, by decide +kernel, by decide +kernel⟩
theorem pd_L_send : (yL_send).cls ≠ "java/lang/invoke/MethodHandle" ∧ (yL_send).cls ≠ "java/lang/invoke/VarHandle" ∧ (parseMethodDescriptor (yL_send).desc).map (fun d => d.parameters.length) = some 2 := ⟨by decide +kernel, by decide +kernel, by decide +kernel⟩
theorem pd_L_tick : (yL_tick).cls ≠ "java/lang/invoke/MethodHandle" ∧ (yL_tick).cls ≠ "java/lang/invoke/VarHandle" ∧ (parseMethodDescriptor (yL_tick).desc).map (fun d => d.parameters.length) = some 2 := ⟨by decide +kernel, by decide +kernel, by decide +kernel⟩
theorem pd_L_share : (yL_share).cls ≠ "java/lang/invoke/MethodHandle" ∧ (yL_share).cls ≠ "java/lang/invoke/VarHandle" ∧ (parseMethodDescriptor (yL_share).desc).map (fun d => d.parameters.length) = some 2 := ⟨by decide +kernel, by decide +kernel, by decide +kernel⟩
theorem pd_L_move : (yL_move).cls ≠ "java/lang/invoke/MethodHandle" ∧ (yL_move).cls ≠ "java/lang/invoke/VarHandle" ∧ (parseMethodDescriptor (yL_move).desc).map (fun d => d.parameters.length) = some 2 := ⟨by decide +kernel, by decide +kernel, by decide +kernel⟩
theorem pd_L_round : (yL_round).cls ≠ "java/lang/invoke/MethodHandle" ∧ (yL_round).cls ≠ "java/lang/invoke/VarHandle" ∧ (parseMethodDescriptor (yL_round).desc).map (fun d => d.parameters.length) = some 3 := ⟨by decide +kernel, by decide +kernel, by decide +kernel⟩
theorem pd_L_land : (yL_land).cls ≠ "java/lang/invoke/MethodHandle" ∧ (yL_land).cls ≠ "java/lang/invoke/VarHandle" ∧ (parseMethodDescriptor (yL_land).desc).map (fun d => d.parameters.length) = some 3 := ⟨by decide +kernel, by decide +kernel, by decide +kernel⟩
theorem pd_L_restore : (yL_restore).cls ≠ "java/lang/invoke/MethodHandle" ∧ (yL_restore).cls ≠ "java/lang/invoke/VarHandle" ∧ (parseMethodDescriptor (yL_restore).desc).map (fun d => d.parameters.length) = some 3 := ⟨by decide +kernel, by decide +kernel, by decide +kernel⟩
theorem pd_L_follow : (yL_follow).cls ≠ "java/lang/invoke/MethodHandle" ∧ (yL_follow).cls ≠ "java/lang/invoke/VarHandle" ∧ (parseMethodDescriptor (yL_follow).desc).map (fun d => d.parameters.length) = some 3 := ⟨by decide +kernel, by decide +kernel, by decide +kernel⟩
theorem pd_L_step : (yL_step).cls ≠ "java/lang/invoke/MethodHandle" ∧ (yL_step).cls ≠ "java/lang/invoke/VarHandle" ∧ (parseMethodDescriptor (yL_step).desc).map (fun d => d.parameters.length) = some 2 := ⟨by decide +kernel, by decide +kernel, by decide +kernel⟩
theorem pd_L_fail : (yL_fail).cls ≠ "java/lang/invoke/MethodHandle" ∧ (yL_fail).cls ≠ "java/lang/invoke/VarHandle" ∧ (parseMethodDescriptor (yL_fail).desc).map (fun d => d.parameters.length) = some 2 := ⟨by decide +kernel, by decide +kernel, by decide +kernel⟩
theorem pd_L_mend : (yL_mend).cls ≠ "java/lang/invoke/MethodHandle" ∧ (yL_mend).cls ≠ "java/lang/invoke/VarHandle" ∧ (parseMethodDescriptor (yL_mend).desc).map (fun d => d.parameters.length) = some 2 := ⟨by decide +kernel, by decide +kernel, by decide +kernel⟩
theorem pd_L_snapshot : (yL_snapshot).cls ≠ "java/lang/invoke/MethodHandle" ∧ (yL_snapshot).cls ≠ "java/lang/invoke/VarHandle" ∧ (parseMethodDescriptor (yL_snapshot).desc).map (fun d => d.parameters.length) = some 2 := ⟨by decide +kernel, by decide +kernel, by decide +kernel⟩
theorem pd_L_opBy : (yL_opBy).cls ≠ "java/lang/invoke/MethodHandle" ∧ (yL_opBy).cls ≠ "java/lang/invoke/VarHandle" ∧ (parseMethodDescriptor (yL_opBy).desc).map (fun d => d.parameters.length) = some 3 := ⟨by decide +kernel, by decide +kernel, by decide +kernel⟩
theorem pd_L_guest : (yL_guest).cls ≠ "java/lang/invoke/MethodHandle" ∧ (yL_guest).cls ≠ "java/lang/invoke/VarHandle" ∧ (parseMethodDescriptor (yL_guest).desc).map (fun d => d.parameters.length) = some 4 := ⟨by decide +kernel, by decide +kernel, by decide +kernel⟩
theorem nI_nz {m : Nat} (h0 : 0 < m) (h : m < 2147483648) : ¬ nI m = 0 := by
  rw [nI_e0 h]; omega
theorem KPok.guest {B : BX (EE × K)} {E E1 : EE} {κ κ1 : K} {a b c : Int32} {rs : Int32 ⊕ Nat} (hK : KPok B E) (h : f_X10_guest E κ a b c = some ((E1, κ1), rs)) : KPok B E1 := by
  unfold f_X10_guest at h
  rcases bxE_some h with ⟨κ1', h6, hq, h⟩ | ⟨κ1', e, hq, h1, h2⟩
  · obtain ⟨hj, h⟩ := gd_some h
    split at h
    · cases h; exact hK
    · split at h
      · split at h
        · cases h; exact hK
        · split at h
          · obtain ⟨-, h⟩ := gdp_some h
            have e1 : E1 = (xG E κ1' h6 b c).1 := by injection h with h; exact (congrArg (fun z => z.1.1) h).symm
            rw [e1]
            unfold xG addL
            split
            · exact KPok.flagc (KPok.bmp (fam := 0) (l := eR E) hK rfl (Nat.le_refl _))
            · exact KPok.bmp (fam := 0) (l := eR E) hK rfl (Nat.le_refl _)
          · cases h; exact hK
      · cases h; exact hK
  · cases h1; exact hK
theorem lwR_inr {e : Nat} (h : e = 1 ∨ e = 2 ∨ e = 3) : ¬ (0 : Int32) ≤ lwR (.inr e) := by
  rcases h with rfl | rfl | rfl <;> decide
set_option maxHeartbeats 4000000 in
set_option maxRecDepth 100000 in
theorem act_2 {l : Launch} (hfl : l.stackTraces = false) {E : EE} {κ : K} {n ns t C : Nat} (hR : REL E κ (kV κ 5 0) n ns t C) (hC : C + 13 < 512) {Y : Nat} (hY : Y < 2147483648) (hk : Y % 20 = 2) : ∃ (E' : EE) (κ' : K) (r : Int32) (n' ns' t' C' : Nat), Con l yL_act cL_act 6 (some .int) 11 306 [.inr (some (4, 0, 0)), .inl (.int (nI Y))] (E, κ) (E', κ') (some (.inl (.int r))) ∧ REL E' κ' (kV κ' 5 0) n' ns' t' C' ∧ (C' + 12 * n ≤ C + 1 + 12 * n' ∧ C ≤ C') ∧ kT κ' = none ∧ EXT (kV κ 5 0) (kV κ' 5 0) ∧ n' = (if Y % 20 < 2 ∧ 0 ≤ r then n + 1 else n) ∧ ns' = (if Y % 20 = 14 ∧ 0 ≤ r then ns + 1 else ns) := by
  have h0 : PC 10 E 4 0 0 := hR.1.2.2.1.1
  have hsw : nI Y - nI Y / 20 * 20 = (2 : Int32) := by rw [show (20 : Int32) = nI 20 from rfl, nI_mod hY (by omega), hk]; rfl
  generalize nI Y = x at *
  obtain ⟨κ1, rs, κ', t', hf, hcod, hcov, hkc, hT', hR', hX'⟩ := ac_pause (a1 := (x / 20) - (x / 20) / 4 * 4) (a2 := if ((x / 20) - (x / 20) / 3 * 3) = 0 then 1 else 0) (by split <;> first | exact Or.inl rfl | exact Or.inr rfl) (by omega) hR
  refine ⟨E, κ', lwRB rs, n, ns, t', C + 1, ?_, hR', by omega, hT', hX', (if_neg (fun z => absurd z.1 (by omega))).symm, (if_neg (fun z => absurd z.1 (by omega))).symm⟩
  refine Con_of hfl (by decide) (Nat.le_of_ble_eq_true rfl) rfl ⟨.int, rfl, rfl⟩ ?_
  intro X B g O hKP hmL hE
  change J X B (E, κ) 0 [(0, .inr (some (4, 0, 0))), (1, .inl (.int x))] []
  refine J_iload_n O.mo dL_act_0 1 rfl ?_
  refine J_bipush O.mo (v := 20) dL_act_1 (by decide) ?_
  refine J_idiv O.mo dL_act_3 (by decide) ?_
  refine J_istore_n O.mo dL_act_4 (by rw [hmL]; decide) rfl rfl ?_
  refine J_iload_n O.mo dL_act_5 0 rfl ?_
  refine J_iconst O.mo (v := 4) dL_act_6 (by decide) ?_
  refine J_irem O.mo dL_act_7 (by decide) ?_
  refine J_istore_n O.mo dL_act_8 (by rw [hmL]; decide) rfl rfl ?_
  refine J_iload_n O.mo dL_act_9 3 rfl ?_
  refine J_bipush O.mo (v := 20) dL_act_10 (by decide) ?_
  refine J_irem O.mo dL_act_12 (by decide) ?_
  refine J_tabIn O.mo (tgt := 175) (w := 2) hsw dL_act_13 (by decide) (by decide) rfl (by decide) ?_
  suffices K1 : J X B (E, κ) 188 [(3, .inl (.int ((x / 20) - (x / 20) / 4 * 4))), (2, .inl (.int (x / 20))), (0, .inr (some (4, 0, 0))), (1, .inl (.int x))] [.inl (.int (if ((x / 20) - (x / 20) / 3 * 3) = 0 then 1 else 0)), .inl (.int ((x / 20) - (x / 20) / 4 * 4)), .inr (some (4, 0, 0))] by
    refine J_aload_n O.mo dL_act_175 2 rfl ?_
    refine J_iload_n O.mo dL_act_176 0 rfl ?_
    refine J_iload_n O.mo dL_act_177 1 rfl ?_
    refine J_iconst O.mo (v := 3) dL_act_178 (by decide) ?_
    refine J_irem O.mo dL_act_179 (by decide) ?_
    refine J_if_ne O.mo (tgt := 187) dL_act_180 (by decide) (fun hc2 => ?_) (fun hc2 => ?_)
    · refine J_iconst O.mo (v := 0) dL_act_187 (by decide) ?_
      rw [if_neg hc2] at K1
      exact K1
    · refine J_iconst O.mo (v := 1) dL_act_183 (by decide) ?_
      refine J_goto O.mo (tgt := 188) dL_act_184 (by decide) ?_
      rw [if_pos hc2] at K1
      exact K1
  refine J_callSW O hKP (as := [.inr (some (4, 0, 0)), .inl (.int ((x / 20) - (x / 20) / 4 * 4)), .inl (.int (if ((x / 20) - (x / 20) / 3 * 3) = 0 then 1 else 0))]) (rest := []) (r := some (.inl (.int (lwRB rs)))) (c_L_pause hfl h0 hf hcod) rfl mw772 mw773 mw770 mw774 pd_L_pause rfl (by decide) rfl (Nat.le_of_ble_eq_true rfl) (sl_v (sl_v (sl_p (s10_0 h0) (sl_v sl_0)))) st_0 dL_act_188 ?_
  show J X B (E, κ1) 191 [(3, .inl (.int ((x / 20) - (x / 20) / 4 * 4))), (2, .inl (.int (x / 20))), (0, .inr (some (4, 0, 0))), (1, .inl (.int x))] [.inl (.int (lwRB rs))]
  refine J_cov O hcov (by rw [hkc]; exact Nat.le_refl _) (by rw [hkc]; exact Nat.le_refl _) ?_
  exact hE _ _ dL_act_191
set_option maxHeartbeats 4000000 in
set_option maxRecDepth 100000 in
theorem act_3 {l : Launch} (hfl : l.stackTraces = false) {E : EE} {κ : K} {n ns t C : Nat} (hR : REL E κ (kV κ 5 0) n ns t C) (hC : C + 13 < 512) {Y : Nat} (hY : Y < 2147483648) (hk : Y % 20 = 3) : ∃ (E' : EE) (κ' : K) (r : Int32) (n' ns' t' C' : Nat), Con l yL_act cL_act 6 (some .int) 11 306 [.inr (some (4, 0, 0)), .inl (.int (nI Y))] (E, κ) (E', κ') (some (.inl (.int r))) ∧ REL E' κ' (kV κ' 5 0) n' ns' t' C' ∧ (C' + 12 * n ≤ C + 1 + 12 * n' ∧ C ≤ C') ∧ kT κ' = none ∧ EXT (kV κ 5 0) (kV κ' 5 0) ∧ n' = (if Y % 20 < 2 ∧ 0 ≤ r then n + 1 else n) ∧ ns' = (if Y % 20 = 14 ∧ 0 ≤ r then ns + 1 else ns) := by
  have h0 : PC 10 E 4 0 0 := hR.1.2.2.1.1
  have hsw : nI Y - nI Y / 20 * 20 = (3 : Int32) := by rw [show (20 : Int32) = nI 20 from rfl, nI_mod hY (by omega), hk]; rfl
  generalize nI Y = x at *
  obtain ⟨κ1, rs, κ', t', hf, hcod, hcov, hkc, hT', hR', hX'⟩ := ac_scale (a1 := (x / 20) - (x / 20) / 4 * 4) (a2 := 1 + (((x / 20) / 4) - ((x / 20) / 4) / 3 * 3)) (by omega) hR
  refine ⟨E, κ', lwR rs, n, ns, t', C + 1, ?_, hR', by omega, hT', hX', (if_neg (fun z => absurd z.1 (by omega))).symm, (if_neg (fun z => absurd z.1 (by omega))).symm⟩
  refine Con_of hfl (by decide) (Nat.le_of_ble_eq_true rfl) rfl ⟨.int, rfl, rfl⟩ ?_
  intro X B g O hKP hmL hE
  change J X B (E, κ) 0 [(0, .inr (some (4, 0, 0))), (1, .inl (.int x))] []
  refine J_iload_n O.mo dL_act_0 1 rfl ?_
  refine J_bipush O.mo (v := 20) dL_act_1 (by decide) ?_
  refine J_idiv O.mo dL_act_3 (by decide) ?_
  refine J_istore_n O.mo dL_act_4 (by rw [hmL]; decide) rfl rfl ?_
  refine J_iload_n O.mo dL_act_5 0 rfl ?_
  refine J_iconst O.mo (v := 4) dL_act_6 (by decide) ?_
  refine J_irem O.mo dL_act_7 (by decide) ?_
  refine J_istore_n O.mo dL_act_8 (by rw [hmL]; decide) rfl rfl ?_
  refine J_iload_n O.mo dL_act_9 3 rfl ?_
  refine J_bipush O.mo (v := 20) dL_act_10 (by decide) ?_
  refine J_irem O.mo dL_act_12 (by decide) ?_
  refine J_tabIn O.mo (tgt := 192) (w := 3) hsw dL_act_13 (by decide) (by decide) rfl (by decide) ?_
  refine J_aload_n O.mo dL_act_192 2 rfl ?_
  refine J_iload_n O.mo dL_act_193 0 rfl ?_
  refine J_iconst O.mo (v := 1) dL_act_194 (by decide) ?_
  refine J_iload_n O.mo dL_act_195 1 rfl ?_
  refine J_iconst O.mo (v := 4) dL_act_196 (by decide) ?_
  refine J_idiv O.mo dL_act_197 (by decide) ?_
  refine J_iconst O.mo (v := 3) dL_act_198 (by decide) ?_
  refine J_irem O.mo dL_act_199 (by decide) ?_
  refine J_iadd O.mo dL_act_200 ?_
  refine J_callSW O hKP (as := [.inr (some (4, 0, 0)), .inl (.int ((x / 20) - (x / 20) / 4 * 4)), .inl (.int (1 + (((x / 20) / 4) - ((x / 20) / 4) / 3 * 3)))]) (rest := []) (r := some (.inl (.int (lwR rs)))) (c_L_scale hfl h0 hf hcod) rfl mw775 mw776 mw770 mw777 pd_L_scale rfl (by decide) rfl (Nat.le_of_ble_eq_true rfl) (sl_v (sl_v (sl_p (s10_0 h0) (sl_v sl_0)))) st_0 dL_act_201 ?_
  show J X B (E, κ1) 204 [(3, .inl (.int ((x / 20) - (x / 20) / 4 * 4))), (2, .inl (.int (x / 20))), (0, .inr (some (4, 0, 0))), (1, .inl (.int x))] [.inl (.int (lwR rs))]
  refine J_cov O hcov (by rw [hkc]; exact Nat.le_refl _) (by rw [hkc]; exact Nat.le_refl _) ?_
  exact hE _ _ dL_act_204
set_option maxHeartbeats 4000000 in
set_option maxRecDepth 100000 in
theorem act_4 {l : Launch} (hfl : l.stackTraces = false) {E : EE} {κ : K} {n ns t C : Nat} (hR : REL E κ (kV κ 5 0) n ns t C) (hC : C + 13 < 512) {Y : Nat} (hY : Y < 2147483648) (hk : Y % 20 = 4) : ∃ (E' : EE) (κ' : K) (r : Int32) (n' ns' t' C' : Nat), Con l yL_act cL_act 6 (some .int) 11 306 [.inr (some (4, 0, 0)), .inl (.int (nI Y))] (E, κ) (E', κ') (some (.inl (.int r))) ∧ REL E' κ' (kV κ' 5 0) n' ns' t' C' ∧ (C' + 12 * n ≤ C + 1 + 12 * n' ∧ C ≤ C') ∧ kT κ' = none ∧ EXT (kV κ 5 0) (kV κ' 5 0) ∧ n' = (if Y % 20 < 2 ∧ 0 ≤ r then n + 1 else n) ∧ ns' = (if Y % 20 = 14 ∧ 0 ≤ r then ns + 1 else ns) := by
  have h0 : PC 10 E 4 0 0 := hR.1.2.2.1.1
  have hsw : nI Y - nI Y / 20 * 20 = (4 : Int32) := by rw [show (20 : Int32) = nI 20 from rfl, nI_mod hY (by omega), hk]; rfl
  generalize nI Y = x at *
  obtain ⟨κ1, rs, κ', t', hf, hcod, hcov, hkc, hT', hR', hX'⟩ := ac_input (a1 := (x / 20) - (x / 20) / 4 * 4) (a2 := ((x / 20) / 4) - ((x / 20) / 4) / 10000 * 10000) (by omega) hR
  refine ⟨E, κ', lwR rs, n, ns, t', C + 1, ?_, hR', by omega, hT', hX', (if_neg (fun z => absurd z.1 (by omega))).symm, (if_neg (fun z => absurd z.1 (by omega))).symm⟩
  refine Con_of hfl (by decide) (Nat.le_of_ble_eq_true rfl) rfl ⟨.int, rfl, rfl⟩ ?_
  intro X B g O hKP hmL hE
  change J X B (E, κ) 0 [(0, .inr (some (4, 0, 0))), (1, .inl (.int x))] []
  refine J_iload_n O.mo dL_act_0 1 rfl ?_
  refine J_bipush O.mo (v := 20) dL_act_1 (by decide) ?_
  refine J_idiv O.mo dL_act_3 (by decide) ?_
  refine J_istore_n O.mo dL_act_4 (by rw [hmL]; decide) rfl rfl ?_
  refine J_iload_n O.mo dL_act_5 0 rfl ?_
  refine J_iconst O.mo (v := 4) dL_act_6 (by decide) ?_
  refine J_irem O.mo dL_act_7 (by decide) ?_
  refine J_istore_n O.mo dL_act_8 (by rw [hmL]; decide) rfl rfl ?_
  refine J_iload_n O.mo dL_act_9 3 rfl ?_
  refine J_bipush O.mo (v := 20) dL_act_10 (by decide) ?_
  refine J_irem O.mo dL_act_12 (by decide) ?_
  refine J_tabIn O.mo (tgt := 205) (w := 4) hsw dL_act_13 (by decide) (by decide) rfl (by decide) ?_
  refine J_aload_n O.mo dL_act_205 2 rfl ?_
  refine J_iload_n O.mo dL_act_206 0 rfl ?_
  refine J_iload_n O.mo dL_act_207 1 rfl ?_
  refine J_iconst O.mo (v := 4) dL_act_208 (by decide) ?_
  refine J_idiv O.mo dL_act_209 (by decide) ?_
  refine J_sipush O.mo (v := 10000) dL_act_210 (by decide) ?_
  refine J_irem O.mo dL_act_213 (by decide) ?_
  refine J_callSW O hKP (as := [.inr (some (4, 0, 0)), .inl (.int ((x / 20) - (x / 20) / 4 * 4)), .inl (.int (((x / 20) / 4) - ((x / 20) / 4) / 10000 * 10000))]) (rest := []) (r := some (.inl (.int (lwR rs)))) (c_L_input hfl h0 hf hcod) rfl mw778 mw779 mw770 mw780 pd_L_input rfl (by decide) rfl (Nat.le_of_ble_eq_true rfl) (sl_v (sl_v (sl_p (s10_0 h0) (sl_v sl_0)))) st_0 dL_act_214 ?_
  show J X B (E, κ1) 217 [(3, .inl (.int ((x / 20) - (x / 20) / 4 * 4))), (2, .inl (.int (x / 20))), (0, .inr (some (4, 0, 0))), (1, .inl (.int x))] [.inl (.int (lwR rs))]
  refine J_cov O hcov (by rw [hkc]; exact Nat.le_refl _) (by rw [hkc]; exact Nat.le_refl _) ?_
  exact hE _ _ dL_act_217
set_option maxHeartbeats 4000000 in
set_option maxRecDepth 100000 in
theorem act_5 {l : Launch} (hfl : l.stackTraces = false) {E : EE} {κ : K} {n ns t C : Nat} (hR : REL E κ (kV κ 5 0) n ns t C) (hC : C + 13 < 512) {Y : Nat} (hY : Y < 2147483648) (hk : Y % 20 = 5) : ∃ (E' : EE) (κ' : K) (r : Int32) (n' ns' t' C' : Nat), Con l yL_act cL_act 6 (some .int) 11 306 [.inr (some (4, 0, 0)), .inl (.int (nI Y))] (E, κ) (E', κ') (some (.inl (.int r))) ∧ REL E' κ' (kV κ' 5 0) n' ns' t' C' ∧ (C' + 12 * n ≤ C + 1 + 12 * n' ∧ C ≤ C') ∧ kT κ' = none ∧ EXT (kV κ 5 0) (kV κ' 5 0) ∧ n' = (if Y % 20 < 2 ∧ 0 ≤ r then n + 1 else n) ∧ ns' = (if Y % 20 = 14 ∧ 0 ≤ r then ns + 1 else ns) := by
  have h0 : PC 10 E 4 0 0 := hR.1.2.2.1.1
  have hsw : nI Y - nI Y / 20 * 20 = (5 : Int32) := by rw [show (20 : Int32) = nI 20 from rfl, nI_mod hY (by omega), hk]; rfl
  generalize nI Y = x at *
  obtain ⟨κ1, rs, κ', t', hf, hcod, hcov, hkc, hT', hR', hX'⟩ := ac_input (a1 := (x / 20) - (x / 20) / 4 * 4) (a2 := ((x / 20) / 4) - ((x / 20) / 4) / 10000 * 10000) (by omega) hR
  refine ⟨E, κ', lwR rs, n, ns, t', C + 1, ?_, hR', by omega, hT', hX', (if_neg (fun z => absurd z.1 (by omega))).symm, (if_neg (fun z => absurd z.1 (by omega))).symm⟩
  refine Con_of hfl (by decide) (Nat.le_of_ble_eq_true rfl) rfl ⟨.int, rfl, rfl⟩ ?_
  intro X B g O hKP hmL hE
  change J X B (E, κ) 0 [(0, .inr (some (4, 0, 0))), (1, .inl (.int x))] []
  refine J_iload_n O.mo dL_act_0 1 rfl ?_
  refine J_bipush O.mo (v := 20) dL_act_1 (by decide) ?_
  refine J_idiv O.mo dL_act_3 (by decide) ?_
  refine J_istore_n O.mo dL_act_4 (by rw [hmL]; decide) rfl rfl ?_
  refine J_iload_n O.mo dL_act_5 0 rfl ?_
  refine J_iconst O.mo (v := 4) dL_act_6 (by decide) ?_
  refine J_irem O.mo dL_act_7 (by decide) ?_
  refine J_istore_n O.mo dL_act_8 (by rw [hmL]; decide) rfl rfl ?_
  refine J_iload_n O.mo dL_act_9 3 rfl ?_
  refine J_bipush O.mo (v := 20) dL_act_10 (by decide) ?_
  refine J_irem O.mo dL_act_12 (by decide) ?_
  refine J_tabIn O.mo (tgt := 205) (w := 5) hsw dL_act_13 (by decide) (by decide) rfl (by decide) ?_
  refine J_aload_n O.mo dL_act_205 2 rfl ?_
  refine J_iload_n O.mo dL_act_206 0 rfl ?_
  refine J_iload_n O.mo dL_act_207 1 rfl ?_
  refine J_iconst O.mo (v := 4) dL_act_208 (by decide) ?_
  refine J_idiv O.mo dL_act_209 (by decide) ?_
  refine J_sipush O.mo (v := 10000) dL_act_210 (by decide) ?_
  refine J_irem O.mo dL_act_213 (by decide) ?_
  refine J_callSW O hKP (as := [.inr (some (4, 0, 0)), .inl (.int ((x / 20) - (x / 20) / 4 * 4)), .inl (.int (((x / 20) / 4) - ((x / 20) / 4) / 10000 * 10000))]) (rest := []) (r := some (.inl (.int (lwR rs)))) (c_L_input hfl h0 hf hcod) rfl mw778 mw779 mw770 mw780 pd_L_input rfl (by decide) rfl (Nat.le_of_ble_eq_true rfl) (sl_v (sl_v (sl_p (s10_0 h0) (sl_v sl_0)))) st_0 dL_act_214 ?_
  show J X B (E, κ1) 217 [(3, .inl (.int ((x / 20) - (x / 20) / 4 * 4))), (2, .inl (.int (x / 20))), (0, .inr (some (4, 0, 0))), (1, .inl (.int x))] [.inl (.int (lwR rs))]
  refine J_cov O hcov (by rw [hkc]; exact Nat.le_refl _) (by rw [hkc]; exact Nat.le_refl _) ?_
  exact hE _ _ dL_act_217
set_option maxHeartbeats 4000000 in
set_option maxRecDepth 100000 in
theorem act_6 {l : Launch} (hfl : l.stackTraces = false) {E : EE} {κ : K} {n ns t C : Nat} (hR : REL E κ (kV κ 5 0) n ns t C) (hC : C + 13 < 512) {Y : Nat} (hY : Y < 2147483648) (hk : Y % 20 = 6) : ∃ (E' : EE) (κ' : K) (r : Int32) (n' ns' t' C' : Nat), Con l yL_act cL_act 6 (some .int) 11 306 [.inr (some (4, 0, 0)), .inl (.int (nI Y))] (E, κ) (E', κ') (some (.inl (.int r))) ∧ REL E' κ' (kV κ' 5 0) n' ns' t' C' ∧ (C' + 12 * n ≤ C + 1 + 12 * n' ∧ C ≤ C') ∧ kT κ' = none ∧ EXT (kV κ 5 0) (kV κ' 5 0) ∧ n' = (if Y % 20 < 2 ∧ 0 ≤ r then n + 1 else n) ∧ ns' = (if Y % 20 = 14 ∧ 0 ≤ r then ns + 1 else ns) := by
  have h0 : PC 10 E 4 0 0 := hR.1.2.2.1.1
  have hsw : nI Y - nI Y / 20 * 20 = (6 : Int32) := by rw [show (20 : Int32) = nI 20 from rfl, nI_mod hY (by omega), hk]; rfl
  generalize nI Y = x at *
  obtain ⟨κ1, rs, κ', t', hf, hcod, hcov, hkc, hT', hR', hX'⟩ := ac_send (a1 := (x / 20) - (x / 20) / 4 * 4) (by omega) hR
  refine ⟨E, κ', lwRB rs, n, ns, t', C + 1, ?_, hR', by omega, hT', hX', (if_neg (fun z => absurd z.1 (by omega))).symm, (if_neg (fun z => absurd z.1 (by omega))).symm⟩
  refine Con_of hfl (by decide) (Nat.le_of_ble_eq_true rfl) rfl ⟨.int, rfl, rfl⟩ ?_
  intro X B g O hKP hmL hE
  change J X B (E, κ) 0 [(0, .inr (some (4, 0, 0))), (1, .inl (.int x))] []
  refine J_iload_n O.mo dL_act_0 1 rfl ?_
  refine J_bipush O.mo (v := 20) dL_act_1 (by decide) ?_
  refine J_idiv O.mo dL_act_3 (by decide) ?_
  refine J_istore_n O.mo dL_act_4 (by rw [hmL]; decide) rfl rfl ?_
  refine J_iload_n O.mo dL_act_5 0 rfl ?_
  refine J_iconst O.mo (v := 4) dL_act_6 (by decide) ?_
  refine J_irem O.mo dL_act_7 (by decide) ?_
  refine J_istore_n O.mo dL_act_8 (by rw [hmL]; decide) rfl rfl ?_
  refine J_iload_n O.mo dL_act_9 3 rfl ?_
  refine J_bipush O.mo (v := 20) dL_act_10 (by decide) ?_
  refine J_irem O.mo dL_act_12 (by decide) ?_
  refine J_tabIn O.mo (tgt := 218) (w := 6) hsw dL_act_13 (by decide) (by decide) rfl (by decide) ?_
  refine J_aload_n O.mo dL_act_218 2 rfl ?_
  refine J_iload_n O.mo dL_act_219 0 rfl ?_
  refine J_callSW O hKP (as := [.inr (some (4, 0, 0)), .inl (.int ((x / 20) - (x / 20) / 4 * 4))]) (rest := []) (r := some (.inl (.int (lwRB rs)))) (c_L_send hfl h0 hf hcod) rfl mw781 mw782 mw770 mw783 pd_L_send rfl (by decide) rfl (Nat.le_of_ble_eq_true rfl) (sl_v (sl_v (sl_p (s10_0 h0) (sl_v sl_0)))) st_0 dL_act_220 ?_
  show J X B (E, κ1) 223 [(3, .inl (.int ((x / 20) - (x / 20) / 4 * 4))), (2, .inl (.int (x / 20))), (0, .inr (some (4, 0, 0))), (1, .inl (.int x))] [.inl (.int (lwRB rs))]
  refine J_cov O hcov (by rw [hkc]; exact Nat.le_refl _) (by rw [hkc]; exact Nat.le_refl _) ?_
  exact hE _ _ dL_act_223
set_option maxHeartbeats 4000000 in
set_option maxRecDepth 100000 in
theorem act_7 {l : Launch} (hfl : l.stackTraces = false) {E : EE} {κ : K} {n ns t C : Nat} (hR : REL E κ (kV κ 5 0) n ns t C) (hC : C + 13 < 512) {Y : Nat} (hY : Y < 2147483648) (hk : Y % 20 = 7) : ∃ (E' : EE) (κ' : K) (r : Int32) (n' ns' t' C' : Nat), Con l yL_act cL_act 6 (some .int) 11 306 [.inr (some (4, 0, 0)), .inl (.int (nI Y))] (E, κ) (E', κ') (some (.inl (.int r))) ∧ REL E' κ' (kV κ' 5 0) n' ns' t' C' ∧ (C' + 12 * n ≤ C + 1 + 12 * n' ∧ C ≤ C') ∧ kT κ' = none ∧ EXT (kV κ 5 0) (kV κ' 5 0) ∧ n' = (if Y % 20 < 2 ∧ 0 ≤ r then n + 1 else n) ∧ ns' = (if Y % 20 = 14 ∧ 0 ≤ r then ns + 1 else ns) := by
  have h0 : PC 10 E 4 0 0 := hR.1.2.2.1.1
  have hsw : nI Y - nI Y / 20 * 20 = (7 : Int32) := by rw [show (20 : Int32) = nI 20 from rfl, nI_mod hY (by omega), hk]; rfl
  generalize nI Y = x at *
  obtain ⟨κ1, rs, κ', t', hf, hcod, hcov, hkc, hT', hR', hX'⟩ := ac_tick (a1 := 1 + ((x / 20) - (x / 20) / (if ((x / 20) - (x / 20) / 3 * 3) = 0 then 20 else 4) * (if ((x / 20) - (x / 20) / 3 * 3) = 0 then 20 else 4))) (by omega) hR
  refine ⟨E, κ', lwR rs, n, ns, t', C + 1, ?_, hR', by omega, hT', hX', (if_neg (fun z => absurd z.1 (by omega))).symm, (if_neg (fun z => absurd z.1 (by omega))).symm⟩
  refine Con_of hfl (by decide) (Nat.le_of_ble_eq_true rfl) rfl ⟨.int, rfl, rfl⟩ ?_
  intro X B g O hKP hmL hE
  change J X B (E, κ) 0 [(0, .inr (some (4, 0, 0))), (1, .inl (.int x))] []
  refine J_iload_n O.mo dL_act_0 1 rfl ?_
  refine J_bipush O.mo (v := 20) dL_act_1 (by decide) ?_
  refine J_idiv O.mo dL_act_3 (by decide) ?_
  refine J_istore_n O.mo dL_act_4 (by rw [hmL]; decide) rfl rfl ?_
  refine J_iload_n O.mo dL_act_5 0 rfl ?_
  refine J_iconst O.mo (v := 4) dL_act_6 (by decide) ?_
  refine J_irem O.mo dL_act_7 (by decide) ?_
  refine J_istore_n O.mo dL_act_8 (by rw [hmL]; decide) rfl rfl ?_
  refine J_iload_n O.mo dL_act_9 3 rfl ?_
  refine J_bipush O.mo (v := 20) dL_act_10 (by decide) ?_
  refine J_irem O.mo dL_act_12 (by decide) ?_
  refine J_tabIn O.mo (tgt := 224) (w := 7) hsw dL_act_13 (by decide) (by decide) rfl (by decide) ?_
  suffices K1 : J X B (E, κ) 239 [(3, .inl (.int ((x / 20) - (x / 20) / 4 * 4))), (2, .inl (.int (x / 20))), (0, .inr (some (4, 0, 0))), (1, .inl (.int x))] [.inl (.int (if ((x / 20) - (x / 20) / 3 * 3) = 0 then 20 else 4)), .inl (.int (x / 20)), .inl (.int 1), .inr (some (4, 0, 0))] by
    refine J_aload_n O.mo dL_act_224 2 rfl ?_
    refine J_iconst O.mo (v := 1) dL_act_225 (by decide) ?_
    refine J_iload_n O.mo dL_act_226 1 rfl ?_
    refine J_iload_n O.mo dL_act_227 1 rfl ?_
    refine J_iconst O.mo (v := 3) dL_act_228 (by decide) ?_
    refine J_irem O.mo dL_act_229 (by decide) ?_
    refine J_if_ne O.mo (tgt := 238) dL_act_230 (by decide) (fun hc2 => ?_) (fun hc2 => ?_)
    · refine J_iconst O.mo (v := 4) dL_act_238 (by decide) ?_
      rw [if_neg hc2] at K1
      exact K1
    · refine J_bipush O.mo (v := 20) dL_act_233 (by decide) ?_
      refine J_goto O.mo (tgt := 239) dL_act_235 (by decide) ?_
      rw [if_pos hc2] at K1
      exact K1
  refine J_irem O.mo dL_act_239 (by split <;> decide) ?_
  refine J_iadd O.mo dL_act_240 ?_
  refine J_callSW O hKP (as := [.inr (some (4, 0, 0)), .inl (.int (1 + ((x / 20) - (x / 20) / (if ((x / 20) - (x / 20) / 3 * 3) = 0 then 20 else 4) * (if ((x / 20) - (x / 20) / 3 * 3) = 0 then 20 else 4))))]) (rest := []) (r := some (.inl (.int (lwR rs)))) (c_L_tick hfl h0 hf hcod) rfl mw784 mw785 mw770 mw786 pd_L_tick rfl (by decide) rfl (Nat.le_of_ble_eq_true rfl) (sl_v (sl_v (sl_p (s10_0 h0) (sl_v sl_0)))) st_0 dL_act_241 ?_
  show J X B (E, κ1) 244 [(3, .inl (.int ((x / 20) - (x / 20) / 4 * 4))), (2, .inl (.int (x / 20))), (0, .inr (some (4, 0, 0))), (1, .inl (.int x))] [.inl (.int (lwR rs))]
  refine J_cov O hcov (by rw [hkc]; exact Nat.le_refl _) (by rw [hkc]; exact Nat.le_refl _) ?_
  exact hE _ _ dL_act_244
set_option maxHeartbeats 4000000 in
set_option maxRecDepth 100000 in
theorem act_8 {l : Launch} (hfl : l.stackTraces = false) {E : EE} {κ : K} {n ns t C : Nat} (hR : REL E κ (kV κ 5 0) n ns t C) (hC : C + 13 < 512) {Y : Nat} (hY : Y < 2147483648) (hk : Y % 20 = 8) : ∃ (E' : EE) (κ' : K) (r : Int32) (n' ns' t' C' : Nat), Con l yL_act cL_act 6 (some .int) 11 306 [.inr (some (4, 0, 0)), .inl (.int (nI Y))] (E, κ) (E', κ') (some (.inl (.int r))) ∧ REL E' κ' (kV κ' 5 0) n' ns' t' C' ∧ (C' + 12 * n ≤ C + 1 + 12 * n' ∧ C ≤ C') ∧ kT κ' = none ∧ EXT (kV κ 5 0) (kV κ' 5 0) ∧ n' = (if Y % 20 < 2 ∧ 0 ≤ r then n + 1 else n) ∧ ns' = (if Y % 20 = 14 ∧ 0 ≤ r then ns + 1 else ns) := by
  have h0 : PC 10 E 4 0 0 := hR.1.2.2.1.1
  have hsw : nI Y - nI Y / 20 * 20 = (8 : Int32) := by rw [show (20 : Int32) = nI 20 from rfl, nI_mod hY (by omega), hk]; rfl
  generalize nI Y = x at *
  obtain ⟨κ1, rs, κ', t', hf, hcod, hcov, hkc, hT', hR', hX'⟩ := ac_tick (a1 := 1 + ((x / 20) - (x / 20) / (if ((x / 20) - (x / 20) / 3 * 3) = 0 then 20 else 4) * (if ((x / 20) - (x / 20) / 3 * 3) = 0 then 20 else 4))) (by omega) hR
  refine ⟨E, κ', lwR rs, n, ns, t', C + 1, ?_, hR', by omega, hT', hX', (if_neg (fun z => absurd z.1 (by omega))).symm, (if_neg (fun z => absurd z.1 (by omega))).symm⟩
  refine Con_of hfl (by decide) (Nat.le_of_ble_eq_true rfl) rfl ⟨.int, rfl, rfl⟩ ?_
  intro X B g O hKP hmL hE
  change J X B (E, κ) 0 [(0, .inr (some (4, 0, 0))), (1, .inl (.int x))] []
  refine J_iload_n O.mo dL_act_0 1 rfl ?_
  refine J_bipush O.mo (v := 20) dL_act_1 (by decide) ?_
  refine J_idiv O.mo dL_act_3 (by decide) ?_
  refine J_istore_n O.mo dL_act_4 (by rw [hmL]; decide) rfl rfl ?_
  refine J_iload_n O.mo dL_act_5 0 rfl ?_
  refine J_iconst O.mo (v := 4) dL_act_6 (by decide) ?_
  refine J_irem O.mo dL_act_7 (by decide) ?_
  refine J_istore_n O.mo dL_act_8 (by rw [hmL]; decide) rfl rfl ?_
  refine J_iload_n O.mo dL_act_9 3 rfl ?_
  refine J_bipush O.mo (v := 20) dL_act_10 (by decide) ?_
  refine J_irem O.mo dL_act_12 (by decide) ?_
  refine J_tabIn O.mo (tgt := 224) (w := 8) hsw dL_act_13 (by decide) (by decide) rfl (by decide) ?_
  suffices K1 : J X B (E, κ) 239 [(3, .inl (.int ((x / 20) - (x / 20) / 4 * 4))), (2, .inl (.int (x / 20))), (0, .inr (some (4, 0, 0))), (1, .inl (.int x))] [.inl (.int (if ((x / 20) - (x / 20) / 3 * 3) = 0 then 20 else 4)), .inl (.int (x / 20)), .inl (.int 1), .inr (some (4, 0, 0))] by
    refine J_aload_n O.mo dL_act_224 2 rfl ?_
    refine J_iconst O.mo (v := 1) dL_act_225 (by decide) ?_
    refine J_iload_n O.mo dL_act_226 1 rfl ?_
    refine J_iload_n O.mo dL_act_227 1 rfl ?_
    refine J_iconst O.mo (v := 3) dL_act_228 (by decide) ?_
    refine J_irem O.mo dL_act_229 (by decide) ?_
    refine J_if_ne O.mo (tgt := 238) dL_act_230 (by decide) (fun hc2 => ?_) (fun hc2 => ?_)
    · refine J_iconst O.mo (v := 4) dL_act_238 (by decide) ?_
      rw [if_neg hc2] at K1
      exact K1
    · refine J_bipush O.mo (v := 20) dL_act_233 (by decide) ?_
      refine J_goto O.mo (tgt := 239) dL_act_235 (by decide) ?_
      rw [if_pos hc2] at K1
      exact K1
  refine J_irem O.mo dL_act_239 (by split <;> decide) ?_
  refine J_iadd O.mo dL_act_240 ?_
  refine J_callSW O hKP (as := [.inr (some (4, 0, 0)), .inl (.int (1 + ((x / 20) - (x / 20) / (if ((x / 20) - (x / 20) / 3 * 3) = 0 then 20 else 4) * (if ((x / 20) - (x / 20) / 3 * 3) = 0 then 20 else 4))))]) (rest := []) (r := some (.inl (.int (lwR rs)))) (c_L_tick hfl h0 hf hcod) rfl mw784 mw785 mw770 mw786 pd_L_tick rfl (by decide) rfl (Nat.le_of_ble_eq_true rfl) (sl_v (sl_v (sl_p (s10_0 h0) (sl_v sl_0)))) st_0 dL_act_241 ?_
  show J X B (E, κ1) 244 [(3, .inl (.int ((x / 20) - (x / 20) / 4 * 4))), (2, .inl (.int (x / 20))), (0, .inr (some (4, 0, 0))), (1, .inl (.int x))] [.inl (.int (lwR rs))]
  refine J_cov O hcov (by rw [hkc]; exact Nat.le_refl _) (by rw [hkc]; exact Nat.le_refl _) ?_
  exact hE _ _ dL_act_244
set_option maxHeartbeats 4000000 in
set_option maxRecDepth 100000 in
theorem act_9 {l : Launch} (hfl : l.stackTraces = false) {E : EE} {κ : K} {n ns t C : Nat} (hR : REL E κ (kV κ 5 0) n ns t C) (hC : C + 13 < 512) {Y : Nat} (hY : Y < 2147483648) (hk : Y % 20 = 9) : ∃ (E' : EE) (κ' : K) (r : Int32) (n' ns' t' C' : Nat), Con l yL_act cL_act 6 (some .int) 11 306 [.inr (some (4, 0, 0)), .inl (.int (nI Y))] (E, κ) (E', κ') (some (.inl (.int r))) ∧ REL E' κ' (kV κ' 5 0) n' ns' t' C' ∧ (C' + 12 * n ≤ C + 1 + 12 * n' ∧ C ≤ C') ∧ kT κ' = none ∧ EXT (kV κ 5 0) (kV κ' 5 0) ∧ n' = (if Y % 20 < 2 ∧ 0 ≤ r then n + 1 else n) ∧ ns' = (if Y % 20 = 14 ∧ 0 ≤ r then ns + 1 else ns) := by
  have h0 : PC 10 E 4 0 0 := hR.1.2.2.1.1
  have hsw : nI Y - nI Y / 20 * 20 = (9 : Int32) := by rw [show (20 : Int32) = nI 20 from rfl, nI_mod hY (by omega), hk]; rfl
  generalize nI Y = x at *
  obtain ⟨κ1, rs, κ', t', hf, hcod, hcov, hkc, hT', hR', hX'⟩ := ac_tick (a1 := 1 + ((x / 20) - (x / 20) / (if ((x / 20) - (x / 20) / 3 * 3) = 0 then 20 else 4) * (if ((x / 20) - (x / 20) / 3 * 3) = 0 then 20 else 4))) (by omega) hR
  refine ⟨E, κ', lwR rs, n, ns, t', C + 1, ?_, hR', by omega, hT', hX', (if_neg (fun z => absurd z.1 (by omega))).symm, (if_neg (fun z => absurd z.1 (by omega))).symm⟩
  refine Con_of hfl (by decide) (Nat.le_of_ble_eq_true rfl) rfl ⟨.int, rfl, rfl⟩ ?_
  intro X B g O hKP hmL hE
  change J X B (E, κ) 0 [(0, .inr (some (4, 0, 0))), (1, .inl (.int x))] []
  refine J_iload_n O.mo dL_act_0 1 rfl ?_
  refine J_bipush O.mo (v := 20) dL_act_1 (by decide) ?_
  refine J_idiv O.mo dL_act_3 (by decide) ?_
  refine J_istore_n O.mo dL_act_4 (by rw [hmL]; decide) rfl rfl ?_
  refine J_iload_n O.mo dL_act_5 0 rfl ?_
  refine J_iconst O.mo (v := 4) dL_act_6 (by decide) ?_
  refine J_irem O.mo dL_act_7 (by decide) ?_
  refine J_istore_n O.mo dL_act_8 (by rw [hmL]; decide) rfl rfl ?_
  refine J_iload_n O.mo dL_act_9 3 rfl ?_
  refine J_bipush O.mo (v := 20) dL_act_10 (by decide) ?_
  refine J_irem O.mo dL_act_12 (by decide) ?_
  refine J_tabIn O.mo (tgt := 224) (w := 9) hsw dL_act_13 (by decide) (by decide) rfl (by decide) ?_
  suffices K1 : J X B (E, κ) 239 [(3, .inl (.int ((x / 20) - (x / 20) / 4 * 4))), (2, .inl (.int (x / 20))), (0, .inr (some (4, 0, 0))), (1, .inl (.int x))] [.inl (.int (if ((x / 20) - (x / 20) / 3 * 3) = 0 then 20 else 4)), .inl (.int (x / 20)), .inl (.int 1), .inr (some (4, 0, 0))] by
    refine J_aload_n O.mo dL_act_224 2 rfl ?_
    refine J_iconst O.mo (v := 1) dL_act_225 (by decide) ?_
    refine J_iload_n O.mo dL_act_226 1 rfl ?_
    refine J_iload_n O.mo dL_act_227 1 rfl ?_
    refine J_iconst O.mo (v := 3) dL_act_228 (by decide) ?_
    refine J_irem O.mo dL_act_229 (by decide) ?_
    refine J_if_ne O.mo (tgt := 238) dL_act_230 (by decide) (fun hc2 => ?_) (fun hc2 => ?_)
    · refine J_iconst O.mo (v := 4) dL_act_238 (by decide) ?_
      rw [if_neg hc2] at K1
      exact K1
    · refine J_bipush O.mo (v := 20) dL_act_233 (by decide) ?_
      refine J_goto O.mo (tgt := 239) dL_act_235 (by decide) ?_
      rw [if_pos hc2] at K1
      exact K1
  refine J_irem O.mo dL_act_239 (by split <;> decide) ?_
  refine J_iadd O.mo dL_act_240 ?_
  refine J_callSW O hKP (as := [.inr (some (4, 0, 0)), .inl (.int (1 + ((x / 20) - (x / 20) / (if ((x / 20) - (x / 20) / 3 * 3) = 0 then 20 else 4) * (if ((x / 20) - (x / 20) / 3 * 3) = 0 then 20 else 4))))]) (rest := []) (r := some (.inl (.int (lwR rs)))) (c_L_tick hfl h0 hf hcod) rfl mw784 mw785 mw770 mw786 pd_L_tick rfl (by decide) rfl (Nat.le_of_ble_eq_true rfl) (sl_v (sl_v (sl_p (s10_0 h0) (sl_v sl_0)))) st_0 dL_act_241 ?_
  show J X B (E, κ1) 244 [(3, .inl (.int ((x / 20) - (x / 20) / 4 * 4))), (2, .inl (.int (x / 20))), (0, .inr (some (4, 0, 0))), (1, .inl (.int x))] [.inl (.int (lwR rs))]
  refine J_cov O hcov (by rw [hkc]; exact Nat.le_refl _) (by rw [hkc]; exact Nat.le_refl _) ?_
  exact hE _ _ dL_act_244
set_option maxHeartbeats 4000000 in
set_option maxRecDepth 100000 in
theorem act_10 {l : Launch} (hfl : l.stackTraces = false) {E : EE} {κ : K} {n ns t C : Nat} (hR : REL E κ (kV κ 5 0) n ns t C) (hC : C + 13 < 512) {Y : Nat} (hY : Y < 2147483648) (hk : Y % 20 = 10) : ∃ (E' : EE) (κ' : K) (r : Int32) (n' ns' t' C' : Nat), Con l yL_act cL_act 6 (some .int) 11 306 [.inr (some (4, 0, 0)), .inl (.int (nI Y))] (E, κ) (E', κ') (some (.inl (.int r))) ∧ REL E' κ' (kV κ' 5 0) n' ns' t' C' ∧ (C' + 12 * n ≤ C + 1 + 12 * n' ∧ C ≤ C') ∧ kT κ' = none ∧ EXT (kV κ 5 0) (kV κ' 5 0) ∧ n' = (if Y % 20 < 2 ∧ 0 ≤ r then n + 1 else n) ∧ ns' = (if Y % 20 = 14 ∧ 0 ≤ r then ns + 1 else ns) := by
  have h0 : PC 10 E 4 0 0 := hR.1.2.2.1.1
  have hsw : nI Y - nI Y / 20 * 20 = (10 : Int32) := by rw [show (20 : Int32) = nI 20 from rfl, nI_mod hY (by omega), hk]; rfl
  generalize nI Y = x at *
  obtain ⟨κ1, rs, κ', t', hf, hcod, hcov, hkc, hT', hR', hX'⟩ := ac_share (a1 := (x / 20) - (x / 20) / 2 * 2) (by omega) hR
  refine ⟨E, κ', lwR rs, n, ns, t', C + 1, ?_, hR', by omega, hT', hX', (if_neg (fun z => absurd z.1 (by omega))).symm, (if_neg (fun z => absurd z.1 (by omega))).symm⟩
  refine Con_of hfl (by decide) (Nat.le_of_ble_eq_true rfl) rfl ⟨.int, rfl, rfl⟩ ?_
  intro X B g O hKP hmL hE
  change J X B (E, κ) 0 [(0, .inr (some (4, 0, 0))), (1, .inl (.int x))] []
  refine J_iload_n O.mo dL_act_0 1 rfl ?_
  refine J_bipush O.mo (v := 20) dL_act_1 (by decide) ?_
  refine J_idiv O.mo dL_act_3 (by decide) ?_
  refine J_istore_n O.mo dL_act_4 (by rw [hmL]; decide) rfl rfl ?_
  refine J_iload_n O.mo dL_act_5 0 rfl ?_
  refine J_iconst O.mo (v := 4) dL_act_6 (by decide) ?_
  refine J_irem O.mo dL_act_7 (by decide) ?_
  refine J_istore_n O.mo dL_act_8 (by rw [hmL]; decide) rfl rfl ?_
  refine J_iload_n O.mo dL_act_9 3 rfl ?_
  refine J_bipush O.mo (v := 20) dL_act_10 (by decide) ?_
  refine J_irem O.mo dL_act_12 (by decide) ?_
  refine J_tabIn O.mo (tgt := 245) (w := 10) hsw dL_act_13 (by decide) (by decide) rfl (by decide) ?_
  refine J_aload_n O.mo dL_act_245 2 rfl ?_
  refine J_iload_n O.mo dL_act_246 1 rfl ?_
  refine J_iconst O.mo (v := 2) dL_act_247 (by decide) ?_
  refine J_irem O.mo dL_act_248 (by decide) ?_
  refine J_callSW O hKP (as := [.inr (some (4, 0, 0)), .inl (.int ((x / 20) - (x / 20) / 2 * 2))]) (rest := []) (r := some (.inl (.int (lwR rs)))) (c_L_share hfl h0 hf hcod) rfl mw787 mw788 mw770 mw789 pd_L_share rfl (by decide) rfl (Nat.le_of_ble_eq_true rfl) (sl_v (sl_v (sl_p (s10_0 h0) (sl_v sl_0)))) st_0 dL_act_249 ?_
  show J X B (E, κ1) 252 [(3, .inl (.int ((x / 20) - (x / 20) / 4 * 4))), (2, .inl (.int (x / 20))), (0, .inr (some (4, 0, 0))), (1, .inl (.int x))] [.inl (.int (lwR rs))]
  refine J_cov O hcov (by rw [hkc]; exact Nat.le_refl _) (by rw [hkc]; exact Nat.le_refl _) ?_
  exact hE _ _ dL_act_252
set_option maxHeartbeats 4000000 in
set_option maxRecDepth 100000 in
theorem act_11 {l : Launch} (hfl : l.stackTraces = false) {E : EE} {κ : K} {n ns t C : Nat} (hR : REL E κ (kV κ 5 0) n ns t C) (hC : C + 13 < 512) {Y : Nat} (hY : Y < 2147483648) (hk : Y % 20 = 11) : ∃ (E' : EE) (κ' : K) (r : Int32) (n' ns' t' C' : Nat), Con l yL_act cL_act 6 (some .int) 11 306 [.inr (some (4, 0, 0)), .inl (.int (nI Y))] (E, κ) (E', κ') (some (.inl (.int r))) ∧ REL E' κ' (kV κ' 5 0) n' ns' t' C' ∧ (C' + 12 * n ≤ C + 1 + 12 * n' ∧ C ≤ C') ∧ kT κ' = none ∧ EXT (kV κ 5 0) (kV κ' 5 0) ∧ n' = (if Y % 20 < 2 ∧ 0 ≤ r then n + 1 else n) ∧ ns' = (if Y % 20 = 14 ∧ 0 ≤ r then ns + 1 else ns) := by
  have h0 : PC 10 E 4 0 0 := hR.1.2.2.1.1
  have hsw : nI Y - nI Y / 20 * 20 = (11 : Int32) := by rw [show (20 : Int32) = nI 20 from rfl, nI_mod hY (by omega), hk]; rfl
  generalize nI Y = x at *
  obtain ⟨κ1, rs, κ', t', hf, hcod, hcov, hkc, hT', hR', hX'⟩ := ac_move (a1 := (x / 20) - (x / 20) / 4 * 4) (by omega) hR
  refine ⟨E, κ', lwR rs, n, ns, t', C + 1, ?_, hR', by omega, hT', hX', (if_neg (fun z => absurd z.1 (by omega))).symm, (if_neg (fun z => absurd z.1 (by omega))).symm⟩
  refine Con_of hfl (by decide) (Nat.le_of_ble_eq_true rfl) rfl ⟨.int, rfl, rfl⟩ ?_
  intro X B g O hKP hmL hE
  change J X B (E, κ) 0 [(0, .inr (some (4, 0, 0))), (1, .inl (.int x))] []
  refine J_iload_n O.mo dL_act_0 1 rfl ?_
  refine J_bipush O.mo (v := 20) dL_act_1 (by decide) ?_
  refine J_idiv O.mo dL_act_3 (by decide) ?_
  refine J_istore_n O.mo dL_act_4 (by rw [hmL]; decide) rfl rfl ?_
  refine J_iload_n O.mo dL_act_5 0 rfl ?_
  refine J_iconst O.mo (v := 4) dL_act_6 (by decide) ?_
  refine J_irem O.mo dL_act_7 (by decide) ?_
  refine J_istore_n O.mo dL_act_8 (by rw [hmL]; decide) rfl rfl ?_
  refine J_iload_n O.mo dL_act_9 3 rfl ?_
  refine J_bipush O.mo (v := 20) dL_act_10 (by decide) ?_
  refine J_irem O.mo dL_act_12 (by decide) ?_
  refine J_tabIn O.mo (tgt := 253) (w := 11) hsw dL_act_13 (by decide) (by decide) rfl (by decide) ?_
  refine J_aload_n O.mo dL_act_253 2 rfl ?_
  refine J_iload_n O.mo dL_act_254 0 rfl ?_
  refine J_callSW O hKP (as := [.inr (some (4, 0, 0)), .inl (.int ((x / 20) - (x / 20) / 4 * 4))]) (rest := []) (r := some (.inl (.int (lwR rs)))) (c_L_move hfl h0 hf hcod) rfl mw790 mw791 mw770 mw792 pd_L_move rfl (by decide) rfl (Nat.le_of_ble_eq_true rfl) (sl_v (sl_v (sl_p (s10_0 h0) (sl_v sl_0)))) st_0 dL_act_255 ?_
  show J X B (E, κ1) 258 [(3, .inl (.int ((x / 20) - (x / 20) / 4 * 4))), (2, .inl (.int (x / 20))), (0, .inr (some (4, 0, 0))), (1, .inl (.int x))] [.inl (.int (lwR rs))]
  refine J_cov O hcov (by rw [hkc]; exact Nat.le_refl _) (by rw [hkc]; exact Nat.le_refl _) ?_
  exact hE _ _ dL_act_258
set_option maxHeartbeats 4000000 in
set_option maxRecDepth 100000 in
theorem act_12 {l : Launch} (hfl : l.stackTraces = false) {E : EE} {κ : K} {n ns t C : Nat} (hR : REL E κ (kV κ 5 0) n ns t C) (hC : C + 13 < 512) {Y : Nat} (hY : Y < 2147483648) (hk : Y % 20 = 12) : ∃ (E' : EE) (κ' : K) (r : Int32) (n' ns' t' C' : Nat), Con l yL_act cL_act 6 (some .int) 11 306 [.inr (some (4, 0, 0)), .inl (.int (nI Y))] (E, κ) (E', κ') (some (.inl (.int r))) ∧ REL E' κ' (kV κ' 5 0) n' ns' t' C' ∧ (C' + 12 * n ≤ C + 1 + 12 * n' ∧ C ≤ C') ∧ kT κ' = none ∧ EXT (kV κ 5 0) (kV κ' 5 0) ∧ n' = (if Y % 20 < 2 ∧ 0 ≤ r then n + 1 else n) ∧ ns' = (if Y % 20 = 14 ∧ 0 ≤ r then ns + 1 else ns) := by
  have h0 : PC 10 E 4 0 0 := hR.1.2.2.1.1
  have hsw : nI Y - nI Y / 20 * 20 = (12 : Int32) := by rw [show (20 : Int32) = nI 20 from rfl, nI_mod hY (by omega), hk]; rfl
  generalize nI Y = x at *
  obtain ⟨κ1, rs, κ', t', hf, hcod, hcov, hkc, hT', hR', hX'⟩ := ac_round (a1 := (x / 20) - (x / 20) / 4 * 4) (a2 := 1 + (((x / 20) / 4) - ((x / 20) / 4) / 8 * 8)) (by omega) hR
  refine ⟨E, κ', lwR rs, n, ns, t', C + 1, ?_, hR', by omega, hT', hX', (if_neg (fun z => absurd z.1 (by omega))).symm, (if_neg (fun z => absurd z.1 (by omega))).symm⟩
  refine Con_of hfl (by decide) (Nat.le_of_ble_eq_true rfl) rfl ⟨.int, rfl, rfl⟩ ?_
  intro X B g O hKP hmL hE
  change J X B (E, κ) 0 [(0, .inr (some (4, 0, 0))), (1, .inl (.int x))] []
  refine J_iload_n O.mo dL_act_0 1 rfl ?_
  refine J_bipush O.mo (v := 20) dL_act_1 (by decide) ?_
  refine J_idiv O.mo dL_act_3 (by decide) ?_
  refine J_istore_n O.mo dL_act_4 (by rw [hmL]; decide) rfl rfl ?_
  refine J_iload_n O.mo dL_act_5 0 rfl ?_
  refine J_iconst O.mo (v := 4) dL_act_6 (by decide) ?_
  refine J_irem O.mo dL_act_7 (by decide) ?_
  refine J_istore_n O.mo dL_act_8 (by rw [hmL]; decide) rfl rfl ?_
  refine J_iload_n O.mo dL_act_9 3 rfl ?_
  refine J_bipush O.mo (v := 20) dL_act_10 (by decide) ?_
  refine J_irem O.mo dL_act_12 (by decide) ?_
  refine J_tabIn O.mo (tgt := 259) (w := 12) hsw dL_act_13 (by decide) (by decide) rfl (by decide) ?_
  refine J_aload_n O.mo dL_act_259 2 rfl ?_
  refine J_iload_n O.mo dL_act_260 0 rfl ?_
  refine J_iconst O.mo (v := 1) dL_act_261 (by decide) ?_
  refine J_iload_n O.mo dL_act_262 1 rfl ?_
  refine J_iconst O.mo (v := 4) dL_act_263 (by decide) ?_
  refine J_idiv O.mo dL_act_264 (by decide) ?_
  refine J_bipush O.mo (v := 8) dL_act_265 (by decide) ?_
  refine J_irem O.mo dL_act_267 (by decide) ?_
  refine J_iadd O.mo dL_act_268 ?_
  refine J_callSW O hKP (as := [.inr (some (4, 0, 0)), .inl (.int ((x / 20) - (x / 20) / 4 * 4)), .inl (.int (1 + (((x / 20) / 4) - ((x / 20) / 4) / 8 * 8)))]) (rest := []) (r := some (.inl (.int (lwR rs)))) (c_L_round hfl h0 hf hcod) rfl mw793 mw794 mw770 mw795 pd_L_round rfl (by decide) rfl (Nat.le_of_ble_eq_true rfl) (sl_v (sl_v (sl_p (s10_0 h0) (sl_v sl_0)))) st_0 dL_act_269 ?_
  show J X B (E, κ1) 272 [(3, .inl (.int ((x / 20) - (x / 20) / 4 * 4))), (2, .inl (.int (x / 20))), (0, .inr (some (4, 0, 0))), (1, .inl (.int x))] [.inl (.int (lwR rs))]
  refine J_cov O hcov (by rw [hkc]; exact Nat.le_refl _) (by rw [hkc]; exact Nat.le_refl _) ?_
  exact hE _ _ dL_act_272
set_option maxHeartbeats 4000000 in
set_option maxRecDepth 100000 in
theorem act_13 {l : Launch} (hfl : l.stackTraces = false) {E : EE} {κ : K} {n ns t C : Nat} (hR : REL E κ (kV κ 5 0) n ns t C) (hC : C + 13 < 512) {Y : Nat} (hY : Y < 2147483648) (hk : Y % 20 = 13) : ∃ (E' : EE) (κ' : K) (r : Int32) (n' ns' t' C' : Nat), Con l yL_act cL_act 6 (some .int) 11 306 [.inr (some (4, 0, 0)), .inl (.int (nI Y))] (E, κ) (E', κ') (some (.inl (.int r))) ∧ REL E' κ' (kV κ' 5 0) n' ns' t' C' ∧ (C' + 12 * n ≤ C + 1 + 12 * n' ∧ C ≤ C') ∧ kT κ' = none ∧ EXT (kV κ 5 0) (kV κ' 5 0) ∧ n' = (if Y % 20 < 2 ∧ 0 ≤ r then n + 1 else n) ∧ ns' = (if Y % 20 = 14 ∧ 0 ≤ r then ns + 1 else ns) := by
  have h0 : PC 10 E 4 0 0 := hR.1.2.2.1.1
  have hsw : nI Y - nI Y / 20 * 20 = (13 : Int32) := by rw [show (20 : Int32) = nI 20 from rfl, nI_mod hY (by omega), hk]; rfl
  generalize nI Y = x at *
  obtain ⟨κ1, rs, κ', t', hf, hcod, hcov, hkc, hT', hR', hX'⟩ := ac_land (a1 := (x / 20) - (x / 20) / 4 * 4) (a2 := if (((x / 20) / 4) - ((x / 20) / 4) / 4 * 4) ≤ 0 then 0 else 1) (by omega) hR
  refine ⟨E, κ', lwR rs, n, ns, t', C + 1, ?_, hR', by omega, hT', hX', (if_neg (fun z => absurd z.1 (by omega))).symm, (if_neg (fun z => absurd z.1 (by omega))).symm⟩
  refine Con_of hfl (by decide) (Nat.le_of_ble_eq_true rfl) rfl ⟨.int, rfl, rfl⟩ ?_
  intro X B g O hKP hmL hE
  change J X B (E, κ) 0 [(0, .inr (some (4, 0, 0))), (1, .inl (.int x))] []
  refine J_iload_n O.mo dL_act_0 1 rfl ?_
  refine J_bipush O.mo (v := 20) dL_act_1 (by decide) ?_
  refine J_idiv O.mo dL_act_3 (by decide) ?_
  refine J_istore_n O.mo dL_act_4 (by rw [hmL]; decide) rfl rfl ?_
  refine J_iload_n O.mo dL_act_5 0 rfl ?_
  refine J_iconst O.mo (v := 4) dL_act_6 (by decide) ?_
  refine J_irem O.mo dL_act_7 (by decide) ?_
  refine J_istore_n O.mo dL_act_8 (by rw [hmL]; decide) rfl rfl ?_
  refine J_iload_n O.mo dL_act_9 3 rfl ?_
  refine J_bipush O.mo (v := 20) dL_act_10 (by decide) ?_
  refine J_irem O.mo dL_act_12 (by decide) ?_
  refine J_tabIn O.mo (tgt := 273) (w := 13) hsw dL_act_13 (by decide) (by decide) rfl (by decide) ?_
  suffices K1 : J X B (E, κ) 288 [(3, .inl (.int ((x / 20) - (x / 20) / 4 * 4))), (2, .inl (.int (x / 20))), (0, .inr (some (4, 0, 0))), (1, .inl (.int x))] [.inl (.int (if (((x / 20) / 4) - ((x / 20) / 4) / 4 * 4) ≤ 0 then 0 else 1)), .inl (.int ((x / 20) - (x / 20) / 4 * 4)), .inr (some (4, 0, 0))] by
    refine J_aload_n O.mo dL_act_273 2 rfl ?_
    refine J_iload_n O.mo dL_act_274 0 rfl ?_
    refine J_iload_n O.mo dL_act_275 1 rfl ?_
    refine J_iconst O.mo (v := 4) dL_act_276 (by decide) ?_
    refine J_idiv O.mo dL_act_277 (by decide) ?_
    refine J_iconst O.mo (v := 4) dL_act_278 (by decide) ?_
    refine J_irem O.mo dL_act_279 (by decide) ?_
    refine J_if_le O.mo (tgt := 287) dL_act_280 (by decide) (fun hc2 => ?_) (fun hc2 => ?_)
    · refine J_iconst O.mo (v := 0) dL_act_287 (by decide) ?_
      rw [if_pos hc2] at K1
      exact K1
    · refine J_iconst O.mo (v := 1) dL_act_283 (by decide) ?_
      refine J_goto O.mo (tgt := 288) dL_act_284 (by decide) ?_
      rw [if_neg hc2] at K1
      exact K1
  refine J_callSW O hKP (as := [.inr (some (4, 0, 0)), .inl (.int ((x / 20) - (x / 20) / 4 * 4)), .inl (.int (if (((x / 20) / 4) - ((x / 20) / 4) / 4 * 4) ≤ 0 then 0 else 1))]) (rest := []) (r := some (.inl (.int (lwR rs)))) (c_L_land hfl h0 hf hcod) rfl mw796 mw797 mw770 mw798 pd_L_land rfl (by decide) rfl (Nat.le_of_ble_eq_true rfl) (sl_v (sl_v (sl_p (s10_0 h0) (sl_v sl_0)))) st_0 dL_act_288 ?_
  show J X B (E, κ1) 291 [(3, .inl (.int ((x / 20) - (x / 20) / 4 * 4))), (2, .inl (.int (x / 20))), (0, .inr (some (4, 0, 0))), (1, .inl (.int x))] [.inl (.int (lwR rs))]
  refine J_cov O hcov (by rw [hkc]; exact Nat.le_refl _) (by rw [hkc]; exact Nat.le_refl _) ?_
  exact hE _ _ dL_act_291
set_option maxHeartbeats 4000000 in
set_option maxRecDepth 100000 in
theorem act_15 {l : Launch} (hfl : l.stackTraces = false) {E : EE} {κ : K} {n ns t C : Nat} (hR : REL E κ (kV κ 5 0) n ns t C) (hC : C + 13 < 512) {Y : Nat} (hY : Y < 2147483648) (hk : Y % 20 = 15) : ∃ (E' : EE) (κ' : K) (r : Int32) (n' ns' t' C' : Nat), Con l yL_act cL_act 6 (some .int) 11 306 [.inr (some (4, 0, 0)), .inl (.int (nI Y))] (E, κ) (E', κ') (some (.inl (.int r))) ∧ REL E' κ' (kV κ' 5 0) n' ns' t' C' ∧ (C' + 12 * n ≤ C + 1 + 12 * n' ∧ C ≤ C') ∧ kT κ' = none ∧ EXT (kV κ 5 0) (kV κ' 5 0) ∧ n' = (if Y % 20 < 2 ∧ 0 ≤ r then n + 1 else n) ∧ ns' = (if Y % 20 = 14 ∧ 0 ≤ r then ns + 1 else ns) := by
  have h0 : PC 10 E 4 0 0 := hR.1.2.2.1.1
  have hsw : nI Y - nI Y / 20 * 20 = (15 : Int32) := by rw [show (20 : Int32) = nI 20 from rfl, nI_mod hY (by omega), hk]; rfl
  generalize nI Y = x at *
  obtain ⟨κ1, rs, κ', t', hf, hcod, hcov, hkc, hT', hR', hX'⟩ := ac_restore (a1 := (x / 20) - (x / 20) / 4 * 4) (a2 := ((x / 20) / 4) - ((x / 20) / 4) / 5 * 5) (by omega) hR
  refine ⟨E, κ', lwR rs, n, ns, t', C + 1, ?_, hR', by omega, hT', hX', (if_neg (fun z => absurd z.1 (by omega))).symm, (if_neg (fun z => absurd z.1 (by omega))).symm⟩
  refine Con_of hfl (by decide) (Nat.le_of_ble_eq_true rfl) rfl ⟨.int, rfl, rfl⟩ ?_
  intro X B g O hKP hmL hE
  change J X B (E, κ) 0 [(0, .inr (some (4, 0, 0))), (1, .inl (.int x))] []
  refine J_iload_n O.mo dL_act_0 1 rfl ?_
  refine J_bipush O.mo (v := 20) dL_act_1 (by decide) ?_
  refine J_idiv O.mo dL_act_3 (by decide) ?_
  refine J_istore_n O.mo dL_act_4 (by rw [hmL]; decide) rfl rfl ?_
  refine J_iload_n O.mo dL_act_5 0 rfl ?_
  refine J_iconst O.mo (v := 4) dL_act_6 (by decide) ?_
  refine J_irem O.mo dL_act_7 (by decide) ?_
  refine J_istore_n O.mo dL_act_8 (by rw [hmL]; decide) rfl rfl ?_
  refine J_iload_n O.mo dL_act_9 3 rfl ?_
  refine J_bipush O.mo (v := 20) dL_act_10 (by decide) ?_
  refine J_irem O.mo dL_act_12 (by decide) ?_
  refine J_tabIn O.mo (tgt := 298) (w := 15) hsw dL_act_13 (by decide) (by decide) rfl (by decide) ?_
  refine J_aload_n O.mo dL_act_298 2 rfl ?_
  refine J_iload_n O.mo dL_act_299 0 rfl ?_
  refine J_iload_n O.mo dL_act_300 1 rfl ?_
  refine J_iconst O.mo (v := 4) dL_act_301 (by decide) ?_
  refine J_idiv O.mo dL_act_302 (by decide) ?_
  refine J_iconst O.mo (v := 5) dL_act_303 (by decide) ?_
  refine J_irem O.mo dL_act_304 (by decide) ?_
  refine J_callSW O hKP (as := [.inr (some (4, 0, 0)), .inl (.int ((x / 20) - (x / 20) / 4 * 4)), .inl (.int (((x / 20) / 4) - ((x / 20) / 4) / 5 * 5))]) (rest := []) (r := some (.inl (.int (lwR rs)))) (c_L_restore hfl h0 hf hcod) rfl mw799 mw800 mw770 mw801 pd_L_restore rfl (by decide) rfl (Nat.le_of_ble_eq_true rfl) (sl_v (sl_v (sl_p (s10_0 h0) (sl_v sl_0)))) st_0 dL_act_305 ?_
  show J X B (E, κ1) 308 [(3, .inl (.int ((x / 20) - (x / 20) / 4 * 4))), (2, .inl (.int (x / 20))), (0, .inr (some (4, 0, 0))), (1, .inl (.int x))] [.inl (.int (lwR rs))]
  refine J_cov O hcov (by rw [hkc]; exact Nat.le_refl _) (by rw [hkc]; exact Nat.le_refl _) ?_
  exact hE _ _ dL_act_308
set_option maxHeartbeats 4000000 in
set_option maxRecDepth 100000 in
theorem act_16 {l : Launch} (hfl : l.stackTraces = false) {E : EE} {κ : K} {n ns t C : Nat} (hR : REL E κ (kV κ 5 0) n ns t C) (hC : C + 13 < 512) {Y : Nat} (hY : Y < 2147483648) (hk : Y % 20 = 16) : ∃ (E' : EE) (κ' : K) (r : Int32) (n' ns' t' C' : Nat), Con l yL_act cL_act 6 (some .int) 11 306 [.inr (some (4, 0, 0)), .inl (.int (nI Y))] (E, κ) (E', κ') (some (.inl (.int r))) ∧ REL E' κ' (kV κ' 5 0) n' ns' t' C' ∧ (C' + 12 * n ≤ C + 1 + 12 * n' ∧ C ≤ C') ∧ kT κ' = none ∧ EXT (kV κ 5 0) (kV κ' 5 0) ∧ n' = (if Y % 20 < 2 ∧ 0 ≤ r then n + 1 else n) ∧ ns' = (if Y % 20 = 14 ∧ 0 ≤ r then ns + 1 else ns) := by
  have h0 : PC 10 E 4 0 0 := hR.1.2.2.1.1
  have hsw : nI Y - nI Y / 20 * 20 = (16 : Int32) := by rw [show (20 : Int32) = nI 20 from rfl, nI_mod hY (by omega), hk]; rfl
  generalize nI Y = x at *
  obtain ⟨κ1, rs, κ', t', hf, hcod, hcov, hkc, hT', hR', hX'⟩ := ac_follow (a1 := (x / 20) - (x / 20) / 4 * 4) (a2 := if (((x / 20) / 4) - ((x / 20) / 4) / 3 * 3) ≤ 0 then 0 else 1) (by split <;> first | exact Or.inl rfl | exact Or.inr rfl) (by omega) hR
  refine ⟨E, κ', lwRB rs, n, ns, t', C + 1, ?_, hR', by omega, hT', hX', (if_neg (fun z => absurd z.1 (by omega))).symm, (if_neg (fun z => absurd z.1 (by omega))).symm⟩
  refine Con_of hfl (by decide) (Nat.le_of_ble_eq_true rfl) rfl ⟨.int, rfl, rfl⟩ ?_
  intro X B g O hKP hmL hE
  change J X B (E, κ) 0 [(0, .inr (some (4, 0, 0))), (1, .inl (.int x))] []
  refine J_iload_n O.mo dL_act_0 1 rfl ?_
  refine J_bipush O.mo (v := 20) dL_act_1 (by decide) ?_
  refine J_idiv O.mo dL_act_3 (by decide) ?_
  refine J_istore_n O.mo dL_act_4 (by rw [hmL]; decide) rfl rfl ?_
  refine J_iload_n O.mo dL_act_5 0 rfl ?_
  refine J_iconst O.mo (v := 4) dL_act_6 (by decide) ?_
  refine J_irem O.mo dL_act_7 (by decide) ?_
  refine J_istore_n O.mo dL_act_8 (by rw [hmL]; decide) rfl rfl ?_
  refine J_iload_n O.mo dL_act_9 3 rfl ?_
  refine J_bipush O.mo (v := 20) dL_act_10 (by decide) ?_
  refine J_irem O.mo dL_act_12 (by decide) ?_
  refine J_tabIn O.mo (tgt := 309) (w := 16) hsw dL_act_13 (by decide) (by decide) rfl (by decide) ?_
  suffices K1 : J X B (E, κ) 324 [(3, .inl (.int ((x / 20) - (x / 20) / 4 * 4))), (2, .inl (.int (x / 20))), (0, .inr (some (4, 0, 0))), (1, .inl (.int x))] [.inl (.int (if (((x / 20) / 4) - ((x / 20) / 4) / 3 * 3) ≤ 0 then 0 else 1)), .inl (.int ((x / 20) - (x / 20) / 4 * 4)), .inr (some (4, 0, 0))] by
    refine J_aload_n O.mo dL_act_309 2 rfl ?_
    refine J_iload_n O.mo dL_act_310 0 rfl ?_
    refine J_iload_n O.mo dL_act_311 1 rfl ?_
    refine J_iconst O.mo (v := 4) dL_act_312 (by decide) ?_
    refine J_idiv O.mo dL_act_313 (by decide) ?_
    refine J_iconst O.mo (v := 3) dL_act_314 (by decide) ?_
    refine J_irem O.mo dL_act_315 (by decide) ?_
    refine J_if_le O.mo (tgt := 323) dL_act_316 (by decide) (fun hc2 => ?_) (fun hc2 => ?_)
    · refine J_iconst O.mo (v := 0) dL_act_323 (by decide) ?_
      rw [if_pos hc2] at K1
      exact K1
    · refine J_iconst O.mo (v := 1) dL_act_319 (by decide) ?_
      refine J_goto O.mo (tgt := 324) dL_act_320 (by decide) ?_
      rw [if_neg hc2] at K1
      exact K1
  refine J_callSW O hKP (as := [.inr (some (4, 0, 0)), .inl (.int ((x / 20) - (x / 20) / 4 * 4)), .inl (.int (if (((x / 20) / 4) - ((x / 20) / 4) / 3 * 3) ≤ 0 then 0 else 1))]) (rest := []) (r := some (.inl (.int (lwRB rs)))) (c_L_follow hfl h0 hf hcod) rfl mw802 mw803 mw770 mw804 pd_L_follow rfl (by decide) rfl (Nat.le_of_ble_eq_true rfl) (sl_v (sl_v (sl_p (s10_0 h0) (sl_v sl_0)))) st_0 dL_act_324 ?_
  show J X B (E, κ1) 327 [(3, .inl (.int ((x / 20) - (x / 20) / 4 * 4))), (2, .inl (.int (x / 20))), (0, .inr (some (4, 0, 0))), (1, .inl (.int x))] [.inl (.int (lwRB rs))]
  refine J_cov O hcov (by rw [hkc]; exact Nat.le_refl _) (by rw [hkc]; exact Nat.le_refl _) ?_
  exact hE _ _ dL_act_327
set_option maxHeartbeats 4000000 in
set_option maxRecDepth 100000 in
theorem act_17 {l : Launch} (hfl : l.stackTraces = false) {E : EE} {κ : K} {n ns t C : Nat} (hR : REL E κ (kV κ 5 0) n ns t C) (hC : C + 13 < 512) {Y : Nat} (hY : Y < 2147483648) (hk : Y % 20 = 17) : ∃ (E' : EE) (κ' : K) (r : Int32) (n' ns' t' C' : Nat), Con l yL_act cL_act 6 (some .int) 11 306 [.inr (some (4, 0, 0)), .inl (.int (nI Y))] (E, κ) (E', κ') (some (.inl (.int r))) ∧ REL E' κ' (kV κ' 5 0) n' ns' t' C' ∧ (C' + 12 * n ≤ C + 1 + 12 * n' ∧ C ≤ C') ∧ kT κ' = none ∧ EXT (kV κ 5 0) (kV κ' 5 0) ∧ n' = (if Y % 20 < 2 ∧ 0 ≤ r then n + 1 else n) ∧ ns' = (if Y % 20 = 14 ∧ 0 ≤ r then ns + 1 else ns) := by
  have h0 : PC 10 E 4 0 0 := hR.1.2.2.1.1
  have hsw : nI Y - nI Y / 20 * 20 = (17 : Int32) := by rw [show (20 : Int32) = nI 20 from rfl, nI_mod hY (by omega), hk]; rfl
  generalize nI Y = x at *
  obtain ⟨κ1, rs, κ', t', hf, hcod, hcov, hkc, hT', hR', hX'⟩ := ac_step (a1 := (x / 20) - (x / 20) / 4 * 4) (by omega) hR
  refine ⟨E, κ', lwR rs, n, ns, t', C + 1, ?_, hR', by omega, hT', hX', (if_neg (fun z => absurd z.1 (by omega))).symm, (if_neg (fun z => absurd z.1 (by omega))).symm⟩
  refine Con_of hfl (by decide) (Nat.le_of_ble_eq_true rfl) rfl ⟨.int, rfl, rfl⟩ ?_
  intro X B g O hKP hmL hE
  change J X B (E, κ) 0 [(0, .inr (some (4, 0, 0))), (1, .inl (.int x))] []
  refine J_iload_n O.mo dL_act_0 1 rfl ?_
  refine J_bipush O.mo (v := 20) dL_act_1 (by decide) ?_
  refine J_idiv O.mo dL_act_3 (by decide) ?_
  refine J_istore_n O.mo dL_act_4 (by rw [hmL]; decide) rfl rfl ?_
  refine J_iload_n O.mo dL_act_5 0 rfl ?_
  refine J_iconst O.mo (v := 4) dL_act_6 (by decide) ?_
  refine J_irem O.mo dL_act_7 (by decide) ?_
  refine J_istore_n O.mo dL_act_8 (by rw [hmL]; decide) rfl rfl ?_
  refine J_iload_n O.mo dL_act_9 3 rfl ?_
  refine J_bipush O.mo (v := 20) dL_act_10 (by decide) ?_
  refine J_irem O.mo dL_act_12 (by decide) ?_
  refine J_tabIn O.mo (tgt := 328) (w := 17) hsw dL_act_13 (by decide) (by decide) rfl (by decide) ?_
  refine J_aload_n O.mo dL_act_328 2 rfl ?_
  refine J_iload_n O.mo dL_act_329 0 rfl ?_
  refine J_callSW O hKP (as := [.inr (some (4, 0, 0)), .inl (.int ((x / 20) - (x / 20) / 4 * 4))]) (rest := []) (r := some (.inl (.int (lwR rs)))) (c_L_step hfl h0 hf hcod) rfl mw805 mw806 mw770 mw807 pd_L_step rfl (by decide) rfl (Nat.le_of_ble_eq_true rfl) (sl_v (sl_v (sl_p (s10_0 h0) (sl_v sl_0)))) st_0 dL_act_330 ?_
  show J X B (E, κ1) 333 [(3, .inl (.int ((x / 20) - (x / 20) / 4 * 4))), (2, .inl (.int (x / 20))), (0, .inr (some (4, 0, 0))), (1, .inl (.int x))] [.inl (.int (lwR rs))]
  refine J_cov O hcov (by rw [hkc]; exact Nat.le_refl _) (by rw [hkc]; exact Nat.le_refl _) ?_
  exact hE _ _ dL_act_333
set_option maxHeartbeats 4000000 in
set_option maxRecDepth 100000 in
theorem act_18a {l : Launch} (hfl : l.stackTraces = false) {E : EE} {κ : K} {n ns t C : Nat} (hR : REL E κ (kV κ 5 0) n ns t C) (hC : C + 13 < 512) {Y : Nat} (hY : Y < 2147483648) (hk : Y % 20 = 18) (hd : nI Y / 20 - nI Y / 20 / 3 * 3 = 0) : ∃ (E' : EE) (κ' : K) (r : Int32) (n' ns' t' C' : Nat), Con l yL_act cL_act 6 (some .int) 11 306 [.inr (some (4, 0, 0)), .inl (.int (nI Y))] (E, κ) (E', κ') (some (.inl (.int r))) ∧ REL E' κ' (kV κ' 5 0) n' ns' t' C' ∧ (C' + 12 * n ≤ C + 1 + 12 * n' ∧ C ≤ C') ∧ kT κ' = none ∧ EXT (kV κ 5 0) (kV κ' 5 0) ∧ n' = (if Y % 20 < 2 ∧ 0 ≤ r then n + 1 else n) ∧ ns' = (if Y % 20 = 14 ∧ 0 ≤ r then ns + 1 else ns) := by
  have h0 : PC 10 E 4 0 0 := hR.1.2.2.1.1
  have hsw : nI Y - nI Y / 20 * 20 = (18 : Int32) := by rw [show (20 : Int32) = nI 20 from rfl, nI_mod hY (by omega), hk]; rfl
  generalize nI Y = x at *
  obtain ⟨κ1, rs, κ', t', hf, hcod, hcov, hkc, hT', hR', hX'⟩ := ac_fail (a1 := ((x / 20) / 3) - ((x / 20) / 3) / 2 * 2) (by omega) hR
  refine ⟨E, κ', lwR rs, n, ns, t', C + 1, ?_, hR', by omega, hT', hX', (if_neg (fun z => absurd z.1 (by omega))).symm, (if_neg (fun z => absurd z.1 (by omega))).symm⟩
  refine Con_of hfl (by decide) (Nat.le_of_ble_eq_true rfl) rfl ⟨.int, rfl, rfl⟩ ?_
  intro X B g O hKP hmL hE
  change J X B (E, κ) 0 [(0, .inr (some (4, 0, 0))), (1, .inl (.int x))] []
  refine J_iload_n O.mo dL_act_0 1 rfl ?_
  refine J_bipush O.mo (v := 20) dL_act_1 (by decide) ?_
  refine J_idiv O.mo dL_act_3 (by decide) ?_
  refine J_istore_n O.mo dL_act_4 (by rw [hmL]; decide) rfl rfl ?_
  refine J_iload_n O.mo dL_act_5 0 rfl ?_
  refine J_iconst O.mo (v := 4) dL_act_6 (by decide) ?_
  refine J_irem O.mo dL_act_7 (by decide) ?_
  refine J_istore_n O.mo dL_act_8 (by rw [hmL]; decide) rfl rfl ?_
  refine J_iload_n O.mo dL_act_9 3 rfl ?_
  refine J_bipush O.mo (v := 20) dL_act_10 (by decide) ?_
  refine J_irem O.mo dL_act_12 (by decide) ?_
  refine J_tabIn O.mo (tgt := 334) (w := 18) hsw dL_act_13 (by decide) (by decide) rfl (by decide) ?_
  refine J_iload_n O.mo dL_act_334 1 rfl ?_
  refine J_iconst O.mo (v := 3) dL_act_335 (by decide) ?_
  refine J_irem O.mo dL_act_336 (by decide) ?_
  refine J_if_ne O.mo (tgt := 352) dL_act_337 (by decide) (fun hc => absurd (hd) hc) (fun _ => ?_)
  refine J_aload_n O.mo dL_act_340 2 rfl ?_
  refine J_iload_n O.mo dL_act_341 1 rfl ?_
  refine J_iconst O.mo (v := 3) dL_act_342 (by decide) ?_
  refine J_idiv O.mo dL_act_343 (by decide) ?_
  refine J_iconst O.mo (v := 2) dL_act_344 (by decide) ?_
  refine J_irem O.mo dL_act_345 (by decide) ?_
  refine J_callSW O hKP (as := [.inr (some (4, 0, 0)), .inl (.int (((x / 20) / 3) - ((x / 20) / 3) / 2 * 2))]) (rest := []) (r := some (.inl (.int (lwR rs)))) (c_L_fail hfl h0 hf hcod) rfl mw808 mw809 mw770 mw810 pd_L_fail rfl (by decide) rfl (Nat.le_of_ble_eq_true rfl) (sl_v (sl_v (sl_p (s10_0 h0) (sl_v sl_0)))) st_0 dL_act_346 ?_
  show J X B (E, κ1) 349 [(3, .inl (.int ((x / 20) - (x / 20) / 4 * 4))), (2, .inl (.int (x / 20))), (0, .inr (some (4, 0, 0))), (1, .inl (.int x))] [.inl (.int (lwR rs))]
  refine J_cov O hcov (by rw [hkc]; exact Nat.le_refl _) (by rw [hkc]; exact Nat.le_refl _) ?_
  refine J_goto O.mo (tgt := 357) dL_act_349 (by decide) ?_
  exact hE _ _ dL_act_357
set_option maxHeartbeats 4000000 in
set_option maxRecDepth 100000 in
theorem act_18b {l : Launch} (hfl : l.stackTraces = false) {E : EE} {κ : K} {n ns t C : Nat} (hR : REL E κ (kV κ 5 0) n ns t C) (hC : C + 13 < 512) {Y : Nat} (hY : Y < 2147483648) (hk : Y % 20 = 18) (hd : ¬ nI Y / 20 - nI Y / 20 / 3 * 3 = 0) : ∃ (E' : EE) (κ' : K) (r : Int32) (n' ns' t' C' : Nat), Con l yL_act cL_act 6 (some .int) 11 306 [.inr (some (4, 0, 0)), .inl (.int (nI Y))] (E, κ) (E', κ') (some (.inl (.int r))) ∧ REL E' κ' (kV κ' 5 0) n' ns' t' C' ∧ (C' + 12 * n ≤ C + 1 + 12 * n' ∧ C ≤ C') ∧ kT κ' = none ∧ EXT (kV κ 5 0) (kV κ' 5 0) ∧ n' = (if Y % 20 < 2 ∧ 0 ≤ r then n + 1 else n) ∧ ns' = (if Y % 20 = 14 ∧ 0 ≤ r then ns + 1 else ns) := by
  have h0 : PC 10 E 4 0 0 := hR.1.2.2.1.1
  have hsw : nI Y - nI Y / 20 * 20 = (18 : Int32) := by rw [show (20 : Int32) = nI 20 from rfl, nI_mod hY (by omega), hk]; rfl
  generalize nI Y = x at *
  obtain ⟨κ1, rs, κ', t', hf, hcod, hcov, hkc, hT', hR', hX'⟩ := ac_tick (a1 := 3) (by omega) hR
  refine ⟨E, κ', lwR rs, n, ns, t', C + 1, ?_, hR', by omega, hT', hX', (if_neg (fun z => absurd z.1 (by omega))).symm, (if_neg (fun z => absurd z.1 (by omega))).symm⟩
  refine Con_of hfl (by decide) (Nat.le_of_ble_eq_true rfl) rfl ⟨.int, rfl, rfl⟩ ?_
  intro X B g O hKP hmL hE
  change J X B (E, κ) 0 [(0, .inr (some (4, 0, 0))), (1, .inl (.int x))] []
  refine J_iload_n O.mo dL_act_0 1 rfl ?_
  refine J_bipush O.mo (v := 20) dL_act_1 (by decide) ?_
  refine J_idiv O.mo dL_act_3 (by decide) ?_
  refine J_istore_n O.mo dL_act_4 (by rw [hmL]; decide) rfl rfl ?_
  refine J_iload_n O.mo dL_act_5 0 rfl ?_
  refine J_iconst O.mo (v := 4) dL_act_6 (by decide) ?_
  refine J_irem O.mo dL_act_7 (by decide) ?_
  refine J_istore_n O.mo dL_act_8 (by rw [hmL]; decide) rfl rfl ?_
  refine J_iload_n O.mo dL_act_9 3 rfl ?_
  refine J_bipush O.mo (v := 20) dL_act_10 (by decide) ?_
  refine J_irem O.mo dL_act_12 (by decide) ?_
  refine J_tabIn O.mo (tgt := 334) (w := 18) hsw dL_act_13 (by decide) (by decide) rfl (by decide) ?_
  refine J_iload_n O.mo dL_act_334 1 rfl ?_
  refine J_iconst O.mo (v := 3) dL_act_335 (by decide) ?_
  refine J_irem O.mo dL_act_336 (by decide) ?_
  refine J_if_ne O.mo (tgt := 352) dL_act_337 (by decide) (fun _ => ?_) (fun hc => absurd hc (hd))
  refine J_aload_n O.mo dL_act_352 2 rfl ?_
  refine J_iconst O.mo (v := 3) dL_act_353 (by decide) ?_
  refine J_callSW O hKP (as := [.inr (some (4, 0, 0)), .inl (.int 3)]) (rest := []) (r := some (.inl (.int (lwR rs)))) (c_L_tick hfl h0 hf hcod) rfl mw784 mw785 mw770 mw786 pd_L_tick rfl (by decide) rfl (Nat.le_of_ble_eq_true rfl) (sl_v (sl_v (sl_p (s10_0 h0) (sl_v sl_0)))) st_0 dL_act_354 ?_
  show J X B (E, κ1) 357 [(3, .inl (.int ((x / 20) - (x / 20) / 4 * 4))), (2, .inl (.int (x / 20))), (0, .inr (some (4, 0, 0))), (1, .inl (.int x))] [.inl (.int (lwR rs))]
  refine J_cov O hcov (by rw [hkc]; exact Nat.le_refl _) (by rw [hkc]; exact Nat.le_refl _) ?_
  exact hE _ _ dL_act_357
set_option maxHeartbeats 4000000 in
set_option maxRecDepth 100000 in
theorem act_19 {l : Launch} (hfl : l.stackTraces = false) {E : EE} {κ : K} {n ns t C : Nat} (hR : REL E κ (kV κ 5 0) n ns t C) (hC : C + 13 < 512) {Y : Nat} (hY : Y < 2147483648) (hk : Y % 20 = 19) : ∃ (E' : EE) (κ' : K) (r : Int32) (n' ns' t' C' : Nat), Con l yL_act cL_act 6 (some .int) 11 306 [.inr (some (4, 0, 0)), .inl (.int (nI Y))] (E, κ) (E', κ') (some (.inl (.int r))) ∧ REL E' κ' (kV κ' 5 0) n' ns' t' C' ∧ (C' + 12 * n ≤ C + 1 + 12 * n' ∧ C ≤ C') ∧ kT κ' = none ∧ EXT (kV κ 5 0) (kV κ' 5 0) ∧ n' = (if Y % 20 < 2 ∧ 0 ≤ r then n + 1 else n) ∧ ns' = (if Y % 20 = 14 ∧ 0 ≤ r then ns + 1 else ns) := by
  have h0 : PC 10 E 4 0 0 := hR.1.2.2.1.1
  have hsw : nI Y - nI Y / 20 * 20 = (19 : Int32) := by rw [show (20 : Int32) = nI 20 from rfl, nI_mod hY (by omega), hk]; rfl
  generalize nI Y = x at *
  obtain ⟨κ1, rs, κ', t', hf, hcod, hcov, hkc, hT', hR', hX'⟩ := ac_mend (a1 := (x / 20) - (x / 20) / 2 * 2) (by omega) hR
  refine ⟨E, κ', lwRV rs, n, ns, t', C + 1, ?_, hR', by omega, hT', hX', (if_neg (fun z => absurd z.1 (by omega))).symm, (if_neg (fun z => absurd z.1 (by omega))).symm⟩
  refine Con_of hfl (by decide) (Nat.le_of_ble_eq_true rfl) rfl ⟨.int, rfl, rfl⟩ ?_
  intro X B g O hKP hmL hE
  change J X B (E, κ) 0 [(0, .inr (some (4, 0, 0))), (1, .inl (.int x))] []
  refine J_iload_n O.mo dL_act_0 1 rfl ?_
  refine J_bipush O.mo (v := 20) dL_act_1 (by decide) ?_
  refine J_idiv O.mo dL_act_3 (by decide) ?_
  refine J_istore_n O.mo dL_act_4 (by rw [hmL]; decide) rfl rfl ?_
  refine J_iload_n O.mo dL_act_5 0 rfl ?_
  refine J_iconst O.mo (v := 4) dL_act_6 (by decide) ?_
  refine J_irem O.mo dL_act_7 (by decide) ?_
  refine J_istore_n O.mo dL_act_8 (by rw [hmL]; decide) rfl rfl ?_
  refine J_iload_n O.mo dL_act_9 3 rfl ?_
  refine J_bipush O.mo (v := 20) dL_act_10 (by decide) ?_
  refine J_irem O.mo dL_act_12 (by decide) ?_
  refine J_tabOut O.mo (tgt := 358) 19 (by decide) (by decide) (by rw [hsw]; decide) dL_act_13 (by decide) ?_
  refine J_aload_n O.mo dL_act_358 2 rfl ?_
  refine J_iload_n O.mo dL_act_359 1 rfl ?_
  refine J_iconst O.mo (v := 2) dL_act_360 (by decide) ?_
  refine J_irem O.mo dL_act_361 (by decide) ?_
  refine J_callSW O hKP (as := [.inr (some (4, 0, 0)), .inl (.int ((x / 20) - (x / 20) / 2 * 2))]) (rest := []) (r := some (.inl (.int (lwRV rs)))) (c_L_mend hfl h0 hf hcod) rfl mw811 mw812 mw770 mw813 pd_L_mend rfl (by decide) rfl (Nat.le_of_ble_eq_true rfl) (sl_v (sl_v (sl_p (s10_0 h0) (sl_v sl_0)))) st_0 dL_act_362 ?_
  show J X B (E, κ1) 365 [(3, .inl (.int ((x / 20) - (x / 20) / 4 * 4))), (2, .inl (.int (x / 20))), (0, .inr (some (4, 0, 0))), (1, .inl (.int x))] [.inl (.int (lwRV rs))]
  refine J_cov O hcov (by rw [hkc]; exact Nat.le_refl _) (by rw [hkc]; exact Nat.le_refl _) ?_
  exact hE _ _ dL_act_365
set_option maxHeartbeats 4000000 in
set_option maxRecDepth 100000 in
theorem act_14 {l : Launch} (hfl : l.stackTraces = false) {E : EE} {κ : K} {n ns t C : Nat} (hR : REL E κ (kV κ 5 0) n ns t C) (hC : C + 13 < 512) {Y : Nat} (hY : Y < 2147483648) (hk : Y % 20 = 14) : ∃ (E' : EE) (κ' : K) (r : Int32) (n' ns' t' C' : Nat), Con l yL_act cL_act 6 (some .int) 11 306 [.inr (some (4, 0, 0)), .inl (.int (nI Y))] (E, κ) (E', κ') (some (.inl (.int r))) ∧ REL E' κ' (kV κ' 5 0) n' ns' t' C' ∧ (C' + 12 * n ≤ C + 1 + 12 * n' ∧ C ≤ C') ∧ kT κ' = none ∧ EXT (kV κ 5 0) (kV κ' 5 0) ∧ n' = (if Y % 20 < 2 ∧ 0 ≤ r then n + 1 else n) ∧ ns' = (if Y % 20 = 14 ∧ 0 ≤ r then ns + 1 else ns) := by
  have h0 : PC 10 E 4 0 0 := hR.1.2.2.1.1
  have hsw : nI Y - nI Y / 20 * 20 = (14 : Int32) := by rw [show (20 : Int32) = nI 20 from rfl, nI_mod hY (by omega), hk]; rfl
  generalize nI Y = x at *
  obtain ⟨E1, κ1, rs, κ', t', n', ns', hf, hcod, hcov, hkc, hT', hR', hX', hw⟩ := ac_snapshot (a1 := (x / 20) - (x / 20) / 4 * 4) hR
  have hH : E.2.2.2.1 = 1 := hR.1.2.2.1.2.2.2.1
  have hRN : rawN E := hR.1.2.2.1.2.2.2.2
  have hns := hR.2.2.2.2.1.2.1
  have hcnt : n' = n ∧ ns' = if Y % 20 = 14 ∧ 0 ≤ lwR rs then ns + 1 else ns := by
    rcases hw with ⟨r, rfl, rfl, e1, e2⟩ | ⟨e, rfl, e1, e2⟩
    · have hp : (0 : Int32) ≤ lwR (.inl (nI ns)) := by show nI 0 ≤ nI ns; rw [nI_le' (by omega) (by omega)]; exact Nat.zero_le _
      exact ⟨e1, by rw [if_pos ⟨hk, hp⟩, e2]⟩
    · refine ⟨e1, ?_⟩; rw [if_neg (fun z => absurd z.2 (lwR_inr (by have := hcod e rfl; simp at this; omega))), e2]
  refine ⟨E1, κ', lwR rs, n', ns', t', C + 1, ?_, hR', by omega, hT', hX', ?_, hcnt.2⟩
  rotate_left
  · rw [if_neg (fun z => absurd z.1 (by omega))]; exact hcnt.1
  refine Con_of hfl (by decide) (Nat.le_of_ble_eq_true rfl) rfl ⟨.int, rfl, rfl⟩ ?_
  intro X B g O hKP hmL hE
  change J X B (E, κ) 0 [(0, .inr (some (4, 0, 0))), (1, .inl (.int x))] []
  refine J_iload_n O.mo dL_act_0 1 rfl ?_
  refine J_bipush O.mo (v := 20) dL_act_1 (by decide) ?_
  refine J_idiv O.mo dL_act_3 (by decide) ?_
  refine J_istore_n O.mo dL_act_4 (by rw [hmL]; decide) rfl rfl ?_
  refine J_iload_n O.mo dL_act_5 0 rfl ?_
  refine J_iconst O.mo (v := 4) dL_act_6 (by decide) ?_
  refine J_irem O.mo dL_act_7 (by decide) ?_
  refine J_istore_n O.mo dL_act_8 (by rw [hmL]; decide) rfl rfl ?_
  refine J_iload_n O.mo dL_act_9 3 rfl ?_
  refine J_bipush O.mo (v := 20) dL_act_10 (by decide) ?_
  refine J_irem O.mo dL_act_12 (by decide) ?_
  refine J_tabIn O.mo (tgt := 292) (w := 14) hsw dL_act_13 (by decide) (by decide) rfl (by decide) ?_
  refine J_aload_n O.mo dL_act_292 2 rfl ?_
  refine J_iload_n O.mo dL_act_293 0 rfl ?_
  refine J_callSW O hKP (as := [.inr (some (4, 0, 0)), .inl (.int ((x / 20) - (x / 20) / 4 * 4))]) (rest := []) (r := some (.inl (.int (lwR rs)))) (c_L_snapshot hfl h0 hH hRN hf hcod) rfl mw814 mw815 mw770 mw816 pd_L_snapshot rfl (by decide) rfl (Nat.le_of_ble_eq_true rfl) (sl_v (sl_v (sl_p (s10_0 h0) (sl_v sl_0)))) st_0 dL_act_294 ?_
  show J X B (E1, κ1) 297 [(3, .inl (.int ((x / 20) - (x / 20) / 4 * 4))), (2, .inl (.int (x / 20))), (0, .inr (some (4, 0, 0))), (1, .inl (.int x))] [.inl (.int (lwR rs))]
  refine J_cov O hcov (by rw [hkc]; exact Nat.le_refl _) (by rw [hkc]; exact Nat.le_refl _) ?_
  exact hE _ _ dL_act_297
set_option maxHeartbeats 4000000 in
set_option maxRecDepth 100000 in
theorem act_loop {l : Launch} (hfl : l.stackTraces = false) {E : EE} (h0 : PC 10 E 4 0 0) {n ns g : Nat} (hg : g < 5) {v3 y x : Int32} : ∀ (d k : Nat) {κ : K} {t C : Nat}, k + d = 12 → REL E κ (kV κ 5 0) n ns t C → kT κ = none → C + d < 512 → ∃ (κ' : K) (t' : Nat), REL E κ' (kV κ' 5 0) n ns t' (C + d) ∧ kT κ' = none ∧ EXT (kV κ 5 0) (kV κ' 5 0) ∧ ∀ {X : MX} {B : BX (EE × K)} {g0 : GP}, CK l X B g0 cL_act yL_act.cls 11 306 → KPok B E → B.2.2.2.1 = 6 → J X B (E, κ') 172 [(5, .inl (.int (nI 12))), (4, .inl (.int (nI g))), (3, .inl (.int v3)), (2, .inl (.int y)), (0, .inr (some (4, 0, 0))), (1, .inl (.int x))] [] → J X B (E, κ) 135 [(5, .inl (.int (nI k))), (4, .inl (.int (nI g))), (3, .inl (.int v3)), (2, .inl (.int y)), (0, .inr (some (4, 0, 0))), (1, .inl (.int x))] [] := by
  intro d
  induction d with
  | zero =>
    intro k κ t C hk hR hT hC
    obtain rfl : k = 12 := by omega
    refine ⟨κ, t, hR, hT, EXT.rf, fun {X B g0} O hKP hmL kk => ?_⟩
    refine J_iload O.mo dL_act_135 0 rfl ?_
    refine J_bipush O.mo (v := nI 12) dL_act_137 (by decide) ?_
    refine J_icmp_ge O.mo (tgt := 172) dL_act_139 (by decide) (fun _ => ?_) (fun hc => absurd (show nI 12 ≤ nI 12 from Int32.le_refl _) hc)
    exact kk
  | succ d ih =>
    intro k κ t C hk hR hT hC
    obtain ⟨κ1, rs, κ2, t2, hf, hcod, hcov, hkc, hT2, hR2, hX2⟩ := ac_instruct (a1 := nI g) (a2 := opW (y / nI (k + 1) + (nI 31 * nI k))) (a3 := opA (opW (y / nI (k + 1) + (nI 31 * nI k))) (y / nI (k + 1) + (nI 31 * nI k))) (a4 := opB (opW (y / nI (k + 1) + (nI 31 * nI k))) (y / nI (k + 1) + (nI 31 * nI k))) (by omega) hR
    obtain ⟨κ', t', hR', hT', hX', hJ⟩ := ih (k + 1) (by omega) hR2 hT2 (by omega)
    refine ⟨κ', t', by rw [show C + (d + 1) = C + 1 + d by omega]; exact hR', hT', hX2.tr hX', fun {X B g0} O hKP hmL kk => ?_⟩
    refine J_iload O.mo dL_act_135 0 rfl ?_
    refine J_bipush O.mo (v := nI 12) dL_act_137 (by decide) ?_
    refine J_icmp_ge O.mo (tgt := 172) dL_act_139 (by decide) (fun hc => absurd hc (by rw [nI_le' (by omega) (by omega)]; omega)) (fun _ => ?_)
    refine J_iload O.mo dL_act_142 1 rfl ?_
    refine J_if_lt O.mo (tgt := 172) dL_act_144 (by decide) (fun hc => absurd hc (nI_pos (by omega))) (fun _ => ?_)
    refine J_aload_n O.mo dL_act_147 4 rfl ?_
    refine J_iload O.mo dL_act_148 1 rfl ?_
    refine J_iload_n O.mo dL_act_150 3 rfl ?_
    refine J_iload O.mo dL_act_151 0 rfl ?_
    refine J_iconst O.mo (v := nI 1) dL_act_153 (by decide) ?_
    refine J_iaddE O.mo dL_act_154 (v := nI (k + 1)) (nI_add k 1) ?_
    refine J_idiv O.mo dL_act_155 (nI_nz (by omega) (by omega)) ?_
    refine J_bipush O.mo (v := nI 31) dL_act_156 (by decide) ?_
    refine J_iload O.mo dL_act_158 0 rfl ?_
    refine J_imulE O.mo dL_act_160 (v := (nI 31 * nI k)) rfl ?_
    refine J_iadd O.mo dL_act_161 ?_
    refine J_callS O hKP (as := [.inr (some (4, 0, 0)), .inl (.int (nI g)), .inl (.int ((y / (nI (k + 1))) + ((nI 31 * nI k))))]) (rest := []) (r := some (.inl (.int (lwR rs)))) (c_L_opBy hfl h0 hf hcod) rfl mw817 mw818 mw770 mw819 pd_L_opBy rfl (by decide) rfl (Nat.le_of_ble_eq_true rfl) (sl_v (sl_v (sl_v (sl_v (sl_p (s10_0 h0) (sl_v sl_0)))))) st_0 dL_act_162 ?_
    show J X B (E, κ1) 165 [(5, .inl (.int (nI k))), (4, .inl (.int (nI g))), (3, .inl (.int v3)), (2, .inl (.int y)), (0, .inr (some (4, 0, 0))), (1, .inl (.int x))] [.inl (.int (lwR rs))]
    refine J_cov O hcov (by rw [hkc]; exact Nat.le_refl _) (by rw [hkc]; exact Nat.le_refl _) ?_
    refine J_pop O.mo dL_act_165 rfl ?_
    refine J_iinc O.mo dL_act_166 (by rw [hmL]; decide) 0 rfl (v := nI (k + 1)) (nI_add k 1) rfl rfl ?_
    refine J_goto O.mo (tgt := 135) dL_act_169 (by decide) ?_
    exact hJ O hKP hmL kk
set_option maxHeartbeats 4000000 in
set_option maxRecDepth 100000 in
theorem act_0 {l : Launch} (hfl : l.stackTraces = false) {E : EE} {κ : K} {n ns t C : Nat} (hR : REL E κ (kV κ 5 0) n ns t C) (hC : C + 13 < 512) {Y : Nat} (hY : Y < 2147483648) (hk : Y % 20 < 2) : ∃ (E' : EE) (κ' : K) (r : Int32) (n' ns' t' C' : Nat), Con l yL_act cL_act 6 (some .int) 11 306 [.inr (some (4, 0, 0)), .inl (.int (nI Y))] (E, κ) (E', κ') (some (.inl (.int r))) ∧ REL E' κ' (kV κ' 5 0) n' ns' t' C' ∧ (C' + 12 * n ≤ C + 1 + 12 * n' ∧ C ≤ C') ∧ kT κ' = none ∧ EXT (kV κ 5 0) (kV κ' 5 0) ∧ n' = (if Y % 20 < 2 ∧ 0 ≤ r then n + 1 else n) ∧ ns' = (if Y % 20 = 14 ∧ 0 ≤ r then ns + 1 else ns) := by
  have h0 : PC 10 E 4 0 0 := hR.1.2.2.1.1
  have hH : E.2.2.2.1 = 1 := hR.1.2.2.1.2.2.2.1
  have hRN : rawN E := hR.1.2.2.1.2.2.2.2
  have hn5 : n ≤ 5 := hR.2.2.1.1.1.1
  have hsw0 : ∃ q : Int32, nI Y - nI Y / 20 * 20 = q ∧ (q = 0 ∨ q = 1) := ⟨nI (Y % 20), by rw [show (20 : Int32) = nI 20 from rfl, nI_mod hY (by omega)], by rcases (show Y % 20 = 0 ∨ Y % 20 = 1 by omega) with z | z <;> rw [z]; exact Or.inl rfl; exact Or.inr rfl⟩
  obtain ⟨q, hsw, hq⟩ := hsw0
  have hq1 : ¬ q.toInt < 0 := by rcases hq with rfl | rfl <;> decide
  have hq2 : ¬ 18 < q.toInt := by rcases hq with rfl | rfl <;> decide
  have hq3 : (#[91, 91, 162, 179, 192, 192, 205, 211, 211, 211, 232, 240, 246, 260, 279, 285, 296, 315, 321] : Array Int)[(q.toInt - 0).toNat]? = some 91 := by rcases hq with rfl | rfl <;> rfl
  generalize nI Y = x at *
  obtain ⟨E1, κ1, rs, κ2, t2, n2, ns2, hf, hcod, hcov, hkc, hT2, hR2, hX2, hw⟩ := ac_guest (a1 := (x / 20) - (x / 20) / 2 * 2) (a2 := 1 + (((x / 20) / 2) - ((x / 20) / 2) / 4 * 4)) (a3 := if ((x / 20) - (x / 20) / 7 * 7) = 0 then 1 else 0) (by split <;> first | exact Or.inl rfl | exact Or.inr rfl) hR
  have h01 : PC 10 E1 4 0 0 := hR2.1.2.2.1.1
  have hpre : ∀ {X : MX} {B : BX (EE × K)} {g : GP}, CK l X B g cL_act yL_act.cls 11 306 → KPok B E → B.2.2.2.1 = 6 → J X B (E1, κ2) 135 [(5, .inl (.int 0)), (4, .inl (.int (lwR rs))), (3, .inl (.int (x / 20 - x / 20 / 4 * 4))), (2, .inl (.int (x / 20))), (0, .inr (some (4, 0, 0))), (1, .inl (.int x))] [] → J X B (E, κ) 0 [(0, .inr (some (4, 0, 0))), (1, .inl (.int x))] [] := by
    intro X B g O hKP hmL kk
    refine J_iload_n O.mo dL_act_0 1 rfl ?_
    refine J_bipush O.mo (v := 20) dL_act_1 (by decide) ?_
    refine J_idiv O.mo dL_act_3 (by decide) ?_
    refine J_istore_n O.mo dL_act_4 (by rw [hmL]; decide) rfl rfl ?_
    refine J_iload_n O.mo dL_act_5 0 rfl ?_
    refine J_iconst O.mo (v := 4) dL_act_6 (by decide) ?_
    refine J_irem O.mo dL_act_7 (by decide) ?_
    refine J_istore_n O.mo dL_act_8 (by rw [hmL]; decide) rfl rfl ?_
    refine J_iload_n O.mo dL_act_9 3 rfl ?_
    refine J_bipush O.mo (v := 20) dL_act_10 (by decide) ?_
    refine J_irem O.mo dL_act_12 (by decide) ?_
    refine J_tabIn O.mo (tgt := 104) (w := q) hsw dL_act_13 hq1 hq2 hq3 (by decide) ?_
    suffices K1 : J X B (E, κ) 127 [(3, .inl (.int ((x / 20) - (x / 20) / 4 * 4))), (2, .inl (.int (x / 20))), (0, .inr (some (4, 0, 0))), (1, .inl (.int x))] [.inl (.int (if ((x / 20) - (x / 20) / 7 * 7) = 0 then 1 else 0)), .inl (.int (1 + (((x / 20) / 2) - ((x / 20) / 2) / 4 * 4))), .inl (.int ((x / 20) - (x / 20) / 2 * 2)), .inr (some (4, 0, 0))] by
      refine J_aload_n O.mo dL_act_104 2 rfl ?_
      refine J_iload_n O.mo dL_act_105 1 rfl ?_
      refine J_iconst O.mo (v := 2) dL_act_106 (by decide) ?_
      refine J_irem O.mo dL_act_107 (by decide) ?_
      refine J_iconst O.mo (v := 1) dL_act_108 (by decide) ?_
      refine J_iload_n O.mo dL_act_109 1 rfl ?_
      refine J_iconst O.mo (v := 2) dL_act_110 (by decide) ?_
      refine J_idiv O.mo dL_act_111 (by decide) ?_
      refine J_iconst O.mo (v := 4) dL_act_112 (by decide) ?_
      refine J_irem O.mo dL_act_113 (by decide) ?_
      refine J_iadd O.mo dL_act_114 ?_
      refine J_iload_n O.mo dL_act_115 1 rfl ?_
      refine J_bipush O.mo (v := 7) dL_act_116 (by decide) ?_
      refine J_irem O.mo dL_act_118 (by decide) ?_
      refine J_if_ne O.mo (tgt := 126) dL_act_119 (by decide) (fun hc2 => ?_) (fun hc2 => ?_)
      · refine J_iconst O.mo (v := 0) dL_act_126 (by decide) ?_
        rw [if_neg hc2] at K1
        exact K1
      · refine J_iconst O.mo (v := 1) dL_act_122 (by decide) ?_
        refine J_goto O.mo (tgt := 127) dL_act_123 (by decide) ?_
        rw [if_pos hc2] at K1
        exact K1
    refine J_callSW O hKP (as := [.inr (some (4, 0, 0)), .inl (.int ((x / 20) - (x / 20) / 2 * 2)), .inl (.int (1 + (((x / 20) / 2) - ((x / 20) / 2) / 4 * 4))), .inl (.int (if ((x / 20) - (x / 20) / 7 * 7) = 0 then 1 else 0))]) (rest := []) (r := some (.inl (.int (lwR rs)))) (c_L_guest hfl h0 hH hRN (by split <;> first | exact Or.inl rfl | exact Or.inr rfl) hf hcod) rfl mw820 mw821 mw770 mw822 pd_L_guest rfl (by decide) rfl (Nat.le_of_ble_eq_true rfl) (sl_v (sl_v (sl_p (s10_0 h0) (sl_v sl_0)))) st_0 dL_act_127 ?_
    show J X B (E1, κ1) 130 [(3, .inl (.int ((x / 20) - (x / 20) / 4 * 4))), (2, .inl (.int (x / 20))), (0, .inr (some (4, 0, 0))), (1, .inl (.int x))] [.inl (.int (lwR rs))]
    refine J_cov O hcov (by rw [hkc]; exact Nat.le_refl _) (by rw [hkc]; exact Nat.le_refl _) ?_
    refine J_istore O.mo dL_act_130 (by rw [hmL]; decide) rfl rfl ?_
    refine J_iconst O.mo (v := 0) dL_act_132 (by decide) ?_
    refine J_istore O.mo dL_act_133 (by rw [hmL]; decide) rfl rfl ?_
    exact kk
  rcases hw with ⟨r, rfl, rfl, e1, e2⟩ | ⟨e, rfl, e1, e2⟩
  · have hg5 : n < 5 := by have := hR2.2.2.1.1.1.1; omega
    obtain ⟨κ3, t3, hR3, hT3, hX3, hJ⟩ := act_loop hfl h01 (g := n) hg5 (v3 := x / 20 - x / 20 / 4 * 4) (y := x / 20) (x := x) 12 0 (by omega) hR2 hT2 (by omega)
    refine ⟨E1, κ3, nI n, n2, ns2, t3, C + 1 + 12, ?_, hR3, by omega, hT3, hX2.tr hX3, ?_, ?_⟩
    rotate_left
    · have hp : (0 : Int32) ≤ nI n := by show nI 0 ≤ nI n; rw [nI_le' (by omega) (by omega)]; exact Nat.zero_le _
      rw [if_pos ⟨hk, hp⟩, e1]
    · rw [if_neg (fun z => absurd z.1 (by omega)), e2]; rfl
    refine Con_of hfl (by decide) (Nat.le_of_ble_eq_true rfl) rfl ⟨.int, rfl, rfl⟩ ?_
    intro X B g O hKP hmL hE
    refine hpre O hKP hmL (hJ O (KPok.guest hKP hf) hmL ?_)
    refine J_iload O.mo dL_act_172 1 rfl ?_
    exact hE _ _ dL_act_174
  · have hneg : lwR (.inr e) < 0 := by have := hcod e rfl; simp at this; rcases this with rfl | rfl | rfl <;> decide
    refine ⟨E1, κ2, lwR (.inr e), n2, ns2, t2, C + 1, ?_, hR2, by omega, hT2, hX2, ?_, ?_⟩
    rotate_left
    · rw [if_neg (fun z => absurd z.2 (lwR_inr (by have := hcod e rfl; simp at this; omega))), e1]
    · rw [if_neg (fun z => absurd z.1 (by omega)), e2]
    refine Con_of hfl (by decide) (Nat.le_of_ble_eq_true rfl) rfl ⟨.int, rfl, rfl⟩ ?_
    intro X B g O hKP hmL hE
    refine hpre O hKP hmL ?_
    refine J_iload O.mo dL_act_135 0 rfl ?_
    refine J_bipush O.mo (v := 12) dL_act_137 (by decide) ?_
    refine J_icmp_ge O.mo (tgt := 172) dL_act_139 (by decide) (fun hc => absurd hc (by decide)) (fun _ => ?_)
    refine J_iload O.mo dL_act_142 1 rfl ?_
    refine J_if_lt O.mo (tgt := 172) dL_act_144 (by decide) (fun _ => ?_) (fun hc => absurd (hneg) hc)
    refine J_iload O.mo dL_act_172 1 rfl ?_
    exact hE _ _ dL_act_174
set_option maxHeartbeats 4000000 in
set_option maxRecDepth 100000 in
theorem act_all {l : Launch} (hfl : l.stackTraces = false) {E : EE} {κ : K} {n ns t C : Nat} (hR : REL E κ (kV κ 5 0) n ns t C) (hC : C + 13 < 512) {Y : Nat} (hY : Y < 2147483648) : ∃ (E' : EE) (κ' : K) (r : Int32) (n' ns' t' C' : Nat), Con l yL_act cL_act 6 (some .int) 11 306 [.inr (some (4, 0, 0)), .inl (.int (nI Y))] (E, κ) (E', κ') (some (.inl (.int r))) ∧ REL E' κ' (kV κ' 5 0) n' ns' t' C' ∧ (C' + 12 * n ≤ C + 1 + 12 * n' ∧ C ≤ C') ∧ kT κ' = none ∧ EXT (kV κ 5 0) (kV κ' 5 0) ∧ n' = (if Y % 20 < 2 ∧ 0 ≤ r then n + 1 else n) ∧ ns' = (if Y % 20 = 14 ∧ 0 ≤ r then ns + 1 else ns) := by
  have hk : Y % 20 < 20 := Nat.mod_lt _ (by omega)
  by_cases h2 : Y % 20 < 2
  · exact act_0 hfl hR hC hY h2
  · rcases (show Y % 20 = 2 ∨ Y % 20 = 3 ∨ Y % 20 = 4 ∨ Y % 20 = 5 ∨ Y % 20 = 6 ∨ Y % 20 = 7 ∨ Y % 20 = 8 ∨ Y % 20 = 9 ∨ Y % 20 = 10 ∨ Y % 20 = 11 ∨ Y % 20 = 12 ∨ Y % 20 = 13 ∨ Y % 20 = 14 ∨ Y % 20 = 15 ∨ Y % 20 = 16 ∨ Y % 20 = 17 ∨ Y % 20 = 18 ∨ Y % 20 = 19 by omega) with z | z | z | z | z | z | z | z | z | z | z | z | z | z | z | z | z | z
    · exact act_2 hfl hR hC hY z
    · exact act_3 hfl hR hC hY z
    · exact act_4 hfl hR hC hY z
    · exact act_5 hfl hR hC hY z
    · exact act_6 hfl hR hC hY z
    · exact act_7 hfl hR hC hY z
    · exact act_8 hfl hR hC hY z
    · exact act_9 hfl hR hC hY z
    · exact act_10 hfl hR hC hY z
    · exact act_11 hfl hR hC hY z
    · exact act_12 hfl hR hC hY z
    · exact act_13 hfl hR hC hY z
    · exact act_14 hfl hR hC hY z
    · exact act_15 hfl hR hC hY z
    · exact act_16 hfl hR hC hY z
    · exact act_17 hfl hR hC hY z
    · by_cases hd : nI Y / 20 - nI Y / 20 / 3 * 3 = 0
      · exact act_18a hfl hR hC hY z hd
      · exact act_18b hfl hR hC hY z hd
    · exact act_19 hfl hR hC hY z
