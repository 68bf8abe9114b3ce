theorem k4_0 {E : EE} {f i c : Nat} (h : PC 4 E f i c) : kd f (c) = 4 := PC_kd h 0 (by decide)
theorem l4_0 {E : EE} {f i c : Nat} (h : PC 4 E f i c) : liveC E f i (c) = true := PC_lv h 0 (by decide) (by decide)
theorem s4_0 {E : EE} {f i c : Nat} (h : PC 4 E f i c) : Stab E (.inr (some (f, i, c))) := PC_st h 0 (by decide) (by decide) (by decide)
theorem k4_1 {E : EE} {f i c : Nat} (h : PC 4 E f i c) : kd f (c + 1) = 20 := PC_kd h 1 (by decide)
theorem l4_1 {E : EE} {f i c : Nat} (h : PC 4 E f i c) : liveC E f i (c + 1) = true := PC_lv h 1 (by decide) (by decide)
theorem s4_1 {E : EE} {f i c : Nat} (h : PC 4 E f i c) : Stab E (.inr (some (f, i, c + 1))) := PC_st h 1 (by decide) (by decide) (by decide)
theorem n4_1 {E : EE} {f i c : Nat} (h : PC 4 E f i c) : sl f (c + 1) = 4 := PC_sl h 1 (by decide)
theorem k4_2 {E : EE} {f i c : Nat} (h : PC 4 E f i c) : kd f (c + 2) = 20 := PC_kd h 2 (by decide)
theorem l4_2 {E : EE} {f i c : Nat} (h : PC 4 E f i c) : liveC E f i (c + 2) = true := PC_lv h 2 (by decide) (by decide)
theorem s4_2 {E : EE} {f i c : Nat} (h : PC 4 E f i c) : Stab E (.inr (some (f, i, c + 2))) := PC_st h 2 (by decide) (by decide) (by decide)
theorem n4_2 {E : EE} {f i c : Nat} (h : PC 4 E f i c) : sl f (c + 2) = 8 := PC_sl h 2 (by decide)
theorem k4_3 {E : EE} {f i c : Nat} (h : PC 4 E f i c) : kd f (c + 3) = 20 := PC_kd h 3 (by decide)
theorem l4_3 {E : EE} {f i c : Nat} (h : PC 4 E f i c) : liveC E f i (c + 3) = true := PC_lv h 3 (by decide) (by decide)
theorem s4_3 {E : EE} {f i c : Nat} (h : PC 4 E f i c) : Stab E (.inr (some (f, i, c + 3))) := PC_st h 3 (by decide) (by decide) (by decide)
theorem n4_3 {E : EE} {f i c : Nat} (h : PC 4 E f i c) : sl f (c + 3) = 32 := PC_sl h 3 (by decide)
set_option maxRecDepth 100000 in
theorem mw126 : Cond.fieldLink RX3 28 "GuestHall$Machine" "next" "I" ∈ gwl := gwl_tb 298 rfl rfl
set_option maxRecDepth 100000 in
theorem mw127 : Cond.fieldLink RX3 25 "GuestHall$Machine" "how" "I" ∈ gwl := gwl_tb 308 rfl rfl
set_option maxRecDepth 100000 in
theorem mw128 : Cond.fieldLink RX3 31 "GuestHall$Program" "size" "I" ∈ gwl := gwl_tb 268 rfl rfl
set_option maxRecDepth 100000 in
theorem mw129 : Cond.fieldLink RX3 36 "GuestHall$Program" "firsts" "[I" ∈ gwl := gwl_tb 264 rfl rfl
set_option maxRecDepth 100000 in
theorem mw130 : Cond.fieldLink RX3 39 "GuestHall$Program" "seconds" "[I" ∈ gwl := gwl_tb 266 rfl rfl
set_option maxRecDepth 100000 in
theorem mw131 : Cond.fieldLink RX3 42 "GuestHall$Program" "whats" "[I" ∈ gwl := gwl_tb 262 rfl rfl
set_option maxRecDepth 100000 in
theorem mw132 : Cond.fieldLink RX3 9 "GuestHall$Machine" "registers" "[I" ∈ gwl := gwl_tb 291 rfl rfl
set_option maxRecDepth 100000 in
theorem mw133 : Cond.fieldLink RX3 15 "GuestHall$Machine" "views" "[I" ∈ gwl := gwl_tb 293 rfl rfl
set_option maxRecDepth 100000 in
theorem mw134 : Cond.methodLink RX3 45 yX3_wordAt ∈ gwl := gwl_tb 717 rfl rfl
set_option maxRecDepth 100000 in
theorem mw135 : Cond.instanceMethod yX3_wordAt ∈ gwl := gwl_tb 719 rfl rfl
set_option maxRecDepth 100000 in
theorem mw136 : Cond.selects RX3 yX3_wordAt yX3_wordAt ∈ gwl := gwl_sl 9 rfl rfl
set_option maxRecDepth 100000 in
theorem mw137 : Cond.initialized RX3 ∈ gwl := gwl_tb 17 rfl rfl
set_option maxRecDepth 100000 in
theorem mw138 : Cond.code yX3_wordAt cX3_wordAt 3 (some .int) ∈ gwl := gwl_tb 720 rfl rfl
set_option maxRecDepth 100000 in
theorem mw139 : Cond.declares ⟨"GuestHall$Surroundings", "reach", "(IZ)V"⟩ ∈ nwl := nwl_tb 731 rfl rfl
set_option maxRecDepth 100000 in
theorem mw140 : Cond.methodLink RX3 83 ⟨"GuestHall$Surroundings", "reach", "(IZ)V"⟩ ∈ gwl := gwl_tb 730 rfl rfl
set_option maxRecDepth 100000 in
theorem mw141 : Cond.sameMethod "GuestHall$Surroundings" "GuestHall$Surroundings" "reach" "(IZ)V" ∈ gwl := gwl_tb 732 rfl rfl
set_option maxRecDepth 100000 in
theorem mw142 : Cond.selects RX1 ⟨"GuestHall$Surroundings", "reach", "(IZ)V"⟩ yX1_reach ∈ gwl := gwl_tb 733 rfl rfl
set_option maxRecDepth 100000 in
theorem mw143 : Cond.instanceMethod yX1_reach ∈ gwl := gwl_tb 734 rfl rfl
set_option maxRecDepth 100000 in
theorem mw144 : Cond.code yX1_reach cX1_reach 5 none ∈ gwl := gwl_tb 735 rfl rfl
set_option maxRecDepth 100000 in
theorem mw145 : Cond.fieldLink RX3 18 "GuestHall$Machine" "words" "[I" ∈ gwl := gwl_tb 294 rfl rfl
set_option maxRecDepth 100000 in
theorem mw146 : Cond.fieldLink RX3 21 "GuestHall$Machine" "handler" "I" ∈ gwl := gwl_tb 300 rfl rfl
set_option maxRecDepth 100000 in
theorem mw147 : Cond.fieldLink RX3 64 "GuestHall$Machine" "isMasked" "Z" ∈ gwl := gwl_tb 305 rfl rfl
set_option maxRecDepth 100000 in
theorem mw148 : Cond.fieldLink RX3 68 "GuestHall$Machine" "saved" "I" ∈ gwl := gwl_tb 302 rfl rfl
set_option maxRecDepth 100000 in
theorem mw149 : Cond.fieldLink RX3 94 "GuestHall$Machine" "cause" "I" ∈ gwl := gwl_tb 303 rfl rfl
set_option maxRecDepth 100000 in
theorem mw150 : Cond.methodLink RX3 104 yX3_enterHandler ∈ gwl := gwl_tb 729 rfl rfl
set_option maxRecDepth 100000 in
theorem mw151 : Cond.instanceMethod yX3_enterHandler ∈ gwl := gwl_tb 706 rfl rfl
set_option maxRecDepth 100000 in
theorem mw152 : Cond.selects RX3 yX3_enterHandler yX3_enterHandler ∈ gwl := gwl_tb 707 rfl rfl
set_option maxRecDepth 100000 in
theorem mw153 : Cond.code yX3_enterHandler cX3_enterHandler 2 none ∈ gwl := gwl_tb 708 rfl rfl
set_option maxRecDepth 100000 in
theorem mw154 : Cond.methodLink RX3 80 yX3_fault ∈ gwl := gwl_tb 725 rfl rfl
set_option maxRecDepth 100000 in
theorem mw155 : Cond.instanceMethod yX3_fault ∈ gwl := gwl_tb 727 rfl rfl
set_option maxRecDepth 100000 in
theorem mw156 : Cond.selects RX3 yX3_fault yX3_fault ∈ gwl := gwl_sl 11 rfl rfl
set_option maxRecDepth 100000 in
theorem mw157 : Cond.code yX3_fault cX3_fault 1 none ∈ gwl := gwl_tb 728 rfl rfl
set_option maxRecDepth 100000 in
theorem mw158 : Cond.methodLink RX3 49 yX3_access ∈ gwl := gwl_tb 721 rfl rfl
set_option maxRecDepth 100000 in
theorem mw159 : Cond.instanceMethod yX3_access ∈ gwl := gwl_tb 723 rfl rfl
set_option maxRecDepth 100000 in
theorem mw160 : Cond.selects RX3 yX3_access yX3_access ∈ gwl := gwl_sl 10 rfl rfl
set_option maxRecDepth 100000 in
theorem mw161 : Cond.code yX3_access cX3_access 5 none ∈ gwl := gwl_tb 724 rfl rfl
set_option maxRecDepth 100000 in
theorem mw162 : Cond.declares ⟨"GuestHall$Surroundings", "countExit", "(I)V"⟩ ∈ nwl := nwl_tb 780 rfl rfl
set_option maxRecDepth 100000 in
theorem mw163 : Cond.methodLink RX3 87 ⟨"GuestHall$Surroundings", "countExit", "(I)V"⟩ ∈ gwl := gwl_tb 779 rfl rfl
set_option maxRecDepth 100000 in
theorem mw164 : Cond.sameMethod "GuestHall$Surroundings" "GuestHall$Surroundings" "countExit" "(I)V" ∈ gwl := gwl_tb 781 rfl rfl
set_option maxRecDepth 100000 in
theorem mw165 : Cond.selects RX1 ⟨"GuestHall$Surroundings", "countExit", "(I)V"⟩ yX1_countExit ∈ gwl := gwl_tb 782 rfl rfl
set_option maxRecDepth 100000 in
theorem mw166 : Cond.declares ⟨"GuestHall$Surroundings", "takeFrom", "(I)I"⟩ ∈ nwl := nwl_tb 797 rfl rfl
set_option maxRecDepth 100000 in
theorem mw167 : Cond.methodLink RX3 97 ⟨"GuestHall$Surroundings", "takeFrom", "(I)I"⟩ ∈ gwl := gwl_tb 796 rfl rfl
set_option maxRecDepth 100000 in
theorem mw168 : Cond.sameMethod "GuestHall$Surroundings" "GuestHall$Surroundings" "takeFrom" "(I)I" ∈ gwl := gwl_tb 798 rfl rfl
set_option maxRecDepth 100000 in
theorem mw169 : Cond.selects RX1 ⟨"GuestHall$Surroundings", "takeFrom", "(I)I"⟩ yX1_takeFrom ∈ gwl := gwl_tb 799 rfl rfl
set_option maxRecDepth 100000 in
theorem mw170 : Cond.instanceMethod yX1_takeFrom ∈ gwl := gwl_tb 800 rfl rfl
set_option maxRecDepth 100000 in
theorem mw171 : Cond.code yX1_takeFrom cX1_takeFrom 3 (some .int) ∈ gwl := gwl_tb 801 rfl rfl
set_option maxRecDepth 100000 in
theorem mw172 : Cond.declares ⟨"GuestHall$Surroundings", "tell", "(II)V"⟩ ∈ nwl := nwl_tb 787 rfl rfl
set_option maxRecDepth 100000 in
theorem mw173 : Cond.methodLink RX3 90 ⟨"GuestHall$Surroundings", "tell", "(II)V"⟩ ∈ gwl := gwl_tb 786 rfl rfl
set_option maxRecDepth 100000 in
theorem mw174 : Cond.sameMethod "GuestHall$Surroundings" "GuestHall$Surroundings" "tell" "(II)V" ∈ gwl := gwl_tb 788 rfl rfl
set_option maxRecDepth 100000 in
theorem mw175 : Cond.selects RX1 ⟨"GuestHall$Surroundings", "tell", "(II)V"⟩ yX1_tell ∈ gwl := gwl_tb 789 rfl rfl
set_option maxRecDepth 100000 in
theorem mw176 : Cond.instanceMethod yX1_tell ∈ gwl := gwl_tb 790 rfl rfl
set_option maxRecDepth 100000 in
theorem mw177 : Cond.code yX1_tell cX1_tell 3 none ∈ gwl := gwl_tb 791 rfl rfl
set_option maxRecDepth 100000 in
theorem mw178 : Cond.methodLink RX3 53 yX3_tellOrTake ∈ gwl := gwl_tb 775 rfl rfl
set_option maxRecDepth 100000 in
theorem mw179 : Cond.instanceMethod yX3_tellOrTake ∈ gwl := gwl_tb 777 rfl rfl
set_option maxRecDepth 100000 in
theorem mw180 : Cond.selects RX3 yX3_tellOrTake yX3_tellOrTake ∈ gwl := gwl_sl 17 rfl rfl
set_option maxRecDepth 100000 in
theorem mw181 : Cond.code yX3_tellOrTake cX3_tellOrTake 5 none ∈ gwl := gwl_tb 778 rfl rfl
set_option maxRecDepth 100000 in
theorem mw182 : Cond.declares ⟨"GuestHall$Surroundings", "isInterruptPending", "()Z"⟩ ∈ nwl := nwl_tb 815 rfl rfl
set_option maxRecDepth 100000 in
theorem mw183 : Cond.methodLink RX3 100 ⟨"GuestHall$Surroundings", "isInterruptPending", "()Z"⟩ ∈ gwl := gwl_tb 814 rfl rfl
set_option maxRecDepth 100000 in
theorem mw184 : Cond.sameMethod "GuestHall$Surroundings" "GuestHall$Surroundings" "isInterruptPending" "()Z" ∈ gwl := gwl_tb 816 rfl rfl
set_option maxRecDepth 100000 in
theorem mw185 : Cond.selects RX1 ⟨"GuestHall$Surroundings", "isInterruptPending", "()Z"⟩ yX1_isInterruptPending ∈ gwl := gwl_tb 817 rfl rfl
set_option maxRecDepth 100000 in
theorem mw186 : Cond.instanceMethod yX1_isInterruptPending ∈ gwl := gwl_tb 818 rfl rfl
set_option maxRecDepth 100000 in
theorem mw187 : Cond.code yX1_isInterruptPending cX1_isInterruptPending 1 (some .boolean) ∈ gwl := gwl_tb 819 rfl rfl
set_option maxRecDepth 100000 in
theorem mw188 : Cond.methodLink RX3 56 yX3_rest ∈ gwl := gwl_tb 810 rfl rfl
set_option maxRecDepth 100000 in
theorem mw189 : Cond.instanceMethod yX3_rest ∈ gwl := gwl_tb 812 rfl rfl
set_option maxRecDepth 100000 in
theorem mw190 : Cond.selects RX3 yX3_rest yX3_rest ∈ gwl := gwl_sl 18 rfl rfl
set_option maxRecDepth 100000 in
theorem mw191 : Cond.code yX3_rest cX3_rest 3 none ∈ gwl := gwl_tb 813 rfl rfl
set_option maxRecDepth 100000 in
theorem mw192 : Cond.methodLink RX3 71 yX3_clear ∈ gwl := gwl_tb 828 rfl rfl
set_option maxRecDepth 100000 in
theorem mw193 : Cond.instanceMethod yX3_clear ∈ gwl := gwl_tb 830 rfl rfl
set_option maxRecDepth 100000 in
theorem mw194 : Cond.selects RX3 yX3_clear yX3_clear ∈ gwl := gwl_sl 20 rfl rfl
set_option maxRecDepth 100000 in
theorem mw195 : Cond.code yX3_clear cX3_clear 3 none ∈ gwl := gwl_tb 831 rfl rfl
set_option maxRecDepth 100000 in
theorem mw196 : Cond.declares ⟨"GuestHall$Surroundings", "giveBack", "(I)V"⟩ ∈ nwl := nwl_tb 833 rfl rfl
set_option maxRecDepth 100000 in
theorem mw197 : Cond.methodLink RX3 75 ⟨"GuestHall$Surroundings", "giveBack", "(I)V"⟩ ∈ gwl := gwl_tb 832 rfl rfl
set_option maxRecDepth 100000 in
theorem mw198 : Cond.sameMethod "GuestHall$Surroundings" "GuestHall$Surroundings" "giveBack" "(I)V" ∈ gwl := gwl_tb 834 rfl rfl
set_option maxRecDepth 100000 in
theorem mw199 : Cond.selects RX1 ⟨"GuestHall$Surroundings", "giveBack", "(I)V"⟩ yX1_giveBack ∈ gwl := gwl_tb 835 rfl rfl
set_option maxRecDepth 100000 in
theorem mw200 : Cond.instanceMethod yX1_giveBack ∈ gwl := gwl_tb 836 rfl rfl
set_option maxRecDepth 100000 in
theorem mw201 : Cond.code yX1_giveBack cX1_giveBack 2 none ∈ gwl := gwl_tb 837 rfl rfl
set_option maxRecDepth 100000 in
theorem mw202 : Cond.methodLink RX3 60 yX3_change ∈ gwl := gwl_tb 824 rfl rfl
set_option maxRecDepth 100000 in
theorem mw203 : Cond.instanceMethod yX3_change ∈ gwl := gwl_tb 826 rfl rfl
set_option maxRecDepth 100000 in
theorem mw204 : Cond.selects RX3 yX3_change yX3_change ∈ gwl := gwl_sl 19 rfl rfl
set_option maxRecDepth 100000 in
theorem mw205 : Cond.code yX3_change cX3_change 6 none ∈ gwl := gwl_tb 827 rfl rfl
theorem pd_X3_wordAt : (yX3_wordAt).cls ≠ "java/lang/invoke/MethodHandle" ∧ (yX3_wordAt).cls ≠ "java/lang/invoke/VarHandle" ∧ (parseMethodDescriptor (yX3_wordAt).desc).map (fun d => d.parameters.length) = some 1 := ⟨by decide +kernel, by decide +kernel, by decide +kernel⟩
theorem pd_X3_enterHandler : (yX3_enterHandler).cls ≠ "java/lang/invoke/MethodHandle" ∧ (yX3_enterHandler).cls ≠ "java/lang/invoke/VarHandle" ∧ (parseMethodDescriptor (yX3_enterHandler).desc).map (fun d => d.parameters.length) = some 1 := ⟨by decide +kernel, by decide +kernel, by decide +kernel⟩
theorem pd_X3_fault : (yX3_fault).cls ≠ "java/lang/invoke/MethodHandle" ∧ (yX3_fault).cls ≠ "java/lang/invoke/VarHandle" ∧ (parseMethodDescriptor (yX3_fault).desc).map (fun d => d.parameters.length) = some 0 := ⟨by decide +kernel, by decide +kernel, by decide +kernel⟩
theorem pd_X3_access : (yX3_access).cls ≠ "java/lang/invoke/MethodHandle" ∧ (yX3_access).cls ≠ "java/lang/invoke/VarHandle" ∧ (parseMethodDescriptor (yX3_access).desc).map (fun d => d.parameters.length) = some 4 := ⟨by decide +kernel, by decide +kernel, by decide +kernel⟩
theorem pd_X3_tellOrTake : (yX3_tellOrTake).cls ≠ "java/lang/invoke/MethodHandle" ∧ (yX3_tellOrTake).cls ≠ "java/lang/invoke/VarHandle" ∧ (parseMethodDescriptor (yX3_tellOrTake).desc).map (fun d => d.parameters.length) = some 4 := ⟨by decide +kernel, by decide +kernel, by decide +kernel⟩
theorem pd_X3_rest : (yX3_rest).cls ≠ "java/lang/invoke/MethodHandle" ∧ (yX3_rest).cls ≠ "java/lang/invoke/VarHandle" ∧ (parseMethodDescriptor (yX3_rest).desc).map (fun d => d.parameters.length) = some 2 := ⟨by decide +kernel, by decide +kernel, by decide +kernel⟩
theorem pd_X3_clear : (yX3_clear).cls ≠ "java/lang/invoke/MethodHandle" ∧ (yX3_clear).cls ≠ "java/lang/invoke/VarHandle" ∧ (parseMethodDescriptor (yX3_clear).desc).map (fun d => d.parameters.length) = some 1 := ⟨by decide +kernel, by decide +kernel, by decide +kernel⟩
theorem pd_X3_change : (yX3_change).cls ≠ "java/lang/invoke/MethodHandle" ∧ (yX3_change).cls ≠ "java/lang/invoke/VarHandle" ∧ (parseMethodDescriptor (yX3_change).desc).map (fun d => d.parameters.length) = some 4 := ⟨by decide +kernel, by decide +kernel, by decide +kernel⟩
def f_X3_wordAt (E : EE) (κ : K) (f0 : Nat) (i0 : Nat) (c0 : Nat) (a1 : Int32) : Option (K × Int32) := if a1 < 0 then some (κ, (-1)) else if a1 < 32 then gd (¬ ((a1 / 4) < 0 ∨ 8 ≤ (a1 / 4).toNatClampNeg)) (nm ((kV κ f0 i0 (c0 + 2)) (a1 / 4).toNatClampNeg) fun y4 => if y4 < 8 then some (κ, (y4 * 4) + (a1 - a1 / 4 * 4)) else some (κ, (-1))) else some (κ, (-1))
set_option maxHeartbeats 4000000 in
set_option maxRecDepth 100000 in
theorem w_X3_wordAt {l0 : Launch} (hfl : l0.stackTraces = false) {X : MX} {B : BX (EE × K)} {g : GP} {E : EE} {κ' : K} {rr : Int32} {f0 : Nat} {i0 : Nat} {c0 : Nat} (O : CK l0 X B g cX3_wordAt RX3 1 0) (hKP : KPok B E) (hmL : B.2.2.2.1 = 3) (hE : ∀ (pc : Nat) (lv : List (Nat × AV)), decode cX3_wordAt pc = .ok (.ireturn, 1) → J X B (E, κ') pc lv [.inl (.int rr)]) (h0 : PC 4 E f0 i0 c0) : ∀ (κ : K) (a1 : Int32), f_X3_wordAt E κ f0 i0 c0 a1 = some (κ', rr) → J X B (E, κ) 0 [(0, .inr (some (f0, i0, c0))), (1, .inl (.int a1))] [] := by
  intro κ a1 h
  unfold f_X3_wordAt at h
  refine J_iload_n O.mo dX3_wordAt_0 1 rfl ?_
  refine J_if_lt O.mo (tgt := 10) dX3_wordAt_1 (by decide) (fun hc1 => ?_) (fun hc1 => ?_)
  · replace h := (if_pos hc1).symm.trans h
    refine J_iconst O.mo (v := (-1)) dX3_wordAt_10 (by decide) ?_
    cases h
    exact hE _ _ dX3_wordAt_11
  · replace h := (if_neg hc1).symm.trans h
    refine J_iload_n O.mo dX3_wordAt_4 1 rfl ?_
    refine J_bipush O.mo (v := 32) dX3_wordAt_5 (by decide) ?_
    refine J_icmp_lt O.mo (tgt := 12) dX3_wordAt_7 (by decide) (fun hc2 => ?_) (fun hc2 => ?_)
    · replace h := (if_pos hc2).symm.trans h
      refine J_aload_n O.mo dX3_wordAt_12 0 rfl ?_
      refine J_getF O.co (kd0 := 4) (k4_0 h0) (l4_0 h0) (C := RX3) (T := TX3) (N := 9) rfl (by decide) rfl in_X3 1 (by decide) (v := .inr (some (f0, i0, c0 + 2))) rfl mw133 rfl dX3_wordAt_13 ?_
      refine J_iload_n O.mo dX3_wordAt_16 1 rfl ?_
      refine J_iconst O.mo (v := 4) dX3_wordAt_17 (by decide) ?_
      refine J_idiv O.mo dX3_wordAt_18 (by decide) ?_
      obtain ⟨hg3, h⟩ := gd_some h
      refine J_iald O.co (g := (kV κ f0 i0 (c0 + 2))) (ct_20n (l4_2 h0) (k4_2 h0) (n4_2 h0)) hg3 dX3_wordAt_19 ?_
      refine J_istore_n O.mo (lv' := [(0, .inr (some (f0, i0, c0))), (1, .inl (.int a1))]) dX3_wordAt_20 (by rw [hmL]; decide) rfl rfl ?_
      refine nm_some (P := fun z => J X B (E, κ) 21 [(2, .inl (.int z)), (0, .inr (some (f0, i0, c0))), (1, .inl (.int a1))] []) h (fun y4 h => ?_)
      refine J_iload_n O.mo dX3_wordAt_21 0 rfl ?_
      refine J_bipush O.mo (v := 8) dX3_wordAt_22 (by decide) ?_
      refine J_icmp_lt O.mo (tgt := 31) dX3_wordAt_24 (by decide) (fun hc5 => ?_) (fun hc5 => ?_)
      · replace h := (if_pos hc5).symm.trans h
        refine J_iload_n O.mo dX3_wordAt_31 0 rfl ?_
        refine J_iconst O.mo (v := 4) dX3_wordAt_32 (by decide) ?_
        refine J_imul O.mo dX3_wordAt_33 ?_
        refine J_iload_n O.mo dX3_wordAt_34 2 rfl ?_
        refine J_iconst O.mo (v := 4) dX3_wordAt_35 (by decide) ?_
        refine J_irem O.mo dX3_wordAt_36 (by decide) ?_
        refine J_iadd O.mo dX3_wordAt_37 ?_
        cases h
        exact hE _ _ dX3_wordAt_38
      · replace h := (if_neg hc5).symm.trans h
        refine J_iconst O.mo (v := (-1)) dX3_wordAt_27 (by decide) ?_
        refine J_goto O.mo (tgt := 38) dX3_wordAt_28 (by decide) ?_
        cases h
        exact hE _ _ dX3_wordAt_38
    · replace h := (if_neg hc2).symm.trans h
      refine J_iconst O.mo (v := (-1)) dX3_wordAt_10 (by decide) ?_
      cases h
      exact hE _ _ dX3_wordAt_11
theorem c_X3_wordAt {l : Launch} (hfl : l.stackTraces = false) {E : EE} {κ κ' : K} {f0 : Nat} {i0 : Nat} {c0 : Nat} {a1 : Int32} (h0 : PC 4 E f0 i0 c0) {rr : Int32} (h : f_X3_wordAt E κ f0 i0 c0 a1 = some (κ', rr)) : Con l yX3_wordAt cX3_wordAt 3 (some .int) 1 0 [.inr (some (f0, i0, c0)), .inl (.int a1)] (E, κ) (E, κ') (some (.inl (.int rr))) := by
  exact Con_of hfl (by decide +kernel) (Nat.le_of_ble_eq_true rfl) rfl ⟨_, rfl, rfl⟩ (fun X B g O hKP hmL hE => w_X3_wordAt hfl O hKP hmL hE h0 _ _ h)
def f_X3_enterHandler (E : EE) (κ : K) (f0 : Nat) (i0 : Nat) (c0 : Nat) (a1 : Int32) : Option (K × Unit) := nm (setV κ f0 i0 c0 5 (kV κ f0 i0 c0 3)) fun κ1 => nm (setV κ1 f0 i0 c0 3 (kV κ1 f0 i0 c0 4)) fun κ2 => nm (setV κ2 f0 i0 c0 7 1) fun κ3 => nm (setV κ3 f0 i0 c0 6 a1) fun κ4 => some (κ4, ())
set_option maxHeartbeats 4000000 in
set_option maxRecDepth 100000 in
theorem w_X3_enterHandler {l0 : Launch} (hfl : l0.stackTraces = false) {X : MX} {B : BX (EE × K)} {g : GP} {E : EE} {κ' : K} {rr : Unit} {f0 : Nat} {i0 : Nat} {c0 : Nat} (O : CK l0 X B g cX3_enterHandler RX3 1 0) (hKP : KPok B E) (hmL : B.2.2.2.1 = 2) (hE : ∀ (pc : Nat) (lv : List (Nat × AV)), decode cX3_enterHandler pc = .ok (.return_, 1) → J X B (E, κ') pc lv []) (h0 : PC 4 E f0 i0 c0) : ∀ (κ : K) (a1 : Int32), f_X3_enterHandler E κ f0 i0 c0 a1 = some (κ', rr) → J X B (E, κ) 0 [(0, .inr (some (f0, i0, c0))), (1, .inl (.int a1))] [] := by
  intro κ a1 h
  unfold f_X3_enterHandler at h
  refine J_aload_n O.mo dX3_enterHandler_0 0 rfl ?_
  refine J_aload_n O.mo dX3_enterHandler_1 0 rfl ?_
  refine J_getF O.co (kd0 := 4) (k4_0 h0) (l4_0 h0) (C := RX3) (T := TX3) (N := 9) rfl (by decide) rfl in_X3 3 (by decide) (v := .inl (.int (kV κ f0 i0 c0 3))) rfl mw126 rfl dX3_enterHandler_2 ?_
  refine J_putI O.co (kd0 := 4) (k4_0 h0) (l4_0 h0) (C := RX3) (T := TX3) (N := 9) rfl (by decide) rfl in_X3 tyX3 tyX3_ok nmX3 5 (by decide) rfl rfl (x := (kV κ f0 i0 c0 3)) (Or.inl rfl) mw148 dX3_enterHandler_5 ?_
  refine nm_some (P := fun z => J X B (E, z) 8 [(0, .inr (some (f0, i0, c0))), (1, .inl (.int a1))] []) h (fun κ1 h => ?_)
  refine J_aload_n O.mo dX3_enterHandler_8 0 rfl ?_
  refine J_aload_n O.mo dX3_enterHandler_9 0 rfl ?_
  refine J_getF O.co (kd0 := 4) (k4_0 h0) (l4_0 h0) (C := RX3) (T := TX3) (N := 9) rfl (by decide) rfl in_X3 4 (by decide) (v := .inl (.int (kV κ1 f0 i0 c0 4))) rfl mw146 rfl dX3_enterHandler_10 ?_
  refine J_putI O.co (kd0 := 4) (k4_0 h0) (l4_0 h0) (C := RX3) (T := TX3) (N := 9) rfl (by decide) rfl in_X3 tyX3 tyX3_ok nmX3 3 (by decide) rfl rfl (x := (kV κ1 f0 i0 c0 4)) (Or.inl rfl) mw126 dX3_enterHandler_13 ?_
  refine nm_some (P := fun z => J X B (E, z) 16 [(0, .inr (some (f0, i0, c0))), (1, .inl (.int a1))] []) h (fun κ2 h => ?_)
  refine J_aload_n O.mo dX3_enterHandler_16 0 rfl ?_
  refine J_iconst O.mo (v := 1) dX3_enterHandler_17 (by decide) ?_
  refine J_putI O.co (kd0 := 4) (k4_0 h0) (l4_0 h0) (C := RX3) (T := TX3) (N := 9) rfl (by decide) rfl in_X3 tyX3 tyX3_ok nmX3 7 (by decide) rfl rfl (x := 1) (Or.inr ⟨rfl, Or.inr rfl⟩) mw147 dX3_enterHandler_18 ?_
  refine nm_some (P := fun z => J X B (E, z) 21 [(0, .inr (some (f0, i0, c0))), (1, .inl (.int a1))] []) h (fun κ3 h => ?_)
  refine J_aload_n O.mo dX3_enterHandler_21 0 rfl ?_
  refine J_iload_n O.mo dX3_enterHandler_22 1 rfl ?_
  refine J_putI O.co (kd0 := 4) (k4_0 h0) (l4_0 h0) (C := RX3) (T := TX3) (N := 9) rfl (by decide) rfl in_X3 tyX3 tyX3_ok nmX3 6 (by decide) rfl rfl (x := a1) (Or.inl rfl) mw149 dX3_enterHandler_23 ?_
  refine nm_some (P := fun z => J X B (E, z) 26 [(0, .inr (some (f0, i0, c0))), (1, .inl (.int a1))] []) h (fun κ4 h => ?_)
  cases h
  exact hE _ _ dX3_enterHandler_26
theorem c_X3_enterHandler {l : Launch} (hfl : l.stackTraces = false) {E : EE} {κ κ' : K} {f0 : Nat} {i0 : Nat} {c0 : Nat} {a1 : Int32} (h0 : PC 4 E f0 i0 c0) {rr : Unit} (h : f_X3_enterHandler E κ f0 i0 c0 a1 = some (κ', rr)) : Con l yX3_enterHandler cX3_enterHandler 2 none 1 0 [.inr (some (f0, i0, c0)), .inl (.int a1)] (E, κ) (E, κ') none := by
  exact Con_of hfl (by decide +kernel) (Nat.le_of_ble_eq_true rfl) rfl rfl (fun X B g O hKP hmL hE => w_X3_enterHandler hfl O hKP hmL hE h0 _ _ h)
def f_X3_fault_b15 (E : EE) (f0 : Nat) (i0 : Nat) (c0 : Nat) (κ : K) : Option (K × Unit) := nm (setV κ f0 i0 c0 8 3) fun κ2 => some (κ2, ())
def f_X3_fault (E : EE) (κ : K) (f0 : Nat) (i0 : Nat) (c0 : Nat) : Option (K × Unit) := if kV κ f0 i0 c0 4 = (-1) then f_X3_fault_b15 E f0 i0 c0 κ else if kV κ f0 i0 c0 7 = 0 then bd (f_X3_enterHandler E κ f0 i0 c0 1) fun κ4 _ => some (κ4, ()) else f_X3_fault_b15 E f0 i0 c0 κ
set_option maxHeartbeats 4000000 in
set_option maxRecDepth 100000 in
theorem w_X3_fault_b15 {l0 : Launch} (hfl : l0.stackTraces = false) {X : MX} {B : BX (EE × K)} {g : GP} {E : EE} {κ' : K} {rr : Unit} {f0 : Nat} {i0 : Nat} {c0 : Nat} (O : CK l0 X B g cX3_fault RX3 2 21) (hKP : KPok B E) (hmL : B.2.2.2.1 = 1) (hE : ∀ (pc : Nat) (lv : List (Nat × AV)), decode cX3_fault pc = .ok (.return_, 1) → J X B (E, κ') pc lv []) (h0 : PC 4 E f0 i0 c0) : ∀ (κ : K), f_X3_fault_b15 E f0 i0 c0 κ = some (κ', rr) → J X B (E, κ) 15 [(0, .inr (some (f0, i0, c0)))] [] := by
  intro κ h
  unfold f_X3_fault_b15 at h
  refine J_aload_n O.mo dX3_fault_15 0 rfl ?_
  refine J_iconst O.mo (v := 3) dX3_fault_16 (by decide) ?_
  refine J_putI O.co (kd0 := 4) (k4_0 h0) (l4_0 h0) (C := RX3) (T := TX3) (N := 9) rfl (by decide) rfl in_X3 tyX3 tyX3_ok nmX3 8 (by decide) rfl rfl (x := 3) (Or.inl rfl) mw127 dX3_fault_17 ?_
  refine nm_some (P := fun z => J X B (E, z) 20 [(0, .inr (some (f0, i0, c0)))] []) h (fun κ2 h => ?_)
  refine J_goto O.mo (tgt := 28) dX3_fault_20 (by decide) ?_
  cases h
  exact hE _ _ dX3_fault_28
set_option maxHeartbeats 4000000 in
set_option maxRecDepth 100000 in
theorem w_X3_fault {l0 : Launch} (hfl : l0.stackTraces = false) {X : MX} {B : BX (EE × K)} {g : GP} {E : EE} {κ' : K} {rr : Unit} {f0 : Nat} {i0 : Nat} {c0 : Nat} (O : CK l0 X B g cX3_fault RX3 2 21) (hKP : KPok B E) (hmL : B.2.2.2.1 = 1) (hE : ∀ (pc : Nat) (lv : List (Nat × AV)), decode cX3_fault pc = .ok (.return_, 1) → J X B (E, κ') pc lv []) (h0 : PC 4 E f0 i0 c0) : ∀ (κ : K), f_X3_fault E κ f0 i0 c0 = some (κ', rr) → J X B (E, κ) 0 [(0, .inr (some (f0, i0, c0)))] [] := by
  intro κ h
  unfold f_X3_fault at h
  refine J_aload_n O.mo dX3_fault_0 0 rfl ?_
  refine J_getF O.co (kd0 := 4) (k4_0 h0) (l4_0 h0) (C := RX3) (T := TX3) (N := 9) rfl (by decide) rfl in_X3 4 (by decide) (v := .inl (.int (kV κ f0 i0 c0 4))) rfl mw146 rfl dX3_fault_1 ?_
  refine J_iconst O.mo (v := (-1)) dX3_fault_4 (by decide) ?_
  refine J_icmp_eq O.mo (tgt := 15) dX3_fault_5 (by decide) (fun hc1 => ?_) (fun hc1 => ?_)
  · replace h := (if_pos hc1).symm.trans h
    exact w_X3_fault_b15 hfl O hKP hmL hE h0 _ h
  · replace h := (if_neg hc1).symm.trans h
    refine J_aload_n O.mo dX3_fault_8 0 rfl ?_
    refine J_getF O.co (kd0 := 4) (k4_0 h0) (l4_0 h0) (C := RX3) (T := TX3) (N := 9) rfl (by decide) rfl in_X3 7 (by decide) (v := .inl (.int (kV κ f0 i0 c0 7))) rfl mw147 rfl dX3_fault_9 ?_
    refine J_if_eq O.mo (tgt := 23) dX3_fault_12 (by decide) (fun hc3 => ?_) (fun hc3 => ?_)
    · replace h := (if_pos hc3).symm.trans h
      refine J_aload_n O.mo dX3_fault_23 0 rfl ?_
      refine J_iconst O.mo (v := 1) dX3_fault_24 (by decide) ?_
      refine J_sub [] rfl ?_
      obtain ⟨κ4, r6, hq5, h⟩ := bd_some h
      refine J_callV O hKP (as := [.inl (.int 1)]) (rest := []) (r := none) (c_X3_enterHandler hfl h0 hq5) rfl (kd0 := 4) (k4_0 h0) (l4_0 h0) (T := TX3) (N := 9) rfl (by decide) mw150 mw151 mw152 mw137 mw153 pd_X3_enterHandler rfl (by decide) rfl (Nat.le_of_ble_eq_true rfl) sl_0 st_0 dX3_fault_25 ?_
      show J X B (E, κ4) 28 [] []
      cases h
      exact hE _ _ dX3_fault_28
    · replace h := (if_neg hc3).symm.trans h
      exact w_X3_fault_b15 hfl O hKP hmL hE h0 _ h
theorem c_X3_fault {l : Launch} (hfl : l.stackTraces = false) {E : EE} {κ κ' : K} {f0 : Nat} {i0 : Nat} {c0 : Nat} (h0 : PC 4 E f0 i0 c0) {rr : Unit} (h : f_X3_fault E κ f0 i0 c0 = some (κ', rr)) : Con l yX3_fault cX3_fault 1 none 2 21 [.inr (some (f0, i0, c0))] (E, κ) (E, κ') none := by
  exact Con_of hfl (by decide +kernel) (Nat.le_of_ble_eq_true rfl) rfl rfl (fun X B g O hKP hmL hE => w_X3_fault hfl O hKP hmL hE h0 _ h)
def f_X3_access_G_b50 (E : EE) (f0 : Nat) (i0 : Nat) (c0 : Nat) (a4 : Nat) (κ : K) : Option (K × Unit) := nm (setV κ f0 i0 c0 3 ((kV κ f0 i0 c0 3) + 1)) fun κ9 => some (κ9, ())
def f_X3_access_G (E : EE) (κ : K) (f0 : Nat) (i0 : Nat) (c0 : Nat) (a1 : Int32) (a2 : Int32) (a3 : Int32) (a4 : Nat) : Option (K × Unit) := if a3 = (-1) then bd (f_X3_fault E κ f0 i0 c0) fun κ13 _ => some (κ13, ()) else bd (f_X1_reach E κ a4 (a3 / 4) a1) fun κ2 _ => if a1 = 0 then gd (¬ (a3 < 0 ∨ 32 ≤ a3.toNatClampNeg)) (gd (¬ (a2 < 0 ∨ 4 ≤ a2.toNatClampNeg)) (nm (setV κ2 f0 i0 (c0 + 1) a2.toNatClampNeg ((kV κ2 f0 i0 (c0 + 3)) a3.toNatClampNeg)) fun κ8 => f_X3_access_G_b50 E f0 i0 c0 a4 κ8)) else gd (¬ (a2 < 0 ∨ 4 ≤ a2.toNatClampNeg)) (gd (¬ (a3 < 0 ∨ 32 ≤ a3.toNatClampNeg)) (nm (setV κ2 f0 i0 (c0 + 3) a3.toNatClampNeg ((kV κ2 f0 i0 (c0 + 1)) a2.toNatClampNeg)) fun κ12 => f_X3_access_G_b50 E f0 i0 c0 a4 κ12))
set_option maxHeartbeats 4000000 in
set_option maxRecDepth 100000 in
theorem w_X3_access_G_b50 {l0 : Launch} (hfl : l0.stackTraces = false) {X : MX} {B : BX (EE × K)} {g : GP} {E : EE} {κ' : K} {rr : Unit} {f0 : Nat} {i0 : Nat} {c0 : Nat} {a4 : Nat} (O : CK l0 X B g cX3_access RX3 4 70) (hKP : KPok B E) (hmL : B.2.2.2.1 = 5) (hE : ∀ (pc : Nat) (lv : List (Nat × AV)), decode cX3_access pc = .ok (.return_, 1) → J X B (E, κ') pc lv []) (h0 : PC 4 E f0 i0 c0) (h4 : PC 2 E 0 a4 0) : ∀ (κ : K), f_X3_access_G_b50 E f0 i0 c0 a4 κ = some (κ', rr) → J X B (E, κ) 50 [(0, .inr (some (f0, i0, c0)))] [] := by
  intro κ h
  unfold f_X3_access_G_b50 at h
  refine J_aload_n O.mo dX3_access_50 0 rfl ?_
  refine J_dup O.mo dX3_access_51 rfl ?_
  refine J_getF O.co (kd0 := 4) (k4_0 h0) (l4_0 h0) (C := RX3) (T := TX3) (N := 9) rfl (by decide) rfl in_X3 3 (by decide) (v := .inl (.int (kV κ f0 i0 c0 3))) rfl mw126 rfl dX3_access_52 ?_
  refine J_iconst O.mo (v := 1) dX3_access_55 (by decide) ?_
  refine J_iadd O.mo dX3_access_56 ?_
  refine J_putI O.co (kd0 := 4) (k4_0 h0) (l4_0 h0) (C := RX3) (T := TX3) (N := 9) rfl (by decide) rfl in_X3 tyX3 tyX3_ok nmX3 3 (by decide) rfl rfl (x := ((kV κ f0 i0 c0 3) + 1)) (Or.inl rfl) mw126 dX3_access_57 ?_
  refine nm_some (P := fun z => J X B (E, z) 60 [(0, .inr (some (f0, i0, c0)))] []) h (fun κ9 h => ?_)
  cases h
  exact hE _ _ dX3_access_60
set_option maxHeartbeats 4000000 in
set_option maxRecDepth 100000 in
theorem w_X3_access_G {l0 : Launch} (hfl : l0.stackTraces = false) {X : MX} {B : BX (EE × K)} {g : GP} {E : EE} {κ' : K} {rr : Unit} {f0 : Nat} {i0 : Nat} {c0 : Nat} {a4 : Nat} (O : CK l0 X B g cX3_access RX3 4 70) (hKP : KPok B E) (hmL : B.2.2.2.1 = 5) (hE : ∀ (pc : Nat) (lv : List (Nat × AV)), decode cX3_access pc = .ok (.return_, 1) → J X B (E, κ') pc lv []) (h0 : PC 4 E f0 i0 c0) (h4 : PC 2 E 0 a4 0) : ∀ (κ : K) (a1 : Int32) (a2 : Int32) (a3 : Int32), f_X3_access_G E κ f0 i0 c0 a1 a2 a3 a4 = some (κ', rr) → J X B (E, κ) 0 [(0, .inr (some (f0, i0, c0))), (1, .inl (.int a1)), (2, .inl (.int a2)), (3, .inl (.int a3)), (4, .inr (some (0, a4, 0)))] [] := by
  intro κ a1 a2 a3 h
  unfold f_X3_access_G at h
  refine J_iload_n O.mo dX3_access_0 3 rfl ?_
  refine J_iconst O.mo (v := (-1)) dX3_access_1 (by decide) ?_
  refine J_icmp_ne O.mo (tgt := 10) dX3_access_2 (by decide) (fun hc1 => ?_) (fun hc1 => ?_)
  · replace h := (if_neg hc1).symm.trans h
    refine J_aload O.mo dX3_access_10 4 rfl ?_
    refine J_iload_n O.mo dX3_access_12 3 rfl ?_
    refine J_iconst O.mo (v := 4) dX3_access_13 (by decide) ?_
    refine J_idiv O.mo dX3_access_14 (by decide) ?_
    refine J_iload_n O.mo dX3_access_15 1 rfl ?_
    refine J_sub [0, 1, 2, 3] rfl ?_
    obtain ⟨κ2, r4, hq3, h⟩ := bd_some h
    refine J_callU O hKP (x := ⟨"GuestHall$Surroundings", "reach", "(IZ)V"⟩) (owner := "GuestHall$Surroundings") (n := 2) (as := [.inl (.int (a3 / 4)), .inl (.int a1)]) (rest := []) (r := none) (c_X1_reach hfl h4 hq3) rfl (kd0 := 2) (k2_0 h4) (l2_0 h4) (T := TX1) (N := 19) rfl (by decide) mw140 mw141 mw143 mw142 mw74 mw144 mw139 ⟨by decide +kernel, by decide +kernel, by decide +kernel⟩ rfl (by decide) rfl (Nat.le_of_ble_eq_true rfl) (sl_p (s4_0 h0) (sl_v (sl_v (sl_v sl_0)))) st_0 dX3_access_16 ?_
    show J X B (E, κ2) 19 [(0, .inr (some (f0, i0, c0))), (1, .inl (.int a1)), (2, .inl (.int a2)), (3, .inl (.int a3))] []
    refine J_iload_n O.mo dX3_access_19 1 rfl ?_
    refine J_if_eq O.mo (tgt := 38) dX3_access_20 (by decide) (fun hc5 => ?_) (fun hc5 => ?_)
    · replace h := (if_pos hc5).symm.trans h
      refine J_aload_n O.mo dX3_access_38 0 rfl ?_
      refine J_getF O.co (kd0 := 4) (k4_0 h0) (l4_0 h0) (C := RX3) (T := TX3) (N := 9) rfl (by decide) rfl in_X3 0 (by decide) (v := .inr (some (f0, i0, c0 + 1))) rfl mw132 rfl dX3_access_39 ?_
      refine J_iload_n O.mo dX3_access_42 2 rfl ?_
      refine J_aload_n O.mo dX3_access_43 0 rfl ?_
      refine J_getF O.co (kd0 := 4) (k4_0 h0) (l4_0 h0) (C := RX3) (T := TX3) (N := 9) rfl (by decide) rfl in_X3 2 (by decide) (v := .inr (some (f0, i0, c0 + 3))) rfl mw145 rfl dX3_access_44 ?_
      refine J_iload_n O.mo dX3_access_47 3 rfl ?_
      obtain ⟨hg6, h⟩ := gd_some h
      refine J_iald O.co (g := (kV κ2 f0 i0 (c0 + 3))) (ct_20n (l4_3 h0) (k4_3 h0) (n4_3 h0)) hg6 dX3_access_48 ?_
      obtain ⟨hg7, h⟩ := gd_some h
      refine row_20 O (l4_1 h0) (k4_1 h0) (n4_1 h0) hg7 (x := ((kV κ2 f0 i0 (c0 + 3)) a3.toNatClampNeg)) dX3_access_49 ?_
      refine nm_some (P := fun z => J X B (E, z) 50 [(0, .inr (some (f0, i0, c0))), (1, .inl (.int a1)), (2, .inl (.int a2)), (3, .inl (.int a3))] []) h (fun κ8 h => ?_)
      refine J_sub [0] rfl ?_
      exact w_X3_access_G_b50 hfl O hKP hmL hE h0 h4 _ h
    · replace h := (if_neg hc5).symm.trans h
      refine J_aload_n O.mo dX3_access_23 0 rfl ?_
      refine J_getF O.co (kd0 := 4) (k4_0 h0) (l4_0 h0) (C := RX3) (T := TX3) (N := 9) rfl (by decide) rfl in_X3 2 (by decide) (v := .inr (some (f0, i0, c0 + 3))) rfl mw145 rfl dX3_access_24 ?_
      refine J_iload_n O.mo dX3_access_27 3 rfl ?_
      refine J_aload_n O.mo dX3_access_28 0 rfl ?_
      refine J_getF O.co (kd0 := 4) (k4_0 h0) (l4_0 h0) (C := RX3) (T := TX3) (N := 9) rfl (by decide) rfl in_X3 0 (by decide) (v := .inr (some (f0, i0, c0 + 1))) rfl mw132 rfl dX3_access_29 ?_
      refine J_iload_n O.mo dX3_access_32 2 rfl ?_
      obtain ⟨hg10, h⟩ := gd_some h
      refine J_iald O.co (g := (kV κ2 f0 i0 (c0 + 1))) (ct_20n (l4_1 h0) (k4_1 h0) (n4_1 h0)) hg10 dX3_access_33 ?_
      obtain ⟨hg11, h⟩ := gd_some h
      refine row_20 O (l4_3 h0) (k4_3 h0) (n4_3 h0) hg11 (x := ((kV κ2 f0 i0 (c0 + 1)) a2.toNatClampNeg)) dX3_access_34 ?_
      refine nm_some (P := fun z => J X B (E, z) 35 [(0, .inr (some (f0, i0, c0))), (1, .inl (.int a1)), (2, .inl (.int a2)), (3, .inl (.int a3))] []) h (fun κ12 h => ?_)
      refine J_goto O.mo (tgt := 50) dX3_access_35 (by decide) ?_
      refine J_sub [0] rfl ?_
      exact w_X3_access_G_b50 hfl O hKP hmL hE h0 h4 _ h
  · replace h := (if_pos hc1).symm.trans h
    refine J_aload_n O.mo dX3_access_5 0 rfl ?_
    refine J_sub [] rfl ?_
    obtain ⟨κ13, r15, hq14, h⟩ := bd_some h
    refine J_callV O hKP (as := []) (rest := []) (r := none) (c_X3_fault hfl h0 hq14) rfl (kd0 := 4) (k4_0 h0) (l4_0 h0) (T := TX3) (N := 9) rfl (by decide) mw154 mw155 mw156 mw137 mw157 pd_X3_fault rfl (by decide) rfl (Nat.le_of_ble_eq_true rfl) sl_0 st_0 dX3_access_6 ?_
    show J X B (E, κ13) 9 [] []
    cases h
    exact hE _ _ dX3_access_9
theorem c_X3_access_G {l : Launch} (hfl : l.stackTraces = false) {E : EE} {κ κ' : K} {f0 : Nat} {i0 : Nat} {c0 : Nat} {a1 : Int32} {a2 : Int32} {a3 : Int32} {a4 : Nat} (h0 : PC 4 E f0 i0 c0) (h4 : PC 2 E 0 a4 0) {rr : Unit} (h : f_X3_access_G E κ f0 i0 c0 a1 a2 a3 a4 = some (κ', rr)) : Con l yX3_access cX3_access 5 none 4 70 [.inr (some (f0, i0, c0)), .inl (.int a1), .inl (.int a2), .inl (.int a3), .inr (some (0, a4, 0))] (E, κ) (E, κ') none := by
  exact Con_of hfl (by decide +kernel) (Nat.le_of_ble_eq_true rfl) rfl rfl (fun X B g O hKP hmL hE => w_X3_access_G hfl O hKP hmL hE h0 h4 _ _ _ _ h)
def f_X3_tellOrTake_G_b49 (E : EE) (f0 : Nat) (i0 : Nat) (c0 : Nat) (a4 : Nat) (κ : K) : Option (K × Unit) := nm (setV κ f0 i0 c0 3 ((kV κ f0 i0 c0 3) + 1)) fun κ11 => some (κ11, ())
def f_X3_tellOrTake_G_b48 (E : EE) (f0 : Nat) (i0 : Nat) (c0 : Nat) (a4 : Nat) (κ : K) (xs0 : Int32) (xs1 : Int32) : Option (K × Unit) := gd (¬ (xs1 < 0 ∨ 4 ≤ xs1.toNatClampNeg)) (nm (setV κ f0 i0 (c0 + 1) xs1.toNatClampNeg xs0) fun κ10 => f_X3_tellOrTake_G_b49 E f0 i0 c0 a4 κ10)
def f_X3_tellOrTake_G (E : EE) (κ : K) (f0 : Nat) (i0 : Nat) (c0 : Nat) (a1 : Int32) (a2 : Int32) (a3 : Int32) (a4 : Nat) : Option (K × Unit) := bd (f_X1_countExit E κ a4 3) fun κ1 _ => if a1 = 0 then if a3 = 2 then f_X3_tellOrTake_G_b48 E f0 i0 c0 a4 κ1 (kV κ1 f0 i0 c0 6) a2 else bd (f_X1_takeFrom E κ1 a4 a3) fun κ6 r8 => f_X3_tellOrTake_G_b48 E f0 i0 c0 a4 κ6 r8 a2 else gd (¬ (a2 < 0 ∨ 4 ≤ a2.toNatClampNeg)) (bd (f_X1_tell E κ1 a4 a3 ((kV κ1 f0 i0 (c0 + 1)) a2.toNatClampNeg)) fun κ13 _ => f_X3_tellOrTake_G_b49 E f0 i0 c0 a4 κ13)
set_option maxHeartbeats 4000000 in
set_option maxRecDepth 100000 in
theorem w_X3_tellOrTake_G_b49 {l0 : Launch} (hfl : l0.stackTraces = false) {X : MX} {B : BX (EE × K)} {g : GP} {E : EE} {κ' : K} {rr : Unit} {f0 : Nat} {i0 : Nat} {c0 : Nat} {a4 : Nat} (O : CK l0 X B g cX3_tellOrTake RX3 5 165) (hKP : KPok B E) (hmL : B.2.2.2.1 = 5) (hE : ∀ (pc : Nat) (lv : List (Nat × AV)), decode cX3_tellOrTake pc = .ok (.return_, 1) → J X B (E, κ') pc lv []) (h0 : PC 4 E f0 i0 c0) (h4 : PC 2 E 0 a4 0) : ∀ (κ : K), f_X3_tellOrTake_G_b49 E f0 i0 c0 a4 κ = some (κ', rr) → J X B (E, κ) 49 [(0, .inr (some (f0, i0, c0)))] [] := by
  intro κ h
  unfold f_X3_tellOrTake_G_b49 at h
  refine J_aload_n O.mo dX3_tellOrTake_49 0 rfl ?_
  refine J_dup O.mo dX3_tellOrTake_50 rfl ?_
  refine J_getF O.co (kd0 := 4) (k4_0 h0) (l4_0 h0) (C := RX3) (T := TX3) (N := 9) rfl (by decide) rfl in_X3 3 (by decide) (v := .inl (.int (kV κ f0 i0 c0 3))) rfl mw126 rfl dX3_tellOrTake_51 ?_
  refine J_iconst O.mo (v := 1) dX3_tellOrTake_54 (by decide) ?_
  refine J_iadd O.mo dX3_tellOrTake_55 ?_
  refine J_putI O.co (kd0 := 4) (k4_0 h0) (l4_0 h0) (C := RX3) (T := TX3) (N := 9) rfl (by decide) rfl in_X3 tyX3 tyX3_ok nmX3 3 (by decide) rfl rfl (x := ((kV κ f0 i0 c0 3) + 1)) (Or.inl rfl) mw126 dX3_tellOrTake_56 ?_
  refine nm_some (P := fun z => J X B (E, z) 59 [(0, .inr (some (f0, i0, c0)))] []) h (fun κ11 h => ?_)
  cases h
  exact hE _ _ dX3_tellOrTake_59
set_option maxHeartbeats 4000000 in
set_option maxRecDepth 100000 in
theorem w_X3_tellOrTake_G_b48 {l0 : Launch} (hfl : l0.stackTraces = false) {X : MX} {B : BX (EE × K)} {g : GP} {E : EE} {κ' : K} {rr : Unit} {f0 : Nat} {i0 : Nat} {c0 : Nat} {a4 : Nat} (O : CK l0 X B g cX3_tellOrTake RX3 5 165) (hKP : KPok B E) (hmL : B.2.2.2.1 = 5) (hE : ∀ (pc : Nat) (lv : List (Nat × AV)), decode cX3_tellOrTake pc = .ok (.return_, 1) → J X B (E, κ') pc lv []) (h0 : PC 4 E f0 i0 c0) (h4 : PC 2 E 0 a4 0) : ∀ (κ : K) (xs0 : Int32) (xs1 : Int32), f_X3_tellOrTake_G_b48 E f0 i0 c0 a4 κ xs0 xs1 = some (κ', rr) → J X B (E, κ) 48 [(0, .inr (some (f0, i0, c0)))] [.inl (.int xs0), .inl (.int xs1), .inr (some (f0, i0, c0 + 1))] := by
  intro κ xs0 xs1 h
  unfold f_X3_tellOrTake_G_b48 at h
  obtain ⟨hg9, h⟩ := gd_some h
  refine row_20 O (l4_1 h0) (k4_1 h0) (n4_1 h0) hg9 (x := xs0) dX3_tellOrTake_48 ?_
  refine nm_some (P := fun z => J X B (E, z) 49 [(0, .inr (some (f0, i0, c0)))] []) h (fun κ10 h => ?_)
  exact w_X3_tellOrTake_G_b49 hfl O hKP hmL hE h0 h4 _ h
set_option maxHeartbeats 4000000 in
set_option maxRecDepth 100000 in
theorem w_X3_tellOrTake_G {l0 : Launch} (hfl : l0.stackTraces = false) {X : MX} {B : BX (EE × K)} {g : GP} {E : EE} {κ' : K} {rr : Unit} {f0 : Nat} {i0 : Nat} {c0 : Nat} {a4 : Nat} (O : CK l0 X B g cX3_tellOrTake RX3 5 165) (hKP : KPok B E) (hmL : B.2.2.2.1 = 5) (hE : ∀ (pc : Nat) (lv : List (Nat × AV)), decode cX3_tellOrTake pc = .ok (.return_, 1) → J X B (E, κ') pc lv []) (h0 : PC 4 E f0 i0 c0) (h4 : PC 2 E 0 a4 0) : ∀ (κ : K) (a1 : Int32) (a2 : Int32) (a3 : Int32), f_X3_tellOrTake_G E κ f0 i0 c0 a1 a2 a3 a4 = some (κ', rr) → J X B (E, κ) 0 [(0, .inr (some (f0, i0, c0))), (1, .inl (.int a1)), (2, .inl (.int a2)), (3, .inl (.int a3)), (4, .inr (some (0, a4, 0)))] [] := by
  intro κ a1 a2 a3 h
  unfold f_X3_tellOrTake_G at h
  refine J_aload O.mo dX3_tellOrTake_0 4 rfl ?_
  refine J_iconst O.mo (v := 3) dX3_tellOrTake_2 (by decide) ?_
  obtain ⟨κ1, r3, hq2, h⟩ := bd_some h
  refine J_callU O hKP (x := ⟨"GuestHall$Surroundings", "countExit", "(I)V"⟩) (owner := "GuestHall$Surroundings") (n := 1) (as := [.inl (.int 3)]) (rest := []) (r := none) (c_X1_countExit hfl h4 hq2) rfl (kd0 := 2) (k2_0 h4) (l2_0 h4) (T := TX1) (N := 19) rfl (by decide) mw163 mw164 mw90 mw165 mw74 mw92 mw162 ⟨by decide +kernel, by decide +kernel, by decide +kernel⟩ rfl (by decide) rfl (Nat.le_of_ble_eq_true rfl) (sl_p (s4_0 h0) (sl_v (sl_v (sl_v (sl_p (s2_0 h4) sl_0))))) st_0 dX3_tellOrTake_3 ?_
  show J X B (E, κ1) 6 [(0, .inr (some (f0, i0, c0))), (1, .inl (.int a1)), (2, .inl (.int a2)), (3, .inl (.int a3)), (4, .inr (some (0, a4, 0)))] []
  refine J_iload_n O.mo dX3_tellOrTake_6 1 rfl ?_
  refine J_if_eq O.mo (tgt := 25) dX3_tellOrTake_7 (by decide) (fun hc4 => ?_) (fun hc4 => ?_)
  · replace h := (if_pos hc4).symm.trans h
    refine J_aload_n O.mo dX3_tellOrTake_25 0 rfl ?_
    refine J_getF O.co (kd0 := 4) (k4_0 h0) (l4_0 h0) (C := RX3) (T := TX3) (N := 9) rfl (by decide) rfl in_X3 0 (by decide) (v := .inr (some (f0, i0, c0 + 1))) rfl mw132 rfl dX3_tellOrTake_26 ?_
    refine J_iload_n O.mo dX3_tellOrTake_29 2 rfl ?_
    refine J_iload_n O.mo dX3_tellOrTake_30 3 rfl ?_
    refine J_iconst O.mo (v := 2) dX3_tellOrTake_31 (by decide) ?_
    refine J_icmp_ne O.mo (tgt := 42) dX3_tellOrTake_32 (by decide) (fun hc5 => ?_) (fun hc5 => ?_)
    · replace h := (if_neg hc5).symm.trans h
      refine J_aload O.mo dX3_tellOrTake_42 4 rfl ?_
      refine J_iload_n O.mo dX3_tellOrTake_44 3 rfl ?_
      refine J_sub [0] rfl ?_
      obtain ⟨κ6, r8, hq7, h⟩ := bd_some h
      refine J_callU O hKP (x := ⟨"GuestHall$Surroundings", "takeFrom", "(I)I"⟩) (owner := "GuestHall$Surroundings") (n := 1) (as := [.inl (.int a3)]) (rest := [.inl (.int a2), .inr (some (f0, i0, c0 + 1))]) (r := (some (.inl (.int r8)))) (c_X1_takeFrom hfl h4 hq7) rfl (kd0 := 2) (k2_0 h4) (l2_0 h4) (T := TX1) (N := 19) rfl (by decide) mw167 mw168 mw170 mw169 mw74 mw171 mw166 ⟨by decide +kernel, by decide +kernel, by decide +kernel⟩ rfl (by decide) rfl (Nat.le_of_ble_eq_true rfl) (sl_p (s4_0 h0) sl_0) (st_v (st_p (s4_1 h0) st_0)) dX3_tellOrTake_45 ?_
      show J X B (E, κ6) 48 [(0, .inr (some (f0, i0, c0)))] [.inl (.int r8), .inl (.int a2), .inr (some (f0, i0, c0 + 1))]
      exact w_X3_tellOrTake_G_b48 hfl O hKP hmL hE h0 h4 _ _ _ h
    · replace h := (if_pos hc5).symm.trans h
      refine J_aload_n O.mo dX3_tellOrTake_35 0 rfl ?_
      refine J_getF O.co (kd0 := 4) (k4_0 h0) (l4_0 h0) (C := RX3) (T := TX3) (N := 9) rfl (by decide) rfl in_X3 6 (by decide) (v := .inl (.int (kV κ1 f0 i0 c0 6))) rfl mw149 rfl dX3_tellOrTake_36 ?_
      refine J_goto O.mo (tgt := 48) dX3_tellOrTake_39 (by decide) ?_
      refine J_sub [0] rfl ?_
      exact w_X3_tellOrTake_G_b48 hfl O hKP hmL hE h0 h4 _ _ _ h
  · replace h := (if_neg hc4).symm.trans h
    refine J_aload O.mo dX3_tellOrTake_10 4 rfl ?_
    refine J_iload_n O.mo dX3_tellOrTake_12 3 rfl ?_
    refine J_aload_n O.mo dX3_tellOrTake_13 0 rfl ?_
    refine J_getF O.co (kd0 := 4) (k4_0 h0) (l4_0 h0) (C := RX3) (T := TX3) (N := 9) rfl (by decide) rfl in_X3 0 (by decide) (v := .inr (some (f0, i0, c0 + 1))) rfl mw132 rfl dX3_tellOrTake_14 ?_
    refine J_iload_n O.mo dX3_tellOrTake_17 2 rfl ?_
    obtain ⟨hg12, h⟩ := gd_some h
    refine J_iald O.co (g := (kV κ1 f0 i0 (c0 + 1))) (ct_20n (l4_1 h0) (k4_1 h0) (n4_1 h0)) hg12 dX3_tellOrTake_18 ?_
    refine J_sub [0] rfl ?_
    obtain ⟨κ13, r15, hq14, h⟩ := bd_some h
    refine J_callU O hKP (x := ⟨"GuestHall$Surroundings", "tell", "(II)V"⟩) (owner := "GuestHall$Surroundings") (n := 2) (as := [.inl (.int a3), .inl (.int ((kV κ1 f0 i0 (c0 + 1)) a2.toNatClampNeg))]) (rest := []) (r := none) (c_X1_tell hfl h4 hq14) rfl (kd0 := 2) (k2_0 h4) (l2_0 h4) (T := TX1) (N := 19) rfl (by decide) mw173 mw174 mw176 mw175 mw74 mw177 mw172 ⟨by decide +kernel, by decide +kernel, by decide +kernel⟩ rfl (by decide) rfl (Nat.le_of_ble_eq_true rfl) (sl_p (s4_0 h0) sl_0) st_0 dX3_tellOrTake_19 ?_
    show J X B (E, κ13) 22 [(0, .inr (some (f0, i0, c0)))] []
    refine J_goto O.mo (tgt := 49) dX3_tellOrTake_22 (by decide) ?_
    exact w_X3_tellOrTake_G_b49 hfl O hKP hmL hE h0 h4 _ h
theorem c_X3_tellOrTake_G {l : Launch} (hfl : l.stackTraces = false) {E : EE} {κ κ' : K} {f0 : Nat} {i0 : Nat} {c0 : Nat} {a1 : Int32} {a2 : Int32} {a3 : Int32} {a4 : Nat} (h0 : PC 4 E f0 i0 c0) (h4 : PC 2 E 0 a4 0) {rr : Unit} (h : f_X3_tellOrTake_G E κ f0 i0 c0 a1 a2 a3 a4 = some (κ', rr)) : Con l yX3_tellOrTake cX3_tellOrTake 5 none 5 165 [.inr (some (f0, i0, c0)), .inl (.int a1), .inl (.int a2), .inl (.int a3), .inr (some (0, a4, 0))] (E, κ) (E, κ') none := by
  exact Con_of hfl (by decide +kernel) (Nat.le_of_ble_eq_true rfl) rfl rfl (fun X B g O hKP hmL hE => w_X3_tellOrTake_G hfl O hKP hmL hE h0 h4 _ _ _ _ h)
def f_X3_rest_G_b29 (E : EE) (f0 : Nat) (i0 : Nat) (c0 : Nat) (a2 : Nat) (κ : K) : Option (K × Unit) := nm (setV κ f0 i0 c0 3 ((kV κ f0 i0 c0 3) + 1)) fun κ9 => some (κ9, ())
def f_X3_rest_G (E : EE) (κ : K) (f0 : Nat) (i0 : Nat) (c0 : Nat) (a1 : Int32) (a2 : Nat) : Option (K × Unit) := bd (f_X1_countExit E κ a2 4) fun κ1 _ => if a1 = 0 then bd (f_X1_isInterruptPending E κ1 a2) fun κ5 r7 => if r7 = 0 then nm (setV κ5 f0 i0 c0 8 1) fun κ10 => f_X3_rest_G_b29 E f0 i0 c0 a2 κ10 else f_X3_rest_G_b29 E f0 i0 c0 a2 κ5 else nm (setV κ1 f0 i0 c0 8 2) fun κ11 => f_X3_rest_G_b29 E f0 i0 c0 a2 κ11
set_option maxHeartbeats 4000000 in
set_option maxRecDepth 100000 in
theorem w_X3_rest_G_b29 {l0 : Launch} (hfl : l0.stackTraces = false) {X : MX} {B : BX (EE × K)} {g : GP} {E : EE} {κ' : K} {rr : Unit} {f0 : Nat} {i0 : Nat} {c0 : Nat} {a2 : Nat} (O : CK l0 X B g cX3_rest RX3 3 40) (hKP : KPok B E) (hmL : B.2.2.2.1 = 3) (hE : ∀ (pc : Nat) (lv : List (Nat × AV)), decode cX3_rest pc = .ok (.return_, 1) → J X B (E, κ') pc lv []) (h0 : PC 4 E f0 i0 c0) (h2 : PC 2 E 0 a2 0) : ∀ (κ : K), f_X3_rest_G_b29 E f0 i0 c0 a2 κ = some (κ', rr) → J X B (E, κ) 29 [(0, .inr (some (f0, i0, c0)))] [] := by
  intro κ h
  unfold f_X3_rest_G_b29 at h
  refine J_aload_n O.mo dX3_rest_29 0 rfl ?_
  refine J_dup O.mo dX3_rest_30 rfl ?_
  refine J_getF O.co (kd0 := 4) (k4_0 h0) (l4_0 h0) (C := RX3) (T := TX3) (N := 9) rfl (by decide) rfl in_X3 3 (by decide) (v := .inl (.int (kV κ f0 i0 c0 3))) rfl mw126 rfl dX3_rest_31 ?_
  refine J_iconst O.mo (v := 1) dX3_rest_34 (by decide) ?_
  refine J_iadd O.mo dX3_rest_35 ?_
  refine J_putI O.co (kd0 := 4) (k4_0 h0) (l4_0 h0) (C := RX3) (T := TX3) (N := 9) rfl (by decide) rfl in_X3 tyX3 tyX3_ok nmX3 3 (by decide) rfl rfl (x := ((kV κ f0 i0 c0 3) + 1)) (Or.inl rfl) mw126 dX3_rest_36 ?_
  refine nm_some (P := fun z => J X B (E, z) 39 [(0, .inr (some (f0, i0, c0)))] []) h (fun κ9 h => ?_)
  cases h
  exact hE _ _ dX3_rest_39
set_option maxHeartbeats 4000000 in
set_option maxRecDepth 100000 in
theorem w_X3_rest_G {l0 : Launch} (hfl : l0.stackTraces = false) {X : MX} {B : BX (EE × K)} {g : GP} {E : EE} {κ' : K} {rr : Unit} {f0 : Nat} {i0 : Nat} {c0 : Nat} {a2 : Nat} (O : CK l0 X B g cX3_rest RX3 3 40) (hKP : KPok B E) (hmL : B.2.2.2.1 = 3) (hE : ∀ (pc : Nat) (lv : List (Nat × AV)), decode cX3_rest pc = .ok (.return_, 1) → J X B (E, κ') pc lv []) (h0 : PC 4 E f0 i0 c0) (h2 : PC 2 E 0 a2 0) : ∀ (κ : K) (a1 : Int32), f_X3_rest_G E κ f0 i0 c0 a1 a2 = some (κ', rr) → J X B (E, κ) 0 [(0, .inr (some (f0, i0, c0))), (1, .inl (.int a1)), (2, .inr (some (0, a2, 0)))] [] := by
  intro κ a1 h
  unfold f_X3_rest_G at h
  refine J_aload_n O.mo dX3_rest_0 2 rfl ?_
  refine J_iconst O.mo (v := 4) dX3_rest_1 (by decide) ?_
  obtain ⟨κ1, r3, hq2, h⟩ := bd_some h
  refine J_callU O hKP (x := ⟨"GuestHall$Surroundings", "countExit", "(I)V"⟩) (owner := "GuestHall$Surroundings") (n := 1) (as := [.inl (.int 4)]) (rest := []) (r := none) (c_X1_countExit hfl h2 hq2) rfl (kd0 := 2) (k2_0 h2) (l2_0 h2) (T := TX1) (N := 19) rfl (by decide) mw163 mw164 mw90 mw165 mw74 mw92 mw162 ⟨by decide +kernel, by decide +kernel, by decide +kernel⟩ rfl (by decide) rfl (Nat.le_of_ble_eq_true rfl) (sl_p (s4_0 h0) (sl_v (sl_p (s2_0 h2) sl_0))) st_0 dX3_rest_2 ?_
  show J X B (E, κ1) 5 [(0, .inr (some (f0, i0, c0))), (1, .inl (.int a1)), (2, .inr (some (0, a2, 0)))] []
  refine J_iload_n O.mo dX3_rest_5 1 rfl ?_
  refine J_if_eq O.mo (tgt := 17) dX3_rest_6 (by decide) (fun hc4 => ?_) (fun hc4 => ?_)
  · replace h := (if_pos hc4).symm.trans h
    refine J_aload_n O.mo dX3_rest_17 2 rfl ?_
    refine J_sub [0] rfl ?_
    obtain ⟨κ5, r7, hq6, h⟩ := bd_some h
    refine J_callU O hKP (x := ⟨"GuestHall$Surroundings", "isInterruptPending", "()Z"⟩) (owner := "GuestHall$Surroundings") (n := 0) (as := []) (rest := []) (r := (some (.inl (.int r7)))) (c_X1_isInterruptPending hfl h2 hq6) rfl (kd0 := 2) (k2_0 h2) (l2_0 h2) (T := TX1) (N := 19) rfl (by decide) mw183 mw184 mw186 mw185 mw74 mw187 mw182 ⟨by decide +kernel, by decide +kernel, by decide +kernel⟩ rfl (by decide) rfl (Nat.le_of_ble_eq_true rfl) (sl_p (s4_0 h0) sl_0) st_0 dX3_rest_18 ?_
    show J X B (E, κ5) 21 [(0, .inr (some (f0, i0, c0)))] [.inl (.int r7)]
    refine J_if_ne O.mo (tgt := 29) dX3_rest_21 (by decide) (fun hc8 => ?_) (fun hc8 => ?_)
    · replace h := (if_neg hc8).symm.trans h
      exact w_X3_rest_G_b29 hfl O hKP hmL hE h0 h2 _ h
    · replace h := (if_pos hc8).symm.trans h
      refine J_aload_n O.mo dX3_rest_24 0 rfl ?_
      refine J_iconst O.mo (v := 1) dX3_rest_25 (by decide) ?_
      refine J_putI O.co (kd0 := 4) (k4_0 h0) (l4_0 h0) (C := RX3) (T := TX3) (N := 9) rfl (by decide) rfl in_X3 tyX3 tyX3_ok nmX3 8 (by decide) rfl rfl (x := 1) (Or.inl rfl) mw127 dX3_rest_26 ?_
      refine nm_some (P := fun z => J X B (E, z) 29 [(0, .inr (some (f0, i0, c0)))] []) h (fun κ10 h => ?_)
      exact w_X3_rest_G_b29 hfl O hKP hmL hE h0 h2 _ h
  · replace h := (if_neg hc4).symm.trans h
    refine J_aload_n O.mo dX3_rest_9 0 rfl ?_
    refine J_iconst O.mo (v := 2) dX3_rest_10 (by decide) ?_
    refine J_putI O.co (kd0 := 4) (k4_0 h0) (l4_0 h0) (C := RX3) (T := TX3) (N := 9) rfl (by decide) rfl in_X3 tyX3 tyX3_ok nmX3 8 (by decide) rfl rfl (x := 2) (Or.inl rfl) mw127 dX3_rest_11 ?_
    refine nm_some (P := fun z => J X B (E, z) 14 [(0, .inr (some (f0, i0, c0))), (1, .inl (.int a1)), (2, .inr (some (0, a2, 0)))] []) h (fun κ11 h => ?_)
    refine J_goto O.mo (tgt := 29) dX3_rest_14 (by decide) ?_
    refine J_sub [0] rfl ?_
    exact w_X3_rest_G_b29 hfl O hKP hmL hE h0 h2 _ h
theorem c_X3_rest_G {l : Launch} (hfl : l.stackTraces = false) {E : EE} {κ κ' : K} {f0 : Nat} {i0 : Nat} {c0 : Nat} {a1 : Int32} {a2 : Nat} (h0 : PC 4 E f0 i0 c0) (h2 : PC 2 E 0 a2 0) {rr : Unit} (h : f_X3_rest_G E κ f0 i0 c0 a1 a2 = some (κ', rr)) : Con l yX3_rest cX3_rest 3 none 3 40 [.inr (some (f0, i0, c0)), .inl (.int a1), .inr (some (0, a2, 0))] (E, κ) (E, κ') none := by
  exact Con_of hfl (by decide +kernel) (Nat.le_of_ble_eq_true rfl) rfl rfl (fun X B g O hKP hmL hE => w_X3_rest_G hfl O hKP hmL hE h0 h2 _ _ h)
def f_X3_clear_b2 (E : EE) (f0 : Nat) (i0 : Nat) (c0 : Nat) : Nat → K → Int32 → Int32 → Option (K × Unit)
  | 0, _, _, _ => none
  | n + 1, κ, x1, x2 => if 4 ≤ x2 then some (κ, ()) else gd (¬ (((x1 * 4) + x2) < 0 ∨ 32 ≤ ((x1 * 4) + x2).toNatClampNeg)) (nm (setV κ f0 i0 (c0 + 3) ((x1 * 4) + x2).toNatClampNeg 0) fun κ3 => nm (x2 + 1) fun y4 => f_X3_clear_b2 E f0 i0 c0 n κ3 x1 y4)
def f_X3_clear (E : EE) (κ : K) (f0 : Nat) (i0 : Nat) (c0 : Nat) (a1 : Int32) : Option (K × Unit) := f_X3_clear_b2 E f0 i0 c0 FU κ a1 0
set_option maxHeartbeats 4000000 in
set_option maxRecDepth 100000 in
theorem w_X3_clear_b2 {l0 : Launch} (hfl : l0.stackTraces = false) {X : MX} {B : BX (EE × K)} {g : GP} {E : EE} {κ' : K} {rr : Unit} {f0 : Nat} {i0 : Nat} {c0 : Nat} (O : CK l0 X B g cX3_clear RX3 1 0) (hKP : KPok B E) (hmL : B.2.2.2.1 = 3) (hE : ∀ (pc : Nat) (lv : List (Nat × AV)), decode cX3_clear pc = .ok (.return_, 1) → J X B (E, κ') pc lv []) (h0 : PC 4 E f0 i0 c0) : ∀ (n : Nat) (κ : K) (x1 : Int32) (x2 : Int32), f_X3_clear_b2 E f0 i0 c0 n κ x1 x2 = some (κ', rr) → J X B (E, κ) 2 [(0, .inr (some (f0, i0, c0))), (1, .inl (.int x1)), (2, .inl (.int x2))] [] := by
  intro n
  induction n with
  | zero => intro κ x1 x2 h; cases h
  | succ n ih =>
    intro κ x1 x2 h
    rw [f_X3_clear_b2] at h
    refine J_iload_n O.mo dX3_clear_2 2 rfl ?_
    refine J_iconst O.mo (v := 4) dX3_clear_3 (by decide) ?_
    refine J_icmp_ge O.mo (tgt := 24) dX3_clear_4 (by decide) (fun hc1 => ?_) (fun hc1 => ?_)
    · replace h := (if_pos hc1).symm.trans h
      cases h
      exact hE _ _ dX3_clear_24
    · replace h := (if_neg hc1).symm.trans h
      refine J_aload_n O.mo dX3_clear_7 0 rfl ?_
      refine J_getF O.co (kd0 := 4) (k4_0 h0) (l4_0 h0) (C := RX3) (T := TX3) (N := 9) rfl (by decide) rfl in_X3 2 (by decide) (v := .inr (some (f0, i0, c0 + 3))) rfl mw145 rfl dX3_clear_8 ?_
      refine J_iload_n O.mo dX3_clear_11 1 rfl ?_
      refine J_iconst O.mo (v := 4) dX3_clear_12 (by decide) ?_
      refine J_imul O.mo dX3_clear_13 ?_
      refine J_iload_n O.mo dX3_clear_14 2 rfl ?_
      refine J_iadd O.mo dX3_clear_15 ?_
      refine J_iconst O.mo (v := 0) dX3_clear_16 (by decide) ?_
      obtain ⟨hg2, h⟩ := gd_some h
      refine row_20 O (l4_3 h0) (k4_3 h0) (n4_3 h0) hg2 (x := 0) dX3_clear_17 ?_
      refine nm_some (P := fun z => J X B (E, z) 18 [(0, .inr (some (f0, i0, c0))), (1, .inl (.int x1)), (2, .inl (.int x2))] []) h (fun κ3 h => ?_)
      refine J_iinc O.mo (v := x2 + 1) (lv' := [(0, .inr (some (f0, i0, c0))), (1, .inl (.int x1))]) dX3_clear_18 (by rw [hmL]; decide) 2 rfl (by rw [show Int32.ofInt (1) = (1 : Int32) from by decide]) rfl rfl ?_
      refine nm_some (P := fun z => J X B (E, κ3) 21 [(2, .inl (.int z)), (0, .inr (some (f0, i0, c0))), (1, .inl (.int x1))] []) h (fun y4 h => ?_)
      refine J_goto O.mo (tgt := 2) dX3_clear_21 (by decide) ?_
      refine J_sub [1, 2, 0] rfl ?_
      exact ih _ _ _ h
set_option maxHeartbeats 4000000 in
set_option maxRecDepth 100000 in
theorem w_X3_clear {l0 : Launch} (hfl : l0.stackTraces = false) {X : MX} {B : BX (EE × K)} {g : GP} {E : EE} {κ' : K} {rr : Unit} {f0 : Nat} {i0 : Nat} {c0 : Nat} (O : CK l0 X B g cX3_clear RX3 1 0) (hKP : KPok B E) (hmL : B.2.2.2.1 = 3) (hE : ∀ (pc : Nat) (lv : List (Nat × AV)), decode cX3_clear pc = .ok (.return_, 1) → J X B (E, κ') pc lv []) (h0 : PC 4 E f0 i0 c0) : ∀ (κ : K) (a1 : Int32), f_X3_clear E κ f0 i0 c0 a1 = some (κ', rr) → J X B (E, κ) 0 [(0, .inr (some (f0, i0, c0))), (1, .inl (.int a1))] [] := by
  intro κ a1 h
  unfold f_X3_clear at h
  refine J_iconst O.mo (v := 0) dX3_clear_0 (by decide) ?_
  refine J_istore_n O.mo (lv' := [(0, .inr (some (f0, i0, c0))), (1, .inl (.int a1))]) dX3_clear_1 (by rw [hmL]; decide) rfl rfl ?_
  refine J_sub [1, 2, 0] rfl ?_
  exact w_X3_clear_b2 hfl O hKP hmL hE h0 FU _ _ _ h
theorem c_X3_clear {l : Launch} (hfl : l.stackTraces = false) {E : EE} {κ κ' : K} {f0 : Nat} {i0 : Nat} {c0 : Nat} {a1 : Int32} (h0 : PC 4 E f0 i0 c0) {rr : Unit} (h : f_X3_clear E κ f0 i0 c0 a1 = some (κ', rr)) : Con l yX3_clear cX3_clear 3 none 1 0 [.inr (some (f0, i0, c0)), .inl (.int a1)] (E, κ) (E, κ') none := by
  exact Con_of hfl (by decide +kernel) (Nat.le_of_ble_eq_true rfl) rfl rfl (fun X B g O hKP hmL hE => w_X3_clear hfl O hKP hmL hE h0 _ _ h)
def f_X3_change_G_b188 (E : EE) (f0 : Nat) (i0 : Nat) (c0 : Nat) (a4 : Nat) (κ : K) (x5 : Int32) : Option (K × Unit) := nm (setV κ f0 i0 c0 3 x5) fun κ5 => some (κ5, ())
def f_X3_change_G_b123 (E : EE) (f0 : Nat) (i0 : Nat) (c0 : Nat) (a4 : Nat) (κ : K) (xs0 : Int32) : Option (K × Unit) := f_X3_change_G_b188 E f0 i0 c0 a4 κ xs0
def f_X3_change_G_b157 (E : EE) (f0 : Nat) (i0 : Nat) (c0 : Nat) (a4 : Nat) (κ : K) (x5 : Int32) (xs0 : Int32) : Option (K × Unit) := gd (xs0 = 0 ∨ xs0 = 1) (nm (setV κ f0 i0 c0 7 xs0) fun κ56 => f_X3_change_G_b188 E f0 i0 c0 a4 κ56 x5)
def f_X3_change_G (E : EE) (κ : K) (f0 : Nat) (i0 : Nat) (c0 : Nat) (a1 : Int32) (a2 : Int32) (a3 : Int32) (a4 : Nat) : Option (K × Unit) := nm ((kV κ f0 i0 c0 3) + 1) fun y1 => if a1 = 0 then gd (¬ (a2 < 0 ∨ 4 ≤ a2.toNatClampNeg)) (nm (setV κ f0 i0 (c0 + 1) a2.toNatClampNeg a3) fun κ4 => f_X3_change_G_b188 E f0 i0 c0 a4 κ4 y1) else if a1 = 1 then gd (¬ (a2 < 0 ∨ 4 ≤ a2.toNatClampNeg)) (gd (¬ (a3 < 0 ∨ 4 ≤ a3.toNatClampNeg)) (gd (¬ (a2 < 0 ∨ 4 ≤ a2.toNatClampNeg)) (nm (setV κ f0 i0 (c0 + 1) a2.toNatClampNeg ((((kV κ f0 i0 (c0 + 1)) a2.toNatClampNeg) + ((kV κ f0 i0 (c0 + 1)) a3.toNatClampNeg)) - (((kV κ f0 i0 (c0 + 1)) a2.toNatClampNeg) + ((kV κ f0 i0 (c0 + 1)) a3.toNatClampNeg)) / 10000 * 10000)) fun κ10 => f_X3_change_G_b188 E f0 i0 c0 a4 κ10 y1))) else if a1 = 2 then bd (f_X3_clear E κ f0 i0 c0 a3) fun κ12 _ => bd (f_X1_giveBack E κ12 a4 a3) fun κ15 _ => f_X3_change_G_b188 E f0 i0 c0 a4 κ15 y1 else if a1 = 3 then bd (f_X3_clear E κ f0 i0 c0 a3) fun κ19 _ => bd (f_X1_giveBack E κ19 a4 a3) fun κ22 _ => f_X3_change_G_b188 E f0 i0 c0 a4 κ22 y1 else if a1 = 4 then gd (¬ (a2 < 0 ∨ 4 ≤ a2.toNatClampNeg)) (if (kV κ f0 i0 (c0 + 1)) a2.toNatClampNeg = 0 then f_X3_change_G_b123 E f0 i0 c0 a4 κ y1 else f_X3_change_G_b123 E f0 i0 c0 a4 κ a3) else if a1 = 5 then gd (¬ (a2 < 0 ∨ 8 ≤ a2.toNatClampNeg)) (nm (setV κ f0 i0 (c0 + 2) a2.toNatClampNeg a3) fun κ30 => f_X3_change_G_b188 E f0 i0 c0 a4 κ30 y1) else if a1 = 6 then bd (f_X3_clear E κ f0 i0 c0 a3) fun κ32 _ => bd (f_X1_giveBack E κ32 a4 a3) fun κ35 _ => f_X3_change_G_b188 E f0 i0 c0 a4 κ35 y1 else if a1 = 7 then bd (f_X3_clear E κ f0 i0 c0 a3) fun κ39 _ => bd (f_X1_giveBack E κ39 a4 a3) fun κ42 _ => f_X3_change_G_b188 E f0 i0 c0 a4 κ42 y1 else if a1 = 8 then bd (f_X3_clear E κ f0 i0 c0 a3) fun κ46 _ => bd (f_X1_giveBack E κ46 a4 a3) fun κ49 _ => f_X3_change_G_b188 E f0 i0 c0 a4 κ49 y1 else if a1 = 9 then nm (setV κ f0 i0 c0 4 a3) fun κ53 => f_X3_change_G_b188 E f0 i0 c0 a4 κ53 y1 else if a1 = 10 then if a3 = 1 then f_X3_change_G_b157 E f0 i0 c0 a4 κ y1 1 else f_X3_change_G_b157 E f0 i0 c0 a4 κ y1 0 else if a1 = 11 then nm (kV κ f0 i0 c0 5) fun y59 => nm (setV κ f0 i0 c0 7 0) fun κ60 => f_X3_change_G_b188 E f0 i0 c0 a4 κ60 y59 else bd (f_X3_clear E κ f0 i0 c0 a3) fun κ61 _ => bd (f_X1_giveBack E κ61 a4 a3) fun κ64 _ => f_X3_change_G_b188 E f0 i0 c0 a4 κ64 y1
set_option maxHeartbeats 4000000 in
set_option maxRecDepth 100000 in
theorem w_X3_change_G_b188 {l0 : Launch} (hfl : l0.stackTraces = false) {X : MX} {B : BX (EE × K)} {g : GP} {E : EE} {κ' : K} {rr : Unit} {f0 : Nat} {i0 : Nat} {c0 : Nat} {a4 : Nat} (O : CK l0 X B g cX3_change RX3 4 62) (hKP : KPok B E) (hmL : B.2.2.2.1 = 6) (hE : ∀ (pc : Nat) (lv : List (Nat × AV)), decode cX3_change pc = .ok (.return_, 1) → J X B (E, κ') pc lv []) (h0 : PC 4 E f0 i0 c0) (h4 : PC 2 E 0 a4 0) : ∀ (κ : K) (x5 : Int32), f_X3_change_G_b188 E f0 i0 c0 a4 κ x5 = some (κ', rr) → J X B (E, κ) 188 [(0, .inr (some (f0, i0, c0))), (5, .inl (.int x5))] [] := by
  intro κ x5 h
  unfold f_X3_change_G_b188 at h
  refine J_aload_n O.mo dX3_change_188 0 rfl ?_
  refine J_iload O.mo dX3_change_189 1 rfl ?_
  refine J_putI O.co (kd0 := 4) (k4_0 h0) (l4_0 h0) (C := RX3) (T := TX3) (N := 9) rfl (by decide) rfl in_X3 tyX3 tyX3_ok nmX3 3 (by decide) rfl rfl (x := x5) (Or.inl rfl) mw126 dX3_change_191 ?_
  refine nm_some (P := fun z => J X B (E, z) 194 [(0, .inr (some (f0, i0, c0))), (5, .inl (.int x5))] []) h (fun κ5 h => ?_)
  cases h
  exact hE _ _ dX3_change_194
set_option maxHeartbeats 4000000 in
set_option maxRecDepth 100000 in
theorem w_X3_change_G_b123 {l0 : Launch} (hfl : l0.stackTraces = false) {X : MX} {B : BX (EE × K)} {g : GP} {E : EE} {κ' : K} {rr : Unit} {f0 : Nat} {i0 : Nat} {c0 : Nat} {a4 : Nat} (O : CK l0 X B g cX3_change RX3 4 62) (hKP : KPok B E) (hmL : B.2.2.2.1 = 6) (hE : ∀ (pc : Nat) (lv : List (Nat × AV)), decode cX3_change pc = .ok (.return_, 1) → J X B (E, κ') pc lv []) (h0 : PC 4 E f0 i0 c0) (h4 : PC 2 E 0 a4 0) : ∀ (κ : K) (xs0 : Int32), f_X3_change_G_b123 E f0 i0 c0 a4 κ xs0 = some (κ', rr) → J X B (E, κ) 123 [(0, .inr (some (f0, i0, c0)))] [.inl (.int xs0)] := by
  intro κ xs0 h
  unfold f_X3_change_G_b123 at h
  refine J_istore O.mo (lv' := [(0, .inr (some (f0, i0, c0)))]) dX3_change_123 (by rw [hmL]; decide) rfl rfl ?_
  refine J_goto O.mo (tgt := 188) dX3_change_125 (by decide) ?_
  refine J_sub [1, 0] rfl ?_
  exact w_X3_change_G_b188 hfl O hKP hmL hE h0 h4 _ _ h
set_option maxHeartbeats 4000000 in
set_option maxRecDepth 100000 in
theorem w_X3_change_G_b157 {l0 : Launch} (hfl : l0.stackTraces = false) {X : MX} {B : BX (EE × K)} {g : GP} {E : EE} {κ' : K} {rr : Unit} {f0 : Nat} {i0 : Nat} {c0 : Nat} {a4 : Nat} (O : CK l0 X B g cX3_change RX3 4 62) (hKP : KPok B E) (hmL : B.2.2.2.1 = 6) (hE : ∀ (pc : Nat) (lv : List (Nat × AV)), decode cX3_change pc = .ok (.return_, 1) → J X B (E, κ') pc lv []) (h0 : PC 4 E f0 i0 c0) (h4 : PC 2 E 0 a4 0) : ∀ (κ : K) (x5 : Int32) (xs0 : Int32), f_X3_change_G_b157 E f0 i0 c0 a4 κ x5 xs0 = some (κ', rr) → J X B (E, κ) 157 [(0, .inr (some (f0, i0, c0))), (5, .inl (.int x5))] [.inl (.int xs0), .inr (some (f0, i0, c0))] := by
  intro κ x5 xs0 h
  unfold f_X3_change_G_b157 at h
  obtain ⟨hg57, h⟩ := gd_some h
  refine J_putI O.co (kd0 := 4) (k4_0 h0) (l4_0 h0) (C := RX3) (T := TX3) (N := 9) rfl (by decide) rfl in_X3 tyX3 tyX3_ok nmX3 7 (by decide) rfl rfl (x := xs0) (Or.inr ⟨rfl, hg57⟩) mw147 dX3_change_157 ?_
  refine nm_some (P := fun z => J X B (E, z) 160 [(0, .inr (some (f0, i0, c0))), (5, .inl (.int x5))] []) h (fun κ56 h => ?_)
  refine J_goto O.mo (tgt := 188) dX3_change_160 (by decide) ?_
  exact w_X3_change_G_b188 hfl O hKP hmL hE h0 h4 _ _ h
set_option maxHeartbeats 4000000 in
set_option maxRecDepth 100000 in
theorem w_X3_change_G {l0 : Launch} (hfl : l0.stackTraces = false) {X : MX} {B : BX (EE × K)} {g : GP} {E : EE} {κ' : K} {rr : Unit} {f0 : Nat} {i0 : Nat} {c0 : Nat} {a4 : Nat} (O : CK l0 X B g cX3_change RX3 4 62) (hKP : KPok B E) (hmL : B.2.2.2.1 = 6) (hE : ∀ (pc : Nat) (lv : List (Nat × AV)), decode cX3_change pc = .ok (.return_, 1) → J X B (E, κ') pc lv []) (h0 : PC 4 E f0 i0 c0) (h4 : PC 2 E 0 a4 0) : ∀ (κ : K) (a1 : Int32) (a2 : Int32) (a3 : Int32), f_X3_change_G E κ f0 i0 c0 a1 a2 a3 a4 = some (κ', rr) → J X B (E, κ) 0 [(0, .inr (some (f0, i0, c0))), (1, .inl (.int a1)), (2, .inl (.int a2)), (3, .inl (.int a3)), (4, .inr (some (0, a4, 0)))] [] := by
  intro κ a1 a2 a3 h
  unfold f_X3_change_G at h
  refine J_aload_n O.mo dX3_change_0 0 rfl ?_
  refine J_getF O.co (kd0 := 4) (k4_0 h0) (l4_0 h0) (C := RX3) (T := TX3) (N := 9) rfl (by decide) rfl in_X3 3 (by decide) (v := .inl (.int (kV κ f0 i0 c0 3))) rfl mw126 rfl dX3_change_1 ?_
  refine J_iconst O.mo (v := 1) dX3_change_4 (by decide) ?_
  refine J_iadd O.mo dX3_change_5 ?_
  refine J_istore O.mo (lv' := [(0, .inr (some (f0, i0, c0))), (1, .inl (.int a1)), (2, .inl (.int a2)), (3, .inl (.int a3)), (4, .inr (some (0, a4, 0)))]) dX3_change_6 (by rw [hmL]; decide) rfl rfl ?_
  refine nm_some (P := fun z => J X B (E, κ) 8 [(5, .inl (.int z)), (0, .inr (some (f0, i0, c0))), (1, .inl (.int a1)), (2, .inl (.int a2)), (3, .inl (.int a3)), (4, .inr (some (0, a4, 0)))] []) h (fun y1 h => ?_)
  refine J_iload_n O.mo dX3_change_8 2 rfl ?_
  by_cases hc2 : a1 = 0
  · replace h := (if_pos hc2).symm.trans h
    refine J_tabIn O.mo (tgt := 72) 0 hc2 dX3_change_9 (by decide) (by decide) rfl (by decide) ?_
    refine J_aload_n O.mo dX3_change_72 1 rfl ?_
    refine J_getF O.co (kd0 := 4) (k4_0 h0) (l4_0 h0) (C := RX3) (T := TX3) (N := 9) rfl (by decide) rfl in_X3 0 (by decide) (v := .inr (some (f0, i0, c0 + 1))) rfl mw132 rfl dX3_change_73 ?_
    refine J_iload_n O.mo dX3_change_76 3 rfl ?_
    refine J_iload_n O.mo dX3_change_77 4 rfl ?_
    obtain ⟨hg3, h⟩ := gd_some h
    refine row_20 O (l4_1 h0) (k4_1 h0) (n4_1 h0) hg3 (x := a3) dX3_change_78 ?_
    refine nm_some (P := fun z => J X B (E, z) 79 [(5, .inl (.int y1)), (0, .inr (some (f0, i0, c0))), (1, .inl (.int a1)), (2, .inl (.int a2)), (3, .inl (.int a3)), (4, .inr (some (0, a4, 0)))] []) h (fun κ4 h => ?_)
    refine J_goto O.mo (tgt := 188) dX3_change_79 (by decide) ?_
    refine J_sub [1, 0] rfl ?_
    exact w_X3_change_G_b188 hfl O hKP hmL hE h0 h4 _ _ h
  · replace h := (if_neg hc2).symm.trans h
    by_cases hc6 : a1 = 1
    · replace h := (if_pos hc6).symm.trans h
      refine J_tabIn O.mo (tgt := 82) 1 hc6 dX3_change_9 (by decide) (by decide) rfl (by decide) ?_
      refine J_aload_n O.mo dX3_change_82 1 rfl ?_
      refine J_getF O.co (kd0 := 4) (k4_0 h0) (l4_0 h0) (C := RX3) (T := TX3) (N := 9) rfl (by decide) rfl in_X3 0 (by decide) (v := .inr (some (f0, i0, c0 + 1))) rfl mw132 rfl dX3_change_83 ?_
      refine J_iload_n O.mo dX3_change_86 3 rfl ?_
      refine J_aload_n O.mo dX3_change_87 1 rfl ?_
      refine J_getF O.co (kd0 := 4) (k4_0 h0) (l4_0 h0) (C := RX3) (T := TX3) (N := 9) rfl (by decide) rfl in_X3 0 (by decide) (v := .inr (some (f0, i0, c0 + 1))) rfl mw132 rfl dX3_change_88 ?_
      refine J_iload_n O.mo dX3_change_91 3 rfl ?_
      obtain ⟨hg7, h⟩ := gd_some h
      refine J_iald O.co (g := (kV κ f0 i0 (c0 + 1))) (ct_20n (l4_1 h0) (k4_1 h0) (n4_1 h0)) hg7 dX3_change_92 ?_
      refine J_aload_n O.mo dX3_change_93 1 rfl ?_
      refine J_getF O.co (kd0 := 4) (k4_0 h0) (l4_0 h0) (C := RX3) (T := TX3) (N := 9) rfl (by decide) rfl in_X3 0 (by decide) (v := .inr (some (f0, i0, c0 + 1))) rfl mw132 rfl dX3_change_94 ?_
      refine J_iload_n O.mo dX3_change_97 4 rfl ?_
      obtain ⟨hg8, h⟩ := gd_some h
      refine J_iald O.co (g := (kV κ f0 i0 (c0 + 1))) (ct_20n (l4_1 h0) (k4_1 h0) (n4_1 h0)) hg8 dX3_change_98 ?_
      refine J_iadd O.mo dX3_change_99 ?_
      refine J_sipush O.mo (v := 10000) dX3_change_100 (by decide) ?_
      refine J_irem O.mo dX3_change_103 (by decide) ?_
      obtain ⟨hg9, h⟩ := gd_some h
      refine row_20 O (l4_1 h0) (k4_1 h0) (n4_1 h0) hg9 (x := ((((kV κ f0 i0 (c0 + 1)) a2.toNatClampNeg) + ((kV κ f0 i0 (c0 + 1)) a3.toNatClampNeg)) - (((kV κ f0 i0 (c0 + 1)) a2.toNatClampNeg) + ((kV κ f0 i0 (c0 + 1)) a3.toNatClampNeg)) / 10000 * 10000)) dX3_change_104 ?_
      refine nm_some (P := fun z => J X B (E, z) 105 [(5, .inl (.int y1)), (0, .inr (some (f0, i0, c0))), (1, .inl (.int a1)), (2, .inl (.int a2)), (3, .inl (.int a3)), (4, .inr (some (0, a4, 0)))] []) h (fun κ10 h => ?_)
      refine J_goto O.mo (tgt := 188) dX3_change_105 (by decide) ?_
      refine J_sub [1, 0] rfl ?_
      exact w_X3_change_G_b188 hfl O hKP hmL hE h0 h4 _ _ h
    · replace h := (if_neg hc6).symm.trans h
      by_cases hc11 : a1 = 2
      · replace h := (if_pos hc11).symm.trans h
        refine J_tabIn O.mo (tgt := 177) 2 hc11 dX3_change_9 (by decide) (by decide) rfl (by decide) ?_
        refine J_aload_n O.mo dX3_change_177 1 rfl ?_
        refine J_iload_n O.mo dX3_change_178 4 rfl ?_
        refine J_sub [0, 1, 4, 5] rfl ?_
        obtain ⟨κ12, r14, hq13, h⟩ := bd_some h
        refine J_callV O hKP (as := [.inl (.int a3)]) (rest := []) (r := none) (c_X3_clear hfl h0 hq13) rfl (kd0 := 4) (k4_0 h0) (l4_0 h0) (T := TX3) (N := 9) rfl (by decide) mw192 mw193 mw194 mw137 mw195 pd_X3_clear rfl (by decide) rfl (Nat.le_of_ble_eq_true rfl) (sl_v (sl_p (s4_0 h0) (sl_v (sl_p (s2_0 h4) sl_0)))) st_0 dX3_change_179 ?_
        show J X B (E, κ12) 182 [(5, .inl (.int y1)), (0, .inr (some (f0, i0, c0))), (3, .inl (.int a3)), (4, .inr (some (0, a4, 0)))] []
        refine J_aload O.mo dX3_change_182 3 rfl ?_
        refine J_iload_n O.mo dX3_change_184 2 rfl ?_
        refine J_sub [0, 1] rfl ?_
        obtain ⟨κ15, r17, hq16, h⟩ := bd_some h
        refine J_callU O hKP (x := ⟨"GuestHall$Surroundings", "giveBack", "(I)V"⟩) (owner := "GuestHall$Surroundings") (n := 1) (as := [.inl (.int a3)]) (rest := []) (r := none) (c_X1_giveBack hfl h4 hq16) rfl (kd0 := 2) (k2_0 h4) (l2_0 h4) (T := TX1) (N := 19) rfl (by decide) mw197 mw198 mw200 mw199 mw74 mw201 mw196 ⟨by decide +kernel, by decide +kernel, by decide +kernel⟩ rfl (by decide) rfl (Nat.le_of_ble_eq_true rfl) (sl_v (sl_p (s4_0 h0) sl_0)) st_0 dX3_change_185 ?_
        show J X B (E, κ15) 188 [(5, .inl (.int y1)), (0, .inr (some (f0, i0, c0)))] []
        refine J_sub [1, 0] rfl ?_
        exact w_X3_change_G_b188 hfl O hKP hmL hE h0 h4 _ _ h
      · replace h := (if_neg hc11).symm.trans h
        by_cases hc18 : a1 = 3
        · replace h := (if_pos hc18).symm.trans h
          refine J_tabIn O.mo (tgt := 177) 3 hc18 dX3_change_9 (by decide) (by decide) rfl (by decide) ?_
          refine J_aload_n O.mo dX3_change_177 1 rfl ?_
          refine J_iload_n O.mo dX3_change_178 4 rfl ?_
          refine J_sub [0, 1, 4, 5] rfl ?_
          obtain ⟨κ19, r21, hq20, h⟩ := bd_some h
          refine J_callV O hKP (as := [.inl (.int a3)]) (rest := []) (r := none) (c_X3_clear hfl h0 hq20) rfl (kd0 := 4) (k4_0 h0) (l4_0 h0) (T := TX3) (N := 9) rfl (by decide) mw192 mw193 mw194 mw137 mw195 pd_X3_clear rfl (by decide) rfl (Nat.le_of_ble_eq_true rfl) (sl_v (sl_p (s4_0 h0) (sl_v (sl_p (s2_0 h4) sl_0)))) st_0 dX3_change_179 ?_
          show J X B (E, κ19) 182 [(5, .inl (.int y1)), (0, .inr (some (f0, i0, c0))), (3, .inl (.int a3)), (4, .inr (some (0, a4, 0)))] []
          refine J_aload O.mo dX3_change_182 3 rfl ?_
          refine J_iload_n O.mo dX3_change_184 2 rfl ?_
          refine J_sub [0, 1] rfl ?_
          obtain ⟨κ22, r24, hq23, h⟩ := bd_some h
          refine J_callU O hKP (x := ⟨"GuestHall$Surroundings", "giveBack", "(I)V"⟩) (owner := "GuestHall$Surroundings") (n := 1) (as := [.inl (.int a3)]) (rest := []) (r := none) (c_X1_giveBack hfl h4 hq23) rfl (kd0 := 2) (k2_0 h4) (l2_0 h4) (T := TX1) (N := 19) rfl (by decide) mw197 mw198 mw200 mw199 mw74 mw201 mw196 ⟨by decide +kernel, by decide +kernel, by decide +kernel⟩ rfl (by decide) rfl (Nat.le_of_ble_eq_true rfl) (sl_v (sl_p (s4_0 h0) sl_0)) st_0 dX3_change_185 ?_
          show J X B (E, κ22) 188 [(5, .inl (.int y1)), (0, .inr (some (f0, i0, c0)))] []
          refine J_sub [1, 0] rfl ?_
          exact w_X3_change_G_b188 hfl O hKP hmL hE h0 h4 _ _ h
        · replace h := (if_neg hc18).symm.trans h
          by_cases hc25 : a1 = 4
          · replace h := (if_pos hc25).symm.trans h
            refine J_tabIn O.mo (tgt := 108) 4 hc25 dX3_change_9 (by decide) (by decide) rfl (by decide) ?_
            refine J_aload_n O.mo dX3_change_108 1 rfl ?_
            refine J_getF O.co (kd0 := 4) (k4_0 h0) (l4_0 h0) (C := RX3) (T := TX3) (N := 9) rfl (by decide) rfl in_X3 0 (by decide) (v := .inr (some (f0, i0, c0 + 1))) rfl mw132 rfl dX3_change_109 ?_
            refine J_iload_n O.mo dX3_change_112 3 rfl ?_
            obtain ⟨hg26, h⟩ := gd_some h
            refine J_iald O.co (g := (kV κ f0 i0 (c0 + 1))) (ct_20n (l4_1 h0) (k4_1 h0) (n4_1 h0)) hg26 dX3_change_113 ?_
            refine J_if_eq O.mo (tgt := 121) dX3_change_114 (by decide) (fun hc27 => ?_) (fun hc27 => ?_)
            · replace h := (if_pos hc27).symm.trans h
              refine J_iload O.mo dX3_change_121 0 rfl ?_
              refine J_sub [1] rfl ?_
              exact w_X3_change_G_b123 hfl O hKP hmL hE h0 h4 _ _ h
            · replace h := (if_neg hc27).symm.trans h
              refine J_iload_n O.mo dX3_change_117 4 rfl ?_
              refine J_goto O.mo (tgt := 123) dX3_change_118 (by decide) ?_
              refine J_sub [1] rfl ?_
              exact w_X3_change_G_b123 hfl O hKP hmL hE h0 h4 _ _ h
          · replace h := (if_neg hc25).symm.trans h
            by_cases hc28 : a1 = 5
            · replace h := (if_pos hc28).symm.trans h
              refine J_tabIn O.mo (tgt := 128) 5 hc28 dX3_change_9 (by decide) (by decide) rfl (by decide) ?_
              refine J_aload_n O.mo dX3_change_128 1 rfl ?_
              refine J_getF O.co (kd0 := 4) (k4_0 h0) (l4_0 h0) (C := RX3) (T := TX3) (N := 9) rfl (by decide) rfl in_X3 1 (by decide) (v := .inr (some (f0, i0, c0 + 2))) rfl mw133 rfl dX3_change_129 ?_
              refine J_iload_n O.mo dX3_change_132 3 rfl ?_
              refine J_iload_n O.mo dX3_change_133 4 rfl ?_
              obtain ⟨hg29, h⟩ := gd_some h
              refine row_20 O (l4_2 h0) (k4_2 h0) (n4_2 h0) hg29 (x := a3) dX3_change_134 ?_
              refine nm_some (P := fun z => J X B (E, z) 135 [(5, .inl (.int y1)), (0, .inr (some (f0, i0, c0))), (1, .inl (.int a1)), (2, .inl (.int a2)), (3, .inl (.int a3)), (4, .inr (some (0, a4, 0)))] []) h (fun κ30 h => ?_)
              refine J_goto O.mo (tgt := 188) dX3_change_135 (by decide) ?_
              refine J_sub [1, 0] rfl ?_
              exact w_X3_change_G_b188 hfl O hKP hmL hE h0 h4 _ _ h
            · replace h := (if_neg hc28).symm.trans h
              by_cases hc31 : a1 = 6
              · replace h := (if_pos hc31).symm.trans h
                refine J_tabIn O.mo (tgt := 177) 6 hc31 dX3_change_9 (by decide) (by decide) rfl (by decide) ?_
                refine J_aload_n O.mo dX3_change_177 1 rfl ?_
                refine J_iload_n O.mo dX3_change_178 4 rfl ?_
                refine J_sub [0, 1, 4, 5] rfl ?_
                obtain ⟨κ32, r34, hq33, h⟩ := bd_some h
                refine J_callV O hKP (as := [.inl (.int a3)]) (rest := []) (r := none) (c_X3_clear hfl h0 hq33) rfl (kd0 := 4) (k4_0 h0) (l4_0 h0) (T := TX3) (N := 9) rfl (by decide) mw192 mw193 mw194 mw137 mw195 pd_X3_clear rfl (by decide) rfl (Nat.le_of_ble_eq_true rfl) (sl_v (sl_p (s4_0 h0) (sl_v (sl_p (s2_0 h4) sl_0)))) st_0 dX3_change_179 ?_
                show J X B (E, κ32) 182 [(5, .inl (.int y1)), (0, .inr (some (f0, i0, c0))), (3, .inl (.int a3)), (4, .inr (some (0, a4, 0)))] []
                refine J_aload O.mo dX3_change_182 3 rfl ?_
                refine J_iload_n O.mo dX3_change_184 2 rfl ?_
                refine J_sub [0, 1] rfl ?_
                obtain ⟨κ35, r37, hq36, h⟩ := bd_some h
                refine J_callU O hKP (x := ⟨"GuestHall$Surroundings", "giveBack", "(I)V"⟩) (owner := "GuestHall$Surroundings") (n := 1) (as := [.inl (.int a3)]) (rest := []) (r := none) (c_X1_giveBack hfl h4 hq36) rfl (kd0 := 2) (k2_0 h4) (l2_0 h4) (T := TX1) (N := 19) rfl (by decide) mw197 mw198 mw200 mw199 mw74 mw201 mw196 ⟨by decide +kernel, by decide +kernel, by decide +kernel⟩ rfl (by decide) rfl (Nat.le_of_ble_eq_true rfl) (sl_v (sl_p (s4_0 h0) sl_0)) st_0 dX3_change_185 ?_
                show J X B (E, κ35) 188 [(5, .inl (.int y1)), (0, .inr (some (f0, i0, c0)))] []
                refine J_sub [1, 0] rfl ?_
                exact w_X3_change_G_b188 hfl O hKP hmL hE h0 h4 _ _ h
              · replace h := (if_neg hc31).symm.trans h
                by_cases hc38 : a1 = 7
                · replace h := (if_pos hc38).symm.trans h
                  refine J_tabIn O.mo (tgt := 177) 7 hc38 dX3_change_9 (by decide) (by decide) rfl (by decide) ?_
                  refine J_aload_n O.mo dX3_change_177 1 rfl ?_
                  refine J_iload_n O.mo dX3_change_178 4 rfl ?_
                  refine J_sub [0, 1, 4, 5] rfl ?_
                  obtain ⟨κ39, r41, hq40, h⟩ := bd_some h
                  refine J_callV O hKP (as := [.inl (.int a3)]) (rest := []) (r := none) (c_X3_clear hfl h0 hq40) rfl (kd0 := 4) (k4_0 h0) (l4_0 h0) (T := TX3) (N := 9) rfl (by decide) mw192 mw193 mw194 mw137 mw195 pd_X3_clear rfl (by decide) rfl (Nat.le_of_ble_eq_true rfl) (sl_v (sl_p (s4_0 h0) (sl_v (sl_p (s2_0 h4) sl_0)))) st_0 dX3_change_179 ?_
                  show J X B (E, κ39) 182 [(5, .inl (.int y1)), (0, .inr (some (f0, i0, c0))), (3, .inl (.int a3)), (4, .inr (some (0, a4, 0)))] []
                  refine J_aload O.mo dX3_change_182 3 rfl ?_
                  refine J_iload_n O.mo dX3_change_184 2 rfl ?_
                  refine J_sub [0, 1] rfl ?_
                  obtain ⟨κ42, r44, hq43, h⟩ := bd_some h
                  refine J_callU O hKP (x := ⟨"GuestHall$Surroundings", "giveBack", "(I)V"⟩) (owner := "GuestHall$Surroundings") (n := 1) (as := [.inl (.int a3)]) (rest := []) (r := none) (c_X1_giveBack hfl h4 hq43) rfl (kd0 := 2) (k2_0 h4) (l2_0 h4) (T := TX1) (N := 19) rfl (by decide) mw197 mw198 mw200 mw199 mw74 mw201 mw196 ⟨by decide +kernel, by decide +kernel, by decide +kernel⟩ rfl (by decide) rfl (Nat.le_of_ble_eq_true rfl) (sl_v (sl_p (s4_0 h0) sl_0)) st_0 dX3_change_185 ?_
                  show J X B (E, κ42) 188 [(5, .inl (.int y1)), (0, .inr (some (f0, i0, c0)))] []
                  refine J_sub [1, 0] rfl ?_
                  exact w_X3_change_G_b188 hfl O hKP hmL hE h0 h4 _ _ h
                · replace h := (if_neg hc38).symm.trans h
                  by_cases hc45 : a1 = 8
                  · replace h := (if_pos hc45).symm.trans h
                    refine J_tabIn O.mo (tgt := 177) 8 hc45 dX3_change_9 (by decide) (by decide) rfl (by decide) ?_
                    refine J_aload_n O.mo dX3_change_177 1 rfl ?_
                    refine J_iload_n O.mo dX3_change_178 4 rfl ?_
                    refine J_sub [0, 1, 4, 5] rfl ?_
                    obtain ⟨κ46, r48, hq47, h⟩ := bd_some h
                    refine J_callV O hKP (as := [.inl (.int a3)]) (rest := []) (r := none) (c_X3_clear hfl h0 hq47) rfl (kd0 := 4) (k4_0 h0) (l4_0 h0) (T := TX3) (N := 9) rfl (by decide) mw192 mw193 mw194 mw137 mw195 pd_X3_clear rfl (by decide) rfl (Nat.le_of_ble_eq_true rfl) (sl_v (sl_p (s4_0 h0) (sl_v (sl_p (s2_0 h4) sl_0)))) st_0 dX3_change_179 ?_
                    show J X B (E, κ46) 182 [(5, .inl (.int y1)), (0, .inr (some (f0, i0, c0))), (3, .inl (.int a3)), (4, .inr (some (0, a4, 0)))] []
                    refine J_aload O.mo dX3_change_182 3 rfl ?_
                    refine J_iload_n O.mo dX3_change_184 2 rfl ?_
                    refine J_sub [0, 1] rfl ?_
                    obtain ⟨κ49, r51, hq50, h⟩ := bd_some h
                    refine J_callU O hKP (x := ⟨"GuestHall$Surroundings", "giveBack", "(I)V"⟩) (owner := "GuestHall$Surroundings") (n := 1) (as := [.inl (.int a3)]) (rest := []) (r := none) (c_X1_giveBack hfl h4 hq50) rfl (kd0 := 2) (k2_0 h4) (l2_0 h4) (T := TX1) (N := 19) rfl (by decide) mw197 mw198 mw200 mw199 mw74 mw201 mw196 ⟨by decide +kernel, by decide +kernel, by decide +kernel⟩ rfl (by decide) rfl (Nat.le_of_ble_eq_true rfl) (sl_v (sl_p (s4_0 h0) sl_0)) st_0 dX3_change_185 ?_
                    show J X B (E, κ49) 188 [(5, .inl (.int y1)), (0, .inr (some (f0, i0, c0)))] []
                    refine J_sub [1, 0] rfl ?_
                    exact w_X3_change_G_b188 hfl O hKP hmL hE h0 h4 _ _ h
                  · replace h := (if_neg hc45).symm.trans h
                    by_cases hc52 : a1 = 9
                    · replace h := (if_pos hc52).symm.trans h
                      refine J_tabIn O.mo (tgt := 138) 9 hc52 dX3_change_9 (by decide) (by decide) rfl (by decide) ?_
                      refine J_aload_n O.mo dX3_change_138 1 rfl ?_
                      refine J_iload_n O.mo dX3_change_139 4 rfl ?_
                      refine J_putI O.co (kd0 := 4) (k4_0 h0) (l4_0 h0) (C := RX3) (T := TX3) (N := 9) rfl (by decide) rfl in_X3 tyX3 tyX3_ok nmX3 4 (by decide) rfl rfl (x := a3) (Or.inl rfl) mw146 dX3_change_140 ?_
                      refine nm_some (P := fun z => J X B (E, z) 143 [(5, .inl (.int y1)), (0, .inr (some (f0, i0, c0))), (1, .inl (.int a1)), (2, .inl (.int a2)), (3, .inl (.int a3)), (4, .inr (some (0, a4, 0)))] []) h (fun κ53 h => ?_)
                      refine J_goto O.mo (tgt := 188) dX3_change_143 (by decide) ?_
                      refine J_sub [1, 0] rfl ?_
                      exact w_X3_change_G_b188 hfl O hKP hmL hE h0 h4 _ _ h
                    · replace h := (if_neg hc52).symm.trans h
                      by_cases hc54 : a1 = 10
                      · replace h := (if_pos hc54).symm.trans h
                        refine J_tabIn O.mo (tgt := 146) 10 hc54 dX3_change_9 (by decide) (by decide) rfl (by decide) ?_
                        refine J_aload_n O.mo dX3_change_146 1 rfl ?_
                        refine J_iload_n O.mo dX3_change_147 4 rfl ?_
                        refine J_iconst O.mo (v := 1) dX3_change_148 (by decide) ?_
                        refine J_icmp_ne O.mo (tgt := 156) dX3_change_149 (by decide) (fun hc55 => ?_) (fun hc55 => ?_)
                        · replace h := (if_neg hc55).symm.trans h
                          refine J_iconst O.mo (v := 0) dX3_change_156 (by decide) ?_
                          refine J_sub [1, 0] rfl ?_
                          exact w_X3_change_G_b157 hfl O hKP hmL hE h0 h4 _ _ _ h
                        · replace h := (if_pos hc55).symm.trans h
                          refine J_iconst O.mo (v := 1) dX3_change_152 (by decide) ?_
                          refine J_goto O.mo (tgt := 157) dX3_change_153 (by decide) ?_
                          refine J_sub [1, 0] rfl ?_
                          exact w_X3_change_G_b157 hfl O hKP hmL hE h0 h4 _ _ _ h
                      · replace h := (if_neg hc54).symm.trans h
                        by_cases hc58 : a1 = 11
                        · replace h := (if_pos hc58).symm.trans h
                          refine J_tabIn O.mo (tgt := 163) 11 hc58 dX3_change_9 (by decide) (by decide) rfl (by decide) ?_
                          refine J_aload_n O.mo dX3_change_163 1 rfl ?_
                          refine J_getF O.co (kd0 := 4) (k4_0 h0) (l4_0 h0) (C := RX3) (T := TX3) (N := 9) rfl (by decide) rfl in_X3 5 (by decide) (v := .inl (.int (kV κ f0 i0 c0 5))) rfl mw148 rfl dX3_change_164 ?_
                          refine J_istore O.mo (lv' := [(0, .inr (some (f0, i0, c0))), (1, .inl (.int a1)), (2, .inl (.int a2)), (3, .inl (.int a3)), (4, .inr (some (0, a4, 0)))]) dX3_change_167 (by rw [hmL]; decide) rfl rfl ?_
                          refine nm_some (P := fun z => J X B (E, κ) 169 [(5, .inl (.int z)), (0, .inr (some (f0, i0, c0))), (1, .inl (.int a1)), (2, .inl (.int a2)), (3, .inl (.int a3)), (4, .inr (some (0, a4, 0)))] []) h (fun y59 h => ?_)
                          refine J_aload_n O.mo dX3_change_169 1 rfl ?_
                          refine J_iconst O.mo (v := 0) dX3_change_170 (by decide) ?_
                          refine J_putI O.co (kd0 := 4) (k4_0 h0) (l4_0 h0) (C := RX3) (T := TX3) (N := 9) rfl (by decide) rfl in_X3 tyX3 tyX3_ok nmX3 7 (by decide) rfl rfl (x := 0) (Or.inr ⟨rfl, Or.inl rfl⟩) mw147 dX3_change_171 ?_
                          refine nm_some (P := fun z => J X B (E, z) 174 [(5, .inl (.int y59)), (0, .inr (some (f0, i0, c0))), (1, .inl (.int a1)), (2, .inl (.int a2)), (3, .inl (.int a3)), (4, .inr (some (0, a4, 0)))] []) h (fun κ60 h => ?_)
                          refine J_goto O.mo (tgt := 188) dX3_change_174 (by decide) ?_
                          refine J_sub [1, 0] rfl ?_
                          exact w_X3_change_G_b188 hfl O hKP hmL hE h0 h4 _ _ h
                        · replace h := (if_neg hc58).symm.trans h
                          refine J_tabOut O.mo (tgt := 177) 12 (by decide) (by decide) (tb_s (tb_s (tb_s (tb_s (tb_s (tb_s (tb_s (tb_s (tb_s (tb_s (tb_s (tb_s tb_0 (fun z => hc2 (z.trans (by decide)))) (fun z => hc6 (z.trans (by decide)))) (fun z => hc11 (z.trans (by decide)))) (fun z => hc18 (z.trans (by decide)))) (fun z => hc25 (z.trans (by decide)))) (fun z => hc28 (z.trans (by decide)))) (fun z => hc31 (z.trans (by decide)))) (fun z => hc38 (z.trans (by decide)))) (fun z => hc45 (z.trans (by decide)))) (fun z => hc52 (z.trans (by decide)))) (fun z => hc54 (z.trans (by decide)))) (fun z => hc58 (z.trans (by decide)))) dX3_change_9 (by decide) ?_
                          refine J_aload_n O.mo dX3_change_177 1 rfl ?_
                          refine J_iload_n O.mo dX3_change_178 4 rfl ?_
                          refine J_sub [0, 1, 4, 5] rfl ?_
                          obtain ⟨κ61, r63, hq62, h⟩ := bd_some h
                          refine J_callV O hKP (as := [.inl (.int a3)]) (rest := []) (r := none) (c_X3_clear hfl h0 hq62) rfl (kd0 := 4) (k4_0 h0) (l4_0 h0) (T := TX3) (N := 9) rfl (by decide) mw192 mw193 mw194 mw137 mw195 pd_X3_clear rfl (by decide) rfl (Nat.le_of_ble_eq_true rfl) (sl_v (sl_p (s4_0 h0) (sl_v (sl_p (s2_0 h4) sl_0)))) st_0 dX3_change_179 ?_
                          show J X B (E, κ61) 182 [(5, .inl (.int y1)), (0, .inr (some (f0, i0, c0))), (3, .inl (.int a3)), (4, .inr (some (0, a4, 0)))] []
                          refine J_aload O.mo dX3_change_182 3 rfl ?_
                          refine J_iload_n O.mo dX3_change_184 2 rfl ?_
                          refine J_sub [0, 1] rfl ?_
                          obtain ⟨κ64, r66, hq65, h⟩ := bd_some h
                          refine J_callU O hKP (x := ⟨"GuestHall$Surroundings", "giveBack", "(I)V"⟩) (owner := "GuestHall$Surroundings") (n := 1) (as := [.inl (.int a3)]) (rest := []) (r := none) (c_X1_giveBack hfl h4 hq65) rfl (kd0 := 2) (k2_0 h4) (l2_0 h4) (T := TX1) (N := 19) rfl (by decide) mw197 mw198 mw200 mw199 mw74 mw201 mw196 ⟨by decide +kernel, by decide +kernel, by decide +kernel⟩ rfl (by decide) rfl (Nat.le_of_ble_eq_true rfl) (sl_v (sl_p (s4_0 h0) sl_0)) st_0 dX3_change_185 ?_
                          show J X B (E, κ64) 188 [(5, .inl (.int y1)), (0, .inr (some (f0, i0, c0)))] []
                          refine J_sub [1, 0] rfl ?_
                          exact w_X3_change_G_b188 hfl O hKP hmL hE h0 h4 _ _ h
theorem c_X3_change_G {l : Launch} (hfl : l.stackTraces = false) {E : EE} {κ κ' : K} {f0 : Nat} {i0 : Nat} {c0 : Nat} {a1 : Int32} {a2 : Int32} {a3 : Int32} {a4 : Nat} (h0 : PC 4 E f0 i0 c0) (h4 : PC 2 E 0 a4 0) {rr : Unit} (h : f_X3_change_G E κ f0 i0 c0 a1 a2 a3 a4 = some (κ', rr)) : Con l yX3_change cX3_change 6 none 4 62 [.inr (some (f0, i0, c0)), .inl (.int a1), .inl (.int a2), .inl (.int a3), .inr (some (0, a4, 0))] (E, κ) (E, κ') none := by
  exact Con_of hfl (by decide +kernel) (Nat.le_of_ble_eq_true rfl) rfl rfl (fun X B g O hKP hmL hE => w_X3_change_G hfl O hKP hmL hE h0 h4 _ _ _ _ h)
def f_X3_doNext_G_b18 (E : EE) (f0 : Nat) (i0 : Nat) (c0 : Nat) (a1 : Nat) (a2 : Nat) (κ : K) : Option (K × Unit) := nm (setV κ f0 i0 c0 8 2) fun κ2 => some (κ2, ())
def f_X3_doNext_G_b80 (E : EE) (f0 : Nat) (i0 : Nat) (c0 : Nat) (a1 : Nat) (a2 : Nat) (κ : K) (x3 : Int32) (x4 : Int32) (xs0 : Int32) : Option (K × Unit) := gd (¬ (x4 < 0 ∨ 4 ≤ x4.toNatClampNeg)) (bd (f_X3_wordAt E κ f0 i0 c0 ((kV κ f0 i0 (c0 + 1)) x4.toNatClampNeg)) fun κ13 r15 => bd (f_X3_access_G E κ13 f0 i0 c0 xs0 x3 r15 a2) fun κ16 _ => some (κ16, ()))
def f_X3_doNext_G_b68 (E : EE) (f0 : Nat) (i0 : Nat) (c0 : Nat) (a1 : Nat) (a2 : Nat) (κ : K) (x3 : Int32) (x4 : Int32) (x5 : Int32) : Option (K × Unit) := if x5 = 3 then f_X3_doNext_G_b80 E f0 i0 c0 a1 a2 κ x3 x4 1 else f_X3_doNext_G_b80 E f0 i0 c0 a1 a2 κ x3 x4 0
def f_X3_doNext_G_b126 (E : EE) (f0 : Nat) (i0 : Nat) (c0 : Nat) (a1 : Nat) (a2 : Nat) (κ : K) (x3 : Int32) (x4 : Int32) (xs0 : Int32) : Option (K × Unit) := bd (f_X3_tellOrTake_G E κ f0 i0 c0 xs0 x3 x4 a2) fun κ22 _ => some (κ22, ())
def f_X3_doNext_G_b113 (E : EE) (f0 : Nat) (i0 : Nat) (c0 : Nat) (a1 : Nat) (a2 : Nat) (κ : K) (x3 : Int32) (x4 : Int32) (x5 : Int32) : Option (K × Unit) := if x5 = 6 then f_X3_doNext_G_b126 E f0 i0 c0 a1 a2 κ x3 x4 1 else f_X3_doNext_G_b126 E f0 i0 c0 a1 a2 κ x3 x4 0
def f_X3_doNext_G_b163 (E : EE) (f0 : Nat) (i0 : Nat) (c0 : Nat) (a1 : Nat) (a2 : Nat) (κ : K) (xs0 : Int32) : Option (K × Unit) := bd (f_X3_rest_G E κ f0 i0 c0 xs0 a2) fun κ28 _ => some (κ28, ())
def f_X3_doNext_G_b150 (E : EE) (f0 : Nat) (i0 : Nat) (c0 : Nat) (a1 : Nat) (a2 : Nat) (κ : K) (x5 : Int32) : Option (K × Unit) := if x5 = 13 then f_X3_doNext_G_b163 E f0 i0 c0 a1 a2 κ 1 else f_X3_doNext_G_b163 E f0 i0 c0 a1 a2 κ 0
def f_X3_doNext_G (E : EE) (κ : K) (f0 : Nat) (i0 : Nat) (c0 : Nat) (a1 : Nat) (a2 : Nat) : Option (K × Unit) := if kV κ f0 i0 c0 3 < 0 then f_X3_doNext_G_b18 E f0 i0 c0 a1 a2 κ else if kV κ f0 i0 c0 3 < kV κ 0 a1 1 3 then gd (¬ ((kV κ f0 i0 c0 3) < 0 ∨ 24 ≤ (kV κ f0 i0 c0 3).toNatClampNeg)) (nm ((kV κ 0 a1 3) (kV κ f0 i0 c0 3).toNatClampNeg) fun y5 => gd (¬ ((kV κ f0 i0 c0 3) < 0 ∨ 24 ≤ (kV κ f0 i0 c0 3).toNatClampNeg)) (nm ((kV κ 0 a1 4) (kV κ f0 i0 c0 3).toNatClampNeg) fun y7 => gd (¬ ((kV κ f0 i0 c0 3) < 0 ∨ 24 ≤ (kV κ f0 i0 c0 3).toNatClampNeg)) (nm ((kV κ 0 a1 2) (kV κ f0 i0 c0 3).toNatClampNeg) fun y9 => if y9 = 2 then f_X3_doNext_G_b68 E f0 i0 c0 a1 a2 κ y5 y7 y9 else if y9 = 3 then f_X3_doNext_G_b68 E f0 i0 c0 a1 a2 κ y5 y7 y9 else if y9 = 6 then f_X3_doNext_G_b113 E f0 i0 c0 a1 a2 κ y5 y7 y9 else if y9 = 7 then f_X3_doNext_G_b113 E f0 i0 c0 a1 a2 κ y5 y7 y9 else if y9 = 8 then f_X3_doNext_G_b150 E f0 i0 c0 a1 a2 κ y9 else if y9 = 13 then f_X3_doNext_G_b150 E f0 i0 c0 a1 a2 κ y9 else bd (f_X3_change_G E κ f0 i0 c0 y9 y5 y7 a2) fun κ32 _ => some (κ32, ())))) else f_X3_doNext_G_b18 E f0 i0 c0 a1 a2 κ
set_option maxHeartbeats 4000000 in
set_option maxRecDepth 100000 in
theorem w_X3_doNext_G_b18 {l0 : Launch} (hfl : l0.stackTraces = false) {X : MX} {B : BX (EE × K)} {g : GP} {E : EE} {κ' : K} {rr : Unit} {f0 : Nat} {i0 : Nat} {c0 : Nat} {a1 : Nat} {a2 : Nat} (O : CK l0 X B g cX3_doNext RX3 6 189) (hKP : KPok B E) (hmL : B.2.2.2.1 = 6) (hE : ∀ (pc : Nat) (lv : List (Nat × AV)), decode cX3_doNext pc = .ok (.return_, 1) → J X B (E, κ') pc lv []) (h0 : PC 4 E f0 i0 c0) (h1 : PC 6 E 0 a1 1) (h2 : PC 2 E 0 a2 0) : ∀ (κ : K), f_X3_doNext_G_b18 E f0 i0 c0 a1 a2 κ = some (κ', rr) → J X B (E, κ) 18 [(0, .inr (some (f0, i0, c0)))] [] := by
  intro κ h
  unfold f_X3_doNext_G_b18 at h
  refine J_aload_n O.mo dX3_doNext_18 0 rfl ?_
  refine J_iconst O.mo (v := 2) dX3_doNext_19 (by decide) ?_
  refine J_putI O.co (kd0 := 4) (k4_0 h0) (l4_0 h0) (C := RX3) (T := TX3) (N := 9) rfl (by decide) rfl in_X3 tyX3 tyX3_ok nmX3 8 (by decide) rfl rfl (x := 2) (Or.inl rfl) mw127 dX3_doNext_20 ?_
  refine nm_some (P := fun z => J X B (E, z) 23 [(0, .inr (some (f0, i0, c0)))] []) h (fun κ2 h => ?_)
  cases h
  exact hE _ _ dX3_doNext_23
set_option maxHeartbeats 4000000 in
set_option maxRecDepth 100000 in
theorem w_X3_doNext_G_b80 {l0 : Launch} (hfl : l0.stackTraces = false) {X : MX} {B : BX (EE × K)} {g : GP} {E : EE} {κ' : K} {rr : Unit} {f0 : Nat} {i0 : Nat} {c0 : Nat} {a1 : Nat} {a2 : Nat} (O : CK l0 X B g cX3_doNext RX3 6 189) (hKP : KPok B E) (hmL : B.2.2.2.1 = 6) (hE : ∀ (pc : Nat) (lv : List (Nat × AV)), decode cX3_doNext pc = .ok (.return_, 1) → J X B (E, κ') pc lv []) (h0 : PC 4 E f0 i0 c0) (h1 : PC 6 E 0 a1 1) (h2 : PC 2 E 0 a2 0) : ∀ (κ : K) (x3 : Int32) (x4 : Int32) (xs0 : Int32), f_X3_doNext_G_b80 E f0 i0 c0 a1 a2 κ x3 x4 xs0 = some (κ', rr) → J X B (E, κ) 80 [(0, .inr (some (f0, i0, c0))), (2, .inr (some (0, a2, 0))), (3, .inl (.int x3)), (4, .inl (.int x4))] [.inl (.int xs0), .inr (some (f0, i0, c0))] := by
  intro κ x3 x4 xs0 h
  unfold f_X3_doNext_G_b80 at h
  refine J_iload_n O.mo dX3_doNext_80 2 rfl ?_
  refine J_aload_n O.mo dX3_doNext_81 0 rfl ?_
  refine J_aload_n O.mo dX3_doNext_82 0 rfl ?_
  refine J_getF O.co (kd0 := 4) (k4_0 h0) (l4_0 h0) (C := RX3) (T := TX3) (N := 9) rfl (by decide) rfl in_X3 0 (by decide) (v := .inr (some (f0, i0, c0 + 1))) rfl mw132 rfl dX3_doNext_83 ?_
  refine J_iload O.mo dX3_doNext_86 3 rfl ?_
  obtain ⟨hg12, h⟩ := gd_some h
  refine J_iald O.co (g := (kV κ f0 i0 (c0 + 1))) (ct_20n (l4_1 h0) (k4_1 h0) (n4_1 h0)) hg12 dX3_doNext_88 ?_
  refine J_sub [1] rfl ?_
  obtain ⟨κ13, r15, hq14, h⟩ := bd_some h
  refine J_callV O hKP (as := [.inl (.int ((kV κ f0 i0 (c0 + 1)) x4.toNatClampNeg))]) (rest := [.inl (.int x3), .inl (.int xs0), .inr (some (f0, i0, c0))]) (r := (some (.inl (.int r15)))) (c_X3_wordAt hfl h0 hq14) rfl (kd0 := 4) (k4_0 h0) (l4_0 h0) (T := TX3) (N := 9) rfl (by decide) mw134 mw135 mw136 mw137 mw138 pd_X3_wordAt rfl (by decide) rfl (Nat.le_of_ble_eq_true rfl) (sl_p (s2_0 h2) sl_0) (st_v (st_v (st_p (s4_0 h0) st_0))) dX3_doNext_89 ?_
  show J X B (E, κ13) 92 [(2, .inr (some (0, a2, 0)))] [.inl (.int r15), .inl (.int x3), .inl (.int xs0), .inr (some (f0, i0, c0))]
  refine J_aload_n O.mo dX3_doNext_92 0 rfl ?_
  refine J_sub [] rfl ?_
  obtain ⟨κ16, r18, hq17, h⟩ := bd_some h
  refine J_callV O hKP (as := [.inl (.int xs0), .inl (.int x3), .inl (.int r15), .inr (some (0, a2, 0))]) (rest := []) (r := none) (c_X3_access_G hfl h0 h2 hq17) rfl (kd0 := 4) (k4_0 h0) (l4_0 h0) (T := TX3) (N := 9) rfl (by decide) mw158 mw159 mw160 mw137 mw161 pd_X3_access rfl (by decide) rfl (Nat.le_of_ble_eq_true rfl) sl_0 st_0 dX3_doNext_93 ?_
  show J X B (E, κ16) 96 [] []
  refine J_goto O.mo (tgt := 180) dX3_doNext_96 (by decide) ?_
  cases h
  exact hE _ _ dX3_doNext_180
set_option maxHeartbeats 4000000 in
set_option maxRecDepth 100000 in
theorem w_X3_doNext_G_b68 {l0 : Launch} (hfl : l0.stackTraces = false) {X : MX} {B : BX (EE × K)} {g : GP} {E : EE} {κ' : K} {rr : Unit} {f0 : Nat} {i0 : Nat} {c0 : Nat} {a1 : Nat} {a2 : Nat} (O : CK l0 X B g cX3_doNext RX3 6 189) (hKP : KPok B E) (hmL : B.2.2.2.1 = 6) (hE : ∀ (pc : Nat) (lv : List (Nat × AV)), decode cX3_doNext pc = .ok (.return_, 1) → J X B (E, κ') pc lv []) (h0 : PC 4 E f0 i0 c0) (h1 : PC 6 E 0 a1 1) (h2 : PC 2 E 0 a2 0) : ∀ (κ : K) (x3 : Int32) (x4 : Int32) (x5 : Int32), f_X3_doNext_G_b68 E f0 i0 c0 a1 a2 κ x3 x4 x5 = some (κ', rr) → J X B (E, κ) 68 [(0, .inr (some (f0, i0, c0))), (2, .inr (some (0, a2, 0))), (3, .inl (.int x3)), (4, .inl (.int x4)), (5, .inl (.int x5))] [] := by
  intro κ x3 x4 x5 h
  unfold f_X3_doNext_G_b68 at h
  refine J_aload_n O.mo dX3_doNext_68 0 rfl ?_
  refine J_iload O.mo dX3_doNext_69 4 rfl ?_
  refine J_iconst O.mo (v := 3) dX3_doNext_71 (by decide) ?_
  refine J_icmp_ne O.mo (tgt := 79) dX3_doNext_72 (by decide) (fun hc11 => ?_) (fun hc11 => ?_)
  · replace h := (if_neg hc11).symm.trans h
    refine J_iconst O.mo (v := 0) dX3_doNext_79 (by decide) ?_
    refine J_sub [0, 1, 2, 3] rfl ?_
    exact w_X3_doNext_G_b80 hfl O hKP hmL hE h0 h1 h2 _ _ _ _ h
  · replace h := (if_pos hc11).symm.trans h
    refine J_iconst O.mo (v := 1) dX3_doNext_75 (by decide) ?_
    refine J_goto O.mo (tgt := 80) dX3_doNext_76 (by decide) ?_
    refine J_sub [0, 1, 2, 3] rfl ?_
    exact w_X3_doNext_G_b80 hfl O hKP hmL hE h0 h1 h2 _ _ _ _ h
set_option maxHeartbeats 4000000 in
set_option maxRecDepth 100000 in
theorem w_X3_doNext_G_b126 {l0 : Launch} (hfl : l0.stackTraces = false) {X : MX} {B : BX (EE × K)} {g : GP} {E : EE} {κ' : K} {rr : Unit} {f0 : Nat} {i0 : Nat} {c0 : Nat} {a1 : Nat} {a2 : Nat} (O : CK l0 X B g cX3_doNext RX3 6 189) (hKP : KPok B E) (hmL : B.2.2.2.1 = 6) (hE : ∀ (pc : Nat) (lv : List (Nat × AV)), decode cX3_doNext pc = .ok (.return_, 1) → J X B (E, κ') pc lv []) (h0 : PC 4 E f0 i0 c0) (h1 : PC 6 E 0 a1 1) (h2 : PC 2 E 0 a2 0) : ∀ (κ : K) (x3 : Int32) (x4 : Int32) (xs0 : Int32), f_X3_doNext_G_b126 E f0 i0 c0 a1 a2 κ x3 x4 xs0 = some (κ', rr) → J X B (E, κ) 126 [(2, .inr (some (0, a2, 0))), (3, .inl (.int x3)), (4, .inl (.int x4))] [.inl (.int xs0), .inr (some (f0, i0, c0))] := by
  intro κ x3 x4 xs0 h
  unfold f_X3_doNext_G_b126 at h
  refine J_iload_n O.mo dX3_doNext_126 1 rfl ?_
  refine J_iload O.mo dX3_doNext_127 2 rfl ?_
  refine J_aload_n O.mo dX3_doNext_129 0 rfl ?_
  refine J_sub [] rfl ?_
  obtain ⟨κ22, r24, hq23, h⟩ := bd_some h
  refine J_callV O hKP (as := [.inl (.int xs0), .inl (.int x3), .inl (.int x4), .inr (some (0, a2, 0))]) (rest := []) (r := none) (c_X3_tellOrTake_G hfl h0 h2 hq23) rfl (kd0 := 4) (k4_0 h0) (l4_0 h0) (T := TX3) (N := 9) rfl (by decide) mw178 mw179 mw180 mw137 mw181 pd_X3_tellOrTake rfl (by decide) rfl (Nat.le_of_ble_eq_true rfl) sl_0 st_0 dX3_doNext_130 ?_
  show J X B (E, κ22) 133 [] []
  refine J_goto O.mo (tgt := 180) dX3_doNext_133 (by decide) ?_
  cases h
  exact hE _ _ dX3_doNext_180
set_option maxHeartbeats 4000000 in
set_option maxRecDepth 100000 in
theorem w_X3_doNext_G_b113 {l0 : Launch} (hfl : l0.stackTraces = false) {X : MX} {B : BX (EE × K)} {g : GP} {E : EE} {κ' : K} {rr : Unit} {f0 : Nat} {i0 : Nat} {c0 : Nat} {a1 : Nat} {a2 : Nat} (O : CK l0 X B g cX3_doNext RX3 6 189) (hKP : KPok B E) (hmL : B.2.2.2.1 = 6) (hE : ∀ (pc : Nat) (lv : List (Nat × AV)), decode cX3_doNext pc = .ok (.return_, 1) → J X B (E, κ') pc lv []) (h0 : PC 4 E f0 i0 c0) (h1 : PC 6 E 0 a1 1) (h2 : PC 2 E 0 a2 0) : ∀ (κ : K) (x3 : Int32) (x4 : Int32) (x5 : Int32), f_X3_doNext_G_b113 E f0 i0 c0 a1 a2 κ x3 x4 x5 = some (κ', rr) → J X B (E, κ) 113 [(0, .inr (some (f0, i0, c0))), (2, .inr (some (0, a2, 0))), (3, .inl (.int x3)), (4, .inl (.int x4)), (5, .inl (.int x5))] [] := by
  intro κ x3 x4 x5 h
  unfold f_X3_doNext_G_b113 at h
  refine J_aload_n O.mo dX3_doNext_113 0 rfl ?_
  refine J_iload O.mo dX3_doNext_114 4 rfl ?_
  refine J_bipush O.mo (v := 6) dX3_doNext_116 (by decide) ?_
  refine J_icmp_ne O.mo (tgt := 125) dX3_doNext_118 (by decide) (fun hc21 => ?_) (fun hc21 => ?_)
  · replace h := (if_neg hc21).symm.trans h
    refine J_iconst O.mo (v := 0) dX3_doNext_125 (by decide) ?_
    refine J_sub [1, 2, 3] rfl ?_
    exact w_X3_doNext_G_b126 hfl O hKP hmL hE h0 h1 h2 _ _ _ _ h
  · replace h := (if_pos hc21).symm.trans h
    refine J_iconst O.mo (v := 1) dX3_doNext_121 (by decide) ?_
    refine J_goto O.mo (tgt := 126) dX3_doNext_122 (by decide) ?_
    refine J_sub [1, 2, 3] rfl ?_
    exact w_X3_doNext_G_b126 hfl O hKP hmL hE h0 h1 h2 _ _ _ _ h
set_option maxHeartbeats 4000000 in
set_option maxRecDepth 100000 in
theorem w_X3_doNext_G_b163 {l0 : Launch} (hfl : l0.stackTraces = false) {X : MX} {B : BX (EE × K)} {g : GP} {E : EE} {κ' : K} {rr : Unit} {f0 : Nat} {i0 : Nat} {c0 : Nat} {a1 : Nat} {a2 : Nat} (O : CK l0 X B g cX3_doNext RX3 6 189) (hKP : KPok B E) (hmL : B.2.2.2.1 = 6) (hE : ∀ (pc : Nat) (lv : List (Nat × AV)), decode cX3_doNext pc = .ok (.return_, 1) → J X B (E, κ') pc lv []) (h0 : PC 4 E f0 i0 c0) (h1 : PC 6 E 0 a1 1) (h2 : PC 2 E 0 a2 0) : ∀ (κ : K) (xs0 : Int32), f_X3_doNext_G_b163 E f0 i0 c0 a1 a2 κ xs0 = some (κ', rr) → J X B (E, κ) 163 [(2, .inr (some (0, a2, 0)))] [.inl (.int xs0), .inr (some (f0, i0, c0))] := by
  intro κ xs0 h
  unfold f_X3_doNext_G_b163 at h
  refine J_aload_n O.mo dX3_doNext_163 0 rfl ?_
  refine J_sub [] rfl ?_
  obtain ⟨κ28, r30, hq29, h⟩ := bd_some h
  refine J_callV O hKP (as := [.inl (.int xs0), .inr (some (0, a2, 0))]) (rest := []) (r := none) (c_X3_rest_G hfl h0 h2 hq29) rfl (kd0 := 4) (k4_0 h0) (l4_0 h0) (T := TX3) (N := 9) rfl (by decide) mw188 mw189 mw190 mw137 mw191 pd_X3_rest rfl (by decide) rfl (Nat.le_of_ble_eq_true rfl) sl_0 st_0 dX3_doNext_164 ?_
  show J X B (E, κ28) 167 [] []
  refine J_goto O.mo (tgt := 180) dX3_doNext_167 (by decide) ?_
  cases h
  exact hE _ _ dX3_doNext_180
set_option maxHeartbeats 4000000 in
set_option maxRecDepth 100000 in
theorem w_X3_doNext_G_b150 {l0 : Launch} (hfl : l0.stackTraces = false) {X : MX} {B : BX (EE × K)} {g : GP} {E : EE} {κ' : K} {rr : Unit} {f0 : Nat} {i0 : Nat} {c0 : Nat} {a1 : Nat} {a2 : Nat} (O : CK l0 X B g cX3_doNext RX3 6 189) (hKP : KPok B E) (hmL : B.2.2.2.1 = 6) (hE : ∀ (pc : Nat) (lv : List (Nat × AV)), decode cX3_doNext pc = .ok (.return_, 1) → J X B (E, κ') pc lv []) (h0 : PC 4 E f0 i0 c0) (h1 : PC 6 E 0 a1 1) (h2 : PC 2 E 0 a2 0) : ∀ (κ : K) (x5 : Int32), f_X3_doNext_G_b150 E f0 i0 c0 a1 a2 κ x5 = some (κ', rr) → J X B (E, κ) 150 [(0, .inr (some (f0, i0, c0))), (2, .inr (some (0, a2, 0))), (5, .inl (.int x5))] [] := by
  intro κ x5 h
  unfold f_X3_doNext_G_b150 at h
  refine J_aload_n O.mo dX3_doNext_150 0 rfl ?_
  refine J_iload O.mo dX3_doNext_151 2 rfl ?_
  refine J_bipush O.mo (v := 13) dX3_doNext_153 (by decide) ?_
  refine J_icmp_ne O.mo (tgt := 162) dX3_doNext_155 (by decide) (fun hc27 => ?_) (fun hc27 => ?_)
  · replace h := (if_neg hc27).symm.trans h
    refine J_iconst O.mo (v := 0) dX3_doNext_162 (by decide) ?_
    refine J_sub [1] rfl ?_
    exact w_X3_doNext_G_b163 hfl O hKP hmL hE h0 h1 h2 _ _ h
  · replace h := (if_pos hc27).symm.trans h
    refine J_iconst O.mo (v := 1) dX3_doNext_158 (by decide) ?_
    refine J_goto O.mo (tgt := 163) dX3_doNext_159 (by decide) ?_
    refine J_sub [1] rfl ?_
    exact w_X3_doNext_G_b163 hfl O hKP hmL hE h0 h1 h2 _ _ h
set_option maxHeartbeats 4000000 in
set_option maxRecDepth 100000 in
theorem w_X3_doNext_G {l0 : Launch} (hfl : l0.stackTraces = false) {X : MX} {B : BX (EE × K)} {g : GP} {E : EE} {κ' : K} {rr : Unit} {f0 : Nat} {i0 : Nat} {c0 : Nat} {a1 : Nat} {a2 : Nat} (O : CK l0 X B g cX3_doNext RX3 6 189) (hKP : KPok B E) (hmL : B.2.2.2.1 = 6) (hE : ∀ (pc : Nat) (lv : List (Nat × AV)), decode cX3_doNext pc = .ok (.return_, 1) → J X B (E, κ') pc lv []) (h0 : PC 4 E f0 i0 c0) (h1 : PC 6 E 0 a1 1) (h2 : PC 2 E 0 a2 0) : ∀ (κ : K), f_X3_doNext_G E κ f0 i0 c0 a1 a2 = some (κ', rr) → J X B (E, κ) 0 [(0, .inr (some (f0, i0, c0))), (1, .inr (some (0, a1, 1))), (2, .inr (some (0, a2, 0)))] [] := by
  intro κ h
  unfold f_X3_doNext_G at h
  refine J_aload_n O.mo dX3_doNext_0 0 rfl ?_
  refine J_getF O.co (kd0 := 4) (k4_0 h0) (l4_0 h0) (C := RX3) (T := TX3) (N := 9) rfl (by decide) rfl in_X3 3 (by decide) (v := .inl (.int (kV κ f0 i0 c0 3))) rfl mw126 rfl dX3_doNext_1 ?_
  refine J_if_lt O.mo (tgt := 18) dX3_doNext_4 (by decide) (fun hc1 => ?_) (fun hc1 => ?_)
  · replace h := (if_pos hc1).symm.trans h
    refine J_sub [0] rfl ?_
    exact w_X3_doNext_G_b18 hfl O hKP hmL hE h0 h1 h2 _ h
  · replace h := (if_neg hc1).symm.trans h
    refine J_aload_n O.mo dX3_doNext_7 0 rfl ?_
    refine J_getF O.co (kd0 := 4) (k4_0 h0) (l4_0 h0) (C := RX3) (T := TX3) (N := 9) rfl (by decide) rfl in_X3 3 (by decide) (v := .inl (.int (kV κ f0 i0 c0 3))) rfl mw126 rfl dX3_doNext_8 ?_
    refine J_aload_n O.mo dX3_doNext_11 1 rfl ?_
    refine J_getF O.co (kd0 := 6) (k6_0 h1) (l6_0 h1) (C := RX5) (T := TX5) (N := 4) rfl (by decide) rfl in_X5 3 (by decide) (v := .inl (.int (kV κ 0 a1 1 3))) rfl mw128 rfl dX3_doNext_12 ?_
    refine J_icmp_lt O.mo (tgt := 24) dX3_doNext_15 (by decide) (fun hc3 => ?_) (fun hc3 => ?_)
    · replace h := (if_pos hc3).symm.trans h
      refine J_aload_n O.mo dX3_doNext_24 1 rfl ?_
      refine J_getF O.co (kd0 := 6) (k6_0 h1) (l6_0 h1) (C := RX5) (T := TX5) (N := 4) rfl (by decide) rfl in_X5 1 (by decide) (v := .inr (some (0, a1, 3))) rfl mw129 rfl dX3_doNext_25 ?_
      refine J_aload_n O.mo dX3_doNext_28 0 rfl ?_
      refine J_getF O.co (kd0 := 4) (k4_0 h0) (l4_0 h0) (C := RX3) (T := TX3) (N := 9) rfl (by decide) rfl in_X3 3 (by decide) (v := .inl (.int (kV κ f0 i0 c0 3))) rfl mw126 rfl dX3_doNext_29 ?_
      obtain ⟨hg4, h⟩ := gd_some h
      refine J_iald O.co (g := (kV κ 0 a1 3)) (ct_20n (l6_2 h1) (k6_2 h1) (n6_2 h1)) hg4 dX3_doNext_32 ?_
      refine J_istore_n O.mo (lv' := [(0, .inr (some (f0, i0, c0))), (1, .inr (some (0, a1, 1))), (2, .inr (some (0, a2, 0)))]) dX3_doNext_33 (by rw [hmL]; decide) rfl rfl ?_
      refine nm_some (P := fun z => J X B (E, κ) 34 [(3, .inl (.int z)), (0, .inr (some (f0, i0, c0))), (1, .inr (some (0, a1, 1))), (2, .inr (some (0, a2, 0)))] []) h (fun y5 h => ?_)
      refine J_aload_n O.mo dX3_doNext_34 2 rfl ?_
      refine J_getF O.co (kd0 := 6) (k6_0 h1) (l6_0 h1) (C := RX5) (T := TX5) (N := 4) rfl (by decide) rfl in_X5 2 (by decide) (v := .inr (some (0, a1, 4))) rfl mw130 rfl dX3_doNext_35 ?_
      refine J_aload_n O.mo dX3_doNext_38 1 rfl ?_
      refine J_getF O.co (kd0 := 4) (k4_0 h0) (l4_0 h0) (C := RX3) (T := TX3) (N := 9) rfl (by decide) rfl in_X3 3 (by decide) (v := .inl (.int (kV κ f0 i0 c0 3))) rfl mw126 rfl dX3_doNext_39 ?_
      obtain ⟨hg6, h⟩ := gd_some h
      refine J_iald O.co (g := (kV κ 0 a1 4)) (ct_20n (l6_3 h1) (k6_3 h1) (n6_3 h1)) hg6 dX3_doNext_42 ?_
      refine J_istore O.mo (lv' := [(3, .inl (.int y5)), (0, .inr (some (f0, i0, c0))), (1, .inr (some (0, a1, 1))), (2, .inr (some (0, a2, 0)))]) dX3_doNext_43 (by rw [hmL]; decide) rfl rfl ?_
      refine nm_some (P := fun z => J X B (E, κ) 45 [(4, .inl (.int z)), (3, .inl (.int y5)), (0, .inr (some (f0, i0, c0))), (1, .inr (some (0, a1, 1))), (2, .inr (some (0, a2, 0)))] []) h (fun y7 h => ?_)
      refine J_aload_n O.mo dX3_doNext_45 3 rfl ?_
      refine J_getF O.co (kd0 := 6) (k6_0 h1) (l6_0 h1) (C := RX5) (T := TX5) (N := 4) rfl (by decide) rfl in_X5 0 (by decide) (v := .inr (some (0, a1, 2))) rfl mw131 rfl dX3_doNext_46 ?_
      refine J_aload_n O.mo dX3_doNext_49 2 rfl ?_
      refine J_getF O.co (kd0 := 4) (k4_0 h0) (l4_0 h0) (C := RX3) (T := TX3) (N := 9) rfl (by decide) rfl in_X3 3 (by decide) (v := .inl (.int (kV κ f0 i0 c0 3))) rfl mw126 rfl dX3_doNext_50 ?_
      obtain ⟨hg8, h⟩ := gd_some h
      refine J_iald O.co (g := (kV κ 0 a1 2)) (ct_20n (l6_1 h1) (k6_1 h1) (n6_1 h1)) hg8 dX3_doNext_53 ?_
      refine J_istore O.mo (lv' := [(4, .inl (.int y7)), (3, .inl (.int y5)), (0, .inr (some (f0, i0, c0))), (1, .inr (some (0, a1, 1))), (2, .inr (some (0, a2, 0)))]) dX3_doNext_54 (by rw [hmL]; decide) rfl rfl ?_
      refine nm_some (P := fun z => J X B (E, κ) 56 [(5, .inl (.int z)), (4, .inl (.int y7)), (3, .inl (.int y5)), (0, .inr (some (f0, i0, c0))), (1, .inr (some (0, a1, 1))), (2, .inr (some (0, a2, 0)))] []) h (fun y9 h => ?_)
      refine J_iload O.mo dX3_doNext_56 0 rfl ?_
      refine J_iconst O.mo (v := 2) dX3_doNext_58 (by decide) ?_
      refine J_icmp_eq O.mo (tgt := 68) dX3_doNext_59 (by decide) (fun hc10 => ?_) (fun hc10 => ?_)
      · replace h := (if_pos hc10).symm.trans h
        refine J_sub [3, 5, 2, 1, 0] rfl ?_
        exact w_X3_doNext_G_b68 hfl O hKP hmL hE h0 h1 h2 _ _ _ _ h
      · replace h := (if_neg hc10).symm.trans h
        refine J_iload O.mo dX3_doNext_62 0 rfl ?_
        refine J_iconst O.mo (v := 3) dX3_doNext_64 (by decide) ?_
        refine J_icmp_ne O.mo (tgt := 99) dX3_doNext_65 (by decide) (fun hc19 => ?_) (fun hc19 => ?_)
        · replace h := (if_neg hc19).symm.trans h
          refine J_iload O.mo dX3_doNext_99 0 rfl ?_
          refine J_bipush O.mo (v := 6) dX3_doNext_101 (by decide) ?_
          refine J_icmp_eq O.mo (tgt := 113) dX3_doNext_103 (by decide) (fun hc20 => ?_) (fun hc20 => ?_)
          · replace h := (if_pos hc20).symm.trans h
            refine J_sub [3, 5, 2, 1, 0] rfl ?_
            exact w_X3_doNext_G_b113 hfl O hKP hmL hE h0 h1 h2 _ _ _ _ h
          · replace h := (if_neg hc20).symm.trans h
            refine J_iload O.mo dX3_doNext_106 0 rfl ?_
            refine J_bipush O.mo (v := 7) dX3_doNext_108 (by decide) ?_
            refine J_icmp_ne O.mo (tgt := 136) dX3_doNext_110 (by decide) (fun hc25 => ?_) (fun hc25 => ?_)
            · replace h := (if_neg hc25).symm.trans h
              refine J_iload O.mo dX3_doNext_136 0 rfl ?_
              refine J_bipush O.mo (v := 8) dX3_doNext_138 (by decide) ?_
              refine J_icmp_eq O.mo (tgt := 150) dX3_doNext_140 (by decide) (fun hc26 => ?_) (fun hc26 => ?_)
              · replace h := (if_pos hc26).symm.trans h
                refine J_sub [3, 5, 0] rfl ?_
                exact w_X3_doNext_G_b150 hfl O hKP hmL hE h0 h1 h2 _ _ h
              · replace h := (if_neg hc26).symm.trans h
                refine J_iload O.mo dX3_doNext_143 0 rfl ?_
                refine J_bipush O.mo (v := 13) dX3_doNext_145 (by decide) ?_
                refine J_icmp_ne O.mo (tgt := 170) dX3_doNext_147 (by decide) (fun hc31 => ?_) (fun hc31 => ?_)
                · replace h := (if_neg hc31).symm.trans h
                  refine J_aload_n O.mo dX3_doNext_170 3 rfl ?_
                  refine J_iload O.mo dX3_doNext_171 0 rfl ?_
                  refine J_iload_n O.mo dX3_doNext_173 2 rfl ?_
                  refine J_iload O.mo dX3_doNext_174 1 rfl ?_
                  refine J_aload_n O.mo dX3_doNext_176 5 rfl ?_
                  refine J_sub [] rfl ?_
                  obtain ⟨κ32, r34, hq33, h⟩ := bd_some h
                  refine J_callV O hKP (as := [.inl (.int y9), .inl (.int y5), .inl (.int y7), .inr (some (0, a2, 0))]) (rest := []) (r := none) (c_X3_change_G hfl h0 h2 hq33) rfl (kd0 := 4) (k4_0 h0) (l4_0 h0) (T := TX3) (N := 9) rfl (by decide) mw202 mw203 mw204 mw137 mw205 pd_X3_change rfl (by decide) rfl (Nat.le_of_ble_eq_true rfl) sl_0 st_0 dX3_doNext_177 ?_
                  show J X B (E, κ32) 180 [] []
                  cases h
                  exact hE _ _ dX3_doNext_180
                · replace h := (if_pos hc31).symm.trans h
                  refine J_sub [3, 5, 0] rfl ?_
                  exact w_X3_doNext_G_b150 hfl O hKP hmL hE h0 h1 h2 _ _ h
            · replace h := (if_pos hc25).symm.trans h
              refine J_sub [3, 5, 2, 1, 0] rfl ?_
              exact w_X3_doNext_G_b113 hfl O hKP hmL hE h0 h1 h2 _ _ _ _ h
        · replace h := (if_pos hc19).symm.trans h
          refine J_sub [3, 5, 2, 1, 0] rfl ?_
          exact w_X3_doNext_G_b68 hfl O hKP hmL hE h0 h1 h2 _ _ _ _ h
    · replace h := (if_neg hc3).symm.trans h
      refine J_sub [0] rfl ?_
      exact w_X3_doNext_G_b18 hfl O hKP hmL hE h0 h1 h2 _ h
theorem c_X3_doNext_G {l : Launch} (hfl : l.stackTraces = false) {E : EE} {κ κ' : K} {f0 : Nat} {i0 : Nat} {c0 : Nat} {a1 : Nat} {a2 : Nat} (h0 : PC 4 E f0 i0 c0) (h1 : PC 6 E 0 a1 1) (h2 : PC 2 E 0 a2 0) {rr : Unit} (h : f_X3_doNext_G E κ f0 i0 c0 a1 a2 = some (κ', rr)) : Con l yX3_doNext cX3_doNext 6 none 6 189 [.inr (some (f0, i0, c0)), .inr (some (0, a1, 1)), .inr (some (0, a2, 0))] (E, κ) (E, κ') none := by
  exact Con_of hfl (by decide +kernel) (Nat.le_of_ble_eq_true rfl) rfl rfl (fun X B g O hKP hmL hE => w_X3_doNext_G hfl O hKP hmL hE h0 h1 h2 _ h)
