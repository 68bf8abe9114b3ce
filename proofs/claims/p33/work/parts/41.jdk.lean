theorem k2_0 {E : EE} {f i c : Nat} (h : PC 2 E f i c) : kd f (c) = 2 := PC_kd h 0 (by decide)
theorem l2_0 {E : EE} {f i c : Nat} (h : PC 2 E f i c) : liveC E f i (c) = true := PC_lv h 0 (by decide) (by decide)
theorem s2_0 {E : EE} {f i c : Nat} (h : PC 2 E f i c) : Stab E (.inr (some (f, i, c))) := PC_st h 0 (by decide) (by decide) (by decide)
theorem k5_1 {E : EE} {f i c : Nat} (h : PC 5 E f i c) : kd f (c + 1) = 21 := PC_kd h 1 (by decide)
theorem l5_1 {E : EE} {f i c : Nat} (h : PC 5 E f i c) : liveC E f i (c + 1) = true := PC_lv h 1 (by decide) (by decide)
theorem k8_0 {E : EE} {f i c : Nat} (h : PC 8 E f i c) : kd f (c) = 8 := PC_kd h 0 (by decide)
theorem l8_0 {E : EE} {f i c : Nat} (h : PC 8 E f i c) : liveC E f i (c) = true := PC_lv h 0 (by decide) (by decide)
theorem s8_0 {E : EE} {f i c : Nat} (h : PC 8 E f i c) : Stab E (.inr (some (f, i, c))) := PC_st h 0 (by decide) (by decide) (by decide)
theorem k10_1 {E : EE} {f i c : Nat} (h : PC 10 E f i c) : kd f (c + 1) = 0 := PC_kd h 1 (by decide)
theorem l10_1 {E : EE} {f i c : Nat} (h : PC 10 E f i c) : liveC E f i (c + 1) = true := PC_lv h 1 (by decide) (by decide)
theorem s10_1 {E : EE} {f i c : Nat} (h : PC 10 E f i c) : Stab E (.inr (some (f, i, c + 1))) := PC_st h 1 (by decide) (by decide) (by decide)
theorem k10_2 {E : EE} {f i c : Nat} (h : PC 10 E f i c) : kd f (c + 2) = 0 := PC_kd h 2 (by decide)
theorem l10_2 {E : EE} {f i c : Nat} (h : PC 10 E f i c) : liveC E f i (c + 2) = true := PC_lv h 2 (by decide) (by decide)
theorem s10_2 {E : EE} {f i c : Nat} (h : PC 10 E f i c) : Stab E (.inr (some (f, i, c + 2))) := PC_st h 2 (by decide) (by decide) (by decide)
set_option maxRecDepth 100000 in
theorem mw21 : Cond.constant RJ6 265 1431655765 ∈ gwl := gwl_tb 892 rfl rfl
set_option maxRecDepth 100000 in
theorem mw22 : Cond.constant RJ6 266 858993459 ∈ gwl := gwl_tb 893 rfl rfl
set_option maxRecDepth 100000 in
theorem mw23 : Cond.constant RJ6 267 252645135 ∈ gwl := gwl_tb 894 rfl rfl
set_option maxRecDepth 100000 in
theorem mw24 : Cond.arrayClass .int ∈ gwl := gwl_tb 103 rfl rfl
set_option maxRecDepth 100000 in
theorem mw25 : Cond.methodLink RJ7 304 Lib.Math.min.name ∈ gwl := gwl_tb 559 rfl rfl
set_option maxRecDepth 100000 in
theorem mw26 : Cond.static Lib.Math.min.name ∈ gwl := gwl_tb 560 rfl rfl
set_option maxRecDepth 100000 in
theorem mw27 : Cond.code Lib.Math.min.name Lib.Math.min.code 2 (some .int) ∈ gwl := gwl_tb 561 rfl rfl
set_option maxRecDepth 100000 in
theorem mw28 : Cond.methodLink RJ7 150 arraycopyName ∈ gwl := gwl_tb 562 rfl rfl
set_option maxRecDepth 100000 in
theorem mw29 : Cond.native arraycopyName ∈ gwl := gwl_tb 564 rfl rfl
set_option maxRecDepth 100000 in
theorem mw30 : Cond.static arraycopyName ∈ gwl := gwl_tb 563 rfl rfl
set_option maxRecDepth 100000 in
theorem mw31 : Cond.initialized "java/lang/System" ∈ gwl := gwl_tb 22 rfl rfl
set_option maxRecDepth 100000 in
theorem mw32 : Cond.fieldLink RJx4a65c 48 "java/util/ArrayList" "size" "I" ∈ gwl := gwl_tb 51 rfl rfl
set_option maxRecDepth 100000 in
theorem mw33 : Cond.methodLink RJ15 105 yJ3_checkIndex_8e157 ∈ gwl := gwl_tb 588 rfl rfl
set_option maxRecDepth 100000 in
theorem mw34 : Cond.static yJ3_checkIndex_8e157 ∈ gwl := gwl_tb 589 rfl rfl
set_option maxRecDepth 100000 in
theorem mw35 : Cond.initialized RJ3 ∈ gwl := gwl_tb 24 rfl rfl
set_option maxRecDepth 100000 in
theorem mw36 : Cond.code yJ3_checkIndex_8e157 cJ3_checkIndex_8e157 3 (some .int) ∈ gwl := gwl_tb 590 rfl rfl
set_option maxRecDepth 100000 in
theorem mw37 : Cond.methodLink RJx4a65c 118 yJ15_checkIndex_7cf53 ∈ gwl := gwl_tb 585 rfl rfl
set_option maxRecDepth 100000 in
theorem mw38 : Cond.static yJ15_checkIndex_7cf53 ∈ gwl := gwl_tb 586 rfl rfl
set_option maxRecDepth 100000 in
theorem mw39 : Cond.initialized RJ15 ∈ gwl := gwl_tb 23 rfl rfl
set_option maxRecDepth 100000 in
theorem mw40 : Cond.code yJ15_checkIndex_7cf53 cJ15_checkIndex_7cf53 2 (some .int) ∈ gwl := gwl_tb 587 rfl rfl
set_option maxRecDepth 100000 in
theorem mw41 : Cond.fieldLink RJx4a65c 9 "java/util/ArrayList" "elementData" "[Ljava/lang/Object;" ∈ gwl := gwl_tb 50 rfl rfl
set_option maxRecDepth 100000 in
theorem mw42 : Cond.methodLink RJx4a65c 123 yJx4a65c_elementData_915e3 ∈ gwl := gwl_tb 591 rfl rfl
set_option maxRecDepth 100000 in
theorem mw43 : Cond.instanceMethod yJx4a65c_elementData_915e3 ∈ gwl := gwl_tb 592 rfl rfl
set_option maxRecDepth 100000 in
theorem mw44 : Cond.selects RJx4a65c yJx4a65c_elementData_915e3 yJx4a65c_elementData_915e3 ∈ gwl := gwl_tb 593 rfl rfl
set_option maxRecDepth 100000 in
theorem mw45 : Cond.initialized RJx4a65c ∈ gwl := gwl_tb 4 rfl rfl
set_option maxRecDepth 100000 in
theorem mw46 : Cond.code yJx4a65c_elementData_915e3 cJx4a65c_elementData_915e3 2 (some (.object "java/lang/Object")) ∈ gwl := gwl_tb 594 rfl rfl
set_option maxRecDepth 100000 in
theorem in_Jx4a65c : ∀ w ∈ u_ws RJx4a65c TJx4a65c 3, w ∈ gwl := by
  intro w hw
  obtain ⟨k, hk, rfl⟩ := List.mem_map.mp hw
  replace hk := List.mem_range.mp hk
  clear hw
  revert k
  exact (tb_s (tb_s (tb_s tb_0 (gwl_tb 59 rfl rfl)) (gwl_tb 55 rfl rfl)) (gwl_tb 57 rfl rfl))
theorem pd_J3_checkIndex_8e157 : (yJ3_checkIndex_8e157).cls ≠ "java/lang/invoke/MethodHandle" ∧ (yJ3_checkIndex_8e157).cls ≠ "java/lang/invoke/VarHandle" ∧ (parseMethodDescriptor (yJ3_checkIndex_8e157).desc).map (fun d => d.parameters.length) = some 3 := ⟨by decide +kernel, by decide +kernel, by decide +kernel⟩
theorem pd_J15_checkIndex_7cf53 : (yJ15_checkIndex_7cf53).cls ≠ "java/lang/invoke/MethodHandle" ∧ (yJ15_checkIndex_7cf53).cls ≠ "java/lang/invoke/VarHandle" ∧ (parseMethodDescriptor (yJ15_checkIndex_7cf53).desc).map (fun d => d.parameters.length) = some 2 := ⟨by decide +kernel, by decide +kernel, by decide +kernel⟩
theorem pd_Jx4a65c_elementData_915e3 : (yJx4a65c_elementData_915e3).cls ≠ "java/lang/invoke/MethodHandle" ∧ (yJx4a65c_elementData_915e3).cls ≠ "java/lang/invoke/VarHandle" ∧ (parseMethodDescriptor (yJx4a65c_elementData_915e3).desc).map (fun d => d.parameters.length) = some 1 := ⟨by decide +kernel, by decide +kernel, by decide +kernel⟩
def f_J6_bitCount_0f7a4 (E : EE) (κ : K) (a0 : Int32) : Option (K × Int32) := nm (a0 - (((a0.toUInt32 >>> ((1 : Int32).toUInt32 &&& Int32.toUInt32 31)).toInt32) &&& 1431655765)) fun y1 => nm ((y1 &&& 858993459) + (((y1.toUInt32 >>> ((2 : Int32).toUInt32 &&& Int32.toUInt32 31)).toInt32) &&& 858993459)) fun y2 => nm ((y2 + ((y2.toUInt32 >>> ((4 : Int32).toUInt32 &&& Int32.toUInt32 31)).toInt32)) &&& 252645135) fun y3 => nm (y3 + ((y3.toUInt32 >>> ((8 : Int32).toUInt32 &&& Int32.toUInt32 31)).toInt32)) fun y4 => nm (y4 + ((y4.toUInt32 >>> ((16 : Int32).toUInt32 &&& Int32.toUInt32 31)).toInt32)) fun y5 => some (κ, y5 &&& 63)
set_option maxHeartbeats 4000000 in
set_option maxRecDepth 100000 in
theorem w_J6_bitCount_0f7a4 {l0 : Launch} (hfl : l0.stackTraces = false) {X : MX} {B : BX (EE × K)} {g : GP} {E : EE} {κ' : K} {rr : Int32} (O : CK l0 X B g cJ6_bitCount_0f7a4 RJ6 1 0) (hKP : KPok B E) (hmL : B.2.2.2.1 = 1) (hE : ∀ (pc : Nat) (lv : List (Nat × AV)), decode cJ6_bitCount_0f7a4 pc = .ok (.ireturn, 1) → J X B (E, κ') pc lv [.inl (.int rr)]) : ∀ (κ : K) (a0 : Int32), f_J6_bitCount_0f7a4 E κ a0 = some (κ', rr) → J X B (E, κ) 0 [(0, .inl (.int a0))] [] := by
  intro κ a0 h
  unfold f_J6_bitCount_0f7a4 at h
  refine J_iload_n O.mo dJ6_bitCount_0f7a4_0 0 rfl ?_
  refine J_iload_n O.mo dJ6_bitCount_0f7a4_1 0 rfl ?_
  refine J_iconst O.mo (v := 1) dJ6_bitCount_0f7a4_2 (by decide) ?_
  refine J_iushr O.mo dJ6_bitCount_0f7a4_3 ?_
  refine J_ldcw O mw21 dJ6_bitCount_0f7a4_4 ?_
  refine J_iand O.mo dJ6_bitCount_0f7a4_7 ?_
  refine J_isub O.mo dJ6_bitCount_0f7a4_8 ?_
  refine J_istore_n O.mo (lv' := []) dJ6_bitCount_0f7a4_9 (by rw [hmL]; decide) rfl rfl ?_
  refine nm_some (P := fun z => J X B (E, κ) 10 [(0, .inl (.int z))] []) h (fun y1 h => ?_)
  refine J_iload_n O.mo dJ6_bitCount_0f7a4_10 0 rfl ?_
  refine J_ldcw O mw22 dJ6_bitCount_0f7a4_11 ?_
  refine J_iand O.mo dJ6_bitCount_0f7a4_14 ?_
  refine J_iload_n O.mo dJ6_bitCount_0f7a4_15 0 rfl ?_
  refine J_iconst O.mo (v := 2) dJ6_bitCount_0f7a4_16 (by decide) ?_
  refine J_iushr O.mo dJ6_bitCount_0f7a4_17 ?_
  refine J_ldcw O mw22 dJ6_bitCount_0f7a4_18 ?_
  refine J_iand O.mo dJ6_bitCount_0f7a4_21 ?_
  refine J_iadd O.mo dJ6_bitCount_0f7a4_22 ?_
  refine J_istore_n O.mo (lv' := []) dJ6_bitCount_0f7a4_23 (by rw [hmL]; decide) rfl rfl ?_
  refine nm_some (P := fun z => J X B (E, κ) 24 [(0, .inl (.int z))] []) h (fun y2 h => ?_)
  refine J_iload_n O.mo dJ6_bitCount_0f7a4_24 0 rfl ?_
  refine J_iload_n O.mo dJ6_bitCount_0f7a4_25 0 rfl ?_
  refine J_iconst O.mo (v := 4) dJ6_bitCount_0f7a4_26 (by decide) ?_
  refine J_iushr O.mo dJ6_bitCount_0f7a4_27 ?_
  refine J_iadd O.mo dJ6_bitCount_0f7a4_28 ?_
  refine J_ldcw O mw23 dJ6_bitCount_0f7a4_29 ?_
  refine J_iand O.mo dJ6_bitCount_0f7a4_32 ?_
  refine J_istore_n O.mo (lv' := []) dJ6_bitCount_0f7a4_33 (by rw [hmL]; decide) rfl rfl ?_
  refine nm_some (P := fun z => J X B (E, κ) 34 [(0, .inl (.int z))] []) h (fun y3 h => ?_)
  refine J_iload_n O.mo dJ6_bitCount_0f7a4_34 0 rfl ?_
  refine J_iload_n O.mo dJ6_bitCount_0f7a4_35 0 rfl ?_
  refine J_bipush O.mo (v := 8) dJ6_bitCount_0f7a4_36 (by decide) ?_
  refine J_iushr O.mo dJ6_bitCount_0f7a4_38 ?_
  refine J_iadd O.mo dJ6_bitCount_0f7a4_39 ?_
  refine J_istore_n O.mo (lv' := []) dJ6_bitCount_0f7a4_40 (by rw [hmL]; decide) rfl rfl ?_
  refine nm_some (P := fun z => J X B (E, κ) 41 [(0, .inl (.int z))] []) h (fun y4 h => ?_)
  refine J_iload_n O.mo dJ6_bitCount_0f7a4_41 0 rfl ?_
  refine J_iload_n O.mo dJ6_bitCount_0f7a4_42 0 rfl ?_
  refine J_bipush O.mo (v := 16) dJ6_bitCount_0f7a4_43 (by decide) ?_
  refine J_iushr O.mo dJ6_bitCount_0f7a4_45 ?_
  refine J_iadd O.mo dJ6_bitCount_0f7a4_46 ?_
  refine J_istore_n O.mo (lv' := []) dJ6_bitCount_0f7a4_47 (by rw [hmL]; decide) rfl rfl ?_
  refine nm_some (P := fun z => J X B (E, κ) 48 [(0, .inl (.int z))] []) h (fun y5 h => ?_)
  refine J_iload_n O.mo dJ6_bitCount_0f7a4_48 0 rfl ?_
  refine J_bipush O.mo (v := 63) dJ6_bitCount_0f7a4_49 (by decide) ?_
  refine J_iand O.mo dJ6_bitCount_0f7a4_51 ?_
  cases h
  exact hE _ _ dJ6_bitCount_0f7a4_52
theorem c_J6_bitCount_0f7a4 {l : Launch} (hfl : l.stackTraces = false) {E : EE} {κ κ' : K} {a0 : Int32} {rr : Int32} (h : f_J6_bitCount_0f7a4 E κ a0 = some (κ', rr)) : Con l yJ6_bitCount_0f7a4 cJ6_bitCount_0f7a4 1 (some .int) 1 0 [.inl (.int a0)] (E, κ) (E, κ') (some (.inl (.int rr))) := by
  exact Con_of hfl (by decide +kernel) (Nat.le_of_ble_eq_true rfl) rfl ⟨_, rfl, rfl⟩ (fun X B g O hKP hmL hE => w_J6_bitCount_0f7a4 hfl O hKP hmL hE _ _ h)
def f_J7_copyOf_59c91 (E : EE) (κ : K) (f0 : Nat) (i0 : Nat) (c0 : Nat) (a1 : Int32) : Option (K × Unit) := if a1 = nI (kN κ f0 i0 (c0 + 1)) then none else gd (¬ a1 < 0 ∧ a1.toNatClampNeg ≤ 100000000) (nm (addC (setT κ (some (a1.toNatClampNeg, fun _ => 0))) 1 a1.toNatClampNeg) fun κ3 => tmpG (kT κ3) fun n6 ar7 => gd (¬ (0 : Int32) < 0 ∧ ¬ (0 : Int32) < 0 ∧ ¬ (if a1 < (nI (kN κ3 f0 i0 (c0 + 1))) then a1 else (nI (kN κ3 f0 i0 (c0 + 1)))) < 0 ∧ (0 : Int32).toNatClampNeg + (if a1 < (nI (kN κ3 f0 i0 (c0 + 1))) then a1 else (nI (kN κ3 f0 i0 (c0 + 1)))).toNatClampNeg ≤ kN κ3 f0 i0 (c0 + 1) ∧ (0 : Int32).toNatClampNeg + (if a1 < (nI (kN κ3 f0 i0 (c0 + 1))) then a1 else (nI (kN κ3 f0 i0 (c0 + 1)))).toNatClampNeg ≤ n6) (nm (setT κ3 (some (n6, va_cpy (kV κ3 f0 i0 (c0 + 1)) ar7 (0 : Int32).toNatClampNeg (0 : Int32).toNatClampNeg (if a1 < (nI (kN κ3 f0 i0 (c0 + 1))) then a1 else (nI (kN κ3 f0 i0 (c0 + 1)))).toNatClampNeg))) fun κ4 => some (κ4, ())))
set_option maxHeartbeats 4000000 in
set_option maxRecDepth 100000 in
theorem w_J7_copyOf_59c91 {l0 : Launch} (hfl : l0.stackTraces = false) {X : MX} {B : BX (EE × K)} {g : GP} {E : EE} {κ' : K} {rr : Unit} {f0 : Nat} {i0 : Nat} {c0 : Nat} (O : CK l0 X B g cJ7_copyOf_59c91 RJ7 2 100) (hKP : KPok B E) (hmL : B.2.2.2.1 = 3) (hE : ∀ (pc : Nat) (lv : List (Nat × AV)), decode cJ7_copyOf_59c91 pc = .ok (.areturn, 1) → J X B (E, κ') pc lv [.inr (some (7, 0, 0))]) (h0 : PC 5 E f0 i0 c0) : ∀ (κ : K) (a1 : Int32), f_J7_copyOf_59c91 E κ f0 i0 c0 a1 = some (κ', rr) → J X B (E, κ) 0 [(0, .inr (some (f0, i0, c0 + 1))), (1, .inl (.int a1))] [] := by
  intro κ a1 h
  unfold f_J7_copyOf_59c91 at h
  refine J_iload_n O.mo dJ7_copyOf_59c91_0 1 rfl ?_
  refine J_aload_n O.mo dJ7_copyOf_59c91_1 0 rfl ?_
  refine J_alen O.co (g := (kV κ f0 i0 (c0 + 1))) (fun ad => ct_21 (l5_1 h0) (k5_1 h0) ad) dJ7_copyOf_59c91_2 ?_
  refine J_icmp_ne O.mo (tgt := 14) dJ7_copyOf_59c91_3 (by decide) (fun hc1 => ?_) (fun hc1 => ?_)
  · replace h := (if_neg hc1).symm.trans h
    refine J_iload_n O.mo dJ7_copyOf_59c91_14 1 rfl ?_
    obtain ⟨hg2, h⟩ := gd_some h
    refine J_newarr7 O hKP (n := a1) mw_arrI hg2.1 hg2.2 (u7_p (l5_1 h0) (u7_v u7_0)) t7_0 dJ7_copyOf_59c91_15 ?_
    refine nm_some (P := fun z => J X B (E, z) 17 [(0, .inr (some (f0, i0, c0 + 1))), (1, .inl (.int a1))] [.inr (some (7, 0, 0))]) h (fun κ3 h => ?_)
    refine J_astore_n O.mo (lv' := [(0, .inr (some (f0, i0, c0 + 1))), (1, .inl (.int a1))]) dJ7_copyOf_59c91_17 (by rw [hmL]; decide) rfl rfl ?_
    refine J_aload_n O.mo dJ7_copyOf_59c91_18 1 rfl ?_
    refine J_iconst O.mo (v := 0) dJ7_copyOf_59c91_19 (by decide) ?_
    refine J_aload_n O.mo dJ7_copyOf_59c91_20 0 rfl ?_
    refine J_iconst O.mo (v := 0) dJ7_copyOf_59c91_21 (by decide) ?_
    refine J_aload_n O.mo dJ7_copyOf_59c91_22 1 rfl ?_
    refine J_alen O.co (g := (kV κ3 f0 i0 (c0 + 1))) (fun ad => ct_21 (l5_1 h0) (k5_1 h0) ad) dJ7_copyOf_59c91_23 ?_
    refine J_iload_n O.mo dJ7_copyOf_59c91_24 2 rfl ?_
    refine J_sub [0] rfl ?_
    refine J_min O mw25 mw26 mw5 mw27 (by decide) (Nat.le_of_ble_eq_true rfl) rfl dJ7_copyOf_59c91_25 ?_
    obtain ⟨n6, ar7, hA8, h⟩ := tmpG_some h
    obtain ⟨hg5, h⟩ := gd_some h
    refine J_acopyT O (f0 := (kV κ3 f0 i0 (c0 + 1))) (fun ad => ct_21 (l5_1 h0) (k5_1 h0) ad) hA8 hg5.1 hg5.2.1 hg5.2.2.1 hg5.2.2.2.1 hg5.2.2.2.2 mw28 mw29 mw30 mw31 (by decide) (Nat.le_of_ble_eq_true rfl) rfl dJ7_copyOf_59c91_28 ?_
    refine nm_some (P := fun z => J X B (E, z) 31 [(2, .inr (some (7, 0, 0)))] []) h (fun κ4 h => ?_)
    refine J_aload_n O.mo dJ7_copyOf_59c91_31 0 rfl ?_
    cases h
    exact hE _ _ dJ7_copyOf_59c91_32
  · replace h := (if_pos hc1).symm.trans h
    refine J_aload_n O.mo dJ7_copyOf_59c91_6 0 rfl ?_
    refine J_sub [] rfl ?_
    cases h
theorem c_J7_copyOf_59c91 {l : Launch} (hfl : l.stackTraces = false) {E : EE} {κ κ' : K} {f0 : Nat} {i0 : Nat} {c0 : Nat} {a1 : Int32} (h0 : PC 5 E f0 i0 c0) {rr : Unit} (h : f_J7_copyOf_59c91 E κ f0 i0 c0 a1 = some (κ', rr)) : Con l yJ7_copyOf_59c91 cJ7_copyOf_59c91 3 (some (.array .int)) 2 100 [.inr (some (f0, i0, c0 + 1)), .inl (.int a1)] (E, κ) (E, κ') (some (.inr (some (7, 0, 0)))) := by
  exact Con_of hfl (by decide +kernel) (Nat.le_of_ble_eq_true rfl) rfl ⟨_, rfl, Or.inr ⟨_, rfl⟩⟩ (fun X B g O hKP hmL hE => w_J7_copyOf_59c91 hfl O hKP hmL hE h0 _ _ h)
def f_J7_fill_53178_b5 (E : EE) (f0 : Nat) (i0 : Nat) (c0 : Nat) : Nat → K → Int32 → Int32 → Int32 → Option (K × Unit)
  | 0, _, _, _, _ => none
  | n + 1, κ, x1, x2, x3 => if x3 ≤ x2 then some (κ, ()) else gd (¬ (x2 < 0 ∨ sl f0 c0 ≤ x2.toNatClampNeg)) (nm (setV κ f0 i0 c0 x2.toNatClampNeg x1) fun κ4 => nm (x2 + 1) fun y5 => f_J7_fill_53178_b5 E f0 i0 c0 n κ4 x1 y5 x3)
def f_J7_fill_53178 (E : EE) (κ : K) (f0 : Nat) (i0 : Nat) (c0 : Nat) (a1 : Int32) : Option (K × Unit) := nm (nI (sl f0 c0)) fun y1 => f_J7_fill_53178_b5 E f0 i0 c0 FU κ a1 0 y1
set_option maxHeartbeats 4000000 in
set_option maxRecDepth 100000 in
theorem w_J7_fill_53178_b5 {l0 : Launch} (hfl : l0.stackTraces = false) {X : MX} {B : BX (EE × K)} {g : GP} {E : EE} {κ' : K} {rr : Unit} {f0 : Nat} {i0 : Nat} {c0 : Nat} (O : CK l0 X B g cJ7_fill_53178 RJ7 1 0) (hKP : KPok B E) (hmL : B.2.2.2.1 = 4) (hE : ∀ (pc : Nat) (lv : List (Nat × AV)), decode cJ7_fill_53178 pc = .ok (.return_, 1) → J X B (E, κ') pc lv []) (hk0 : kd f0 c0 = 20) (hl0 : liveC E f0 i0 c0 = true) : ∀ (n : Nat) (κ : K) (x1 : Int32) (x2 : Int32) (x3 : Int32), f_J7_fill_53178_b5 E f0 i0 c0 n κ x1 x2 x3 = some (κ', rr) → J X B (E, κ) 5 [(0, .inr (some (f0, i0, c0))), (1, .inl (.int x1)), (2, .inl (.int x2)), (3, .inl (.int x3))] [] := by
  intro n
  induction n with
  | zero => intro κ x1 x2 x3 h; cases h
  | succ n ih =>
    intro κ x1 x2 x3 h
    rw [f_J7_fill_53178_b5] at h
    refine J_iload_n O.mo dJ7_fill_53178_5 2 rfl ?_
    refine J_iload_n O.mo dJ7_fill_53178_6 3 rfl ?_
    refine J_icmp_ge O.mo (tgt := 20) dJ7_fill_53178_7 (by decide) (fun hc2 => ?_) (fun hc2 => ?_)
    · replace h := (if_pos hc2).symm.trans h
      cases h
      exact hE _ _ dJ7_fill_53178_20
    · replace h := (if_neg hc2).symm.trans h
      refine J_aload_n O.mo dJ7_fill_53178_10 0 rfl ?_
      refine J_iload_n O.mo dJ7_fill_53178_11 2 rfl ?_
      refine J_iload_n O.mo dJ7_fill_53178_12 1 rfl ?_
      obtain ⟨hg3, h⟩ := gd_some h
      refine row_20 O hl0 hk0 rfl hg3 (x := x1) dJ7_fill_53178_13 ?_
      refine nm_some (P := fun z => J X B (E, z) 14 [(0, .inr (some (f0, i0, c0))), (1, .inl (.int x1)), (2, .inl (.int x2)), (3, .inl (.int x3))] []) h (fun κ4 h => ?_)
      refine J_iinc O.mo (v := x2 + 1) (lv' := [(0, .inr (some (f0, i0, c0))), (1, .inl (.int x1)), (3, .inl (.int x3))]) dJ7_fill_53178_14 (by rw [hmL]; decide) 2 rfl (by rw [show Int32.ofInt (1) = (1 : Int32) from by decide]) rfl rfl ?_
      refine nm_some (P := fun z => J X B (E, κ4) 17 [(2, .inl (.int z)), (0, .inr (some (f0, i0, c0))), (1, .inl (.int x1)), (3, .inl (.int x3))] []) h (fun y5 h => ?_)
      refine J_goto O.mo (tgt := 5) dJ7_fill_53178_17 (by decide) ?_
      refine J_sub [1, 2, 0, 3] rfl ?_
      exact ih _ _ _ _ h
set_option maxHeartbeats 4000000 in
set_option maxRecDepth 100000 in
theorem w_J7_fill_53178 {l0 : Launch} (hfl : l0.stackTraces = false) {X : MX} {B : BX (EE × K)} {g : GP} {E : EE} {κ' : K} {rr : Unit} {f0 : Nat} {i0 : Nat} {c0 : Nat} (O : CK l0 X B g cJ7_fill_53178 RJ7 1 0) (hKP : KPok B E) (hmL : B.2.2.2.1 = 4) (hE : ∀ (pc : Nat) (lv : List (Nat × AV)), decode cJ7_fill_53178 pc = .ok (.return_, 1) → J X B (E, κ') pc lv []) (hk0 : kd f0 c0 = 20) (hl0 : liveC E f0 i0 c0 = true) : ∀ (κ : K) (a1 : Int32), f_J7_fill_53178 E κ f0 i0 c0 a1 = some (κ', rr) → J X B (E, κ) 0 [(0, .inr (some (f0, i0, c0))), (1, .inl (.int a1))] [] := by
  intro κ a1 h
  unfold f_J7_fill_53178 at h
  refine J_iconst O.mo (v := 0) dJ7_fill_53178_0 (by decide) ?_
  refine J_istore_n O.mo (lv' := [(0, .inr (some (f0, i0, c0))), (1, .inl (.int a1))]) dJ7_fill_53178_1 (by rw [hmL]; decide) rfl rfl ?_
  refine J_aload_n O.mo dJ7_fill_53178_2 1 rfl ?_
  refine J_alen O.co (g := (kV κ f0 i0 c0)) (ct_20n hl0 hk0 rfl) dJ7_fill_53178_3 ?_
  refine J_istore_n O.mo (lv' := [(2, .inl (.int 0)), (0, .inr (some (f0, i0, c0))), (1, .inl (.int a1))]) dJ7_fill_53178_4 (by rw [hmL]; decide) rfl rfl ?_
  refine nm_some (P := fun z => J X B (E, κ) 5 [(3, .inl (.int z)), (2, .inl (.int 0)), (0, .inr (some (f0, i0, c0))), (1, .inl (.int a1))] []) h (fun y1 h => ?_)
  refine J_sub [2, 3, 1, 0] rfl ?_
  exact w_J7_fill_53178_b5 hfl O hKP hmL hE hk0 hl0 FU _ _ _ _ h
theorem c_J7_fill_53178 {l : Launch} (hfl : l.stackTraces = false) {E : EE} {κ κ' : K} {f0 : Nat} {i0 : Nat} {c0 : Nat} {a1 : Int32} (hk0 : kd f0 c0 = 20) (hl0 : liveC E f0 i0 c0 = true) {rr : Unit} (h : f_J7_fill_53178 E κ f0 i0 c0 a1 = some (κ', rr)) : Con l yJ7_fill_53178 cJ7_fill_53178 4 none 1 0 [.inr (some (f0, i0, c0)), .inl (.int a1)] (E, κ) (E, κ') none := by
  exact Con_of hfl (by decide +kernel) (Nat.le_of_ble_eq_true rfl) rfl rfl (fun X B g O hKP hmL hE => w_J7_fill_53178 hfl O hKP hmL hE hk0 hl0 _ _ h)
def f_Jx4a65c_size_8abf5_L1 (E : EE) (κ : K) : Option (K × Int32) := some (κ, kV κ 4 0 1 2)
set_option maxHeartbeats 4000000 in
set_option maxRecDepth 100000 in
theorem w_Jx4a65c_size_8abf5_L1 {l0 : Launch} (hfl : l0.stackTraces = false) {X : MX} {B : BX (EE × K)} {g : GP} {E : EE} {κ' : K} {rr : Int32} (O : CK l0 X B g cJx4a65c_size_8abf5 RJx4a65c 1 0) (hKP : KPok B E) (hmL : B.2.2.2.1 = 1) (hE : ∀ (pc : Nat) (lv : List (Nat × AV)), decode cJx4a65c_size_8abf5 pc = .ok (.ireturn, 1) → J X B (E, κ') pc lv [.inl (.int rr)]) (h0 : PC 10 E 4 0 0) : ∀ (κ : K), f_Jx4a65c_size_8abf5_L1 E κ = some (κ', rr) → J X B (E, κ) 0 [(0, .inr (some (4, 0, 1)))] [] := by
  intro κ h
  unfold f_Jx4a65c_size_8abf5_L1 at h
  refine J_aload_n O.mo dJx4a65c_size_8abf5_0 0 rfl ?_
  refine J_getF O.co (kd0 := 0) (k10_1 h0) (l10_1 h0) (C := RJx4a65c) (T := TJx4a65c) (N := 3) rfl (by decide) rfl in_Jx4a65c 2 (by decide) (v := .inl (.int (kV κ 4 0 1 2))) rfl mw32 rfl dJx4a65c_size_8abf5_1 ?_
  cases h
  exact hE _ _ dJx4a65c_size_8abf5_4
theorem c_Jx4a65c_size_8abf5_L1 {l : Launch} (hfl : l.stackTraces = false) {E : EE} {κ κ' : K} (h0 : PC 10 E 4 0 0) {rr : Int32} (h : f_Jx4a65c_size_8abf5_L1 E κ = some (κ', rr)) : Con l yJx4a65c_size_8abf5 cJx4a65c_size_8abf5 1 (some .int) 1 0 [.inr (some (4, 0, 1))] (E, κ) (E, κ') (some (.inl (.int rr))) := by
  exact Con_of hfl (by decide +kernel) (Nat.le_of_ble_eq_true rfl) rfl ⟨_, rfl, rfl⟩ (fun X B g O hKP hmL hE => w_Jx4a65c_size_8abf5_L1 hfl O hKP hmL hE h0 _ h)
def f_Jx4a65c_size_8abf5_L2 (E : EE) (κ : K) : Option (K × Int32) := some (κ, kV κ 4 0 2 2)
set_option maxHeartbeats 4000000 in
set_option maxRecDepth 100000 in
theorem w_Jx4a65c_size_8abf5_L2 {l0 : Launch} (hfl : l0.stackTraces = false) {X : MX} {B : BX (EE × K)} {g : GP} {E : EE} {κ' : K} {rr : Int32} (O : CK l0 X B g cJx4a65c_size_8abf5 RJx4a65c 1 0) (hKP : KPok B E) (hmL : B.2.2.2.1 = 1) (hE : ∀ (pc : Nat) (lv : List (Nat × AV)), decode cJx4a65c_size_8abf5 pc = .ok (.ireturn, 1) → J X B (E, κ') pc lv [.inl (.int rr)]) (h0 : PC 10 E 4 0 0) : ∀ (κ : K), f_Jx4a65c_size_8abf5_L2 E κ = some (κ', rr) → J X B (E, κ) 0 [(0, .inr (some (4, 0, 2)))] [] := by
  intro κ h
  unfold f_Jx4a65c_size_8abf5_L2 at h
  refine J_aload_n O.mo dJx4a65c_size_8abf5_0 0 rfl ?_
  refine J_getF O.co (kd0 := 0) (k10_2 h0) (l10_2 h0) (C := RJx4a65c) (T := TJx4a65c) (N := 3) rfl (by decide) rfl in_Jx4a65c 2 (by decide) (v := .inl (.int (kV κ 4 0 2 2))) rfl mw32 rfl dJx4a65c_size_8abf5_1 ?_
  cases h
  exact hE _ _ dJx4a65c_size_8abf5_4
theorem c_Jx4a65c_size_8abf5_L2 {l : Launch} (hfl : l.stackTraces = false) {E : EE} {κ κ' : K} (h0 : PC 10 E 4 0 0) {rr : Int32} (h : f_Jx4a65c_size_8abf5_L2 E κ = some (κ', rr)) : Con l yJx4a65c_size_8abf5 cJx4a65c_size_8abf5 1 (some .int) 1 0 [.inr (some (4, 0, 2))] (E, κ) (E, κ') (some (.inl (.int rr))) := by
  exact Con_of hfl (by decide +kernel) (Nat.le_of_ble_eq_true rfl) rfl ⟨_, rfl, rfl⟩ (fun X B g O hKP hmL hE => w_Jx4a65c_size_8abf5_L2 hfl O hKP hmL hE h0 _ h)
def f_J3_checkIndex_8e157_b9 (E : EE) (κ : K) (x0 : Int32) (x1 : Int32) : Option (K × Int32) := none
def f_J3_checkIndex_8e157 (E : EE) (κ : K) (a0 : Int32) (a1 : Int32) : Option (K × Int32) := if a0 < 0 then f_J3_checkIndex_8e157_b9 E κ a0 a1 else if a0 < a1 then some (κ, a0) else f_J3_checkIndex_8e157_b9 E κ a0 a1
set_option maxHeartbeats 4000000 in
set_option maxRecDepth 100000 in
theorem w_J3_checkIndex_8e157_b9 {l0 : Launch} (hfl : l0.stackTraces = false) {X : MX} {B : BX (EE × K)} {g : GP} {E : EE} {κ' : K} {rr : Int32} (O : CK l0 X B g cJ3_checkIndex_8e157 RJ3 1 0) (hKP : KPok B E) (hmL : B.2.2.2.1 = 3) (hE : ∀ (pc : Nat) (lv : List (Nat × AV)), decode cJ3_checkIndex_8e157 pc = .ok (.ireturn, 1) → J X B (E, κ') pc lv [.inl (.int rr)]) : ∀ (κ : K) (x0 : Int32) (x1 : Int32), f_J3_checkIndex_8e157_b9 E κ x0 x1 = some (κ', rr) → J X B (E, κ) 9 [(0, .inl (.int x0)), (1, .inl (.int x1)), (2, .inr none)] [] := by
  intro κ x0 x1 h
  unfold f_J3_checkIndex_8e157_b9 at h
  refine J_aload_n O.mo dJ3_checkIndex_8e157_9 2 rfl ?_
  refine J_iload_n O.mo dJ3_checkIndex_8e157_10 0 rfl ?_
  refine J_iload_n O.mo dJ3_checkIndex_8e157_11 1 rfl ?_
  refine J_sub [] rfl ?_
  cases h
set_option maxHeartbeats 4000000 in
set_option maxRecDepth 100000 in
theorem w_J3_checkIndex_8e157 {l0 : Launch} (hfl : l0.stackTraces = false) {X : MX} {B : BX (EE × K)} {g : GP} {E : EE} {κ' : K} {rr : Int32} (O : CK l0 X B g cJ3_checkIndex_8e157 RJ3 1 0) (hKP : KPok B E) (hmL : B.2.2.2.1 = 3) (hE : ∀ (pc : Nat) (lv : List (Nat × AV)), decode cJ3_checkIndex_8e157 pc = .ok (.ireturn, 1) → J X B (E, κ') pc lv [.inl (.int rr)]) : ∀ (κ : K) (a0 : Int32) (a1 : Int32), f_J3_checkIndex_8e157 E κ a0 a1 = some (κ', rr) → J X B (E, κ) 0 [(0, .inl (.int a0)), (1, .inl (.int a1)), (2, .inr none)] [] := by
  intro κ a0 a1 h
  unfold f_J3_checkIndex_8e157 at h
  refine J_iload_n O.mo dJ3_checkIndex_8e157_0 0 rfl ?_
  refine J_if_lt O.mo (tgt := 9) dJ3_checkIndex_8e157_1 (by decide) (fun hc1 => ?_) (fun hc1 => ?_)
  · replace h := (if_pos hc1).symm.trans h
    exact w_J3_checkIndex_8e157_b9 hfl O hKP hmL hE _ _ _ h
  · replace h := (if_neg hc1).symm.trans h
    refine J_iload_n O.mo dJ3_checkIndex_8e157_4 0 rfl ?_
    refine J_iload_n O.mo dJ3_checkIndex_8e157_5 1 rfl ?_
    refine J_icmp_lt O.mo (tgt := 16) dJ3_checkIndex_8e157_6 (by decide) (fun hc2 => ?_) (fun hc2 => ?_)
    · replace h := (if_pos hc2).symm.trans h
      refine J_iload_n O.mo dJ3_checkIndex_8e157_16 0 rfl ?_
      cases h
      exact hE _ _ dJ3_checkIndex_8e157_17
    · replace h := (if_neg hc2).symm.trans h
      exact w_J3_checkIndex_8e157_b9 hfl O hKP hmL hE _ _ _ h
theorem c_J3_checkIndex_8e157 {l : Launch} (hfl : l.stackTraces = false) {E : EE} {κ κ' : K} {a0 : Int32} {a1 : Int32} {rr : Int32} (h : f_J3_checkIndex_8e157 E κ a0 a1 = some (κ', rr)) : Con l yJ3_checkIndex_8e157 cJ3_checkIndex_8e157 3 (some .int) 1 0 [.inl (.int a0), .inl (.int a1), .inr none] (E, κ) (E, κ') (some (.inl (.int rr))) := by
  exact Con_of hfl (by decide +kernel) (Nat.le_of_ble_eq_true rfl) rfl ⟨_, rfl, rfl⟩ (fun X B g O hKP hmL hE => w_J3_checkIndex_8e157 hfl O hKP hmL hE _ _ _ h)
def f_J15_checkIndex_7cf53 (E : EE) (κ : K) (a0 : Int32) (a1 : Int32) : Option (K × Int32) := bd (f_J3_checkIndex_8e157 E κ a0 a1) fun κ1 r3 => some (κ1, r3)
set_option maxHeartbeats 4000000 in
set_option maxRecDepth 100000 in
theorem w_J15_checkIndex_7cf53 {l0 : Launch} (hfl : l0.stackTraces = false) {X : MX} {B : BX (EE × K)} {g : GP} {E : EE} {κ' : K} {rr : Int32} (O : CK l0 X B g cJ15_checkIndex_7cf53 RJ15 2 22) (hKP : KPok B E) (hmL : B.2.2.2.1 = 2) (hE : ∀ (pc : Nat) (lv : List (Nat × AV)), decode cJ15_checkIndex_7cf53 pc = .ok (.ireturn, 1) → J X B (E, κ') pc lv [.inl (.int rr)]) : ∀ (κ : K) (a0 : Int32) (a1 : Int32), f_J15_checkIndex_7cf53 E κ a0 a1 = some (κ', rr) → J X B (E, κ) 0 [(0, .inl (.int a0)), (1, .inl (.int a1))] [] := by
  intro κ a0 a1 h
  unfold f_J15_checkIndex_7cf53 at h
  refine J_iload_n O.mo dJ15_checkIndex_7cf53_0 0 rfl ?_
  refine J_iload_n O.mo dJ15_checkIndex_7cf53_1 1 rfl ?_
  refine J_null O.mo dJ15_checkIndex_7cf53_2 ?_
  refine J_sub [] rfl ?_
  obtain ⟨κ1, r3, hq2, h⟩ := bd_some h
  refine J_callS O hKP (as := [.inl (.int a0), .inl (.int a1), .inr none]) (rest := []) (r := (some (.inl (.int r3)))) (c_J3_checkIndex_8e157 hfl hq2) rfl mw33 mw34 mw35 mw36 pd_J3_checkIndex_8e157 rfl (by decide) rfl (Nat.le_of_ble_eq_true rfl) sl_0 st_0 dJ15_checkIndex_7cf53_3 ?_
  show J X B (E, κ1) 6 [] [.inl (.int r3)]
  cases h
  exact hE _ _ dJ15_checkIndex_7cf53_6
theorem c_J15_checkIndex_7cf53 {l : Launch} (hfl : l.stackTraces = false) {E : EE} {κ κ' : K} {a0 : Int32} {a1 : Int32} {rr : Int32} (h : f_J15_checkIndex_7cf53 E κ a0 a1 = some (κ', rr)) : Con l yJ15_checkIndex_7cf53 cJ15_checkIndex_7cf53 2 (some .int) 2 22 [.inl (.int a0), .inl (.int a1)] (E, κ) (E, κ') (some (.inl (.int rr))) := by
  exact Con_of hfl (by decide +kernel) (Nat.le_of_ble_eq_true rfl) rfl ⟨_, rfl, rfl⟩ (fun X B g O hKP hmL hE => w_J15_checkIndex_7cf53 hfl O hKP hmL hE _ _ _ h)
def f_Jx4a65c_elementData_915e3_L1 (E : EE) (κ : K) (a1 : Int32) : Option (K × Nat) := gd (kP κ 4 0 1 1 = some 0 ∧ ¬ cnt4 E 1 = 0) (gd (¬ (a1 < 0 ∨ 10 ≤ a1.toNatClampNeg)) (optG (kP κ 4 0 4 a1.toNatClampNeg) (cntE E 0) none (fun j3 => some (κ, j3))))
set_option maxHeartbeats 4000000 in
set_option maxRecDepth 100000 in
theorem w_Jx4a65c_elementData_915e3_L1 {l0 : Launch} (hfl : l0.stackTraces = false) {X : MX} {B : BX (EE × K)} {g : GP} {E : EE} {κ' : K} {rr : Nat} (O : CK l0 X B g cJx4a65c_elementData_915e3 RJx4a65c 1 0) (hKP : KPok B E) (hmL : B.2.2.2.1 = 2) (hE : ∀ (pc : Nat) (lv : List (Nat × AV)), decode cJx4a65c_elementData_915e3 pc = .ok (.areturn, 1) → J X B (E, κ') pc lv [.inr (some (0, rr, 0))]) (h0 : PC 10 E 4 0 0) : ∀ (κ : K) (a1 : Int32), f_Jx4a65c_elementData_915e3_L1 E κ a1 = some (κ', rr) → J X B (E, κ) 0 [(0, .inr (some (4, 0, 1))), (1, .inl (.int a1))] [] := by
  intro κ a1 h
  unfold f_Jx4a65c_elementData_915e3_L1 at h
  refine J_aload_n O.mo dJx4a65c_elementData_915e3_0 0 rfl ?_
  obtain ⟨hg1, h⟩ := gd_some h
  refine J_getF O.co (kd0 := 0) (k10_1 h0) (l10_1 h0) (C := RJx4a65c) (T := TJx4a65c) (N := 3) rfl (by decide) rfl in_Jx4a65c 1 (by decide) (v := .inr (some (4, 0, 4))) (by rw [hg1.1]; rfl) mw41 rfl dJx4a65c_elementData_915e3_1 ?_
  refine J_iload_n O.mo dJx4a65c_elementData_915e3_4 1 rfl ?_
  obtain ⟨hg2, h⟩ := gd_some h
  replace h := optG_some h
  rcases h with ⟨ho5, h⟩ | ⟨j3, ho5, hj4, h⟩
  · cases h
  · refine J_aaldL O.co (live_24 h0 hg1.2 (by decide)) (by decide) hg2 (v := .inr (some (0, j3, 0))) (by rw [ho5]; rfl) dJx4a65c_elementData_915e3_5 ?_
    cases h
    exact hE _ _ dJx4a65c_elementData_915e3_6
theorem c_Jx4a65c_elementData_915e3_L1 {l : Launch} (hfl : l.stackTraces = false) {E : EE} {κ κ' : K} {a1 : Int32} (h0 : PC 10 E 4 0 0) {rr : Nat} (h : f_Jx4a65c_elementData_915e3_L1 E κ a1 = some (κ', rr)) : Con l yJx4a65c_elementData_915e3 cJx4a65c_elementData_915e3 2 (some (.object "java/lang/Object")) 1 0 [.inr (some (4, 0, 1)), .inl (.int a1)] (E, κ) (E, κ') (some (.inr (some (0, rr, 0)))) := by
  exact Con_of hfl (by decide +kernel) (Nat.le_of_ble_eq_true rfl) rfl ⟨_, rfl, Or.inl ⟨_, rfl⟩⟩ (fun X B g O hKP hmL hE => w_Jx4a65c_elementData_915e3_L1 hfl O hKP hmL hE h0 _ _ h)
def f_Jx4a65c_get_915e3_L1 (E : EE) (κ : K) (a1 : Int32) : Option (K × Nat) := bd (f_J15_checkIndex_7cf53 E κ a1 (kV κ 4 0 1 2)) fun κ1 r3 => bd (f_Jx4a65c_elementData_915e3_L1 E κ1 a1) fun κ4 r6 => gd (r6 < cntE E 0) (some (κ4, r6))
set_option maxHeartbeats 4000000 in
set_option maxRecDepth 100000 in
theorem w_Jx4a65c_get_915e3_L1 {l0 : Launch} (hfl : l0.stackTraces = false) {X : MX} {B : BX (EE × K)} {g : GP} {E : EE} {κ' : K} {rr : Nat} (O : CK l0 X B g cJx4a65c_get_915e3 RJx4a65c 3 43) (hKP : KPok B E) (hmL : B.2.2.2.1 = 2) (hE : ∀ (pc : Nat) (lv : List (Nat × AV)), decode cJx4a65c_get_915e3 pc = .ok (.areturn, 1) → J X B (E, κ') pc lv [.inr (some (0, rr, 0))]) (h0 : PC 10 E 4 0 0) : ∀ (κ : K) (a1 : Int32), f_Jx4a65c_get_915e3_L1 E κ a1 = some (κ', rr) → J X B (E, κ) 0 [(0, .inr (some (4, 0, 1))), (1, .inl (.int a1))] [] := by
  intro κ a1 h
  unfold f_Jx4a65c_get_915e3_L1 at h
  refine J_iload_n O.mo dJx4a65c_get_915e3_0 1 rfl ?_
  refine J_aload_n O.mo dJx4a65c_get_915e3_1 0 rfl ?_
  refine J_getF O.co (kd0 := 0) (k10_1 h0) (l10_1 h0) (C := RJx4a65c) (T := TJx4a65c) (N := 3) rfl (by decide) rfl in_Jx4a65c 2 (by decide) (v := .inl (.int (kV κ 4 0 1 2))) rfl mw32 rfl dJx4a65c_get_915e3_2 ?_
  obtain ⟨κ1, r3, hq2, h⟩ := bd_some h
  refine J_callS O hKP (as := [.inl (.int a1), .inl (.int (kV κ 4 0 1 2))]) (rest := []) (r := (some (.inl (.int r3)))) (c_J15_checkIndex_7cf53 hfl hq2) rfl mw37 mw38 mw39 mw40 pd_J15_checkIndex_7cf53 rfl (by decide) rfl (Nat.le_of_ble_eq_true rfl) (sl_p (s10_1 h0) (sl_v sl_0)) st_0 dJx4a65c_get_915e3_5 ?_
  show J X B (E, κ1) 8 [(0, .inr (some (4, 0, 1))), (1, .inl (.int a1))] [.inl (.int r3)]
  refine J_pop O.mo dJx4a65c_get_915e3_8 rfl ?_
  refine J_aload_n O.mo dJx4a65c_get_915e3_9 0 rfl ?_
  refine J_iload_n O.mo dJx4a65c_get_915e3_10 1 rfl ?_
  refine J_sub [] rfl ?_
  obtain ⟨κ4, r6, hq5, h⟩ := bd_some h
  obtain ⟨hj7, h⟩ := gd_some h
  refine J_callV O hKP (as := [.inl (.int a1)]) (rest := []) (r := some (.inr (some (0, r6, 0)))) (c_Jx4a65c_elementData_915e3_L1 hfl h0 hq5) rfl (kd0 := 0) (k10_1 h0) (l10_1 h0) (T := TJx4a65c) (N := 3) rfl (by decide) mw42 mw43 mw44 mw45 mw46 pd_Jx4a65c_elementData_915e3 rfl (by decide) rfl (Nat.le_of_ble_eq_true rfl) sl_0 st_0 dJx4a65c_get_915e3_11 ?_
  show J X B (E, κ4) 14 [] [.inr (some (0, r6, 0))]
  cases h
  exact hE _ _ dJx4a65c_get_915e3_14
theorem c_Jx4a65c_get_915e3_L1 {l : Launch} (hfl : l.stackTraces = false) {E : EE} {κ κ' : K} {a1 : Int32} (h0 : PC 10 E 4 0 0) {rr : Nat} (h : f_Jx4a65c_get_915e3_L1 E κ a1 = some (κ', rr)) : Con l yJx4a65c_get_915e3 cJx4a65c_get_915e3 2 (some (.object "java/lang/Object")) 3 43 [.inr (some (4, 0, 1)), .inl (.int a1)] (E, κ) (E, κ') (some (.inr (some (0, rr, 0)))) := by
  exact Con_of hfl (by decide +kernel) (Nat.le_of_ble_eq_true rfl) rfl ⟨_, rfl, Or.inl ⟨_, rfl⟩⟩ (fun X B g O hKP hmL hE => w_Jx4a65c_get_915e3_L1 hfl O hKP hmL hE h0 _ _ h)
def f_Jx4a65c_elementData_915e3_L2 (E : EE) (κ : K) (a1 : Int32) : Option (K × Nat) := gd (kP κ 4 0 2 1 = some 0 ∧ ¬ cnt4 E 2 = 0) (gd (¬ (a1 < 0 ∨ 10 ≤ a1.toNatClampNeg)) (optG (kP κ 4 0 5 a1.toNatClampNeg) (cntE E 1) none (fun j3 => some (κ, j3))))
set_option maxHeartbeats 4000000 in
set_option maxRecDepth 100000 in
theorem w_Jx4a65c_elementData_915e3_L2 {l0 : Launch} (hfl : l0.stackTraces = false) {X : MX} {B : BX (EE × K)} {g : GP} {E : EE} {κ' : K} {rr : Nat} (O : CK l0 X B g cJx4a65c_elementData_915e3 RJx4a65c 1 0) (hKP : KPok B E) (hmL : B.2.2.2.1 = 2) (hE : ∀ (pc : Nat) (lv : List (Nat × AV)), decode cJx4a65c_elementData_915e3 pc = .ok (.areturn, 1) → J X B (E, κ') pc lv [.inr (some (1, rr, 0))]) (h0 : PC 10 E 4 0 0) : ∀ (κ : K) (a1 : Int32), f_Jx4a65c_elementData_915e3_L2 E κ a1 = some (κ', rr) → J X B (E, κ) 0 [(0, .inr (some (4, 0, 2))), (1, .inl (.int a1))] [] := by
  intro κ a1 h
  unfold f_Jx4a65c_elementData_915e3_L2 at h
  refine J_aload_n O.mo dJx4a65c_elementData_915e3_0 0 rfl ?_
  obtain ⟨hg1, h⟩ := gd_some h
  refine J_getF O.co (kd0 := 0) (k10_2 h0) (l10_2 h0) (C := RJx4a65c) (T := TJx4a65c) (N := 3) rfl (by decide) rfl in_Jx4a65c 1 (by decide) (v := .inr (some (4, 0, 5))) (by rw [hg1.1]; rfl) mw41 rfl dJx4a65c_elementData_915e3_1 ?_
  refine J_iload_n O.mo dJx4a65c_elementData_915e3_4 1 rfl ?_
  obtain ⟨hg2, h⟩ := gd_some h
  replace h := optG_some h
  rcases h with ⟨ho5, h⟩ | ⟨j3, ho5, hj4, h⟩
  · cases h
  · refine J_aaldL O.co (live_24 h0 hg1.2 (by decide)) (by decide) hg2 (v := .inr (some (1, j3, 0))) (by rw [ho5]; rfl) dJx4a65c_elementData_915e3_5 ?_
    cases h
    exact hE _ _ dJx4a65c_elementData_915e3_6
theorem c_Jx4a65c_elementData_915e3_L2 {l : Launch} (hfl : l.stackTraces = false) {E : EE} {κ κ' : K} {a1 : Int32} (h0 : PC 10 E 4 0 0) {rr : Nat} (h : f_Jx4a65c_elementData_915e3_L2 E κ a1 = some (κ', rr)) : Con l yJx4a65c_elementData_915e3 cJx4a65c_elementData_915e3 2 (some (.object "java/lang/Object")) 1 0 [.inr (some (4, 0, 2)), .inl (.int a1)] (E, κ) (E, κ') (some (.inr (some (1, rr, 0)))) := by
  exact Con_of hfl (by decide +kernel) (Nat.le_of_ble_eq_true rfl) rfl ⟨_, rfl, Or.inl ⟨_, rfl⟩⟩ (fun X B g O hKP hmL hE => w_Jx4a65c_elementData_915e3_L2 hfl O hKP hmL hE h0 _ _ h)
def f_Jx4a65c_get_915e3_L2 (E : EE) (κ : K) (a1 : Int32) : Option (K × Nat) := bd (f_J15_checkIndex_7cf53 E κ a1 (kV κ 4 0 2 2)) fun κ1 r3 => bd (f_Jx4a65c_elementData_915e3_L2 E κ1 a1) fun κ4 r6 => gd (r6 < cntE E 1) (some (κ4, r6))
set_option maxHeartbeats 4000000 in
set_option maxRecDepth 100000 in
theorem w_Jx4a65c_get_915e3_L2 {l0 : Launch} (hfl : l0.stackTraces = false) {X : MX} {B : BX (EE × K)} {g : GP} {E : EE} {κ' : K} {rr : Nat} (O : CK l0 X B g cJx4a65c_get_915e3 RJx4a65c 3 43) (hKP : KPok B E) (hmL : B.2.2.2.1 = 2) (hE : ∀ (pc : Nat) (lv : List (Nat × AV)), decode cJx4a65c_get_915e3 pc = .ok (.areturn, 1) → J X B (E, κ') pc lv [.inr (some (1, rr, 0))]) (h0 : PC 10 E 4 0 0) : ∀ (κ : K) (a1 : Int32), f_Jx4a65c_get_915e3_L2 E κ a1 = some (κ', rr) → J X B (E, κ) 0 [(0, .inr (some (4, 0, 2))), (1, .inl (.int a1))] [] := by
  intro κ a1 h
  unfold f_Jx4a65c_get_915e3_L2 at h
  refine J_iload_n O.mo dJx4a65c_get_915e3_0 1 rfl ?_
  refine J_aload_n O.mo dJx4a65c_get_915e3_1 0 rfl ?_
  refine J_getF O.co (kd0 := 0) (k10_2 h0) (l10_2 h0) (C := RJx4a65c) (T := TJx4a65c) (N := 3) rfl (by decide) rfl in_Jx4a65c 2 (by decide) (v := .inl (.int (kV κ 4 0 2 2))) rfl mw32 rfl dJx4a65c_get_915e3_2 ?_
  obtain ⟨κ1, r3, hq2, h⟩ := bd_some h
  refine J_callS O hKP (as := [.inl (.int a1), .inl (.int (kV κ 4 0 2 2))]) (rest := []) (r := (some (.inl (.int r3)))) (c_J15_checkIndex_7cf53 hfl hq2) rfl mw37 mw38 mw39 mw40 pd_J15_checkIndex_7cf53 rfl (by decide) rfl (Nat.le_of_ble_eq_true rfl) (sl_p (s10_2 h0) (sl_v sl_0)) st_0 dJx4a65c_get_915e3_5 ?_
  show J X B (E, κ1) 8 [(0, .inr (some (4, 0, 2))), (1, .inl (.int a1))] [.inl (.int r3)]
  refine J_pop O.mo dJx4a65c_get_915e3_8 rfl ?_
  refine J_aload_n O.mo dJx4a65c_get_915e3_9 0 rfl ?_
  refine J_iload_n O.mo dJx4a65c_get_915e3_10 1 rfl ?_
  refine J_sub [] rfl ?_
  obtain ⟨κ4, r6, hq5, h⟩ := bd_some h
  obtain ⟨hj7, h⟩ := gd_some h
  refine J_callV O hKP (as := [.inl (.int a1)]) (rest := []) (r := some (.inr (some (1, r6, 0)))) (c_Jx4a65c_elementData_915e3_L2 hfl h0 hq5) rfl (kd0 := 0) (k10_2 h0) (l10_2 h0) (T := TJx4a65c) (N := 3) rfl (by decide) mw42 mw43 mw44 mw45 mw46 pd_Jx4a65c_elementData_915e3 rfl (by decide) rfl (Nat.le_of_ble_eq_true rfl) sl_0 st_0 dJx4a65c_get_915e3_11 ?_
  show J X B (E, κ4) 14 [] [.inr (some (1, r6, 0))]
  cases h
  exact hE _ _ dJx4a65c_get_915e3_14
theorem c_Jx4a65c_get_915e3_L2 {l : Launch} (hfl : l.stackTraces = false) {E : EE} {κ κ' : K} {a1 : Int32} (h0 : PC 10 E 4 0 0) {rr : Nat} (h : f_Jx4a65c_get_915e3_L2 E κ a1 = some (κ', rr)) : Con l yJx4a65c_get_915e3 cJx4a65c_get_915e3 2 (some (.object "java/lang/Object")) 3 43 [.inr (some (4, 0, 2)), .inl (.int a1)] (E, κ) (E, κ') (some (.inr (some (1, rr, 0)))) := by
  exact Con_of hfl (by decide +kernel) (Nat.le_of_ble_eq_true rfl) rfl ⟨_, rfl, Or.inl ⟨_, rfl⟩⟩ (fun X B g O hKP hmL hE => w_Jx4a65c_get_915e3_L2 hfl O hKP hmL hE h0 _ _ h)
