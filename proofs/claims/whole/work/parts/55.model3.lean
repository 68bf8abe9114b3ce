theorem k11_3 {E : EE} {f i c : Nat} (h : PC 11 E f i c) : kd f (c + 3) = 20 := PC_kd h 3 (by decide)
theorem l11_3 {E : EE} {f i c : Nat} (h : PC 11 E f i c) : liveC E f i (c + 3) = true := PC_lv h 3 (by decide) (by decide)
theorem s11_3 {E : EE} {f i c : Nat} (h : PC 11 E f i c) : Stab E (.inr (some (f, i, c + 3))) := PC_st h 3 (by decide) (by decide) (by decide)
theorem n11_3 {E : EE} {f i c : Nat} (h : PC 11 E f i c) : sl f (c + 3) = 275 := PC_sl h 3 (by decide)
theorem k11_4 {E : EE} {f i c : Nat} (h : PC 11 E f i c) : kd f (c + 4) = 20 := PC_kd h 4 (by decide)
theorem l11_4 {E : EE} {f i c : Nat} (h : PC 11 E f i c) : liveC E f i (c + 4) = true := PC_lv h 4 (by decide) (by decide)
theorem s11_4 {E : EE} {f i c : Nat} (h : PC 11 E f i c) : Stab E (.inr (some (f, i, c + 4))) := PC_st h 4 (by decide) (by decide) (by decide)
theorem n11_4 {E : EE} {f i c : Nat} (h : PC 11 E f i c) : sl f (c + 4) = 2560 := PC_sl h 4 (by decide)
theorem k11_7 {E : EE} {f i c : Nat} (h : PC 11 E f i c) : kd f (c + 7) = 20 := PC_kd h 7 (by decide)
theorem l11_7 {E : EE} {f i c : Nat} (h : PC 11 E f i c) : liveC E f i (c + 7) = true := PC_lv h 7 (by decide) (by decide)
theorem s11_7 {E : EE} {f i c : Nat} (h : PC 11 E f i c) : Stab E (.inr (some (f, i, c + 7))) := PC_st h 7 (by decide) (by decide) (by decide)
theorem n11_7 {E : EE} {f i c : Nat} (h : PC 11 E f i c) : sl f (c + 7) = 550 := PC_sl h 7 (by decide)
theorem k11_8 {E : EE} {f i c : Nat} (h : PC 11 E f i c) : kd f (c + 8) = 20 := PC_kd h 8 (by decide)
theorem l11_8 {E : EE} {f i c : Nat} (h : PC 11 E f i c) : liveC E f i (c + 8) = true := PC_lv h 8 (by decide) (by decide)
theorem s11_8 {E : EE} {f i c : Nat} (h : PC 11 E f i c) : Stab E (.inr (some (f, i, c + 8))) := PC_st h 8 (by decide) (by decide) (by decide)
theorem n11_8 {E : EE} {f i c : Nat} (h : PC 11 E f i c) : sl f (c + 8) = 5120 := PC_sl h 8 (by decide)
theorem k11_9 {E : EE} {f i c : Nat} (h : PC 11 E f i c) : kd f (c + 9) = 20 := PC_kd h 9 (by decide)
theorem l11_9 {E : EE} {f i c : Nat} (h : PC 11 E f i c) : liveC E f i (c + 9) = true := PC_lv h 9 (by decide) (by decide)
theorem s11_9 {E : EE} {f i c : Nat} (h : PC 11 E f i c) : Stab E (.inr (some (f, i, c + 9))) := PC_st h 9 (by decide) (by decide) (by decide)
theorem n11_9 {E : EE} {f i c : Nat} (h : PC 11 E f i c) : sl f (c + 9) = 10 := PC_sl h 9 (by decide)
theorem k11_10 {E : EE} {f i c : Nat} (h : PC 11 E f i c) : kd f (c + 10) = 20 := PC_kd h 10 (by decide)
theorem l11_10 {E : EE} {f i c : Nat} (h : PC 11 E f i c) : liveC E f i (c + 10) = true := PC_lv h 10 (by decide) (by decide)
theorem s11_10 {E : EE} {f i c : Nat} (h : PC 11 E f i c) : Stab E (.inr (some (f, i, c + 10))) := PC_st h 10 (by decide) (by decide) (by decide)
theorem n11_10 {E : EE} {f i c : Nat} (h : PC 11 E f i c) : sl f (c + 10) = 10 := PC_sl h 10 (by decide)
set_option maxRecDepth 100000 in
theorem mw648 : Cond.methodLink RX11 223 yX11_isZero ∈ gwl := gwl_tb 1475 rfl rfl
set_option maxRecDepth 100000 in
theorem mw649 : Cond.instanceMethod yX11_isZero ∈ gwl := gwl_tb 1477 rfl rfl
set_option maxRecDepth 100000 in
theorem mw650 : Cond.selects RX11 yX11_isZero yX11_isZero ∈ gwl := gwl_sl 48 rfl rfl
set_option maxRecDepth 100000 in
theorem mw651 : Cond.code yX11_isZero cX11_isZero 6 (some .boolean) ∈ gwl := gwl_tb 1478 rfl rfl
set_option maxRecDepth 100000 in
theorem mw652 : Cond.fieldLink RX11 227 "GuestHallModel" "snapshots" "I" ∈ gwl := gwl_tb 1195 rfl rfl
set_option maxRecDepth 100000 in
theorem mw653 : Cond.fieldLink RX11 28 "GuestHallModel" "snaps" "[I" ∈ gwl := gwl_tb 1191 rfl rfl
set_option maxRecDepth 100000 in
theorem mw654 : Cond.fieldLink RX11 31 "GuestHallModel" "snapQueue" "[I" ∈ gwl := gwl_tb 1192 rfl rfl
set_option maxRecDepth 100000 in
theorem mw655 : Cond.methodLink RX11 230 yX11_keep ∈ gwl := gwl_tb 1463 rfl rfl
set_option maxRecDepth 100000 in
theorem mw656 : Cond.instanceMethod yX11_keep ∈ gwl := gwl_tb 1465 rfl rfl
set_option maxRecDepth 100000 in
theorem mw657 : Cond.selects RX11 yX11_keep yX11_keep ∈ gwl := gwl_sl 46 rfl rfl
set_option maxRecDepth 100000 in
theorem mw658 : Cond.code yX11_keep cX11_keep 7 none ∈ gwl := gwl_tb 1466 rfl rfl
set_option maxRecDepth 100000 in
theorem mw659 : Cond.fieldLink RX11 34 "GuestHallModel" "snapOf" "[I" ∈ gwl := gwl_tb 1193 rfl rfl
set_option maxRecDepth 100000 in
theorem mw660 : Cond.fieldLink RX11 37 "GuestHallModel" "storedOf" "[I" ∈ gwl := gwl_tb 1194 rfl rfl
set_option maxRecDepth 100000 in
theorem mw661 : Cond.methodLink RX11 234 yX11_giveBack ∈ gwl := gwl_tb 1471 rfl rfl
set_option maxRecDepth 100000 in
theorem mw662 : Cond.instanceMethod yX11_giveBack ∈ gwl := gwl_tb 1473 rfl rfl
set_option maxRecDepth 100000 in
theorem mw663 : Cond.selects RX11 yX11_giveBack yX11_giveBack ∈ gwl := gwl_sl 47 rfl rfl
set_option maxRecDepth 100000 in
theorem mw664 : Cond.code yX11_giveBack cX11_giveBack 9 (some .int) ∈ gwl := gwl_tb 1474 rfl rfl
set_option maxRecDepth 100000 in
theorem mw665 : Cond.fieldLink RX11 16 "GuestHallModel" "steps" "[I" ∈ gwl := gwl_tb 1187 rfl rfl
set_option maxRecDepth 100000 in
theorem mw666 : Cond.fieldLink RX11 19 "GuestHallModel" "stepQueue" "[I" ∈ gwl := gwl_tb 1188 rfl rfl
set_option maxRecDepth 100000 in
theorem mw667 : Cond.methodLink RX11 238 yX11_letOut ∈ gwl := gwl_tb 1487 rfl rfl
set_option maxRecDepth 100000 in
theorem mw668 : Cond.instanceMethod yX11_letOut ∈ gwl := gwl_tb 1489 rfl rfl
set_option maxRecDepth 100000 in
theorem mw669 : Cond.selects RX11 yX11_letOut yX11_letOut ∈ gwl := gwl_sl 50 rfl rfl
set_option maxRecDepth 100000 in
theorem mw670 : Cond.code yX11_letOut cX11_letOut 4 (some .int) ∈ gwl := gwl_tb 1490 rfl rfl
set_option maxRecDepth 100000 in
theorem mw671 : Cond.methodLink RX11 241 yX11_stepOf ∈ gwl := gwl_tb 1483 rfl rfl
set_option maxRecDepth 100000 in
theorem mw672 : Cond.instanceMethod yX11_stepOf ∈ gwl := gwl_tb 1485 rfl rfl
set_option maxRecDepth 100000 in
theorem mw673 : Cond.selects RX11 yX11_stepOf yX11_stepOf ∈ gwl := gwl_sl 49 rfl rfl
set_option maxRecDepth 100000 in
theorem mw674 : Cond.code yX11_stepOf cX11_stepOf 2 (some .int) ∈ gwl := gwl_tb 1486 rfl rfl
set_option maxRecDepth 100000 in
theorem mw675 : Cond.methodLink RX11 247 yX11_die ∈ gwl := gwl_tb 1503 rfl rfl
set_option maxRecDepth 100000 in
theorem mw676 : Cond.instanceMethod yX11_die ∈ gwl := gwl_tb 1505 rfl rfl
set_option maxRecDepth 100000 in
theorem mw677 : Cond.selects RX11 yX11_die yX11_die ∈ gwl := gwl_sl 52 rfl rfl
set_option maxRecDepth 100000 in
theorem mw678 : Cond.code yX11_die cX11_die 3 none ∈ gwl := gwl_tb 1506 rfl rfl
set_option maxRecDepth 100000 in
theorem mw679 : Cond.methodLink RX11 244 yX11_goOn ∈ gwl := gwl_tb 1499 rfl rfl
set_option maxRecDepth 100000 in
theorem mw680 : Cond.instanceMethod yX11_goOn ∈ gwl := gwl_tb 1501 rfl rfl
set_option maxRecDepth 100000 in
theorem mw681 : Cond.selects RX11 yX11_goOn yX11_goOn ∈ gwl := gwl_sl 51 rfl rfl
set_option maxRecDepth 100000 in
theorem mw682 : Cond.code yX11_goOn cX11_goOn 3 none ∈ gwl := gwl_tb 1502 rfl rfl
theorem pd_X11_isZero : (yX11_isZero).cls ≠ "java/lang/invoke/MethodHandle" ∧ (yX11_isZero).cls ≠ "java/lang/invoke/VarHandle" ∧ (parseMethodDescriptor (yX11_isZero).desc).map (fun d => d.parameters.length) = some 3 := ⟨by decide +kernel, by decide +kernel, by decide +kernel⟩
theorem pd_X11_keep : (yX11_keep).cls ≠ "java/lang/invoke/MethodHandle" ∧ (yX11_keep).cls ≠ "java/lang/invoke/VarHandle" ∧ (parseMethodDescriptor (yX11_keep).desc).map (fun d => d.parameters.length) = some 5 := ⟨by decide +kernel, by decide +kernel, by decide +kernel⟩
theorem pd_X11_giveBack : (yX11_giveBack).cls ≠ "java/lang/invoke/MethodHandle" ∧ (yX11_giveBack).cls ≠ "java/lang/invoke/VarHandle" ∧ (parseMethodDescriptor (yX11_giveBack).desc).map (fun d => d.parameters.length) = some 5 := ⟨by decide +kernel, by decide +kernel, by decide +kernel⟩
theorem pd_X11_letOut : (yX11_letOut).cls ≠ "java/lang/invoke/MethodHandle" ∧ (yX11_letOut).cls ≠ "java/lang/invoke/VarHandle" ∧ (parseMethodDescriptor (yX11_letOut).desc).map (fun d => d.parameters.length) = some 1 := ⟨by decide +kernel, by decide +kernel, by decide +kernel⟩
theorem pd_X11_stepOf : (yX11_stepOf).cls ≠ "java/lang/invoke/MethodHandle" ∧ (yX11_stepOf).cls ≠ "java/lang/invoke/VarHandle" ∧ (parseMethodDescriptor (yX11_stepOf).desc).map (fun d => d.parameters.length) = some 1 := ⟨by decide +kernel, by decide +kernel, by decide +kernel⟩
theorem pd_X11_die : (yX11_die).cls ≠ "java/lang/invoke/MethodHandle" ∧ (yX11_die).cls ≠ "java/lang/invoke/VarHandle" ∧ (parseMethodDescriptor (yX11_die).desc).map (fun d => d.parameters.length) = some 1 := ⟨by decide +kernel, by decide +kernel, by decide +kernel⟩
theorem pd_X11_goOn : (yX11_goOn).cls ≠ "java/lang/invoke/MethodHandle" ∧ (yX11_goOn).cls ≠ "java/lang/invoke/VarHandle" ∧ (parseMethodDescriptor (yX11_goOn).desc).map (fun d => d.parameters.length) = some 1 := ⟨by decide +kernel, by decide +kernel, by decide +kernel⟩
def f_X11_keep_b91 (E : EE) (f2 : Nat) (i2 : Nat) (c2 : Nat) (f4 : Nat) (i4 : Nat) (c4 : Nat) : Nat → K → Int32 → Int32 → Int32 → Option (K × Unit)
  | 0, _, _, _, _ => none
  | n + 1, κ, x1, x5, x6 => gd (¬ (((55 * x1) + 54) < 0 ∨ 275 ≤ ((55 * x1) + 54).toNatClampNeg)) (if (kV κ 5 0 1) ((55 * x1) + 54).toNatClampNeg ≤ x6 then some (κ, ()) else gd (¬ (((512 * x1) + x6) < 0 ∨ 2560 ≤ ((512 * x1) + x6).toNatClampNeg)) (gd (¬ ((x5 + x6) < 0 ∨ sl f4 c4 ≤ (x5 + x6).toNatClampNeg)) (nm (setV κ f4 i4 c4 (x5 + x6).toNatClampNeg ((kV κ 5 0 2) ((512 * x1) + x6).toNatClampNeg)) fun κ16 => nm (x6 + 1) fun y17 => f_X11_keep_b91 E f2 i2 c2 f4 i4 c4 n κ16 x1 x5 y17)))
def f_X11_keep_b76 (E : EE) (f2 : Nat) (i2 : Nat) (c2 : Nat) (f4 : Nat) (i4 : Nat) (c4 : Nat) (κ : K) (x1 : Int32) (x3 : Int32) (x5 : Int32) (xs0 : Int32) (xs1 : Int32) : Option (K × Unit) := gd (¬ (xs1 < 0 ∨ sl f2 c2 ≤ xs1.toNatClampNeg)) (nm (setV κ f2 i2 c2 xs1.toNatClampNeg xs0) fun κ6 => bd (f_X11_clock E κ6 x1) fun κ7 r9 => gd (¬ ((x3 + 53) < 0 ∨ sl f2 c2 ≤ (x3 + 53).toNatClampNeg)) (nm (setV κ7 f2 i2 c2 (x3 + 53).toNatClampNeg r9) fun κ11 => f_X11_keep_b91 E f2 i2 c2 f4 i4 c4 FU κ11 x1 x5 0))
def f_X11_keep_b34 (E : EE) (f2 : Nat) (i2 : Nat) (c2 : Nat) (f4 : Nat) (i4 : Nat) (c4 : Nat) (κ : K) (x1 : Int32) (x3 : Int32) (x5 : Int32) : Option (K × Unit) := gd (¬ (((55 * x1) + 50) < 0 ∨ 275 ≤ ((55 * x1) + 50).toNatClampNeg)) (if (kV κ 5 0 1) ((55 * x1) + 50).toNatClampNeg = (-1) then f_X11_keep_b76 E f2 i2 c2 f4 i4 c4 κ x1 x3 x5 ((-1)) (x3 + 50) else gd (¬ (((55 * x1) + 50) < 0 ∨ 275 ≤ ((55 * x1) + 50).toNatClampNeg)) (f_X11_keep_b76 E f2 i2 c2 f4 i4 c4 κ x1 x3 x5 (((kV κ 5 0 1) ((55 * x1) + 50).toNatClampNeg) - (kV κ 5 0 0 41)) (x3 + 50)))
def f_X11_keep_b3 (E : EE) (f2 : Nat) (i2 : Nat) (c2 : Nat) (f4 : Nat) (i4 : Nat) (c4 : Nat) : Nat → K → Int32 → Int32 → Int32 → Int32 → Option (K × Unit)
  | 0, _, _, _, _, _ => none
  | n + 1, κ, x1, x3, x5, x6 => if 55 ≤ x6 then f_X11_keep_b34 E f2 i2 c2 f4 i4 c4 κ x1 x3 x5 else gd (¬ (((55 * x1) + x6) < 0 ∨ 275 ≤ ((55 * x1) + x6).toNatClampNeg)) (gd (¬ ((x3 + x6) < 0 ∨ sl f2 c2 ≤ (x3 + x6).toNatClampNeg)) (nm (setV κ f2 i2 c2 (x3 + x6).toNatClampNeg ((kV κ 5 0 1) ((55 * x1) + x6).toNatClampNeg)) fun κ20 => nm (x6 + 1) fun y21 => f_X11_keep_b3 E f2 i2 c2 f4 i4 c4 n κ20 x1 x3 x5 y21))
def f_X11_keep (E : EE) (κ : K) (a1 : Int32) (f2 : Nat) (i2 : Nat) (c2 : Nat) (a3 : Int32) (f4 : Nat) (i4 : Nat) (c4 : Nat) (a5 : Int32) : Option (K × Unit) := f_X11_keep_b3 E f2 i2 c2 f4 i4 c4 FU κ a1 a3 a5 0
set_option maxHeartbeats 4000000 in
set_option maxRecDepth 100000 in
theorem w_X11_keep_b91 {l0 : Launch} (hfl : l0.stackTraces = false) {X : MX} {B : BX (EE × K)} {g : GP} {E : EE} {κ' : K} {rr : Unit} {f2 : Nat} {i2 : Nat} {c2 : Nat} {f4 : Nat} {i4 : Nat} {c4 : Nat} (O : CK l0 X B g cX11_keep RX11 3 41) (hKP : KPok B E) (hmL : B.2.2.2.1 = 7) (hE : ∀ (pc : Nat) (lv : List (Nat × AV)), decode cX11_keep pc = .ok (.return_, 1) → J X B (E, κ') pc lv []) (h0 : PC 11 E 5 0 0) (hk2 : kd f2 c2 = 20) (hl2 : liveC E f2 i2 c2 = true) (hk4 : kd f4 c4 = 20) (hl4 : liveC E f4 i4 c4 = true) : ∀ (n : Nat) (κ : K) (x1 : Int32) (x5 : Int32) (x6 : Int32), f_X11_keep_b91 E f2 i2 c2 f4 i4 c4 n κ x1 x5 x6 = some (κ', rr) → J X B (E, κ) 91 [(0, .inr (some (5, 0, 0))), (1, .inl (.int x1)), (4, .inr (some (f4, i4, c4))), (5, .inl (.int x5)), (6, .inl (.int x6))] [] := by
  intro n
  induction n with
  | zero => intro κ x1 x5 x6 h; cases h
  | succ n ih =>
    intro κ x1 x5 x6 h
    rw [f_X11_keep_b91] at h
    refine J_iload O.mo dX11_keep_91 4 rfl ?_
    refine J_aload_n O.mo dX11_keep_93 0 rfl ?_
    refine J_getF O.co (kd0 := 11) (k11_0 h0) (l11_0 h0) (C := RX11) (T := TX11) (N := 42) rfl (by decide) rfl in_X11 1 (by decide) (v := .inr (some (5, 0, 1))) rfl mw545 rfl dX11_keep_94 ?_
    refine J_bipush O.mo (v := 55) dX11_keep_97 (by decide) ?_
    refine J_iload_n O.mo dX11_keep_99 1 rfl ?_
    refine J_imul O.mo dX11_keep_100 ?_
    refine J_bipush O.mo (v := 54) dX11_keep_101 (by decide) ?_
    refine J_iadd O.mo dX11_keep_103 ?_
    obtain ⟨hg12, h⟩ := gd_some h
    refine J_iald O.co (g := (kV κ 5 0 1)) (ct_20n (l11_1 h0) (k11_1 h0) (n11_1 h0)) hg12 dX11_keep_104 ?_
    refine J_icmp_ge O.mo (tgt := 135) dX11_keep_105 (by decide) (fun hc13 => ?_) (fun hc13 => ?_)
    · replace h := (if_pos hc13).symm.trans h
      cases h
      exact hE _ _ dX11_keep_135
    · replace h := (if_neg hc13).symm.trans h
      refine J_aload O.mo dX11_keep_108 2 rfl ?_
      refine J_iload O.mo dX11_keep_110 3 rfl ?_
      refine J_iload O.mo dX11_keep_112 4 rfl ?_
      refine J_iadd O.mo dX11_keep_114 ?_
      refine J_aload_n O.mo dX11_keep_115 0 rfl ?_
      refine J_getF O.co (kd0 := 11) (k11_0 h0) (l11_0 h0) (C := RX11) (T := TX11) (N := 42) rfl (by decide) rfl in_X11 2 (by decide) (v := .inr (some (5, 0, 2))) rfl mw555 rfl dX11_keep_116 ?_
      refine J_sipush O.mo (v := 512) dX11_keep_119 (by decide) ?_
      refine J_iload_n O.mo dX11_keep_122 1 rfl ?_
      refine J_imul O.mo dX11_keep_123 ?_
      refine J_iload O.mo dX11_keep_124 4 rfl ?_
      refine J_iadd O.mo dX11_keep_126 ?_
      obtain ⟨hg14, h⟩ := gd_some h
      refine J_iald O.co (g := (kV κ 5 0 2)) (ct_20n (l11_2 h0) (k11_2 h0) (n11_2 h0)) hg14 dX11_keep_127 ?_
      obtain ⟨hg15, h⟩ := gd_some h
      refine row_20 O hl4 hk4 rfl hg15 (x := ((kV κ 5 0 2) ((512 * x1) + x6).toNatClampNeg)) dX11_keep_128 ?_
      refine nm_some (P := fun z => J X B (E, z) 129 [(0, .inr (some (5, 0, 0))), (1, .inl (.int x1)), (4, .inr (some (f4, i4, c4))), (5, .inl (.int x5)), (6, .inl (.int x6))] []) h (fun κ16 h => ?_)
      refine J_iinc O.mo (v := x6 + 1) (lv' := [(0, .inr (some (5, 0, 0))), (1, .inl (.int x1)), (4, .inr (some (f4, i4, c4))), (5, .inl (.int x5))]) dX11_keep_129 (by rw [hmL]; decide) 4 rfl (by rw [show Int32.ofInt (1) = (1 : Int32) from by decide]) rfl rfl ?_
      refine nm_some (P := fun z => J X B (E, κ16) 132 [(6, .inl (.int z)), (0, .inr (some (5, 0, 0))), (1, .inl (.int x1)), (4, .inr (some (f4, i4, c4))), (5, .inl (.int x5))] []) h (fun y17 h => ?_)
      refine J_goto O.mo (tgt := 91) dX11_keep_132 (by decide) ?_
      refine J_sub [1, 2, 3, 4, 0] rfl ?_
      exact ih _ _ _ _ h
set_option maxHeartbeats 4000000 in
set_option maxRecDepth 100000 in
theorem w_X11_keep_b76 {l0 : Launch} (hfl : l0.stackTraces = false) {X : MX} {B : BX (EE × K)} {g : GP} {E : EE} {κ' : K} {rr : Unit} {f2 : Nat} {i2 : Nat} {c2 : Nat} {f4 : Nat} {i4 : Nat} {c4 : Nat} (O : CK l0 X B g cX11_keep RX11 3 41) (hKP : KPok B E) (hmL : B.2.2.2.1 = 7) (hE : ∀ (pc : Nat) (lv : List (Nat × AV)), decode cX11_keep pc = .ok (.return_, 1) → J X B (E, κ') pc lv []) (h0 : PC 11 E 5 0 0) (hk2 : kd f2 c2 = 20) (hl2 : liveC E f2 i2 c2 = true) (hk4 : kd f4 c4 = 20) (hl4 : liveC E f4 i4 c4 = true) : ∀ (κ : K) (x1 : Int32) (x3 : Int32) (x5 : Int32) (xs0 : Int32) (xs1 : Int32), f_X11_keep_b76 E f2 i2 c2 f4 i4 c4 κ x1 x3 x5 xs0 xs1 = some (κ', rr) → J X B (E, κ) 76 [(0, .inr (some (5, 0, 0))), (1, .inl (.int x1)), (2, .inr (some (f2, i2, c2))), (3, .inl (.int x3)), (4, .inr (some (f4, i4, c4))), (5, .inl (.int x5))] [.inl (.int xs0), .inl (.int xs1), .inr (some (f2, i2, c2))] := by
  intro κ x1 x3 x5 xs0 xs1 h
  unfold f_X11_keep_b76 at h
  obtain ⟨hg5, h⟩ := gd_some h
  refine row_20 O hl2 hk2 rfl hg5 (x := xs0) dX11_keep_76 ?_
  refine nm_some (P := fun z => J X B (E, z) 77 [(0, .inr (some (5, 0, 0))), (1, .inl (.int x1)), (2, .inr (some (f2, i2, c2))), (3, .inl (.int x3)), (4, .inr (some (f4, i4, c4))), (5, .inl (.int x5))] []) h (fun κ6 h => ?_)
  refine J_aload_n O.mo dX11_keep_77 2 rfl ?_
  refine J_iload_n O.mo dX11_keep_78 3 rfl ?_
  refine J_bipush O.mo (v := 53) dX11_keep_79 (by decide) ?_
  refine J_iadd O.mo dX11_keep_81 ?_
  refine J_aload_n O.mo dX11_keep_82 0 rfl ?_
  refine J_iload_n O.mo dX11_keep_83 1 rfl ?_
  refine J_sub [0, 1, 4, 5] rfl ?_
  obtain ⟨κ7, r9, hq8, h⟩ := bd_some h
  refine J_callV O hKP (as := [.inl (.int x1)]) (rest := [.inl (.int (x3 + 53)), .inr (some (f2, i2, c2))]) (r := (some (.inl (.int r9)))) (c_X11_clock hfl h0 hq8) rfl (kd0 := 11) (k11_0 h0) (l11_0 h0) (T := TX11) (N := 42) rfl (by decide) mw571 mw572 mw573 mw517 mw574 pd_X11_clock rfl (by decide) rfl (Nat.le_of_ble_eq_true rfl) (sl_p (s11_0 h0) (sl_v (sl_p (⟨hl4, fun z => absurd (z.symm.trans hk4) (by decide)⟩ : Stab E (.inr (some (f4, i4, c4)))) (sl_v sl_0)))) (st_v (st_p (⟨hl2, fun z => absurd (z.symm.trans hk2) (by decide)⟩ : Stab E (.inr (some (f2, i2, c2)))) st_0)) dX11_keep_84 ?_
  show J X B (E, κ7) 87 [(0, .inr (some (5, 0, 0))), (1, .inl (.int x1)), (4, .inr (some (f4, i4, c4))), (5, .inl (.int x5))] [.inl (.int r9), .inl (.int (x3 + 53)), .inr (some (f2, i2, c2))]
  obtain ⟨hg10, h⟩ := gd_some h
  refine row_20 O hl2 hk2 rfl hg10 (x := r9) dX11_keep_87 ?_
  refine nm_some (P := fun z => J X B (E, z) 88 [(0, .inr (some (5, 0, 0))), (1, .inl (.int x1)), (4, .inr (some (f4, i4, c4))), (5, .inl (.int x5))] []) h (fun κ11 h => ?_)
  refine J_iconst O.mo (v := 0) dX11_keep_88 (by decide) ?_
  refine J_istore O.mo (lv' := [(0, .inr (some (5, 0, 0))), (1, .inl (.int x1)), (4, .inr (some (f4, i4, c4))), (5, .inl (.int x5))]) dX11_keep_89 (by rw [hmL]; decide) rfl rfl ?_
  refine J_sub [1, 2, 3, 4, 0] rfl ?_
  exact w_X11_keep_b91 hfl O hKP hmL hE h0 hk2 hl2 hk4 hl4 FU _ _ _ _ h
set_option maxHeartbeats 4000000 in
set_option maxRecDepth 100000 in
theorem w_X11_keep_b34 {l0 : Launch} (hfl : l0.stackTraces = false) {X : MX} {B : BX (EE × K)} {g : GP} {E : EE} {κ' : K} {rr : Unit} {f2 : Nat} {i2 : Nat} {c2 : Nat} {f4 : Nat} {i4 : Nat} {c4 : Nat} (O : CK l0 X B g cX11_keep RX11 3 41) (hKP : KPok B E) (hmL : B.2.2.2.1 = 7) (hE : ∀ (pc : Nat) (lv : List (Nat × AV)), decode cX11_keep pc = .ok (.return_, 1) → J X B (E, κ') pc lv []) (h0 : PC 11 E 5 0 0) (hk2 : kd f2 c2 = 20) (hl2 : liveC E f2 i2 c2 = true) (hk4 : kd f4 c4 = 20) (hl4 : liveC E f4 i4 c4 = true) : ∀ (κ : K) (x1 : Int32) (x3 : Int32) (x5 : Int32), f_X11_keep_b34 E f2 i2 c2 f4 i4 c4 κ x1 x3 x5 = some (κ', rr) → J X B (E, κ) 34 [(0, .inr (some (5, 0, 0))), (1, .inl (.int x1)), (2, .inr (some (f2, i2, c2))), (3, .inl (.int x3)), (4, .inr (some (f4, i4, c4))), (5, .inl (.int x5))] [] := by
  intro κ x1 x3 x5 h
  unfold f_X11_keep_b34 at h
  refine J_aload_n O.mo dX11_keep_34 2 rfl ?_
  refine J_iload_n O.mo dX11_keep_35 3 rfl ?_
  refine J_bipush O.mo (v := 50) dX11_keep_36 (by decide) ?_
  refine J_iadd O.mo dX11_keep_38 ?_
  refine J_aload_n O.mo dX11_keep_39 0 rfl ?_
  refine J_getF O.co (kd0 := 11) (k11_0 h0) (l11_0 h0) (C := RX11) (T := TX11) (N := 42) rfl (by decide) rfl in_X11 1 (by decide) (v := .inr (some (5, 0, 1))) rfl mw545 rfl dX11_keep_40 ?_
  refine J_bipush O.mo (v := 55) dX11_keep_43 (by decide) ?_
  refine J_iload_n O.mo dX11_keep_45 1 rfl ?_
  refine J_imul O.mo dX11_keep_46 ?_
  refine J_bipush O.mo (v := 50) dX11_keep_47 (by decide) ?_
  refine J_iadd O.mo dX11_keep_49 ?_
  obtain ⟨hg2, h⟩ := gd_some h
  refine J_iald O.co (g := (kV κ 5 0 1)) (ct_20n (l11_1 h0) (k11_1 h0) (n11_1 h0)) hg2 dX11_keep_50 ?_
  refine J_iconst O.mo (v := (-1)) dX11_keep_51 (by decide) ?_
  refine J_icmp_ne O.mo (tgt := 59) dX11_keep_52 (by decide) (fun hc3 => ?_) (fun hc3 => ?_)
  · replace h := (if_neg hc3).symm.trans h
    refine J_aload_n O.mo dX11_keep_59 0 rfl ?_
    refine J_getF O.co (kd0 := 11) (k11_0 h0) (l11_0 h0) (C := RX11) (T := TX11) (N := 42) rfl (by decide) rfl in_X11 1 (by decide) (v := .inr (some (5, 0, 1))) rfl mw545 rfl dX11_keep_60 ?_
    refine J_bipush O.mo (v := 55) dX11_keep_63 (by decide) ?_
    refine J_iload_n O.mo dX11_keep_65 1 rfl ?_
    refine J_imul O.mo dX11_keep_66 ?_
    refine J_bipush O.mo (v := 50) dX11_keep_67 (by decide) ?_
    refine J_iadd O.mo dX11_keep_69 ?_
    obtain ⟨hg4, h⟩ := gd_some h
    refine J_iald O.co (g := (kV κ 5 0 1)) (ct_20n (l11_1 h0) (k11_1 h0) (n11_1 h0)) hg4 dX11_keep_70 ?_
    refine J_aload_n O.mo dX11_keep_71 0 rfl ?_
    refine J_getF O.co (kd0 := 11) (k11_0 h0) (l11_0 h0) (C := RX11) (T := TX11) (N := 42) rfl (by decide) rfl in_X11 41 (by decide) (v := .inl (.int (kV κ 5 0 0 41))) rfl mw519 rfl dX11_keep_72 ?_
    refine J_isub O.mo dX11_keep_75 ?_
    exact w_X11_keep_b76 hfl O hKP hmL hE h0 hk2 hl2 hk4 hl4 _ _ _ _ _ _ h
  · replace h := (if_pos hc3).symm.trans h
    refine J_iconst O.mo (v := (-1)) dX11_keep_55 (by decide) ?_
    refine J_goto O.mo (tgt := 76) dX11_keep_56 (by decide) ?_
    exact w_X11_keep_b76 hfl O hKP hmL hE h0 hk2 hl2 hk4 hl4 _ _ _ _ _ _ h
set_option maxHeartbeats 4000000 in
set_option maxRecDepth 100000 in
theorem w_X11_keep_b3 {l0 : Launch} (hfl : l0.stackTraces = false) {X : MX} {B : BX (EE × K)} {g : GP} {E : EE} {κ' : K} {rr : Unit} {f2 : Nat} {i2 : Nat} {c2 : Nat} {f4 : Nat} {i4 : Nat} {c4 : Nat} (O : CK l0 X B g cX11_keep RX11 3 41) (hKP : KPok B E) (hmL : B.2.2.2.1 = 7) (hE : ∀ (pc : Nat) (lv : List (Nat × AV)), decode cX11_keep pc = .ok (.return_, 1) → J X B (E, κ') pc lv []) (h0 : PC 11 E 5 0 0) (hk2 : kd f2 c2 = 20) (hl2 : liveC E f2 i2 c2 = true) (hk4 : kd f4 c4 = 20) (hl4 : liveC E f4 i4 c4 = true) : ∀ (n : Nat) (κ : K) (x1 : Int32) (x3 : Int32) (x5 : Int32) (x6 : Int32), f_X11_keep_b3 E f2 i2 c2 f4 i4 c4 n κ x1 x3 x5 x6 = some (κ', rr) → J X B (E, κ) 3 [(0, .inr (some (5, 0, 0))), (1, .inl (.int x1)), (2, .inr (some (f2, i2, c2))), (3, .inl (.int x3)), (4, .inr (some (f4, i4, c4))), (5, .inl (.int x5)), (6, .inl (.int x6))] [] := by
  intro n
  induction n with
  | zero => intro κ x1 x3 x5 x6 h; cases h
  | succ n ih =>
    intro κ x1 x3 x5 x6 h
    rw [f_X11_keep_b3] at h
    refine J_iload O.mo dX11_keep_3 6 rfl ?_
    refine J_bipush O.mo (v := 55) dX11_keep_5 (by decide) ?_
    refine J_icmp_ge O.mo (tgt := 34) dX11_keep_7 (by decide) (fun hc1 => ?_) (fun hc1 => ?_)
    · replace h := (if_pos hc1).symm.trans h
      refine J_sub [0, 1, 2, 3, 4, 5] rfl ?_
      exact w_X11_keep_b34 hfl O hKP hmL hE h0 hk2 hl2 hk4 hl4 _ _ _ _ h
    · replace h := (if_neg hc1).symm.trans h
      refine J_aload_n O.mo dX11_keep_10 2 rfl ?_
      refine J_iload_n O.mo dX11_keep_11 3 rfl ?_
      refine J_iload O.mo dX11_keep_12 6 rfl ?_
      refine J_iadd O.mo dX11_keep_14 ?_
      refine J_aload_n O.mo dX11_keep_15 0 rfl ?_
      refine J_getF O.co (kd0 := 11) (k11_0 h0) (l11_0 h0) (C := RX11) (T := TX11) (N := 42) rfl (by decide) rfl in_X11 1 (by decide) (v := .inr (some (5, 0, 1))) rfl mw545 rfl dX11_keep_16 ?_
      refine J_bipush O.mo (v := 55) dX11_keep_19 (by decide) ?_
      refine J_iload_n O.mo dX11_keep_21 1 rfl ?_
      refine J_imul O.mo dX11_keep_22 ?_
      refine J_iload O.mo dX11_keep_23 6 rfl ?_
      refine J_iadd O.mo dX11_keep_25 ?_
      obtain ⟨hg18, h⟩ := gd_some h
      refine J_iald O.co (g := (kV κ 5 0 1)) (ct_20n (l11_1 h0) (k11_1 h0) (n11_1 h0)) hg18 dX11_keep_26 ?_
      obtain ⟨hg19, h⟩ := gd_some h
      refine row_20 O hl2 hk2 rfl hg19 (x := ((kV κ 5 0 1) ((55 * x1) + x6).toNatClampNeg)) dX11_keep_27 ?_
      refine nm_some (P := fun z => J X B (E, z) 28 [(0, .inr (some (5, 0, 0))), (1, .inl (.int x1)), (2, .inr (some (f2, i2, c2))), (3, .inl (.int x3)), (4, .inr (some (f4, i4, c4))), (5, .inl (.int x5)), (6, .inl (.int x6))] []) h (fun κ20 h => ?_)
      refine J_iinc O.mo (v := x6 + 1) (lv' := [(0, .inr (some (5, 0, 0))), (1, .inl (.int x1)), (2, .inr (some (f2, i2, c2))), (3, .inl (.int x3)), (4, .inr (some (f4, i4, c4))), (5, .inl (.int x5))]) dX11_keep_28 (by rw [hmL]; decide) 6 rfl (by rw [show Int32.ofInt (1) = (1 : Int32) from by decide]) rfl rfl ?_
      refine nm_some (P := fun z => J X B (E, κ20) 31 [(6, .inl (.int z)), (0, .inr (some (5, 0, 0))), (1, .inl (.int x1)), (2, .inr (some (f2, i2, c2))), (3, .inl (.int x3)), (4, .inr (some (f4, i4, c4))), (5, .inl (.int x5))] []) h (fun y21 h => ?_)
      refine J_goto O.mo (tgt := 3) dX11_keep_31 (by decide) ?_
      refine J_sub [1, 2, 3, 4, 5, 6, 0] rfl ?_
      exact ih _ _ _ _ _ h
set_option maxHeartbeats 4000000 in
set_option maxRecDepth 100000 in
theorem w_X11_keep {l0 : Launch} (hfl : l0.stackTraces = false) {X : MX} {B : BX (EE × K)} {g : GP} {E : EE} {κ' : K} {rr : Unit} {f2 : Nat} {i2 : Nat} {c2 : Nat} {f4 : Nat} {i4 : Nat} {c4 : Nat} (O : CK l0 X B g cX11_keep RX11 3 41) (hKP : KPok B E) (hmL : B.2.2.2.1 = 7) (hE : ∀ (pc : Nat) (lv : List (Nat × AV)), decode cX11_keep pc = .ok (.return_, 1) → J X B (E, κ') pc lv []) (h0 : PC 11 E 5 0 0) (hk2 : kd f2 c2 = 20) (hl2 : liveC E f2 i2 c2 = true) (hk4 : kd f4 c4 = 20) (hl4 : liveC E f4 i4 c4 = true) : ∀ (κ : K) (a1 : Int32) (a3 : Int32) (a5 : Int32), f_X11_keep E κ a1 f2 i2 c2 a3 f4 i4 c4 a5 = some (κ', rr) → J X B (E, κ) 0 [(0, .inr (some (5, 0, 0))), (1, .inl (.int a1)), (2, .inr (some (f2, i2, c2))), (3, .inl (.int a3)), (4, .inr (some (f4, i4, c4))), (5, .inl (.int a5))] [] := by
  intro κ a1 a3 a5 h
  unfold f_X11_keep at h
  refine J_iconst O.mo (v := 0) dX11_keep_0 (by decide) ?_
  refine J_istore O.mo (lv' := [(0, .inr (some (5, 0, 0))), (1, .inl (.int a1)), (2, .inr (some (f2, i2, c2))), (3, .inl (.int a3)), (4, .inr (some (f4, i4, c4))), (5, .inl (.int a5))]) dX11_keep_1 (by rw [hmL]; decide) rfl rfl ?_
  refine J_sub [1, 2, 3, 4, 5, 6, 0] rfl ?_
  exact w_X11_keep_b3 hfl O hKP hmL hE h0 hk2 hl2 hk4 hl4 FU _ _ _ _ _ h
theorem c_X11_keep {l : Launch} (hfl : l.stackTraces = false) {E : EE} {κ κ' : K} {a1 : Int32} {f2 : Nat} {i2 : Nat} {c2 : Nat} {a3 : Int32} {f4 : Nat} {i4 : Nat} {c4 : Nat} {a5 : Int32} (h0 : PC 11 E 5 0 0) (hk2 : kd f2 c2 = 20) (hl2 : liveC E f2 i2 c2 = true) (hk4 : kd f4 c4 = 20) (hl4 : liveC E f4 i4 c4 = true) {rr : Unit} (h : f_X11_keep E κ a1 f2 i2 c2 a3 f4 i4 c4 a5 = some (κ', rr)) : Con l yX11_keep cX11_keep 7 none 3 41 [.inr (some (5, 0, 0)), .inl (.int a1), .inr (some (f2, i2, c2)), .inl (.int a3), .inr (some (f4, i4, c4)), .inl (.int a5)] (E, κ) (E, κ') none := by
  exact Con_of hfl (by decide +kernel) (Nat.le_of_ble_eq_true rfl) rfl rfl (fun X B g O hKP hmL hE => w_X11_keep hfl O hKP hmL hE h0 hk2 hl2 hk4 hl4 _ _ _ _ h)
def f_X11_giveBack_b208 (E : EE) (a2 : Pl) (a4 : Pl) (κ : K) (x1 : Int32) (x6 : Int32) : Option (K × Int32) := gd (¬ (x1 < 0 ∨ 5 ≤ x1.toNatClampNeg)) (nm (setV κ 5 0 30 x1.toNatClampNeg 0) fun κ27 => gd (¬ (x1 < 0 ∨ 5 ≤ x1.toNatClampNeg)) (nm (setV κ27 5 0 19 x1.toNatClampNeg 1) fun κ29 => some (κ29, x6)))
def f_X11_giveBack_b199 (E : EE) (a2 : Pl) (a4 : Pl) (k129 : K → Int32 → Int32 → Int32 → Option (K × Int32)) (κ : K) (x1 : Int32) (x7 : Int32) (xs0 : Int32) (xs1 : Int32) : Option (K × Int32) := nm (xs1 + xs0) fun y39 => nm (x7 + 1) fun y40 => k129 κ x1 y39 y40
def f_X11_giveBack_b173 (E : EE) (a2 : Pl) (a4 : Pl) (k129 : K → Int32 → Int32 → Int32 → Option (K × Int32)) (κ : K) (x1 : Int32) (x6 : Int32) (x7 : Int32) (x8 : Int32) (xs0 : Int32) (xs1 : Int32) : Option (K × Int32) := gd (¬ (xs1 < 0 ∨ 40 ≤ xs1.toNatClampNeg)) (nm (setV κ 5 0 27 xs1.toNatClampNeg xs0) fun κ35 => gd (¬ (((8 * x1) + x7) < 0 ∨ 40 ≤ ((8 * x1) + x7).toNatClampNeg)) (nm (setV κ35 5 0 28 ((8 * x1) + x7).toNatClampNeg ((-1))) fun κ37 => if x8 = 0 then f_X11_giveBack_b199 E a2 a4 k129 κ37 x1 x7 1 x6 else f_X11_giveBack_b199 E a2 a4 k129 κ37 x1 x7 0 x6))
def f_X11_giveBack_b129 (E : EE) (a2 : Pl) (a4 : Pl) : Nat → K → Int32 → Int32 → Int32 → Option (K × Int32)
  | 0, _, _, _, _ => none
  | n + 1, κ, x1, x6, x7 => if 8 ≤ x7 then f_X11_giveBack_b208 E a2 a4 κ x1 x6 else bd (f_X11_isZero E κ (5, 0, 1) (55 * x1) x7) fun κ30 r32 => if r32 = 0 then f_X11_giveBack_b173 E a2 a4 (f_X11_giveBack_b129 E a2 a4 n) κ30 x1 x6 x7 r32 2 ((8 * x1) + x7) else f_X11_giveBack_b173 E a2 a4 (f_X11_giveBack_b129 E a2 a4 n) κ30 x1 x6 x7 r32 0 ((8 * x1) + x7)
def f_X11_giveBack_b112 (E : EE) (a2 : Pl) (a4 : Pl) (κ : K) (x1 : Int32) (x3 : Int32) : Option (K × Int32) := tmpG (kA E κ a2) fun n19 ar20 => gd (¬ ((x3 + 53) < 0 ∨ n19 ≤ (x3 + 53).toNatClampNeg)) (bd (f_X11_shift E κ x1 (ar20 (x3 + 53).toNatClampNeg)) fun κ22 _ => f_X11_giveBack_b129 E a2 a4 FU κ22 x1 0 0)
def f_X11_giveBack_b74 (E : EE) (a2 : Pl) (a4 : Pl) : Nat → K → Int32 → Int32 → Int32 → Int32 → Option (K × Int32)
  | 0, _, _, _, _, _ => none
  | n + 1, κ, x1, x3, x5, x6 => tmpG (kA E κ a2) fun n14 ar15 => gd (¬ ((x3 + 54) < 0 ∨ n14 ≤ (x3 + 54).toNatClampNeg)) (if ar15 (x3 + 54).toNatClampNeg ≤ x6 then f_X11_giveBack_b112 E a2 a4 κ x1 x3 else tmpG (kA E κ a4) fun n42 ar43 => gd (¬ ((x5 + x6) < 0 ∨ n42 ≤ (x5 + x6).toNatClampNeg)) (gd (¬ (((512 * x1) + x6) < 0 ∨ 2560 ≤ ((512 * x1) + x6).toNatClampNeg)) (nm (setV κ 5 0 2 ((512 * x1) + x6).toNatClampNeg (ar43 (x5 + x6).toNatClampNeg)) fun κ46 => nm (x6 + 1) fun y47 => f_X11_giveBack_b74 E a2 a4 n κ46 x1 x3 x5 y47)))
def f_X11_giveBack_b70 (E : EE) (a2 : Pl) (a4 : Pl) (κ : K) (x1 : Int32) (x3 : Int32) (x5 : Int32) (xs0 : Int32) (xs1 : Int32) : Option (K × Int32) := gd (¬ (xs1 < 0 ∨ 275 ≤ xs1.toNatClampNeg)) (nm (setV κ 5 0 1 xs1.toNatClampNeg xs0) fun κ12 => f_X11_giveBack_b74 E a2 a4 FU κ12 x1 x3 x5 0)
def f_X11_giveBack_b34 (E : EE) (a2 : Pl) (a4 : Pl) (κ : K) (x1 : Int32) (x3 : Int32) (x5 : Int32) : Option (K × Int32) := tmpG (kA E κ a2) fun n3 ar4 => gd (¬ ((x3 + 50) < 0 ∨ n3 ≤ (x3 + 50).toNatClampNeg)) (if ar4 (x3 + 50).toNatClampNeg = (-1) then f_X11_giveBack_b70 E a2 a4 κ x1 x3 x5 ((-1)) ((55 * x1) + 50) else tmpG (kA E κ a2) fun n8 ar9 => gd (¬ ((x3 + 50) < 0 ∨ n8 ≤ (x3 + 50).toNatClampNeg)) (f_X11_giveBack_b70 E a2 a4 κ x1 x3 x5 ((kV κ 5 0 0 41) + (ar9 (x3 + 50).toNatClampNeg)) ((55 * x1) + 50)))
def f_X11_giveBack_b3 (E : EE) (a2 : Pl) (a4 : Pl) : Nat → K → Int32 → Int32 → Int32 → Int32 → Option (K × Int32)
  | 0, _, _, _, _, _ => none
  | n + 1, κ, x1, x3, x5, x6 => if 55 ≤ x6 then f_X11_giveBack_b34 E a2 a4 κ x1 x3 x5 else tmpG (kA E κ a2) fun n49 ar50 => gd (¬ ((x3 + x6) < 0 ∨ n49 ≤ (x3 + x6).toNatClampNeg)) (gd (¬ (((55 * x1) + x6) < 0 ∨ 275 ≤ ((55 * x1) + x6).toNatClampNeg)) (nm (setV κ 5 0 1 ((55 * x1) + x6).toNatClampNeg (ar50 (x3 + x6).toNatClampNeg)) fun κ53 => nm (x6 + 1) fun y54 => f_X11_giveBack_b3 E a2 a4 n κ53 x1 x3 x5 y54))
def f_X11_giveBack (E : EE) (κ : K) (a1 : Int32) (a2 : Pl) (a3 : Int32) (a4 : Pl) (a5 : Int32) : Option (K × Int32) := f_X11_giveBack_b3 E a2 a4 FU κ a1 a3 a5 0
set_option maxHeartbeats 4000000 in
set_option maxRecDepth 100000 in
theorem w_X11_giveBack_b208 {l0 : Launch} (hfl : l0.stackTraces = false) {X : MX} {B : BX (EE × K)} {g : GP} {E : EE} {κ' : K} {rr : Int32} {a2 : Pl} {a4 : Pl} (O : CK l0 X B g cX11_giveBack RX11 3 42) (hKP : KPok B E) (hmL : B.2.2.2.1 = 9) (hE : ∀ (pc : Nat) (lv : List (Nat × AV)), decode cX11_giveBack pc = .ok (.ireturn, 1) → J X B (E, κ') pc lv [.inl (.int rr)]) (h0 : PC 11 E 5 0 0) : ∀ (κ : K) (x1 : Int32) (x6 : Int32), f_X11_giveBack_b208 E a2 a4 κ x1 x6 = some (κ', rr) → J X B (E, κ) 208 [(0, .inr (some (5, 0, 0))), (1, .inl (.int x1)), (6, .inl (.int x6))] [] := by
  intro κ x1 x6 h
  unfold f_X11_giveBack_b208 at h
  refine J_aload_n O.mo dX11_giveBack_208 0 rfl ?_
  refine J_getF O.co (kd0 := 11) (k11_0 h0) (l11_0 h0) (C := RX11) (T := TX11) (N := 42) rfl (by decide) rfl in_X11 30 (by decide) (v := .inr (some (5, 0, 30))) rfl mw535 rfl dX11_giveBack_209 ?_
  refine J_iload_n O.mo dX11_giveBack_212 1 rfl ?_
  refine J_iconst O.mo (v := 0) dX11_giveBack_213 (by decide) ?_
  obtain ⟨hg26, h⟩ := gd_some h
  refine row_22 O (l11_30 h0) (k11_30 h0) (n11_30 h0) hg26 (x := 0) (Or.inl rfl) dX11_giveBack_214 ?_
  refine nm_some (P := fun z => J X B (E, z) 215 [(0, .inr (some (5, 0, 0))), (1, .inl (.int x1)), (6, .inl (.int x6))] []) h (fun κ27 h => ?_)
  refine J_aload_n O.mo dX11_giveBack_215 0 rfl ?_
  refine J_getF O.co (kd0 := 11) (k11_0 h0) (l11_0 h0) (C := RX11) (T := TX11) (N := 42) rfl (by decide) rfl in_X11 19 (by decide) (v := .inr (some (5, 0, 19))) rfl mw615 rfl dX11_giveBack_216 ?_
  refine J_iload_n O.mo dX11_giveBack_219 1 rfl ?_
  refine J_iconst O.mo (v := 1) dX11_giveBack_220 (by decide) ?_
  obtain ⟨hg28, h⟩ := gd_some h
  refine row_22 O (l11_19 h0) (k11_19 h0) (n11_19 h0) hg28 (x := 1) (Or.inr rfl) dX11_giveBack_221 ?_
  refine nm_some (P := fun z => J X B (E, z) 222 [(0, .inr (some (5, 0, 0))), (1, .inl (.int x1)), (6, .inl (.int x6))] []) h (fun κ29 h => ?_)
  refine J_iload O.mo dX11_giveBack_222 2 rfl ?_
  cases h
  exact hE _ _ dX11_giveBack_224
set_option maxHeartbeats 4000000 in
set_option maxRecDepth 100000 in
theorem w_X11_giveBack_b199 {l0 : Launch} (hfl : l0.stackTraces = false) {X : MX} {B : BX (EE × K)} {g : GP} {E : EE} {κ' : K} {rr : Int32} {a2 : Pl} {a4 : Pl} (O : CK l0 X B g cX11_giveBack RX11 3 42) (hKP : KPok B E) (hmL : B.2.2.2.1 = 9) (hE : ∀ (pc : Nat) (lv : List (Nat × AV)), decode cX11_giveBack pc = .ok (.ireturn, 1) → J X B (E, κ') pc lv [.inl (.int rr)]) (h0 : PC 11 E 5 0 0) {k129 : K → Int32 → Int32 → Int32 → Option (K × Int32)} (hk129 : ∀ (κ : K) (x1 : Int32) (x6 : Int32) (x7 : Int32), k129 κ x1 x6 x7 = some (κ', rr) → J X B (E, κ) 129 [(0, .inr (some (5, 0, 0))), (1, .inl (.int x1)), (6, .inl (.int x6)), (7, .inl (.int x7))] []) : ∀ (κ : K) (x1 : Int32) (x7 : Int32) (xs0 : Int32) (xs1 : Int32), f_X11_giveBack_b199 E a2 a4 k129 κ x1 x7 xs0 xs1 = some (κ', rr) → J X B (E, κ) 199 [(0, .inr (some (5, 0, 0))), (1, .inl (.int x1)), (7, .inl (.int x7))] [.inl (.int xs0), .inl (.int xs1)] := by
  intro κ x1 x7 xs0 xs1 h
  unfold f_X11_giveBack_b199 at h
  refine J_iadd O.mo dX11_giveBack_199 ?_
  refine J_istore O.mo (lv' := [(0, .inr (some (5, 0, 0))), (1, .inl (.int x1)), (7, .inl (.int x7))]) dX11_giveBack_200 (by rw [hmL]; decide) rfl rfl ?_
  refine nm_some (P := fun z => J X B (E, κ) 202 [(6, .inl (.int z)), (0, .inr (some (5, 0, 0))), (1, .inl (.int x1)), (7, .inl (.int x7))] []) h (fun y39 h => ?_)
  refine J_iinc O.mo (v := x7 + 1) (lv' := [(6, .inl (.int y39)), (0, .inr (some (5, 0, 0))), (1, .inl (.int x1))]) dX11_giveBack_202 (by rw [hmL]; decide) 3 rfl (by rw [show Int32.ofInt (1) = (1 : Int32) from by decide]) rfl rfl ?_
  refine nm_some (P := fun z => J X B (E, κ) 205 [(7, .inl (.int z)), (6, .inl (.int y39)), (0, .inr (some (5, 0, 0))), (1, .inl (.int x1))] []) h (fun y40 h => ?_)
  refine J_goto O.mo (tgt := 129) dX11_giveBack_205 (by decide) ?_
  refine J_sub [2, 3, 1, 0] rfl ?_
  exact hk129 _ _ _ _ h
set_option maxHeartbeats 4000000 in
set_option maxRecDepth 100000 in
theorem w_X11_giveBack_b173 {l0 : Launch} (hfl : l0.stackTraces = false) {X : MX} {B : BX (EE × K)} {g : GP} {E : EE} {κ' : K} {rr : Int32} {a2 : Pl} {a4 : Pl} (O : CK l0 X B g cX11_giveBack RX11 3 42) (hKP : KPok B E) (hmL : B.2.2.2.1 = 9) (hE : ∀ (pc : Nat) (lv : List (Nat × AV)), decode cX11_giveBack pc = .ok (.ireturn, 1) → J X B (E, κ') pc lv [.inl (.int rr)]) (h0 : PC 11 E 5 0 0) {k129 : K → Int32 → Int32 → Int32 → Option (K × Int32)} (hk129 : ∀ (κ : K) (x1 : Int32) (x6 : Int32) (x7 : Int32), k129 κ x1 x6 x7 = some (κ', rr) → J X B (E, κ) 129 [(0, .inr (some (5, 0, 0))), (1, .inl (.int x1)), (6, .inl (.int x6)), (7, .inl (.int x7))] []) : ∀ (κ : K) (x1 : Int32) (x6 : Int32) (x7 : Int32) (x8 : Int32) (xs0 : Int32) (xs1 : Int32), f_X11_giveBack_b173 E a2 a4 k129 κ x1 x6 x7 x8 xs0 xs1 = some (κ', rr) → J X B (E, κ) 173 [(0, .inr (some (5, 0, 0))), (1, .inl (.int x1)), (6, .inl (.int x6)), (7, .inl (.int x7)), (8, .inl (.int x8))] [.inl (.int xs0), .inl (.int xs1), .inr (some (5, 0, 27))] := by
  intro κ x1 x6 x7 x8 xs0 xs1 h
  unfold f_X11_giveBack_b173 at h
  obtain ⟨hg34, h⟩ := gd_some h
  refine row_20 O (l11_27 h0) (k11_27 h0) (n11_27 h0) hg34 (x := xs0) dX11_giveBack_173 ?_
  refine nm_some (P := fun z => J X B (E, z) 174 [(0, .inr (some (5, 0, 0))), (1, .inl (.int x1)), (6, .inl (.int x6)), (7, .inl (.int x7)), (8, .inl (.int x8))] []) h (fun κ35 h => ?_)
  refine J_aload_n O.mo dX11_giveBack_174 0 rfl ?_
  refine J_getF O.co (kd0 := 11) (k11_0 h0) (l11_0 h0) (C := RX11) (T := TX11) (N := 42) rfl (by decide) rfl in_X11 28 (by decide) (v := .inr (some (5, 0, 28))) rfl mw527 rfl dX11_giveBack_175 ?_
  refine J_bipush O.mo (v := 8) dX11_giveBack_178 (by decide) ?_
  refine J_iload_n O.mo dX11_giveBack_180 1 rfl ?_
  refine J_imul O.mo dX11_giveBack_181 ?_
  refine J_iload O.mo dX11_giveBack_182 3 rfl ?_
  refine J_iadd O.mo dX11_giveBack_184 ?_
  refine J_iconst O.mo (v := (-1)) dX11_giveBack_185 (by decide) ?_
  obtain ⟨hg36, h⟩ := gd_some h
  refine row_20 O (l11_28 h0) (k11_28 h0) (n11_28 h0) hg36 (x := ((-1))) dX11_giveBack_186 ?_
  refine nm_some (P := fun z => J X B (E, z) 187 [(0, .inr (some (5, 0, 0))), (1, .inl (.int x1)), (6, .inl (.int x6)), (7, .inl (.int x7)), (8, .inl (.int x8))] []) h (fun κ37 h => ?_)
  refine J_iload O.mo dX11_giveBack_187 2 rfl ?_
  refine J_iload O.mo dX11_giveBack_189 4 rfl ?_
  refine J_if_eq O.mo (tgt := 198) dX11_giveBack_191 (by decide) (fun hc38 => ?_) (fun hc38 => ?_)
  · replace h := (if_pos hc38).symm.trans h
    refine J_iconst O.mo (v := 1) dX11_giveBack_198 (by decide) ?_
    refine J_sub [0, 1, 3] rfl ?_
    exact w_X11_giveBack_b199 hfl O hKP hmL hE h0 hk129 _ _ _ _ _ h
  · replace h := (if_neg hc38).symm.trans h
    refine J_iconst O.mo (v := 0) dX11_giveBack_194 (by decide) ?_
    refine J_goto O.mo (tgt := 199) dX11_giveBack_195 (by decide) ?_
    refine J_sub [0, 1, 3] rfl ?_
    exact w_X11_giveBack_b199 hfl O hKP hmL hE h0 hk129 _ _ _ _ _ h
set_option maxHeartbeats 4000000 in
set_option maxRecDepth 100000 in
theorem w_X11_giveBack_b129 {l0 : Launch} (hfl : l0.stackTraces = false) {X : MX} {B : BX (EE × K)} {g : GP} {E : EE} {κ' : K} {rr : Int32} {a2 : Pl} {a4 : Pl} (O : CK l0 X B g cX11_giveBack RX11 3 42) (hKP : KPok B E) (hmL : B.2.2.2.1 = 9) (hE : ∀ (pc : Nat) (lv : List (Nat × AV)), decode cX11_giveBack pc = .ok (.ireturn, 1) → J X B (E, κ') pc lv [.inl (.int rr)]) (h0 : PC 11 E 5 0 0) : ∀ (n : Nat) (κ : K) (x1 : Int32) (x6 : Int32) (x7 : Int32), f_X11_giveBack_b129 E a2 a4 n κ x1 x6 x7 = some (κ', rr) → J X B (E, κ) 129 [(0, .inr (some (5, 0, 0))), (1, .inl (.int x1)), (6, .inl (.int x6)), (7, .inl (.int x7))] [] := by
  intro n
  induction n with
  | zero => intro κ x1 x6 x7 h; cases h
  | succ n ih =>
    intro κ x1 x6 x7 h
    rw [f_X11_giveBack_b129] at h
    refine J_iload O.mo dX11_giveBack_129 3 rfl ?_
    refine J_bipush O.mo (v := 8) dX11_giveBack_131 (by decide) ?_
    refine J_icmp_ge O.mo (tgt := 208) dX11_giveBack_133 (by decide) (fun hc25 => ?_) (fun hc25 => ?_)
    · replace h := (if_pos hc25).symm.trans h
      refine J_sub [0, 1, 2] rfl ?_
      exact w_X11_giveBack_b208 hfl O hKP hmL hE h0 _ _ _ h
    · replace h := (if_neg hc25).symm.trans h
      refine J_aload_n O.mo dX11_giveBack_136 0 rfl ?_
      refine J_aload_n O.mo dX11_giveBack_137 0 rfl ?_
      refine J_getF O.co (kd0 := 11) (k11_0 h0) (l11_0 h0) (C := RX11) (T := TX11) (N := 42) rfl (by decide) rfl in_X11 1 (by decide) (v := .inr (some (5, 0, 1))) rfl mw545 rfl dX11_giveBack_138 ?_
      refine J_bipush O.mo (v := 55) dX11_giveBack_141 (by decide) ?_
      refine J_iload_n O.mo dX11_giveBack_143 1 rfl ?_
      refine J_imul O.mo dX11_giveBack_144 ?_
      refine J_iload O.mo dX11_giveBack_145 3 rfl ?_
      obtain ⟨κ30, r32, hq31, h⟩ := bd_some h
      refine J_callV O hKP (as := [.inr (some (5, 0, 1)), .inl (.int (55 * x1)), .inl (.int x7)]) (rest := []) (r := (some (.inl (.int r32)))) (c_X11_isZero hfl h0 hq31) rfl (kd0 := 11) (k11_0 h0) (l11_0 h0) (T := TX11) (N := 42) rfl (by decide) mw648 mw649 mw650 mw517 mw651 pd_X11_isZero rfl (by decide) rfl (Nat.le_of_ble_eq_true rfl) (sl_p (s11_0 h0) (sl_v (sl_v (sl_v sl_0)))) st_0 dX11_giveBack_147 ?_
      show J X B (E, κ30) 150 [(0, .inr (some (5, 0, 0))), (1, .inl (.int x1)), (6, .inl (.int x6)), (7, .inl (.int x7))] [.inl (.int r32)]
      refine J_istore O.mo (lv' := [(0, .inr (some (5, 0, 0))), (1, .inl (.int x1)), (6, .inl (.int x6)), (7, .inl (.int x7))]) dX11_giveBack_150 (by rw [hmL]; decide) rfl rfl ?_
      refine J_aload_n O.mo dX11_giveBack_152 1 rfl ?_
      refine J_getF O.co (kd0 := 11) (k11_0 h0) (l11_0 h0) (C := RX11) (T := TX11) (N := 42) rfl (by decide) rfl in_X11 27 (by decide) (v := .inr (some (5, 0, 27))) rfl mw528 rfl dX11_giveBack_153 ?_
      refine J_bipush O.mo (v := 8) dX11_giveBack_156 (by decide) ?_
      refine J_iload_n O.mo dX11_giveBack_158 2 rfl ?_
      refine J_imul O.mo dX11_giveBack_159 ?_
      refine J_iload O.mo dX11_giveBack_160 4 rfl ?_
      refine J_iadd O.mo dX11_giveBack_162 ?_
      refine J_iload O.mo dX11_giveBack_163 0 rfl ?_
      refine J_if_eq O.mo (tgt := 172) dX11_giveBack_165 (by decide) (fun hc33 => ?_) (fun hc33 => ?_)
      · replace h := (if_pos hc33).symm.trans h
        refine J_iconst O.mo (v := 2) dX11_giveBack_172 (by decide) ?_
        refine J_sub [1, 2, 3, 4, 0] rfl ?_
        exact w_X11_giveBack_b173 hfl O hKP hmL hE h0 ih _ _ _ _ _ _ _ h
      · replace h := (if_neg hc33).symm.trans h
        refine J_iconst O.mo (v := 0) dX11_giveBack_168 (by decide) ?_
        refine J_goto O.mo (tgt := 173) dX11_giveBack_169 (by decide) ?_
        refine J_sub [1, 2, 3, 4, 0] rfl ?_
        exact w_X11_giveBack_b173 hfl O hKP hmL hE h0 ih _ _ _ _ _ _ _ h
set_option maxHeartbeats 4000000 in
set_option maxRecDepth 100000 in
theorem w_X11_giveBack_b112 {l0 : Launch} (hfl : l0.stackTraces = false) {X : MX} {B : BX (EE × K)} {g : GP} {E : EE} {κ' : K} {rr : Int32} {a2 : Pl} {a4 : Pl} (O : CK l0 X B g cX11_giveBack RX11 3 42) (hKP : KPok B E) (hmL : B.2.2.2.1 = 9) (hE : ∀ (pc : Nat) (lv : List (Nat × AV)), decode cX11_giveBack pc = .ok (.ireturn, 1) → J X B (E, κ') pc lv [.inl (.int rr)]) (h0 : PC 11 E 5 0 0) : ∀ (κ : K) (x1 : Int32) (x3 : Int32), f_X11_giveBack_b112 E a2 a4 κ x1 x3 = some (κ', rr) → J X B (E, κ) 112 [(0, .inr (some (5, 0, 0))), (1, .inl (.int x1)), (2, .inr (some a2)), (3, .inl (.int x3))] [] := by
  intro κ x1 x3 h
  unfold f_X11_giveBack_b112 at h
  refine J_aload_n O.mo dX11_giveBack_112 0 rfl ?_
  refine J_iload_n O.mo dX11_giveBack_113 1 rfl ?_
  refine J_aload_n O.mo dX11_giveBack_114 2 rfl ?_
  refine J_iload_n O.mo dX11_giveBack_115 3 rfl ?_
  refine J_bipush O.mo (v := 53) dX11_giveBack_116 (by decide) ?_
  refine J_iadd O.mo dX11_giveBack_118 ?_
  obtain ⟨n19, ar20, hA21, h⟩ := tmpG_some h
  obtain ⟨hg18, h⟩ := gd_some h
  refine J_iald O.co (g := ar20) (ct_A hA21) hg18 dX11_giveBack_119 ?_
  refine J_sub [0, 1] rfl ?_
  obtain ⟨κ22, r24, hq23, h⟩ := bd_some h
  refine J_callV O hKP (as := [.inl (.int x1), .inl (.int (ar20 (x3 + 53).toNatClampNeg))]) (rest := []) (r := none) (c_X11_shift hfl h0 hq23) rfl (kd0 := 11) (k11_0 h0) (l11_0 h0) (T := TX11) (N := 42) rfl (by decide) mw622 mw623 mw624 mw517 mw625 pd_X11_shift rfl (by decide) rfl (Nat.le_of_ble_eq_true rfl) (sl_p (s11_0 h0) (sl_v sl_0)) st_0 dX11_giveBack_120 ?_
  show J X B (E, κ22) 123 [(0, .inr (some (5, 0, 0))), (1, .inl (.int x1))] []
  refine J_iconst O.mo (v := 0) dX11_giveBack_123 (by decide) ?_
  refine J_istore O.mo (lv' := [(0, .inr (some (5, 0, 0))), (1, .inl (.int x1))]) dX11_giveBack_124 (by rw [hmL]; decide) rfl rfl ?_
  refine J_iconst O.mo (v := 0) dX11_giveBack_126 (by decide) ?_
  refine J_istore O.mo (lv' := [(6, .inl (.int 0)), (0, .inr (some (5, 0, 0))), (1, .inl (.int x1))]) dX11_giveBack_127 (by rw [hmL]; decide) rfl rfl ?_
  refine J_sub [2, 3, 1, 0] rfl ?_
  exact w_X11_giveBack_b129 hfl O hKP hmL hE h0 FU _ _ _ _ h
set_option maxHeartbeats 4000000 in
set_option maxRecDepth 100000 in
theorem w_X11_giveBack_b74 {l0 : Launch} (hfl : l0.stackTraces = false) {X : MX} {B : BX (EE × K)} {g : GP} {E : EE} {κ' : K} {rr : Int32} {a2 : Pl} {a4 : Pl} (O : CK l0 X B g cX11_giveBack RX11 3 42) (hKP : KPok B E) (hmL : B.2.2.2.1 = 9) (hE : ∀ (pc : Nat) (lv : List (Nat × AV)), decode cX11_giveBack pc = .ok (.ireturn, 1) → J X B (E, κ') pc lv [.inl (.int rr)]) (h0 : PC 11 E 5 0 0) : ∀ (n : Nat) (κ : K) (x1 : Int32) (x3 : Int32) (x5 : Int32) (x6 : Int32), f_X11_giveBack_b74 E a2 a4 n κ x1 x3 x5 x6 = some (κ', rr) → J X B (E, κ) 74 [(0, .inr (some (5, 0, 0))), (1, .inl (.int x1)), (2, .inr (some a2)), (3, .inl (.int x3)), (4, .inr (some a4)), (5, .inl (.int x5)), (6, .inl (.int x6))] [] := by
  intro n
  induction n with
  | zero => intro κ x1 x3 x5 x6 h; cases h
  | succ n ih =>
    intro κ x1 x3 x5 x6 h
    rw [f_X11_giveBack_b74] at h
    refine J_iload O.mo dX11_giveBack_74 6 rfl ?_
    refine J_aload_n O.mo dX11_giveBack_76 2 rfl ?_
    refine J_iload_n O.mo dX11_giveBack_77 3 rfl ?_
    refine J_bipush O.mo (v := 54) dX11_giveBack_78 (by decide) ?_
    refine J_iadd O.mo dX11_giveBack_80 ?_
    obtain ⟨n14, ar15, hA16, h⟩ := tmpG_some h
    obtain ⟨hg13, h⟩ := gd_some h
    refine J_iald O.co (g := ar15) (ct_A hA16) hg13 dX11_giveBack_81 ?_
    refine J_icmp_ge O.mo (tgt := 112) dX11_giveBack_82 (by decide) (fun hc17 => ?_) (fun hc17 => ?_)
    · replace h := (if_pos hc17).symm.trans h
      refine J_sub [0, 1, 2, 3] rfl ?_
      exact w_X11_giveBack_b112 hfl O hKP hmL hE h0 _ _ _ h
    · replace h := (if_neg hc17).symm.trans h
      refine J_aload_n O.mo dX11_giveBack_85 0 rfl ?_
      refine J_getF O.co (kd0 := 11) (k11_0 h0) (l11_0 h0) (C := RX11) (T := TX11) (N := 42) rfl (by decide) rfl in_X11 2 (by decide) (v := .inr (some (5, 0, 2))) rfl mw555 rfl dX11_giveBack_86 ?_
      refine J_sipush O.mo (v := 512) dX11_giveBack_89 (by decide) ?_
      refine J_iload_n O.mo dX11_giveBack_92 1 rfl ?_
      refine J_imul O.mo dX11_giveBack_93 ?_
      refine J_iload O.mo dX11_giveBack_94 6 rfl ?_
      refine J_iadd O.mo dX11_giveBack_96 ?_
      refine J_aload O.mo dX11_giveBack_97 4 rfl ?_
      refine J_iload O.mo dX11_giveBack_99 5 rfl ?_
      refine J_iload O.mo dX11_giveBack_101 6 rfl ?_
      refine J_iadd O.mo dX11_giveBack_103 ?_
      obtain ⟨n42, ar43, hA44, h⟩ := tmpG_some h
      obtain ⟨hg41, h⟩ := gd_some h
      refine J_iald O.co (g := ar43) (ct_A hA44) hg41 dX11_giveBack_104 ?_
      obtain ⟨hg45, h⟩ := gd_some h
      refine row_20 O (l11_2 h0) (k11_2 h0) (n11_2 h0) hg45 (x := (ar43 (x5 + x6).toNatClampNeg)) dX11_giveBack_105 ?_
      refine nm_some (P := fun z => J X B (E, z) 106 [(0, .inr (some (5, 0, 0))), (1, .inl (.int x1)), (2, .inr (some a2)), (3, .inl (.int x3)), (4, .inr (some a4)), (5, .inl (.int x5)), (6, .inl (.int x6))] []) h (fun κ46 h => ?_)
      refine J_iinc O.mo (v := x6 + 1) (lv' := [(0, .inr (some (5, 0, 0))), (1, .inl (.int x1)), (2, .inr (some a2)), (3, .inl (.int x3)), (4, .inr (some a4)), (5, .inl (.int x5))]) dX11_giveBack_106 (by rw [hmL]; decide) 6 rfl (by rw [show Int32.ofInt (1) = (1 : Int32) from by decide]) rfl rfl ?_
      refine nm_some (P := fun z => J X B (E, κ46) 109 [(6, .inl (.int z)), (0, .inr (some (5, 0, 0))), (1, .inl (.int x1)), (2, .inr (some a2)), (3, .inl (.int x3)), (4, .inr (some a4)), (5, .inl (.int x5))] []) h (fun y47 h => ?_)
      refine J_goto O.mo (tgt := 74) dX11_giveBack_109 (by decide) ?_
      refine J_sub [1, 2, 3, 4, 5, 6, 0] rfl ?_
      exact ih _ _ _ _ _ h
set_option maxHeartbeats 4000000 in
set_option maxRecDepth 100000 in
theorem w_X11_giveBack_b70 {l0 : Launch} (hfl : l0.stackTraces = false) {X : MX} {B : BX (EE × K)} {g : GP} {E : EE} {κ' : K} {rr : Int32} {a2 : Pl} {a4 : Pl} (O : CK l0 X B g cX11_giveBack RX11 3 42) (hKP : KPok B E) (hmL : B.2.2.2.1 = 9) (hE : ∀ (pc : Nat) (lv : List (Nat × AV)), decode cX11_giveBack pc = .ok (.ireturn, 1) → J X B (E, κ') pc lv [.inl (.int rr)]) (h0 : PC 11 E 5 0 0) : ∀ (κ : K) (x1 : Int32) (x3 : Int32) (x5 : Int32) (xs0 : Int32) (xs1 : Int32), f_X11_giveBack_b70 E a2 a4 κ x1 x3 x5 xs0 xs1 = some (κ', rr) → J X B (E, κ) 70 [(0, .inr (some (5, 0, 0))), (1, .inl (.int x1)), (2, .inr (some a2)), (3, .inl (.int x3)), (4, .inr (some a4)), (5, .inl (.int x5))] [.inl (.int xs0), .inl (.int xs1), .inr (some (5, 0, 1))] := by
  intro κ x1 x3 x5 xs0 xs1 h
  unfold f_X11_giveBack_b70 at h
  obtain ⟨hg11, h⟩ := gd_some h
  refine row_20 O (l11_1 h0) (k11_1 h0) (n11_1 h0) hg11 (x := xs0) dX11_giveBack_70 ?_
  refine nm_some (P := fun z => J X B (E, z) 71 [(0, .inr (some (5, 0, 0))), (1, .inl (.int x1)), (2, .inr (some a2)), (3, .inl (.int x3)), (4, .inr (some a4)), (5, .inl (.int x5))] []) h (fun κ12 h => ?_)
  refine J_iconst O.mo (v := 0) dX11_giveBack_71 (by decide) ?_
  refine J_istore O.mo (lv' := [(0, .inr (some (5, 0, 0))), (1, .inl (.int x1)), (2, .inr (some a2)), (3, .inl (.int x3)), (4, .inr (some a4)), (5, .inl (.int x5))]) dX11_giveBack_72 (by rw [hmL]; decide) rfl rfl ?_
  refine J_sub [1, 2, 3, 4, 5, 6, 0] rfl ?_
  exact w_X11_giveBack_b74 hfl O hKP hmL hE h0 FU _ _ _ _ _ h
set_option maxHeartbeats 4000000 in
set_option maxRecDepth 100000 in
theorem w_X11_giveBack_b34 {l0 : Launch} (hfl : l0.stackTraces = false) {X : MX} {B : BX (EE × K)} {g : GP} {E : EE} {κ' : K} {rr : Int32} {a2 : Pl} {a4 : Pl} (O : CK l0 X B g cX11_giveBack RX11 3 42) (hKP : KPok B E) (hmL : B.2.2.2.1 = 9) (hE : ∀ (pc : Nat) (lv : List (Nat × AV)), decode cX11_giveBack pc = .ok (.ireturn, 1) → J X B (E, κ') pc lv [.inl (.int rr)]) (h0 : PC 11 E 5 0 0) : ∀ (κ : K) (x1 : Int32) (x3 : Int32) (x5 : Int32), f_X11_giveBack_b34 E a2 a4 κ x1 x3 x5 = some (κ', rr) → J X B (E, κ) 34 [(0, .inr (some (5, 0, 0))), (1, .inl (.int x1)), (2, .inr (some a2)), (3, .inl (.int x3)), (4, .inr (some a4)), (5, .inl (.int x5))] [] := by
  intro κ x1 x3 x5 h
  unfold f_X11_giveBack_b34 at h
  refine J_aload_n O.mo dX11_giveBack_34 0 rfl ?_
  refine J_getF O.co (kd0 := 11) (k11_0 h0) (l11_0 h0) (C := RX11) (T := TX11) (N := 42) rfl (by decide) rfl in_X11 1 (by decide) (v := .inr (some (5, 0, 1))) rfl mw545 rfl dX11_giveBack_35 ?_
  refine J_bipush O.mo (v := 55) dX11_giveBack_38 (by decide) ?_
  refine J_iload_n O.mo dX11_giveBack_40 1 rfl ?_
  refine J_imul O.mo dX11_giveBack_41 ?_
  refine J_bipush O.mo (v := 50) dX11_giveBack_42 (by decide) ?_
  refine J_iadd O.mo dX11_giveBack_44 ?_
  refine J_aload_n O.mo dX11_giveBack_45 2 rfl ?_
  refine J_iload_n O.mo dX11_giveBack_46 3 rfl ?_
  refine J_bipush O.mo (v := 50) dX11_giveBack_47 (by decide) ?_
  refine J_iadd O.mo dX11_giveBack_49 ?_
  obtain ⟨n3, ar4, hA5, h⟩ := tmpG_some h
  obtain ⟨hg2, h⟩ := gd_some h
  refine J_iald O.co (g := ar4) (ct_A hA5) hg2 dX11_giveBack_50 ?_
  refine J_iconst O.mo (v := (-1)) dX11_giveBack_51 (by decide) ?_
  refine J_icmp_ne O.mo (tgt := 59) dX11_giveBack_52 (by decide) (fun hc6 => ?_) (fun hc6 => ?_)
  · replace h := (if_neg hc6).symm.trans h
    refine J_aload_n O.mo dX11_giveBack_59 0 rfl ?_
    refine J_getF O.co (kd0 := 11) (k11_0 h0) (l11_0 h0) (C := RX11) (T := TX11) (N := 42) rfl (by decide) rfl in_X11 41 (by decide) (v := .inl (.int (kV κ 5 0 0 41))) rfl mw519 rfl dX11_giveBack_60 ?_
    refine J_aload_n O.mo dX11_giveBack_63 2 rfl ?_
    refine J_iload_n O.mo dX11_giveBack_64 3 rfl ?_
    refine J_bipush O.mo (v := 50) dX11_giveBack_65 (by decide) ?_
    refine J_iadd O.mo dX11_giveBack_67 ?_
    obtain ⟨n8, ar9, hA10, h⟩ := tmpG_some h
    obtain ⟨hg7, h⟩ := gd_some h
    refine J_iald O.co (g := ar9) (ct_A hA10) hg7 dX11_giveBack_68 ?_
    refine J_iadd O.mo dX11_giveBack_69 ?_
    exact w_X11_giveBack_b70 hfl O hKP hmL hE h0 _ _ _ _ _ _ h
  · replace h := (if_pos hc6).symm.trans h
    refine J_iconst O.mo (v := (-1)) dX11_giveBack_55 (by decide) ?_
    refine J_goto O.mo (tgt := 70) dX11_giveBack_56 (by decide) ?_
    exact w_X11_giveBack_b70 hfl O hKP hmL hE h0 _ _ _ _ _ _ h
set_option maxHeartbeats 4000000 in
set_option maxRecDepth 100000 in
theorem w_X11_giveBack_b3 {l0 : Launch} (hfl : l0.stackTraces = false) {X : MX} {B : BX (EE × K)} {g : GP} {E : EE} {κ' : K} {rr : Int32} {a2 : Pl} {a4 : Pl} (O : CK l0 X B g cX11_giveBack RX11 3 42) (hKP : KPok B E) (hmL : B.2.2.2.1 = 9) (hE : ∀ (pc : Nat) (lv : List (Nat × AV)), decode cX11_giveBack pc = .ok (.ireturn, 1) → J X B (E, κ') pc lv [.inl (.int rr)]) (h0 : PC 11 E 5 0 0) : ∀ (n : Nat) (κ : K) (x1 : Int32) (x3 : Int32) (x5 : Int32) (x6 : Int32), f_X11_giveBack_b3 E a2 a4 n κ x1 x3 x5 x6 = some (κ', rr) → J X B (E, κ) 3 [(0, .inr (some (5, 0, 0))), (1, .inl (.int x1)), (2, .inr (some a2)), (3, .inl (.int x3)), (4, .inr (some a4)), (5, .inl (.int x5)), (6, .inl (.int x6))] [] := by
  intro n
  induction n with
  | zero => intro κ x1 x3 x5 x6 h; cases h
  | succ n ih =>
    intro κ x1 x3 x5 x6 h
    rw [f_X11_giveBack_b3] at h
    refine J_iload O.mo dX11_giveBack_3 6 rfl ?_
    refine J_bipush O.mo (v := 55) dX11_giveBack_5 (by decide) ?_
    refine J_icmp_ge O.mo (tgt := 34) dX11_giveBack_7 (by decide) (fun hc1 => ?_) (fun hc1 => ?_)
    · replace h := (if_pos hc1).symm.trans h
      refine J_sub [0, 1, 2, 3, 4, 5] rfl ?_
      exact w_X11_giveBack_b34 hfl O hKP hmL hE h0 _ _ _ _ h
    · replace h := (if_neg hc1).symm.trans h
      refine J_aload_n O.mo dX11_giveBack_10 0 rfl ?_
      refine J_getF O.co (kd0 := 11) (k11_0 h0) (l11_0 h0) (C := RX11) (T := TX11) (N := 42) rfl (by decide) rfl in_X11 1 (by decide) (v := .inr (some (5, 0, 1))) rfl mw545 rfl dX11_giveBack_11 ?_
      refine J_bipush O.mo (v := 55) dX11_giveBack_14 (by decide) ?_
      refine J_iload_n O.mo dX11_giveBack_16 1 rfl ?_
      refine J_imul O.mo dX11_giveBack_17 ?_
      refine J_iload O.mo dX11_giveBack_18 6 rfl ?_
      refine J_iadd O.mo dX11_giveBack_20 ?_
      refine J_aload_n O.mo dX11_giveBack_21 2 rfl ?_
      refine J_iload_n O.mo dX11_giveBack_22 3 rfl ?_
      refine J_iload O.mo dX11_giveBack_23 6 rfl ?_
      refine J_iadd O.mo dX11_giveBack_25 ?_
      obtain ⟨n49, ar50, hA51, h⟩ := tmpG_some h
      obtain ⟨hg48, h⟩ := gd_some h
      refine J_iald O.co (g := ar50) (ct_A hA51) hg48 dX11_giveBack_26 ?_
      obtain ⟨hg52, h⟩ := gd_some h
      refine row_20 O (l11_1 h0) (k11_1 h0) (n11_1 h0) hg52 (x := (ar50 (x3 + x6).toNatClampNeg)) dX11_giveBack_27 ?_
      refine nm_some (P := fun z => J X B (E, z) 28 [(0, .inr (some (5, 0, 0))), (1, .inl (.int x1)), (2, .inr (some a2)), (3, .inl (.int x3)), (4, .inr (some a4)), (5, .inl (.int x5)), (6, .inl (.int x6))] []) h (fun κ53 h => ?_)
      refine J_iinc O.mo (v := x6 + 1) (lv' := [(0, .inr (some (5, 0, 0))), (1, .inl (.int x1)), (2, .inr (some a2)), (3, .inl (.int x3)), (4, .inr (some a4)), (5, .inl (.int x5))]) dX11_giveBack_28 (by rw [hmL]; decide) 6 rfl (by rw [show Int32.ofInt (1) = (1 : Int32) from by decide]) rfl rfl ?_
      refine nm_some (P := fun z => J X B (E, κ53) 31 [(6, .inl (.int z)), (0, .inr (some (5, 0, 0))), (1, .inl (.int x1)), (2, .inr (some a2)), (3, .inl (.int x3)), (4, .inr (some a4)), (5, .inl (.int x5))] []) h (fun y54 h => ?_)
      refine J_goto O.mo (tgt := 3) dX11_giveBack_31 (by decide) ?_
      refine J_sub [1, 2, 3, 4, 5, 6, 0] rfl ?_
      exact ih _ _ _ _ _ h
set_option maxHeartbeats 4000000 in
set_option maxRecDepth 100000 in
theorem w_X11_giveBack {l0 : Launch} (hfl : l0.stackTraces = false) {X : MX} {B : BX (EE × K)} {g : GP} {E : EE} {κ' : K} {rr : Int32} {a2 : Pl} {a4 : Pl} (O : CK l0 X B g cX11_giveBack RX11 3 42) (hKP : KPok B E) (hmL : B.2.2.2.1 = 9) (hE : ∀ (pc : Nat) (lv : List (Nat × AV)), decode cX11_giveBack pc = .ok (.ireturn, 1) → J X B (E, κ') pc lv [.inl (.int rr)]) (h0 : PC 11 E 5 0 0) : ∀ (κ : K) (a1 : Int32) (a3 : Int32) (a5 : Int32), f_X11_giveBack E κ a1 a2 a3 a4 a5 = some (κ', rr) → J X B (E, κ) 0 [(0, .inr (some (5, 0, 0))), (1, .inl (.int a1)), (2, .inr (some a2)), (3, .inl (.int a3)), (4, .inr (some a4)), (5, .inl (.int a5))] [] := by
  intro κ a1 a3 a5 h
  unfold f_X11_giveBack at h
  refine J_iconst O.mo (v := 0) dX11_giveBack_0 (by decide) ?_
  refine J_istore O.mo (lv' := [(0, .inr (some (5, 0, 0))), (1, .inl (.int a1)), (2, .inr (some a2)), (3, .inl (.int a3)), (4, .inr (some a4)), (5, .inl (.int a5))]) dX11_giveBack_1 (by rw [hmL]; decide) rfl rfl ?_
  refine J_sub [1, 2, 3, 4, 5, 6, 0] rfl ?_
  exact w_X11_giveBack_b3 hfl O hKP hmL hE h0 FU _ _ _ _ _ h
theorem c_X11_giveBack {l : Launch} (hfl : l.stackTraces = false) {E : EE} {κ κ' : K} {a1 : Int32} {a2 : Pl} {a3 : Int32} {a4 : Pl} {a5 : Int32} (h0 : PC 11 E 5 0 0) {rr : Int32} (h : f_X11_giveBack E κ a1 a2 a3 a4 a5 = some (κ', rr)) : Con l yX11_giveBack cX11_giveBack 9 (some .int) 3 42 [.inr (some (5, 0, 0)), .inl (.int a1), .inr (some a2), .inl (.int a3), .inr (some a4), .inl (.int a5)] (E, κ) (E, κ') (some (.inl (.int rr))) := by
  exact Con_of hfl (by decide +kernel) (Nat.le_of_ble_eq_true rfl) rfl ⟨_, rfl, rfl⟩ (fun X B g O hKP hmL hE => w_X11_giveBack hfl O hKP hmL hE h0 _ _ _ _ h)
def f_X11_snapshot_b229 (E : EE) (κ : K) (x1 : Int32) (x3 : Int32) : Option (K × Int32) := gd (¬ (x1 < 0 ∨ 5 ≤ x1.toNatClampNeg)) (nm (setV κ 5 0 12 x1.toNatClampNeg x3) fun κ22 => some (κ22, x3))
def f_X11_snapshot_b221 (E : EE) (k107 : K → Int32 → Int32 → Int32 → Option (K × Int32)) (κ : K) (x1 : Int32) (x3 : Int32) (x4 : Int32) (xs0 : Int32) (xs1 : Int32) (xs2 : Int32) : Option (K × Int32) := gd (¬ (xs2 < 0 ∨ 10 ≤ xs2.toNatClampNeg)) (nm (setV κ 5 0 10 xs2.toNatClampNeg (xs1 + xs0)) fun κ28 => nm (x4 + 1) fun y29 => k107 κ28 x1 x3 y29)
def f_X11_snapshot_b204 (E : EE) (k107 : K → Int32 → Int32 → Int32 → Option (K × Int32)) (κ : K) (x1 : Int32) (x3 : Int32) (x4 : Int32) (x5 : Int32) : Option (K × Int32) := gd (¬ (x3 < 0 ∨ 10 ≤ x3.toNatClampNeg)) (if x5 = 0 then f_X11_snapshot_b221 E k107 κ x1 x3 x4 1 ((kV κ 5 0 10) x3.toNatClampNeg) x3 else f_X11_snapshot_b221 E k107 κ x1 x3 x4 0 ((kV κ 5 0 10) x3.toNatClampNeg) x3)
def f_X11_snapshot_b196 (E : EE) (k107 : K → Int32 → Int32 → Int32 → Option (K × Int32)) (k123 : K → Int32 → Int32 → Int32 → Int32 → Int32 → Option (K × Int32)) (κ : K) (x1 : Int32) (x3 : Int32) (x4 : Int32) (x6 : Int32) (xs0 : Int32) : Option (K × Int32) := nm (x6 + 1) fun y31 => k123 κ x1 x3 x4 xs0 y31
def f_X11_snapshot_b195 (E : EE) (k107 : K → Int32 → Int32 → Int32 → Option (K × Int32)) (k123 : K → Int32 → Int32 → Int32 → Int32 → Int32 → Option (K × Int32)) (κ : K) (x1 : Int32) (x3 : Int32) (x4 : Int32) (x6 : Int32) : Option (K × Int32) := f_X11_snapshot_b196 E k107 k123 κ x1 x3 x4 x6 0
def f_X11_snapshot_b188 (E : EE) (k107 : K → Int32 → Int32 → Int32 → Option (K × Int32)) (k123 : K → Int32 → Int32 → Int32 → Int32 → Int32 → Option (K × Int32)) (κ : K) (x1 : Int32) (x3 : Int32) (x4 : Int32) (x6 : Int32) (xs0 : Int32) (xs1 : Int32) : Option (K × Int32) := if xs1 = xs0 then f_X11_snapshot_b196 E k107 k123 κ x1 x3 x4 x6 1 else f_X11_snapshot_b195 E k107 k123 κ x1 x3 x4 x6
def f_X11_snapshot_b123 (E : EE) (k107 : K → Int32 → Int32 → Int32 → Option (K × Int32)) : Nat → K → Int32 → Int32 → Int32 → Int32 → Int32 → Option (K × Int32)
  | 0, _, _, _, _, _, _ => none
  | n + 1, κ, x1, x3, x4, x5, x6 => if (4 * x4) + 4 ≤ x6 then f_X11_snapshot_b204 E k107 κ x1 x3 x4 x5 else if x5 = 0 then f_X11_snapshot_b195 E k107 (f_X11_snapshot_b123 E k107 n) κ x1 x3 x4 x6 else gd (¬ ((((55 * x1) + 17) + x6) < 0 ∨ 275 ≤ (((55 * x1) + 17) + x6).toNatClampNeg)) (gd (¬ (x1 < 0 ∨ 5 ≤ x1.toNatClampNeg)) (if (kV κ 5 0 12) x1.toNatClampNeg = (-1) then f_X11_snapshot_b188 E k107 (f_X11_snapshot_b123 E k107 n) κ x1 x3 x4 x6 0 ((kV κ 5 0 1) (((55 * x1) + 17) + x6).toNatClampNeg) else gd (¬ (x1 < 0 ∨ 5 ≤ x1.toNatClampNeg)) (gd (¬ ((((55 * ((kV κ 5 0 12) x1.toNatClampNeg)) + 17) + x6) < 0 ∨ 550 ≤ (((55 * ((kV κ 5 0 12) x1.toNatClampNeg)) + 17) + x6).toNatClampNeg)) (f_X11_snapshot_b188 E k107 (f_X11_snapshot_b123 E k107 n) κ x1 x3 x4 x6 ((kV κ 5 0 7) (((55 * ((kV κ 5 0 12) x1.toNatClampNeg)) + 17) + x6).toNatClampNeg) ((kV κ 5 0 1) (((55 * x1) + 17) + x6).toNatClampNeg)))))
def f_X11_snapshot_b107 (E : EE) : Nat → K → Int32 → Int32 → Int32 → Option (K × Int32)
  | 0, _, _, _, _ => none
  | n + 1, κ, x1, x3, x4 => if 8 ≤ x4 then f_X11_snapshot_b229 E κ x1 x3 else nm (4 * x4) fun y23 => f_X11_snapshot_b123 E (f_X11_snapshot_b107 E n) FU κ x1 x3 x4 1 y23
def f_X11_snapshot_b45 (E : EE) (κ : K) (x1 : Int32) (xs0 : Int32) : Option (K × Int32) := bd (f_X11_refused E κ xs0) fun κ7 r9 => if r9 = 0 then nm (kV κ7 5 0 0 11) fun y11 => nm (setV κ7 5 0 0 11 ((kV κ7 5 0 0 11) + 1)) fun κ12 => bd (f_X11_keep E κ12 x1 5 0 7 (55 * y11) 5 0 8 (512 * y11)) fun κ13 _ => gd (¬ (y11 < 0 ∨ 10 ≤ y11.toNatClampNeg)) (nm (setV κ13 5 0 9 y11.toNatClampNeg x1) fun κ17 => gd (¬ (y11 < 0 ∨ 10 ≤ y11.toNatClampNeg)) (nm (setV κ17 5 0 10 y11.toNatClampNeg 0) fun κ19 => f_X11_snapshot_b107 E FU κ19 x1 y11 0)) else some (κ7, 0)
def f_X11_snapshot_b40 (E : EE) (κ : K) (x1 : Int32) : Option (K × Int32) := f_X11_snapshot_b45 E κ x1 2
def f_X11_snapshot (E : EE) (κ : K) (a1 : Int32) : Option (K × Int32) := bd (f_X11_isGuest E κ a1) fun κ1 r3 => if r3 = 0 then f_X11_snapshot_b45 E κ1 a1 1 else gd (¬ (((55 * a1) + 49) < 0 ∨ 275 ≤ ((55 * a1) + 49).toNatClampNeg)) (if (kV κ1 5 0 1) ((55 * a1) + 49).toNatClampNeg = 3 then f_X11_snapshot_b40 E κ1 a1 else if kV κ1 5 0 0 11 = 10 then f_X11_snapshot_b40 E κ1 a1 else f_X11_snapshot_b45 E κ1 a1 0)
set_option maxHeartbeats 4000000 in
set_option maxRecDepth 100000 in
theorem w_X11_snapshot_b229 {l0 : Launch} (hfl : l0.stackTraces = false) {X : MX} {B : BX (EE × K)} {g : GP} {E : EE} {κ' : K} {rr : Int32} (O : CK l0 X B g cX11_snapshot RX11 4 67) (hKP : KPok B E) (hmL : B.2.2.2.1 = 7) (hE : ∀ (pc : Nat) (lv : List (Nat × AV)), decode cX11_snapshot pc = .ok (.ireturn, 1) → J X B (E, κ') pc lv [.inl (.int rr)]) (h0 : PC 11 E 5 0 0) : ∀ (κ : K) (x1 : Int32) (x3 : Int32), f_X11_snapshot_b229 E κ x1 x3 = some (κ', rr) → J X B (E, κ) 229 [(0, .inr (some (5, 0, 0))), (1, .inl (.int x1)), (3, .inl (.int x3))] [] := by
  intro κ x1 x3 h
  unfold f_X11_snapshot_b229 at h
  refine J_aload_n O.mo dX11_snapshot_229 0 rfl ?_
  refine J_getF O.co (kd0 := 11) (k11_0 h0) (l11_0 h0) (C := RX11) (T := TX11) (N := 42) rfl (by decide) rfl in_X11 12 (by decide) (v := .inr (some (5, 0, 12))) rfl mw610 rfl dX11_snapshot_230 ?_
  refine J_iload_n O.mo dX11_snapshot_233 1 rfl ?_
  refine J_iload_n O.mo dX11_snapshot_234 2 rfl ?_
  obtain ⟨hg21, h⟩ := gd_some h
  refine row_20 O (l11_12 h0) (k11_12 h0) (n11_12 h0) hg21 (x := x3) dX11_snapshot_235 ?_
  refine nm_some (P := fun z => J X B (E, z) 236 [(0, .inr (some (5, 0, 0))), (1, .inl (.int x1)), (3, .inl (.int x3))] []) h (fun κ22 h => ?_)
  refine J_iload_n O.mo dX11_snapshot_236 2 rfl ?_
  cases h
  exact hE _ _ dX11_snapshot_237
set_option maxHeartbeats 4000000 in
set_option maxRecDepth 100000 in
theorem w_X11_snapshot_b221 {l0 : Launch} (hfl : l0.stackTraces = false) {X : MX} {B : BX (EE × K)} {g : GP} {E : EE} {κ' : K} {rr : Int32} (O : CK l0 X B g cX11_snapshot RX11 4 67) (hKP : KPok B E) (hmL : B.2.2.2.1 = 7) (hE : ∀ (pc : Nat) (lv : List (Nat × AV)), decode cX11_snapshot pc = .ok (.ireturn, 1) → J X B (E, κ') pc lv [.inl (.int rr)]) (h0 : PC 11 E 5 0 0) {k107 : K → Int32 → Int32 → Int32 → Option (K × Int32)} (hk107 : ∀ (κ : K) (x1 : Int32) (x3 : Int32) (x4 : Int32), k107 κ x1 x3 x4 = some (κ', rr) → J X B (E, κ) 107 [(0, .inr (some (5, 0, 0))), (1, .inl (.int x1)), (3, .inl (.int x3)), (4, .inl (.int x4))] []) : ∀ (κ : K) (x1 : Int32) (x3 : Int32) (x4 : Int32) (xs0 : Int32) (xs1 : Int32) (xs2 : Int32), f_X11_snapshot_b221 E k107 κ x1 x3 x4 xs0 xs1 xs2 = some (κ', rr) → J X B (E, κ) 221 [(0, .inr (some (5, 0, 0))), (1, .inl (.int x1)), (3, .inl (.int x3)), (4, .inl (.int x4))] [.inl (.int xs0), .inl (.int xs1), .inl (.int xs2), .inr (some (5, 0, 10))] := by
  intro κ x1 x3 x4 xs0 xs1 xs2 h
  unfold f_X11_snapshot_b221 at h
  refine J_iadd O.mo dX11_snapshot_221 ?_
  obtain ⟨hg27, h⟩ := gd_some h
  refine row_20 O (l11_10 h0) (k11_10 h0) (n11_10 h0) hg27 (x := (xs1 + xs0)) dX11_snapshot_222 ?_
  refine nm_some (P := fun z => J X B (E, z) 223 [(0, .inr (some (5, 0, 0))), (1, .inl (.int x1)), (3, .inl (.int x3)), (4, .inl (.int x4))] []) h (fun κ28 h => ?_)
  refine J_iinc O.mo (v := x4 + 1) (lv' := [(0, .inr (some (5, 0, 0))), (1, .inl (.int x1)), (3, .inl (.int x3))]) dX11_snapshot_223 (by rw [hmL]; decide) 3 rfl (by rw [show Int32.ofInt (1) = (1 : Int32) from by decide]) rfl rfl ?_
  refine nm_some (P := fun z => J X B (E, κ28) 226 [(4, .inl (.int z)), (0, .inr (some (5, 0, 0))), (1, .inl (.int x1)), (3, .inl (.int x3))] []) h (fun y29 h => ?_)
  refine J_goto O.mo (tgt := 107) dX11_snapshot_226 (by decide) ?_
  refine J_sub [1, 2, 3, 0] rfl ?_
  exact hk107 _ _ _ _ h
set_option maxHeartbeats 4000000 in
set_option maxRecDepth 100000 in
theorem w_X11_snapshot_b204 {l0 : Launch} (hfl : l0.stackTraces = false) {X : MX} {B : BX (EE × K)} {g : GP} {E : EE} {κ' : K} {rr : Int32} (O : CK l0 X B g cX11_snapshot RX11 4 67) (hKP : KPok B E) (hmL : B.2.2.2.1 = 7) (hE : ∀ (pc : Nat) (lv : List (Nat × AV)), decode cX11_snapshot pc = .ok (.ireturn, 1) → J X B (E, κ') pc lv [.inl (.int rr)]) (h0 : PC 11 E 5 0 0) {k107 : K → Int32 → Int32 → Int32 → Option (K × Int32)} (hk107 : ∀ (κ : K) (x1 : Int32) (x3 : Int32) (x4 : Int32), k107 κ x1 x3 x4 = some (κ', rr) → J X B (E, κ) 107 [(0, .inr (some (5, 0, 0))), (1, .inl (.int x1)), (3, .inl (.int x3)), (4, .inl (.int x4))] []) : ∀ (κ : K) (x1 : Int32) (x3 : Int32) (x4 : Int32) (x5 : Int32), f_X11_snapshot_b204 E k107 κ x1 x3 x4 x5 = some (κ', rr) → J X B (E, κ) 204 [(0, .inr (some (5, 0, 0))), (1, .inl (.int x1)), (3, .inl (.int x3)), (4, .inl (.int x4)), (5, .inl (.int x5))] [] := by
  intro κ x1 x3 x4 x5 h
  unfold f_X11_snapshot_b204 at h
  refine J_aload_n O.mo dX11_snapshot_204 0 rfl ?_
  refine J_getF O.co (kd0 := 11) (k11_0 h0) (l11_0 h0) (C := RX11) (T := TX11) (N := 42) rfl (by decide) rfl in_X11 10 (by decide) (v := .inr (some (5, 0, 10))) rfl mw660 rfl dX11_snapshot_205 ?_
  refine J_iload_n O.mo dX11_snapshot_208 2 rfl ?_
  refine J_dup2 O.mo dX11_snapshot_209 rfl rfl ?_
  obtain ⟨hg25, h⟩ := gd_some h
  refine J_iald O.co (g := (kV κ 5 0 10)) (ct_20n (l11_10 h0) (k11_10 h0) (n11_10 h0)) hg25 dX11_snapshot_210 ?_
  refine J_iload O.mo dX11_snapshot_211 4 rfl ?_
  refine J_if_eq O.mo (tgt := 220) dX11_snapshot_213 (by decide) (fun hc26 => ?_) (fun hc26 => ?_)
  · replace h := (if_pos hc26).symm.trans h
    refine J_iconst O.mo (v := 1) dX11_snapshot_220 (by decide) ?_
    refine J_sub [0, 1, 2, 3] rfl ?_
    exact w_X11_snapshot_b221 hfl O hKP hmL hE h0 hk107 _ _ _ _ _ _ _ h
  · replace h := (if_neg hc26).symm.trans h
    refine J_iconst O.mo (v := 0) dX11_snapshot_216 (by decide) ?_
    refine J_goto O.mo (tgt := 221) dX11_snapshot_217 (by decide) ?_
    refine J_sub [0, 1, 2, 3] rfl ?_
    exact w_X11_snapshot_b221 hfl O hKP hmL hE h0 hk107 _ _ _ _ _ _ _ h
set_option maxHeartbeats 4000000 in
set_option maxRecDepth 100000 in
theorem w_X11_snapshot_b196 {l0 : Launch} (hfl : l0.stackTraces = false) {X : MX} {B : BX (EE × K)} {g : GP} {E : EE} {κ' : K} {rr : Int32} (O : CK l0 X B g cX11_snapshot RX11 4 67) (hKP : KPok B E) (hmL : B.2.2.2.1 = 7) (hE : ∀ (pc : Nat) (lv : List (Nat × AV)), decode cX11_snapshot pc = .ok (.ireturn, 1) → J X B (E, κ') pc lv [.inl (.int rr)]) (h0 : PC 11 E 5 0 0) {k107 : K → Int32 → Int32 → Int32 → Option (K × Int32)} {k123 : K → Int32 → Int32 → Int32 → Int32 → Int32 → Option (K × Int32)} (hk107 : ∀ (κ : K) (x1 : Int32) (x3 : Int32) (x4 : Int32), k107 κ x1 x3 x4 = some (κ', rr) → J X B (E, κ) 107 [(0, .inr (some (5, 0, 0))), (1, .inl (.int x1)), (3, .inl (.int x3)), (4, .inl (.int x4))] []) (hk123 : ∀ (κ : K) (x1 : Int32) (x3 : Int32) (x4 : Int32) (x5 : Int32) (x6 : Int32), k123 κ x1 x3 x4 x5 x6 = some (κ', rr) → J X B (E, κ) 123 [(0, .inr (some (5, 0, 0))), (1, .inl (.int x1)), (3, .inl (.int x3)), (4, .inl (.int x4)), (5, .inl (.int x5)), (6, .inl (.int x6))] []) : ∀ (κ : K) (x1 : Int32) (x3 : Int32) (x4 : Int32) (x6 : Int32) (xs0 : Int32), f_X11_snapshot_b196 E k107 k123 κ x1 x3 x4 x6 xs0 = some (κ', rr) → J X B (E, κ) 196 [(0, .inr (some (5, 0, 0))), (1, .inl (.int x1)), (3, .inl (.int x3)), (4, .inl (.int x4)), (6, .inl (.int x6))] [.inl (.int xs0)] := by
  intro κ x1 x3 x4 x6 xs0 h
  unfold f_X11_snapshot_b196 at h
  refine J_istore O.mo (lv' := [(0, .inr (some (5, 0, 0))), (1, .inl (.int x1)), (3, .inl (.int x3)), (4, .inl (.int x4)), (6, .inl (.int x6))]) dX11_snapshot_196 (by rw [hmL]; decide) rfl rfl ?_
  refine J_iinc O.mo (v := x6 + 1) (lv' := [(5, .inl (.int xs0)), (0, .inr (some (5, 0, 0))), (1, .inl (.int x1)), (3, .inl (.int x3)), (4, .inl (.int x4))]) dX11_snapshot_198 (by rw [hmL]; decide) 5 rfl (by rw [show Int32.ofInt (1) = (1 : Int32) from by decide]) rfl rfl ?_
  refine nm_some (P := fun z => J X B (E, κ) 201 [(6, .inl (.int z)), (5, .inl (.int xs0)), (0, .inr (some (5, 0, 0))), (1, .inl (.int x1)), (3, .inl (.int x3)), (4, .inl (.int x4))] []) h (fun y31 h => ?_)
  refine J_goto O.mo (tgt := 123) dX11_snapshot_201 (by decide) ?_
  refine J_sub [2, 3, 4, 5, 1, 0] rfl ?_
  exact hk123 _ _ _ _ _ _ h
set_option maxHeartbeats 4000000 in
set_option maxRecDepth 100000 in
theorem w_X11_snapshot_b195 {l0 : Launch} (hfl : l0.stackTraces = false) {X : MX} {B : BX (EE × K)} {g : GP} {E : EE} {κ' : K} {rr : Int32} (O : CK l0 X B g cX11_snapshot RX11 4 67) (hKP : KPok B E) (hmL : B.2.2.2.1 = 7) (hE : ∀ (pc : Nat) (lv : List (Nat × AV)), decode cX11_snapshot pc = .ok (.ireturn, 1) → J X B (E, κ') pc lv [.inl (.int rr)]) (h0 : PC 11 E 5 0 0) {k107 : K → Int32 → Int32 → Int32 → Option (K × Int32)} {k123 : K → Int32 → Int32 → Int32 → Int32 → Int32 → Option (K × Int32)} (hk107 : ∀ (κ : K) (x1 : Int32) (x3 : Int32) (x4 : Int32), k107 κ x1 x3 x4 = some (κ', rr) → J X B (E, κ) 107 [(0, .inr (some (5, 0, 0))), (1, .inl (.int x1)), (3, .inl (.int x3)), (4, .inl (.int x4))] []) (hk123 : ∀ (κ : K) (x1 : Int32) (x3 : Int32) (x4 : Int32) (x5 : Int32) (x6 : Int32), k123 κ x1 x3 x4 x5 x6 = some (κ', rr) → J X B (E, κ) 123 [(0, .inr (some (5, 0, 0))), (1, .inl (.int x1)), (3, .inl (.int x3)), (4, .inl (.int x4)), (5, .inl (.int x5)), (6, .inl (.int x6))] []) : ∀ (κ : K) (x1 : Int32) (x3 : Int32) (x4 : Int32) (x6 : Int32), f_X11_snapshot_b195 E k107 k123 κ x1 x3 x4 x6 = some (κ', rr) → J X B (E, κ) 195 [(0, .inr (some (5, 0, 0))), (1, .inl (.int x1)), (3, .inl (.int x3)), (4, .inl (.int x4)), (6, .inl (.int x6))] [] := by
  intro κ x1 x3 x4 x6 h
  unfold f_X11_snapshot_b195 at h
  refine J_iconst O.mo (v := 0) dX11_snapshot_195 (by decide) ?_
  exact w_X11_snapshot_b196 hfl O hKP hmL hE h0 hk107 hk123 _ _ _ _ _ _ h
set_option maxHeartbeats 4000000 in
set_option maxRecDepth 100000 in
theorem w_X11_snapshot_b188 {l0 : Launch} (hfl : l0.stackTraces = false) {X : MX} {B : BX (EE × K)} {g : GP} {E : EE} {κ' : K} {rr : Int32} (O : CK l0 X B g cX11_snapshot RX11 4 67) (hKP : KPok B E) (hmL : B.2.2.2.1 = 7) (hE : ∀ (pc : Nat) (lv : List (Nat × AV)), decode cX11_snapshot pc = .ok (.ireturn, 1) → J X B (E, κ') pc lv [.inl (.int rr)]) (h0 : PC 11 E 5 0 0) {k107 : K → Int32 → Int32 → Int32 → Option (K × Int32)} {k123 : K → Int32 → Int32 → Int32 → Int32 → Int32 → Option (K × Int32)} (hk107 : ∀ (κ : K) (x1 : Int32) (x3 : Int32) (x4 : Int32), k107 κ x1 x3 x4 = some (κ', rr) → J X B (E, κ) 107 [(0, .inr (some (5, 0, 0))), (1, .inl (.int x1)), (3, .inl (.int x3)), (4, .inl (.int x4))] []) (hk123 : ∀ (κ : K) (x1 : Int32) (x3 : Int32) (x4 : Int32) (x5 : Int32) (x6 : Int32), k123 κ x1 x3 x4 x5 x6 = some (κ', rr) → J X B (E, κ) 123 [(0, .inr (some (5, 0, 0))), (1, .inl (.int x1)), (3, .inl (.int x3)), (4, .inl (.int x4)), (5, .inl (.int x5)), (6, .inl (.int x6))] []) : ∀ (κ : K) (x1 : Int32) (x3 : Int32) (x4 : Int32) (x6 : Int32) (xs0 : Int32) (xs1 : Int32), f_X11_snapshot_b188 E k107 k123 κ x1 x3 x4 x6 xs0 xs1 = some (κ', rr) → J X B (E, κ) 188 [(0, .inr (some (5, 0, 0))), (1, .inl (.int x1)), (3, .inl (.int x3)), (4, .inl (.int x4)), (6, .inl (.int x6))] [.inl (.int xs0), .inl (.int xs1)] := by
  intro κ x1 x3 x4 x6 xs0 xs1 h
  unfold f_X11_snapshot_b188 at h
  refine J_icmp_ne O.mo (tgt := 195) dX11_snapshot_188 (by decide) (fun hc37 => ?_) (fun hc37 => ?_)
  · replace h := (if_neg hc37).symm.trans h
    exact w_X11_snapshot_b195 hfl O hKP hmL hE h0 hk107 hk123 _ _ _ _ _ h
  · replace h := (if_pos hc37).symm.trans h
    refine J_iconst O.mo (v := 1) dX11_snapshot_191 (by decide) ?_
    refine J_goto O.mo (tgt := 196) dX11_snapshot_192 (by decide) ?_
    exact w_X11_snapshot_b196 hfl O hKP hmL hE h0 hk107 hk123 _ _ _ _ _ _ h
set_option maxHeartbeats 4000000 in
set_option maxRecDepth 100000 in
theorem w_X11_snapshot_b123 {l0 : Launch} (hfl : l0.stackTraces = false) {X : MX} {B : BX (EE × K)} {g : GP} {E : EE} {κ' : K} {rr : Int32} (O : CK l0 X B g cX11_snapshot RX11 4 67) (hKP : KPok B E) (hmL : B.2.2.2.1 = 7) (hE : ∀ (pc : Nat) (lv : List (Nat × AV)), decode cX11_snapshot pc = .ok (.ireturn, 1) → J X B (E, κ') pc lv [.inl (.int rr)]) (h0 : PC 11 E 5 0 0) {k107 : K → Int32 → Int32 → Int32 → Option (K × Int32)} (hk107 : ∀ (κ : K) (x1 : Int32) (x3 : Int32) (x4 : Int32), k107 κ x1 x3 x4 = some (κ', rr) → J X B (E, κ) 107 [(0, .inr (some (5, 0, 0))), (1, .inl (.int x1)), (3, .inl (.int x3)), (4, .inl (.int x4))] []) : ∀ (n : Nat) (κ : K) (x1 : Int32) (x3 : Int32) (x4 : Int32) (x5 : Int32) (x6 : Int32), f_X11_snapshot_b123 E k107 n κ x1 x3 x4 x5 x6 = some (κ', rr) → J X B (E, κ) 123 [(0, .inr (some (5, 0, 0))), (1, .inl (.int x1)), (3, .inl (.int x3)), (4, .inl (.int x4)), (5, .inl (.int x5)), (6, .inl (.int x6))] [] := by
  intro n
  induction n with
  | zero => intro κ x1 x3 x4 x5 x6 h; cases h
  | succ n ih =>
    intro κ x1 x3 x4 x5 x6 h
    rw [f_X11_snapshot_b123] at h
    refine J_iload O.mo dX11_snapshot_123 5 rfl ?_
    refine J_iconst O.mo (v := 4) dX11_snapshot_125 (by decide) ?_
    refine J_iload O.mo dX11_snapshot_126 3 rfl ?_
    refine J_imul O.mo dX11_snapshot_128 ?_
    refine J_iconst O.mo (v := 4) dX11_snapshot_129 (by decide) ?_
    refine J_iadd O.mo dX11_snapshot_130 ?_
    refine J_icmp_ge O.mo (tgt := 204) dX11_snapshot_131 (by decide) (fun hc24 => ?_) (fun hc24 => ?_)
    · replace h := (if_pos hc24).symm.trans h
      refine J_sub [0, 1, 2, 3, 4] rfl ?_
      exact w_X11_snapshot_b204 hfl O hKP hmL hE h0 hk107 _ _ _ _ _ h
    · replace h := (if_neg hc24).symm.trans h
      refine J_iload O.mo dX11_snapshot_134 4 rfl ?_
      refine J_if_eq O.mo (tgt := 195) dX11_snapshot_136 (by decide) (fun hc30 => ?_) (fun hc30 => ?_)
      · replace h := (if_pos hc30).symm.trans h
        refine J_sub [0, 1, 2, 3, 5] rfl ?_
        exact w_X11_snapshot_b195 hfl O hKP hmL hE h0 hk107 ih _ _ _ _ _ h
      · replace h := (if_neg hc30).symm.trans h
        refine J_aload_n O.mo dX11_snapshot_139 0 rfl ?_
        refine J_getF O.co (kd0 := 11) (k11_0 h0) (l11_0 h0) (C := RX11) (T := TX11) (N := 42) rfl (by decide) rfl in_X11 1 (by decide) (v := .inr (some (5, 0, 1))) rfl mw545 rfl dX11_snapshot_140 ?_
        refine J_bipush O.mo (v := 55) dX11_snapshot_143 (by decide) ?_
        refine J_iload_n O.mo dX11_snapshot_145 1 rfl ?_
        refine J_imul O.mo dX11_snapshot_146 ?_
        refine J_bipush O.mo (v := 17) dX11_snapshot_147 (by decide) ?_
        refine J_iadd O.mo dX11_snapshot_149 ?_
        refine J_iload O.mo dX11_snapshot_150 5 rfl ?_
        refine J_iadd O.mo dX11_snapshot_152 ?_
        obtain ⟨hg32, h⟩ := gd_some h
        refine J_iald O.co (g := (kV κ 5 0 1)) (ct_20n (l11_1 h0) (k11_1 h0) (n11_1 h0)) hg32 dX11_snapshot_153 ?_
        refine J_aload_n O.mo dX11_snapshot_154 0 rfl ?_
        refine J_getF O.co (kd0 := 11) (k11_0 h0) (l11_0 h0) (C := RX11) (T := TX11) (N := 42) rfl (by decide) rfl in_X11 12 (by decide) (v := .inr (some (5, 0, 12))) rfl mw610 rfl dX11_snapshot_155 ?_
        refine J_iload_n O.mo dX11_snapshot_158 1 rfl ?_
        obtain ⟨hg33, h⟩ := gd_some h
        refine J_iald O.co (g := (kV κ 5 0 12)) (ct_20n (l11_12 h0) (k11_12 h0) (n11_12 h0)) hg33 dX11_snapshot_159 ?_
        refine J_iconst O.mo (v := (-1)) dX11_snapshot_160 (by decide) ?_
        refine J_icmp_ne O.mo (tgt := 168) dX11_snapshot_161 (by decide) (fun hc34 => ?_) (fun hc34 => ?_)
        · replace h := (if_neg hc34).symm.trans h
          refine J_aload_n O.mo dX11_snapshot_168 0 rfl ?_
          refine J_getF O.co (kd0 := 11) (k11_0 h0) (l11_0 h0) (C := RX11) (T := TX11) (N := 42) rfl (by decide) rfl in_X11 7 (by decide) (v := .inr (some (5, 0, 7))) rfl mw653 rfl dX11_snapshot_169 ?_
          refine J_bipush O.mo (v := 55) dX11_snapshot_172 (by decide) ?_
          refine J_aload_n O.mo dX11_snapshot_174 0 rfl ?_
          refine J_getF O.co (kd0 := 11) (k11_0 h0) (l11_0 h0) (C := RX11) (T := TX11) (N := 42) rfl (by decide) rfl in_X11 12 (by decide) (v := .inr (some (5, 0, 12))) rfl mw610 rfl dX11_snapshot_175 ?_
          refine J_iload_n O.mo dX11_snapshot_178 1 rfl ?_
          obtain ⟨hg35, h⟩ := gd_some h
          refine J_iald O.co (g := (kV κ 5 0 12)) (ct_20n (l11_12 h0) (k11_12 h0) (n11_12 h0)) hg35 dX11_snapshot_179 ?_
          refine J_imul O.mo dX11_snapshot_180 ?_
          refine J_bipush O.mo (v := 17) dX11_snapshot_181 (by decide) ?_
          refine J_iadd O.mo dX11_snapshot_183 ?_
          refine J_iload O.mo dX11_snapshot_184 5 rfl ?_
          refine J_iadd O.mo dX11_snapshot_186 ?_
          obtain ⟨hg36, h⟩ := gd_some h
          refine J_iald O.co (g := (kV κ 5 0 7)) (ct_20n (l11_7 h0) (k11_7 h0) (n11_7 h0)) hg36 dX11_snapshot_187 ?_
          refine J_sub [0, 1, 2, 3, 5] rfl ?_
          exact w_X11_snapshot_b188 hfl O hKP hmL hE h0 hk107 ih _ _ _ _ _ _ _ h
        · replace h := (if_pos hc34).symm.trans h
          refine J_iconst O.mo (v := 0) dX11_snapshot_164 (by decide) ?_
          refine J_goto O.mo (tgt := 188) dX11_snapshot_165 (by decide) ?_
          refine J_sub [0, 1, 2, 3, 5] rfl ?_
          exact w_X11_snapshot_b188 hfl O hKP hmL hE h0 hk107 ih _ _ _ _ _ _ _ h
set_option maxHeartbeats 4000000 in
set_option maxRecDepth 100000 in
theorem w_X11_snapshot_b107 {l0 : Launch} (hfl : l0.stackTraces = false) {X : MX} {B : BX (EE × K)} {g : GP} {E : EE} {κ' : K} {rr : Int32} (O : CK l0 X B g cX11_snapshot RX11 4 67) (hKP : KPok B E) (hmL : B.2.2.2.1 = 7) (hE : ∀ (pc : Nat) (lv : List (Nat × AV)), decode cX11_snapshot pc = .ok (.ireturn, 1) → J X B (E, κ') pc lv [.inl (.int rr)]) (h0 : PC 11 E 5 0 0) : ∀ (n : Nat) (κ : K) (x1 : Int32) (x3 : Int32) (x4 : Int32), f_X11_snapshot_b107 E n κ x1 x3 x4 = some (κ', rr) → J X B (E, κ) 107 [(0, .inr (some (5, 0, 0))), (1, .inl (.int x1)), (3, .inl (.int x3)), (4, .inl (.int x4))] [] := by
  intro n
  induction n with
  | zero => intro κ x1 x3 x4 h; cases h
  | succ n ih =>
    intro κ x1 x3 x4 h
    rw [f_X11_snapshot_b107] at h
    refine J_iload O.mo dX11_snapshot_107 3 rfl ?_
    refine J_bipush O.mo (v := 8) dX11_snapshot_109 (by decide) ?_
    refine J_icmp_ge O.mo (tgt := 229) dX11_snapshot_111 (by decide) (fun hc20 => ?_) (fun hc20 => ?_)
    · replace h := (if_pos hc20).symm.trans h
      refine J_sub [0, 1, 2] rfl ?_
      exact w_X11_snapshot_b229 hfl O hKP hmL hE h0 _ _ _ h
    · replace h := (if_neg hc20).symm.trans h
      refine J_iconst O.mo (v := 1) dX11_snapshot_114 (by decide) ?_
      refine J_istore O.mo (lv' := [(0, .inr (some (5, 0, 0))), (1, .inl (.int x1)), (3, .inl (.int x3)), (4, .inl (.int x4))]) dX11_snapshot_115 (by rw [hmL]; decide) rfl rfl ?_
      refine J_iconst O.mo (v := 4) dX11_snapshot_117 (by decide) ?_
      refine J_iload O.mo dX11_snapshot_118 4 rfl ?_
      refine J_imul O.mo dX11_snapshot_120 ?_
      refine J_istore O.mo (lv' := [(5, .inl (.int 1)), (0, .inr (some (5, 0, 0))), (1, .inl (.int x1)), (3, .inl (.int x3)), (4, .inl (.int x4))]) dX11_snapshot_121 (by rw [hmL]; decide) rfl rfl ?_
      refine nm_some (P := fun z => J X B (E, κ) 123 [(6, .inl (.int z)), (5, .inl (.int 1)), (0, .inr (some (5, 0, 0))), (1, .inl (.int x1)), (3, .inl (.int x3)), (4, .inl (.int x4))] []) h (fun y23 h => ?_)
      refine J_sub [2, 3, 4, 5, 1, 0] rfl ?_
      exact w_X11_snapshot_b123 hfl O hKP hmL hE h0 ih FU _ _ _ _ _ _ h
set_option maxHeartbeats 4000000 in
set_option maxRecDepth 100000 in
theorem w_X11_snapshot_b45 {l0 : Launch} (hfl : l0.stackTraces = false) {X : MX} {B : BX (EE × K)} {g : GP} {E : EE} {κ' : K} {rr : Int32} (O : CK l0 X B g cX11_snapshot RX11 4 67) (hKP : KPok B E) (hmL : B.2.2.2.1 = 7) (hE : ∀ (pc : Nat) (lv : List (Nat × AV)), decode cX11_snapshot pc = .ok (.ireturn, 1) → J X B (E, κ') pc lv [.inl (.int rr)]) (h0 : PC 11 E 5 0 0) : ∀ (κ : K) (x1 : Int32) (xs0 : Int32), f_X11_snapshot_b45 E κ x1 xs0 = some (κ', rr) → J X B (E, κ) 45 [(0, .inr (some (5, 0, 0))), (1, .inl (.int x1))] [.inl (.int xs0), .inr (some (5, 0, 0))] := by
  intro κ x1 xs0 h
  unfold f_X11_snapshot_b45 at h
  obtain ⟨κ7, r9, hq8, h⟩ := bd_some h
  refine J_callV O hKP (as := [.inl (.int xs0)]) (rest := []) (r := (some (.inl (.int r9)))) (c_X11_refused hfl h0 hq8) rfl (kd0 := 11) (k11_0 h0) (l11_0 h0) (T := TX11) (N := 42) rfl (by decide) mw605 mw606 mw607 mw517 mw608 pd_X11_refused rfl (by decide) rfl (Nat.le_of_ble_eq_true rfl) (sl_p (s11_0 h0) (sl_v sl_0)) st_0 dX11_snapshot_45 ?_
  show J X B (E, κ7) 48 [(0, .inr (some (5, 0, 0))), (1, .inl (.int x1))] [.inl (.int r9)]
  refine J_if_eq O.mo (tgt := 53) dX11_snapshot_48 (by decide) (fun hc10 => ?_) (fun hc10 => ?_)
  · replace h := (if_pos hc10).symm.trans h
    refine J_aload_n O.mo dX11_snapshot_53 0 rfl ?_
    refine J_getF O.co (kd0 := 11) (k11_0 h0) (l11_0 h0) (C := RX11) (T := TX11) (N := 42) rfl (by decide) rfl in_X11 11 (by decide) (v := .inl (.int (kV κ7 5 0 0 11))) rfl mw652 rfl dX11_snapshot_54 ?_
    refine J_istore_n O.mo (lv' := [(0, .inr (some (5, 0, 0))), (1, .inl (.int x1))]) dX11_snapshot_57 (by rw [hmL]; decide) rfl rfl ?_
    refine nm_some (P := fun z => J X B (E, κ7) 58 [(3, .inl (.int z)), (0, .inr (some (5, 0, 0))), (1, .inl (.int x1))] []) h (fun y11 h => ?_)
    refine J_aload_n O.mo dX11_snapshot_58 1 rfl ?_
    refine J_dup O.mo dX11_snapshot_59 rfl ?_
    refine J_getF O.co (kd0 := 11) (k11_0 h0) (l11_0 h0) (C := RX11) (T := TX11) (N := 42) rfl (by decide) rfl in_X11 11 (by decide) (v := .inl (.int (kV κ7 5 0 0 11))) rfl mw652 rfl dX11_snapshot_60 ?_
    refine J_iconst O.mo (v := 1) dX11_snapshot_63 (by decide) ?_
    refine J_iadd O.mo dX11_snapshot_64 ?_
    refine J_putI O.co (kd0 := 11) (k11_0 h0) (l11_0 h0) (C := RX11) (T := TX11) (N := 42) rfl (by decide) rfl in_X11 tyX11 tyX11_ok nmX11 11 (by decide) rfl rfl (x := ((kV κ7 5 0 0 11) + 1)) (Or.inl rfl) mw652 dX11_snapshot_65 ?_
    refine nm_some (P := fun z => J X B (E, z) 68 [(3, .inl (.int y11)), (0, .inr (some (5, 0, 0))), (1, .inl (.int x1))] []) h (fun κ12 h => ?_)
    refine J_aload_n O.mo dX11_snapshot_68 1 rfl ?_
    refine J_iload_n O.mo dX11_snapshot_69 2 rfl ?_
    refine J_aload_n O.mo dX11_snapshot_70 1 rfl ?_
    refine J_getF O.co (kd0 := 11) (k11_0 h0) (l11_0 h0) (C := RX11) (T := TX11) (N := 42) rfl (by decide) rfl in_X11 7 (by decide) (v := .inr (some (5, 0, 7))) rfl mw653 rfl dX11_snapshot_71 ?_
    refine J_bipush O.mo (v := 55) dX11_snapshot_74 (by decide) ?_
    refine J_iload_n O.mo dX11_snapshot_76 0 rfl ?_
    refine J_imul O.mo dX11_snapshot_77 ?_
    refine J_aload_n O.mo dX11_snapshot_78 1 rfl ?_
    refine J_getF O.co (kd0 := 11) (k11_0 h0) (l11_0 h0) (C := RX11) (T := TX11) (N := 42) rfl (by decide) rfl in_X11 8 (by decide) (v := .inr (some (5, 0, 8))) rfl mw654 rfl dX11_snapshot_79 ?_
    refine J_sipush O.mo (v := 512) dX11_snapshot_82 (by decide) ?_
    refine J_iload_n O.mo dX11_snapshot_85 0 rfl ?_
    refine J_imul O.mo dX11_snapshot_86 ?_
    obtain ⟨κ13, r15, hq14, h⟩ := bd_some h
    refine J_callV O hKP (as := [.inl (.int x1), .inr (some (5, 0, 7)), .inl (.int (55 * y11)), .inr (some (5, 0, 8)), .inl (.int (512 * y11))]) (rest := []) (r := none) (c_X11_keep hfl h0 (k11_7 h0) (l11_7 h0) (k11_8 h0) (l11_8 h0) hq14) rfl (kd0 := 11) (k11_0 h0) (l11_0 h0) (T := TX11) (N := 42) rfl (by decide) mw655 mw656 mw657 mw517 mw658 pd_X11_keep rfl (by decide) rfl (Nat.le_of_ble_eq_true rfl) (sl_v (sl_p (s11_0 h0) (sl_v sl_0))) st_0 dX11_snapshot_87 ?_
    show J X B (E, κ13) 90 [(3, .inl (.int y11)), (0, .inr (some (5, 0, 0))), (1, .inl (.int x1))] []
    refine J_aload_n O.mo dX11_snapshot_90 1 rfl ?_
    refine J_getF O.co (kd0 := 11) (k11_0 h0) (l11_0 h0) (C := RX11) (T := TX11) (N := 42) rfl (by decide) rfl in_X11 9 (by decide) (v := .inr (some (5, 0, 9))) rfl mw659 rfl dX11_snapshot_91 ?_
    refine J_iload_n O.mo dX11_snapshot_94 0 rfl ?_
    refine J_iload_n O.mo dX11_snapshot_95 2 rfl ?_
    obtain ⟨hg16, h⟩ := gd_some h
    refine row_20 O (l11_9 h0) (k11_9 h0) (n11_9 h0) hg16 (x := x1) dX11_snapshot_96 ?_
    refine nm_some (P := fun z => J X B (E, z) 97 [(3, .inl (.int y11)), (0, .inr (some (5, 0, 0))), (1, .inl (.int x1))] []) h (fun κ17 h => ?_)
    refine J_aload_n O.mo dX11_snapshot_97 1 rfl ?_
    refine J_getF O.co (kd0 := 11) (k11_0 h0) (l11_0 h0) (C := RX11) (T := TX11) (N := 42) rfl (by decide) rfl in_X11 10 (by decide) (v := .inr (some (5, 0, 10))) rfl mw660 rfl dX11_snapshot_98 ?_
    refine J_iload_n O.mo dX11_snapshot_101 0 rfl ?_
    refine J_iconst O.mo (v := 0) dX11_snapshot_102 (by decide) ?_
    obtain ⟨hg18, h⟩ := gd_some h
    refine row_20 O (l11_10 h0) (k11_10 h0) (n11_10 h0) hg18 (x := 0) dX11_snapshot_103 ?_
    refine nm_some (P := fun z => J X B (E, z) 104 [(3, .inl (.int y11)), (0, .inr (some (5, 0, 0))), (1, .inl (.int x1))] []) h (fun κ19 h => ?_)
    refine J_iconst O.mo (v := 0) dX11_snapshot_104 (by decide) ?_
    refine J_istore O.mo (lv' := [(3, .inl (.int y11)), (0, .inr (some (5, 0, 0))), (1, .inl (.int x1))]) dX11_snapshot_105 (by rw [hmL]; decide) rfl rfl ?_
    refine J_sub [2, 3, 1, 0] rfl ?_
    exact w_X11_snapshot_b107 hfl O hKP hmL hE h0 FU _ _ _ _ h
  · replace h := (if_neg hc10).symm.trans h
    refine J_iconst O.mo (v := 0) dX11_snapshot_51 (by decide) ?_
    cases h
    exact hE _ _ dX11_snapshot_52
set_option maxHeartbeats 4000000 in
set_option maxRecDepth 100000 in
theorem w_X11_snapshot_b40 {l0 : Launch} (hfl : l0.stackTraces = false) {X : MX} {B : BX (EE × K)} {g : GP} {E : EE} {κ' : K} {rr : Int32} (O : CK l0 X B g cX11_snapshot RX11 4 67) (hKP : KPok B E) (hmL : B.2.2.2.1 = 7) (hE : ∀ (pc : Nat) (lv : List (Nat × AV)), decode cX11_snapshot pc = .ok (.ireturn, 1) → J X B (E, κ') pc lv [.inl (.int rr)]) (h0 : PC 11 E 5 0 0) : ∀ (κ : K) (x1 : Int32), f_X11_snapshot_b40 E κ x1 = some (κ', rr) → J X B (E, κ) 40 [(0, .inr (some (5, 0, 0))), (1, .inl (.int x1))] [.inr (some (5, 0, 0))] := by
  intro κ x1 h
  unfold f_X11_snapshot_b40 at h
  refine J_iconst O.mo (v := 2) dX11_snapshot_40 (by decide) ?_
  refine J_goto O.mo (tgt := 45) dX11_snapshot_41 (by decide) ?_
  exact w_X11_snapshot_b45 hfl O hKP hmL hE h0 _ _ _ h
set_option maxHeartbeats 4000000 in
set_option maxRecDepth 100000 in
theorem w_X11_snapshot {l0 : Launch} (hfl : l0.stackTraces = false) {X : MX} {B : BX (EE × K)} {g : GP} {E : EE} {κ' : K} {rr : Int32} (O : CK l0 X B g cX11_snapshot RX11 4 67) (hKP : KPok B E) (hmL : B.2.2.2.1 = 7) (hE : ∀ (pc : Nat) (lv : List (Nat × AV)), decode cX11_snapshot pc = .ok (.ireturn, 1) → J X B (E, κ') pc lv [.inl (.int rr)]) (h0 : PC 11 E 5 0 0) : ∀ (κ : K) (a1 : Int32), f_X11_snapshot E κ a1 = some (κ', rr) → J X B (E, κ) 0 [(0, .inr (some (5, 0, 0))), (1, .inl (.int a1))] [] := by
  intro κ a1 h
  unfold f_X11_snapshot at h
  refine J_aload_n O.mo dX11_snapshot_0 0 rfl ?_
  refine J_iload_n O.mo dX11_snapshot_1 1 rfl ?_
  obtain ⟨κ1, r3, hq2, h⟩ := bd_some h
  refine J_callV O hKP (as := [.inl (.int a1)]) (rest := []) (r := (some (.inl (.int r3)))) (c_X11_isGuest hfl h0 hq2) rfl (kd0 := 11) (k11_0 h0) (l11_0 h0) (T := TX11) (N := 42) rfl (by decide) mw611 mw612 mw613 mw517 mw614 pd_X11_isGuest rfl (by decide) rfl (Nat.le_of_ble_eq_true rfl) (sl_p (s11_0 h0) (sl_v sl_0)) st_0 dX11_snapshot_2 ?_
  show J X B (E, κ1) 5 [(0, .inr (some (5, 0, 0))), (1, .inl (.int a1))] [.inl (.int r3)]
  refine J_istore_n O.mo (lv' := [(0, .inr (some (5, 0, 0))), (1, .inl (.int a1))]) dX11_snapshot_5 (by rw [hmL]; decide) rfl rfl ?_
  refine J_aload_n O.mo dX11_snapshot_6 1 rfl ?_
  refine J_iload_n O.mo dX11_snapshot_7 0 rfl ?_
  refine J_if_ne O.mo (tgt := 15) dX11_snapshot_8 (by decide) (fun hc4 => ?_) (fun hc4 => ?_)
  · replace h := (if_neg hc4).symm.trans h
    refine J_aload_n O.mo dX11_snapshot_15 1 rfl ?_
    refine J_getF O.co (kd0 := 11) (k11_0 h0) (l11_0 h0) (C := RX11) (T := TX11) (N := 42) rfl (by decide) rfl in_X11 1 (by decide) (v := .inr (some (5, 0, 1))) rfl mw545 rfl dX11_snapshot_16 ?_
    refine J_bipush O.mo (v := 55) dX11_snapshot_19 (by decide) ?_
    refine J_iload_n O.mo dX11_snapshot_21 2 rfl ?_
    refine J_imul O.mo dX11_snapshot_22 ?_
    refine J_bipush O.mo (v := 49) dX11_snapshot_23 (by decide) ?_
    refine J_iadd O.mo dX11_snapshot_25 ?_
    obtain ⟨hg5, h⟩ := gd_some h
    refine J_iald O.co (g := (kV κ1 5 0 1)) (ct_20n (l11_1 h0) (k11_1 h0) (n11_1 h0)) hg5 dX11_snapshot_26 ?_
    refine J_iconst O.mo (v := 3) dX11_snapshot_27 (by decide) ?_
    refine J_icmp_eq O.mo (tgt := 40) dX11_snapshot_28 (by decide) (fun hc6 => ?_) (fun hc6 => ?_)
    · replace h := (if_pos hc6).symm.trans h
      refine J_sub [1, 2] rfl ?_
      exact w_X11_snapshot_b40 hfl O hKP hmL hE h0 _ _ h
    · replace h := (if_neg hc6).symm.trans h
      refine J_aload_n O.mo dX11_snapshot_31 1 rfl ?_
      refine J_getF O.co (kd0 := 11) (k11_0 h0) (l11_0 h0) (C := RX11) (T := TX11) (N := 42) rfl (by decide) rfl in_X11 11 (by decide) (v := .inl (.int (kV κ1 5 0 0 11))) rfl mw652 rfl dX11_snapshot_32 ?_
      refine J_bipush O.mo (v := 10) dX11_snapshot_35 (by decide) ?_
      refine J_icmp_ne O.mo (tgt := 44) dX11_snapshot_37 (by decide) (fun hc38 => ?_) (fun hc38 => ?_)
      · replace h := (if_neg hc38).symm.trans h
        refine J_iconst O.mo (v := 0) dX11_snapshot_44 (by decide) ?_
        refine J_sub [1, 2] rfl ?_
        exact w_X11_snapshot_b45 hfl O hKP hmL hE h0 _ _ _ h
      · replace h := (if_pos hc38).symm.trans h
        refine J_sub [1, 2] rfl ?_
        exact w_X11_snapshot_b40 hfl O hKP hmL hE h0 _ _ h
  · replace h := (if_pos hc4).symm.trans h
    refine J_iconst O.mo (v := 1) dX11_snapshot_11 (by decide) ?_
    refine J_goto O.mo (tgt := 45) dX11_snapshot_12 (by decide) ?_
    refine J_sub [1, 2] rfl ?_
    exact w_X11_snapshot_b45 hfl O hKP hmL hE h0 _ _ _ h
theorem c_X11_snapshot {l : Launch} (hfl : l.stackTraces = false) {E : EE} {κ κ' : K} {a1 : Int32} (h0 : PC 11 E 5 0 0) {rr : Int32} (h : f_X11_snapshot E κ a1 = some (κ', rr)) : Con l yX11_snapshot cX11_snapshot 7 (some .int) 4 67 [.inr (some (5, 0, 0)), .inl (.int a1)] (E, κ) (E, κ') (some (.inl (.int rr))) := by
  exact Con_of hfl (by decide +kernel) (Nat.le_of_ble_eq_true rfl) rfl ⟨_, rfl, rfl⟩ (fun X B g O hKP hmL hE => w_X11_snapshot hfl O hKP hmL hE h0 _ _ h)
def f_X11_restore_b91 (E : EE) (κ : K) (x1 : Int32) (x2 : Int32) (xs0 : Int32) : Option (K × Int32) := bd (f_X11_refused E κ xs0) fun κ8 r10 => if r10 = 0 then gd (¬ (x1 < 0 ∨ 5 ≤ x1.toNatClampNeg)) (nm (setV κ8 5 0 12 x1.toNatClampNeg x2) fun κ13 => bd (f_X11_giveBack E κ13 x1 (5, 0, 7) (55 * x2) (5, 0, 8) (512 * x2)) fun κ14 r16 => some (κ14, r16)) else some (κ8, 0)
def f_X11_restore_b70 (E : EE) (κ : K) (x1 : Int32) (x2 : Int32) (x3 : Int32) (xs0 : Int32) : Option (K × Int32) := if x3 = 0 then f_X11_restore_b91 E κ x1 x2 1 else if xs0 = 0 then f_X11_restore_b91 E κ x1 x2 2 else f_X11_restore_b91 E κ x1 x2 0
def f_X11_restore_b69 (E : EE) (κ : K) (x1 : Int32) (x2 : Int32) (x3 : Int32) : Option (K × Int32) := f_X11_restore_b70 E κ x1 x2 x3 0
def f_X11_restore_b27 (E : EE) (κ : K) (x1 : Int32) (x2 : Int32) (xs0 : Int32) : Option (K × Int32) := if xs0 = 0 then f_X11_restore_b69 E κ x1 x2 xs0 else gd (¬ (x2 < 0 ∨ 10 ≤ x2.toNatClampNeg)) (if (kV κ 5 0 9) x2.toNatClampNeg = x1 then gd (¬ (x1 < 0 ∨ 5 ≤ x1.toNatClampNeg)) (if (kV κ 5 0 33) x1.toNatClampNeg = 0 then gd (¬ (x1 < 0 ∨ 5 ≤ x1.toNatClampNeg)) (gd (¬ (((kV κ 5 0 15) x1.toNatClampNeg) < 0 ∨ 2 ≤ ((kV κ 5 0 15) x1.toNatClampNeg).toNatClampNeg)) (if (kV κ 5 0 38) ((kV κ 5 0 15) x1.toNatClampNeg).toNatClampNeg = 0 then f_X11_restore_b70 E κ x1 x2 xs0 1 else f_X11_restore_b69 E κ x1 x2 xs0)) else f_X11_restore_b69 E κ x1 x2 xs0) else f_X11_restore_b69 E κ x1 x2 xs0)
def f_X11_restore_b26 (E : EE) (κ : K) (x1 : Int32) (x2 : Int32) : Option (K × Int32) := f_X11_restore_b27 E κ x1 x2 0
def f_X11_restore (E : EE) (κ : K) (a1 : Int32) (a2 : Int32) : Option (K × Int32) := bd (f_X11_isGuest E κ a1) fun κ1 r3 => if r3 = 0 then f_X11_restore_b26 E κ1 a1 a2 else bd (f_X11_in E κ1 a2 0 ((kV κ1 5 0 0 11) - 1)) fun κ24 r26 => if r26 = 0 then f_X11_restore_b26 E κ24 a1 a2 else f_X11_restore_b27 E κ24 a1 a2 1
set_option maxHeartbeats 4000000 in
set_option maxRecDepth 100000 in
theorem w_X11_restore_b91 {l0 : Launch} (hfl : l0.stackTraces = false) {X : MX} {B : BX (EE × K)} {g : GP} {E : EE} {κ' : K} {rr : Int32} (O : CK l0 X B g cX11_restore RX11 4 70) (hKP : KPok B E) (hmL : B.2.2.2.1 = 5) (hE : ∀ (pc : Nat) (lv : List (Nat × AV)), decode cX11_restore pc = .ok (.ireturn, 1) → J X B (E, κ') pc lv [.inl (.int rr)]) (h0 : PC 11 E 5 0 0) : ∀ (κ : K) (x1 : Int32) (x2 : Int32) (xs0 : Int32), f_X11_restore_b91 E κ x1 x2 xs0 = some (κ', rr) → J X B (E, κ) 91 [(0, .inr (some (5, 0, 0))), (1, .inl (.int x1)), (2, .inl (.int x2))] [.inl (.int xs0), .inr (some (5, 0, 0))] := by
  intro κ x1 x2 xs0 h
  unfold f_X11_restore_b91 at h
  obtain ⟨κ8, r10, hq9, h⟩ := bd_some h
  refine J_callV O hKP (as := [.inl (.int xs0)]) (rest := []) (r := (some (.inl (.int r10)))) (c_X11_refused hfl h0 hq9) rfl (kd0 := 11) (k11_0 h0) (l11_0 h0) (T := TX11) (N := 42) rfl (by decide) mw605 mw606 mw607 mw517 mw608 pd_X11_refused rfl (by decide) rfl (Nat.le_of_ble_eq_true rfl) (sl_p (s11_0 h0) (sl_v (sl_v sl_0))) st_0 dX11_restore_91 ?_
  show J X B (E, κ8) 94 [(0, .inr (some (5, 0, 0))), (1, .inl (.int x1)), (2, .inl (.int x2))] [.inl (.int r10)]
  refine J_if_eq O.mo (tgt := 99) dX11_restore_94 (by decide) (fun hc11 => ?_) (fun hc11 => ?_)
  · replace h := (if_pos hc11).symm.trans h
    refine J_aload_n O.mo dX11_restore_99 0 rfl ?_
    refine J_getF O.co (kd0 := 11) (k11_0 h0) (l11_0 h0) (C := RX11) (T := TX11) (N := 42) rfl (by decide) rfl in_X11 12 (by decide) (v := .inr (some (5, 0, 12))) rfl mw610 rfl dX11_restore_100 ?_
    refine J_iload_n O.mo dX11_restore_103 1 rfl ?_
    refine J_iload_n O.mo dX11_restore_104 2 rfl ?_
    obtain ⟨hg12, h⟩ := gd_some h
    refine row_20 O (l11_12 h0) (k11_12 h0) (n11_12 h0) hg12 (x := x2) dX11_restore_105 ?_
    refine nm_some (P := fun z => J X B (E, z) 106 [(0, .inr (some (5, 0, 0))), (1, .inl (.int x1)), (2, .inl (.int x2))] []) h (fun κ13 h => ?_)
    refine J_aload_n O.mo dX11_restore_106 0 rfl ?_
    refine J_iload_n O.mo dX11_restore_107 1 rfl ?_
    refine J_aload_n O.mo dX11_restore_108 0 rfl ?_
    refine J_getF O.co (kd0 := 11) (k11_0 h0) (l11_0 h0) (C := RX11) (T := TX11) (N := 42) rfl (by decide) rfl in_X11 7 (by decide) (v := .inr (some (5, 0, 7))) rfl mw653 rfl dX11_restore_109 ?_
    refine J_bipush O.mo (v := 55) dX11_restore_112 (by decide) ?_
    refine J_iload_n O.mo dX11_restore_114 2 rfl ?_
    refine J_imul O.mo dX11_restore_115 ?_
    refine J_aload_n O.mo dX11_restore_116 0 rfl ?_
    refine J_getF O.co (kd0 := 11) (k11_0 h0) (l11_0 h0) (C := RX11) (T := TX11) (N := 42) rfl (by decide) rfl in_X11 8 (by decide) (v := .inr (some (5, 0, 8))) rfl mw654 rfl dX11_restore_117 ?_
    refine J_sipush O.mo (v := 512) dX11_restore_120 (by decide) ?_
    refine J_iload_n O.mo dX11_restore_123 2 rfl ?_
    refine J_imul O.mo dX11_restore_124 ?_
    refine J_sub [] rfl ?_
    obtain ⟨κ14, r16, hq15, h⟩ := bd_some h
    refine J_callV O hKP (as := [.inl (.int x1), .inr (some (5, 0, 7)), .inl (.int (55 * x2)), .inr (some (5, 0, 8)), .inl (.int (512 * x2))]) (rest := []) (r := (some (.inl (.int r16)))) (c_X11_giveBack hfl h0 hq15) rfl (kd0 := 11) (k11_0 h0) (l11_0 h0) (T := TX11) (N := 42) rfl (by decide) mw661 mw662 mw663 mw517 mw664 pd_X11_giveBack rfl (by decide) rfl (Nat.le_of_ble_eq_true rfl) sl_0 st_0 dX11_restore_125 ?_
    show J X B (E, κ14) 128 [] [.inl (.int r16)]
    cases h
    exact hE _ _ dX11_restore_128
  · replace h := (if_neg hc11).symm.trans h
    refine J_iconst O.mo (v := 0) dX11_restore_97 (by decide) ?_
    cases h
    exact hE _ _ dX11_restore_98
set_option maxHeartbeats 4000000 in
set_option maxRecDepth 100000 in
theorem w_X11_restore_b70 {l0 : Launch} (hfl : l0.stackTraces = false) {X : MX} {B : BX (EE × K)} {g : GP} {E : EE} {κ' : K} {rr : Int32} (O : CK l0 X B g cX11_restore RX11 4 70) (hKP : KPok B E) (hmL : B.2.2.2.1 = 5) (hE : ∀ (pc : Nat) (lv : List (Nat × AV)), decode cX11_restore pc = .ok (.ireturn, 1) → J X B (E, κ') pc lv [.inl (.int rr)]) (h0 : PC 11 E 5 0 0) : ∀ (κ : K) (x1 : Int32) (x2 : Int32) (x3 : Int32) (xs0 : Int32), f_X11_restore_b70 E κ x1 x2 x3 xs0 = some (κ', rr) → J X B (E, κ) 70 [(0, .inr (some (5, 0, 0))), (1, .inl (.int x1)), (2, .inl (.int x2)), (3, .inl (.int x3))] [.inl (.int xs0)] := by
  intro κ x1 x2 x3 xs0 h
  unfold f_X11_restore_b70 at h
  refine J_istore O.mo (lv' := [(0, .inr (some (5, 0, 0))), (1, .inl (.int x1)), (2, .inl (.int x2)), (3, .inl (.int x3))]) dX11_restore_70 (by rw [hmL]; decide) rfl rfl ?_
  refine J_aload_n O.mo dX11_restore_72 1 rfl ?_
  refine J_iload_n O.mo dX11_restore_73 4 rfl ?_
  refine J_if_ne O.mo (tgt := 81) dX11_restore_74 (by decide) (fun hc6 => ?_) (fun hc6 => ?_)
  · replace h := (if_neg hc6).symm.trans h
    refine J_iload O.mo dX11_restore_81 0 rfl ?_
    refine J_if_eq O.mo (tgt := 90) dX11_restore_83 (by decide) (fun hc7 => ?_) (fun hc7 => ?_)
    · replace h := (if_pos hc7).symm.trans h
      refine J_iconst O.mo (v := 2) dX11_restore_90 (by decide) ?_
      refine J_sub [1, 2, 3] rfl ?_
      exact w_X11_restore_b91 hfl O hKP hmL hE h0 _ _ _ _ h
    · replace h := (if_neg hc7).symm.trans h
      refine J_iconst O.mo (v := 0) dX11_restore_86 (by decide) ?_
      refine J_goto O.mo (tgt := 91) dX11_restore_87 (by decide) ?_
      refine J_sub [1, 2, 3] rfl ?_
      exact w_X11_restore_b91 hfl O hKP hmL hE h0 _ _ _ _ h
  · replace h := (if_pos hc6).symm.trans h
    refine J_iconst O.mo (v := 1) dX11_restore_77 (by decide) ?_
    refine J_goto O.mo (tgt := 91) dX11_restore_78 (by decide) ?_
    refine J_sub [1, 2, 3] rfl ?_
    exact w_X11_restore_b91 hfl O hKP hmL hE h0 _ _ _ _ h
set_option maxHeartbeats 4000000 in
set_option maxRecDepth 100000 in
theorem w_X11_restore_b69 {l0 : Launch} (hfl : l0.stackTraces = false) {X : MX} {B : BX (EE × K)} {g : GP} {E : EE} {κ' : K} {rr : Int32} (O : CK l0 X B g cX11_restore RX11 4 70) (hKP : KPok B E) (hmL : B.2.2.2.1 = 5) (hE : ∀ (pc : Nat) (lv : List (Nat × AV)), decode cX11_restore pc = .ok (.ireturn, 1) → J X B (E, κ') pc lv [.inl (.int rr)]) (h0 : PC 11 E 5 0 0) : ∀ (κ : K) (x1 : Int32) (x2 : Int32) (x3 : Int32), f_X11_restore_b69 E κ x1 x2 x3 = some (κ', rr) → J X B (E, κ) 69 [(0, .inr (some (5, 0, 0))), (1, .inl (.int x1)), (2, .inl (.int x2)), (3, .inl (.int x3))] [] := by
  intro κ x1 x2 x3 h
  unfold f_X11_restore_b69 at h
  refine J_iconst O.mo (v := 0) dX11_restore_69 (by decide) ?_
  exact w_X11_restore_b70 hfl O hKP hmL hE h0 _ _ _ _ _ h
set_option maxHeartbeats 4000000 in
set_option maxRecDepth 100000 in
theorem w_X11_restore_b27 {l0 : Launch} (hfl : l0.stackTraces = false) {X : MX} {B : BX (EE × K)} {g : GP} {E : EE} {κ' : K} {rr : Int32} (O : CK l0 X B g cX11_restore RX11 4 70) (hKP : KPok B E) (hmL : B.2.2.2.1 = 5) (hE : ∀ (pc : Nat) (lv : List (Nat × AV)), decode cX11_restore pc = .ok (.ireturn, 1) → J X B (E, κ') pc lv [.inl (.int rr)]) (h0 : PC 11 E 5 0 0) : ∀ (κ : K) (x1 : Int32) (x2 : Int32) (xs0 : Int32), f_X11_restore_b27 E κ x1 x2 xs0 = some (κ', rr) → J X B (E, κ) 27 [(0, .inr (some (5, 0, 0))), (1, .inl (.int x1)), (2, .inl (.int x2))] [.inl (.int xs0)] := by
  intro κ x1 x2 xs0 h
  unfold f_X11_restore_b27 at h
  refine J_istore_n O.mo (lv' := [(0, .inr (some (5, 0, 0))), (1, .inl (.int x1)), (2, .inl (.int x2))]) dX11_restore_27 (by rw [hmL]; decide) rfl rfl ?_
  refine J_iload_n O.mo dX11_restore_28 0 rfl ?_
  refine J_if_eq O.mo (tgt := 69) dX11_restore_29 (by decide) (fun hc5 => ?_) (fun hc5 => ?_)
  · replace h := (if_pos hc5).symm.trans h
    refine J_sub [1, 2, 3, 0] rfl ?_
    exact w_X11_restore_b69 hfl O hKP hmL hE h0 _ _ _ _ h
  · replace h := (if_neg hc5).symm.trans h
    refine J_aload_n O.mo dX11_restore_32 1 rfl ?_
    refine J_getF O.co (kd0 := 11) (k11_0 h0) (l11_0 h0) (C := RX11) (T := TX11) (N := 42) rfl (by decide) rfl in_X11 9 (by decide) (v := .inr (some (5, 0, 9))) rfl mw659 rfl dX11_restore_33 ?_
    refine J_iload_n O.mo dX11_restore_36 3 rfl ?_
    obtain ⟨hg17, h⟩ := gd_some h
    refine J_iald O.co (g := (kV κ 5 0 9)) (ct_20n (l11_9 h0) (k11_9 h0) (n11_9 h0)) hg17 dX11_restore_37 ?_
    refine J_iload_n O.mo dX11_restore_38 2 rfl ?_
    refine J_icmp_ne O.mo (tgt := 69) dX11_restore_39 (by decide) (fun hc18 => ?_) (fun hc18 => ?_)
    · replace h := (if_neg hc18).symm.trans h
      refine J_sub [1, 2, 3, 0] rfl ?_
      exact w_X11_restore_b69 hfl O hKP hmL hE h0 _ _ _ _ h
    · replace h := (if_pos hc18).symm.trans h
      refine J_aload_n O.mo dX11_restore_42 1 rfl ?_
      refine J_getF O.co (kd0 := 11) (k11_0 h0) (l11_0 h0) (C := RX11) (T := TX11) (N := 42) rfl (by decide) rfl in_X11 33 (by decide) (v := .inr (some (5, 0, 33))) rfl mw550 rfl dX11_restore_43 ?_
      refine J_iload_n O.mo dX11_restore_46 2 rfl ?_
      obtain ⟨hg19, h⟩ := gd_some h
      refine J_bald O.co (g := (kV κ 5 0 33)) (ct_22n (l11_33 h0) (k11_33 h0) (n11_33 h0)) hg19 dX11_restore_47 ?_
      refine J_if_ne O.mo (tgt := 69) dX11_restore_48 (by decide) (fun hc20 => ?_) (fun hc20 => ?_)
      · replace h := (if_neg hc20).symm.trans h
        refine J_sub [1, 2, 3, 0] rfl ?_
        exact w_X11_restore_b69 hfl O hKP hmL hE h0 _ _ _ _ h
      · replace h := (if_pos hc20).symm.trans h
        refine J_aload_n O.mo dX11_restore_51 1 rfl ?_
        refine J_getF O.co (kd0 := 11) (k11_0 h0) (l11_0 h0) (C := RX11) (T := TX11) (N := 42) rfl (by decide) rfl in_X11 38 (by decide) (v := .inr (some (5, 0, 38))) rfl mw595 rfl dX11_restore_52 ?_
        refine J_aload_n O.mo dX11_restore_55 1 rfl ?_
        refine J_getF O.co (kd0 := 11) (k11_0 h0) (l11_0 h0) (C := RX11) (T := TX11) (N := 42) rfl (by decide) rfl in_X11 15 (by decide) (v := .inr (some (5, 0, 15))) rfl mw526 rfl dX11_restore_56 ?_
        refine J_iload_n O.mo dX11_restore_59 2 rfl ?_
        obtain ⟨hg21, h⟩ := gd_some h
        refine J_iald O.co (g := (kV κ 5 0 15)) (ct_20n (l11_15 h0) (k11_15 h0) (n11_15 h0)) hg21 dX11_restore_60 ?_
        obtain ⟨hg22, h⟩ := gd_some h
        refine J_bald O.co (g := (kV κ 5 0 38)) (ct_22n (l11_38 h0) (k11_38 h0) (n11_38 h0)) hg22 dX11_restore_61 ?_
        refine J_if_ne O.mo (tgt := 69) dX11_restore_62 (by decide) (fun hc23 => ?_) (fun hc23 => ?_)
        · replace h := (if_neg hc23).symm.trans h
          refine J_sub [1, 2, 3, 0] rfl ?_
          exact w_X11_restore_b69 hfl O hKP hmL hE h0 _ _ _ _ h
        · replace h := (if_pos hc23).symm.trans h
          refine J_iconst O.mo (v := 1) dX11_restore_65 (by decide) ?_
          refine J_goto O.mo (tgt := 70) dX11_restore_66 (by decide) ?_
          refine J_sub [1, 2, 3, 0] rfl ?_
          exact w_X11_restore_b70 hfl O hKP hmL hE h0 _ _ _ _ _ h
set_option maxHeartbeats 4000000 in
set_option maxRecDepth 100000 in
theorem w_X11_restore_b26 {l0 : Launch} (hfl : l0.stackTraces = false) {X : MX} {B : BX (EE × K)} {g : GP} {E : EE} {κ' : K} {rr : Int32} (O : CK l0 X B g cX11_restore RX11 4 70) (hKP : KPok B E) (hmL : B.2.2.2.1 = 5) (hE : ∀ (pc : Nat) (lv : List (Nat × AV)), decode cX11_restore pc = .ok (.ireturn, 1) → J X B (E, κ') pc lv [.inl (.int rr)]) (h0 : PC 11 E 5 0 0) : ∀ (κ : K) (x1 : Int32) (x2 : Int32), f_X11_restore_b26 E κ x1 x2 = some (κ', rr) → J X B (E, κ) 26 [(0, .inr (some (5, 0, 0))), (1, .inl (.int x1)), (2, .inl (.int x2))] [] := by
  intro κ x1 x2 h
  unfold f_X11_restore_b26 at h
  refine J_iconst O.mo (v := 0) dX11_restore_26 (by decide) ?_
  exact w_X11_restore_b27 hfl O hKP hmL hE h0 _ _ _ _ h
set_option maxHeartbeats 4000000 in
set_option maxRecDepth 100000 in
theorem w_X11_restore {l0 : Launch} (hfl : l0.stackTraces = false) {X : MX} {B : BX (EE × K)} {g : GP} {E : EE} {κ' : K} {rr : Int32} (O : CK l0 X B g cX11_restore RX11 4 70) (hKP : KPok B E) (hmL : B.2.2.2.1 = 5) (hE : ∀ (pc : Nat) (lv : List (Nat × AV)), decode cX11_restore pc = .ok (.ireturn, 1) → J X B (E, κ') pc lv [.inl (.int rr)]) (h0 : PC 11 E 5 0 0) : ∀ (κ : K) (a1 : Int32) (a2 : Int32), f_X11_restore E κ a1 a2 = some (κ', rr) → J X B (E, κ) 0 [(0, .inr (some (5, 0, 0))), (1, .inl (.int a1)), (2, .inl (.int a2))] [] := by
  intro κ a1 a2 h
  unfold f_X11_restore at h
  refine J_aload_n O.mo dX11_restore_0 0 rfl ?_
  refine J_iload_n O.mo dX11_restore_1 1 rfl ?_
  obtain ⟨κ1, r3, hq2, h⟩ := bd_some h
  refine J_callV O hKP (as := [.inl (.int a1)]) (rest := []) (r := (some (.inl (.int r3)))) (c_X11_isGuest hfl h0 hq2) rfl (kd0 := 11) (k11_0 h0) (l11_0 h0) (T := TX11) (N := 42) rfl (by decide) mw611 mw612 mw613 mw517 mw614 pd_X11_isGuest rfl (by decide) rfl (Nat.le_of_ble_eq_true rfl) (sl_p (s11_0 h0) (sl_v (sl_v sl_0))) st_0 dX11_restore_2 ?_
  show J X B (E, κ1) 5 [(0, .inr (some (5, 0, 0))), (1, .inl (.int a1)), (2, .inl (.int a2))] [.inl (.int r3)]
  refine J_if_eq O.mo (tgt := 26) dX11_restore_5 (by decide) (fun hc4 => ?_) (fun hc4 => ?_)
  · replace h := (if_pos hc4).symm.trans h
    exact w_X11_restore_b26 hfl O hKP hmL hE h0 _ _ _ h
  · replace h := (if_neg hc4).symm.trans h
    refine J_iload_n O.mo dX11_restore_8 2 rfl ?_
    refine J_iconst O.mo (v := 0) dX11_restore_9 (by decide) ?_
    refine J_aload_n O.mo dX11_restore_10 0 rfl ?_
    refine J_getF O.co (kd0 := 11) (k11_0 h0) (l11_0 h0) (C := RX11) (T := TX11) (N := 42) rfl (by decide) rfl in_X11 11 (by decide) (v := .inl (.int (kV κ1 5 0 0 11))) rfl mw652 rfl dX11_restore_11 ?_
    refine J_iconst O.mo (v := 1) dX11_restore_14 (by decide) ?_
    refine J_isub O.mo dX11_restore_15 ?_
    obtain ⟨κ24, r26, hq25, h⟩ := bd_some h
    refine J_callS O hKP (as := [.inl (.int a2), .inl (.int 0), .inl (.int ((kV κ1 5 0 0 11) - 1))]) (rest := []) (r := (some (.inl (.int r26)))) (c_X11_in hfl hq25) rfl mw515 mw516 mw517 mw518 pd_X11_in rfl (by decide) rfl (Nat.le_of_ble_eq_true rfl) (sl_p (s11_0 h0) (sl_v (sl_v sl_0))) st_0 dX11_restore_16 ?_
    show J X B (E, κ24) 19 [(0, .inr (some (5, 0, 0))), (1, .inl (.int a1)), (2, .inl (.int a2))] [.inl (.int r26)]
    refine J_if_eq O.mo (tgt := 26) dX11_restore_19 (by decide) (fun hc27 => ?_) (fun hc27 => ?_)
    · replace h := (if_pos hc27).symm.trans h
      exact w_X11_restore_b26 hfl O hKP hmL hE h0 _ _ _ h
    · replace h := (if_neg hc27).symm.trans h
      refine J_iconst O.mo (v := 1) dX11_restore_22 (by decide) ?_
      refine J_goto O.mo (tgt := 27) dX11_restore_23 (by decide) ?_
      exact w_X11_restore_b27 hfl O hKP hmL hE h0 _ _ _ _ h
theorem c_X11_restore {l : Launch} (hfl : l.stackTraces = false) {E : EE} {κ κ' : K} {a1 : Int32} {a2 : Int32} (h0 : PC 11 E 5 0 0) {rr : Int32} (h : f_X11_restore E κ a1 a2 = some (κ', rr)) : Con l yX11_restore cX11_restore 5 (some .int) 4 70 [.inr (some (5, 0, 0)), .inl (.int a1), .inl (.int a2)] (E, κ) (E, κ') (some (.inl (.int rr))) := by
  exact Con_of hfl (by decide +kernel) (Nat.le_of_ble_eq_true rfl) rfl ⟨_, rfl, rfl⟩ (fun X B g O hKP hmL hE => w_X11_restore hfl O hKP hmL hE h0 _ _ _ h)
def f_X11_stepOf (E : EE) (κ : K) (a1 : Int32) : Option (K × Int32) := bd (f_X11_keep E κ a1 5 0 3 (55 * a1) 5 0 4 (512 * a1)) fun κ1 _ => gd (¬ (a1 < 0 ∨ 5 ≤ a1.toNatClampNeg)) (nm (setV κ1 5 0 6 a1.toNatClampNeg 0) fun κ5 => bd (f_X11_letOut E κ5 a1) fun κ6 r8 => some (κ6, r8))
set_option maxHeartbeats 4000000 in
set_option maxRecDepth 100000 in
theorem w_X11_stepOf {l0 : Launch} (hfl : l0.stackTraces = false) {X : MX} {B : BX (EE × K)} {g : GP} {E : EE} {κ' : K} {rr : Int32} (O : CK l0 X B g cX11_stepOf RX11 4 67) (hKP : KPok B E) (hmL : B.2.2.2.1 = 2) (hE : ∀ (pc : Nat) (lv : List (Nat × AV)), decode cX11_stepOf pc = .ok (.ireturn, 1) → J X B (E, κ') pc lv [.inl (.int rr)]) (h0 : PC 11 E 5 0 0) : ∀ (κ : K) (a1 : Int32), f_X11_stepOf E κ a1 = some (κ', rr) → J X B (E, κ) 0 [(0, .inr (some (5, 0, 0))), (1, .inl (.int a1))] [] := by
  intro κ a1 h
  unfold f_X11_stepOf at h
  refine J_aload_n O.mo dX11_stepOf_0 0 rfl ?_
  refine J_iload_n O.mo dX11_stepOf_1 1 rfl ?_
  refine J_aload_n O.mo dX11_stepOf_2 0 rfl ?_
  refine J_getF O.co (kd0 := 11) (k11_0 h0) (l11_0 h0) (C := RX11) (T := TX11) (N := 42) rfl (by decide) rfl in_X11 3 (by decide) (v := .inr (some (5, 0, 3))) rfl mw665 rfl dX11_stepOf_3 ?_
  refine J_bipush O.mo (v := 55) dX11_stepOf_6 (by decide) ?_
  refine J_iload_n O.mo dX11_stepOf_8 1 rfl ?_
  refine J_imul O.mo dX11_stepOf_9 ?_
  refine J_aload_n O.mo dX11_stepOf_10 0 rfl ?_
  refine J_getF O.co (kd0 := 11) (k11_0 h0) (l11_0 h0) (C := RX11) (T := TX11) (N := 42) rfl (by decide) rfl in_X11 4 (by decide) (v := .inr (some (5, 0, 4))) rfl mw666 rfl dX11_stepOf_11 ?_
  refine J_sipush O.mo (v := 512) dX11_stepOf_14 (by decide) ?_
  refine J_iload_n O.mo dX11_stepOf_17 1 rfl ?_
  refine J_imul O.mo dX11_stepOf_18 ?_
  obtain ⟨κ1, r3, hq2, h⟩ := bd_some h
  refine J_callV O hKP (as := [.inl (.int a1), .inr (some (5, 0, 3)), .inl (.int (55 * a1)), .inr (some (5, 0, 4)), .inl (.int (512 * a1))]) (rest := []) (r := none) (c_X11_keep hfl h0 (k11_3 h0) (l11_3 h0) (k11_4 h0) (l11_4 h0) hq2) rfl (kd0 := 11) (k11_0 h0) (l11_0 h0) (T := TX11) (N := 42) rfl (by decide) mw655 mw656 mw657 mw517 mw658 pd_X11_keep rfl (by decide) rfl (Nat.le_of_ble_eq_true rfl) (sl_p (s11_0 h0) (sl_v sl_0)) st_0 dX11_stepOf_19 ?_
  show J X B (E, κ1) 22 [(0, .inr (some (5, 0, 0))), (1, .inl (.int a1))] []
  refine J_aload_n O.mo dX11_stepOf_22 0 rfl ?_
  refine J_getF O.co (kd0 := 11) (k11_0 h0) (l11_0 h0) (C := RX11) (T := TX11) (N := 42) rfl (by decide) rfl in_X11 6 (by decide) (v := .inr (some (5, 0, 6))) rfl mw627 rfl dX11_stepOf_23 ?_
  refine J_iload_n O.mo dX11_stepOf_26 1 rfl ?_
  refine J_iconst O.mo (v := 0) dX11_stepOf_27 (by decide) ?_
  obtain ⟨hg4, h⟩ := gd_some h
  refine row_20 O (l11_6 h0) (k11_6 h0) (n11_6 h0) hg4 (x := 0) dX11_stepOf_28 ?_
  refine nm_some (P := fun z => J X B (E, z) 29 [(0, .inr (some (5, 0, 0))), (1, .inl (.int a1))] []) h (fun κ5 h => ?_)
  refine J_aload_n O.mo dX11_stepOf_29 0 rfl ?_
  refine J_iload_n O.mo dX11_stepOf_30 1 rfl ?_
  refine J_sub [] rfl ?_
  obtain ⟨κ6, r8, hq7, h⟩ := bd_some h
  refine J_callV O hKP (as := [.inl (.int a1)]) (rest := []) (r := (some (.inl (.int r8)))) (c_X11_letOut hfl h0 hq7) rfl (kd0 := 11) (k11_0 h0) (l11_0 h0) (T := TX11) (N := 42) rfl (by decide) mw667 mw668 mw669 mw517 mw670 pd_X11_letOut rfl (by decide) rfl (Nat.le_of_ble_eq_true rfl) sl_0 st_0 dX11_stepOf_31 ?_
  show J X B (E, κ6) 34 [] [.inl (.int r8)]
  cases h
  exact hE _ _ dX11_stepOf_34
theorem c_X11_stepOf {l : Launch} (hfl : l.stackTraces = false) {E : EE} {κ κ' : K} {a1 : Int32} (h0 : PC 11 E 5 0 0) {rr : Int32} (h : f_X11_stepOf E κ a1 = some (κ', rr)) : Con l yX11_stepOf cX11_stepOf 2 (some .int) 4 67 [.inr (some (5, 0, 0)), .inl (.int a1)] (E, κ) (E, κ') (some (.inl (.int rr))) := by
  exact Con_of hfl (by decide +kernel) (Nat.le_of_ble_eq_true rfl) rfl ⟨_, rfl, rfl⟩ (fun X B g O hKP hmL hE => w_X11_stepOf hfl O hKP hmL hE h0 _ _ h)
def f_X11_follow_b36 (E : EE) (κ : K) (x1 : Int32) (x2 : Int32) (xs0 : Int32) : Option (K × Int32) := bd (f_X11_refused E κ xs0) fun κ7 r9 => if r9 = 0 then gd (¬ (x1 < 0 ∨ 5 ≤ x1.toNatClampNeg)) (nm ((kV κ7 5 0 33) x1.toNatClampNeg) fun y12 => gd (¬ (x1 < 0 ∨ 5 ≤ x1.toNatClampNeg)) (gd (x2 = 0 ∨ x2 = 1) (nm (setV κ7 5 0 33 x1.toNatClampNeg x2) fun κ14 => if x2 = 0 then bd (f_X11_letOut E κ14 x1) fun κ17 r19 => some (κ17, y12) else bd (f_X11_stepOf E κ14 x1) fun κ20 r22 => some (κ20, y12)))) else some (κ7, 0)
def f_X11_follow_e (E : EE) (κ : K) (a1 : Int32) (a2 : Int32) : Option (K × Int32) := bd (f_X11_isGuest E κ a1) fun κ1 r3 => if r3 = 0 then f_X11_follow_b36 E κ1 a1 a2 1 else gd (¬ (((55 * a1) + 49) < 0 ∨ 275 ≤ ((55 * a1) + 49).toNatClampNeg)) (if (kV κ1 5 0 1) ((55 * a1) + 49).toNatClampNeg = 3 then f_X11_follow_b36 E κ1 a1 a2 2 else f_X11_follow_b36 E κ1 a1 a2 0)
def f_X11_follow (E : EE) (κ : K) (a1 : Int32) (a2 : Int32) : Option (K × Int32) := bd (f_X11_follow_e E κ a1 a2) fun κ x => gd (x = 0 ∨ x = 1) (some (κ, x))
set_option maxHeartbeats 4000000 in
set_option maxRecDepth 100000 in
theorem w_X11_follow_b36 {l0 : Launch} (hfl : l0.stackTraces = false) {X : MX} {B : BX (EE × K)} {g : GP} {E : EE} {κ' : K} {rr : Int32} (O : CK l0 X B g cX11_follow RX11 5 88) (hKP : KPok B E) (hmL : B.2.2.2.1 = 5) (hE : ∀ (pc : Nat) (lv : List (Nat × AV)), decode cX11_follow pc = .ok (.ireturn, 1) → J X B (E, κ') pc lv [.inl (.int rr)]) (h0 : PC 11 E 5 0 0) : ∀ (κ : K) (x1 : Int32) (x2 : Int32) (xs0 : Int32), f_X11_follow_b36 E κ x1 x2 xs0 = some (κ', rr) → J X B (E, κ) 36 [(0, .inr (some (5, 0, 0))), (1, .inl (.int x1)), (2, .inl (.int x2))] [.inl (.int xs0), .inr (some (5, 0, 0))] := by
  intro κ x1 x2 xs0 h
  unfold f_X11_follow_b36 at h
  obtain ⟨κ7, r9, hq8, h⟩ := bd_some h
  refine J_callV O hKP (as := [.inl (.int xs0)]) (rest := []) (r := (some (.inl (.int r9)))) (c_X11_refused hfl h0 hq8) rfl (kd0 := 11) (k11_0 h0) (l11_0 h0) (T := TX11) (N := 42) rfl (by decide) mw605 mw606 mw607 mw517 mw608 pd_X11_refused rfl (by decide) rfl (Nat.le_of_ble_eq_true rfl) (sl_p (s11_0 h0) (sl_v (sl_v sl_0))) st_0 dX11_follow_36 ?_
  show J X B (E, κ7) 39 [(0, .inr (some (5, 0, 0))), (1, .inl (.int x1)), (2, .inl (.int x2))] [.inl (.int r9)]
  refine J_if_eq O.mo (tgt := 44) dX11_follow_39 (by decide) (fun hc10 => ?_) (fun hc10 => ?_)
  · replace h := (if_pos hc10).symm.trans h
    refine J_aload_n O.mo dX11_follow_44 0 rfl ?_
    refine J_getF O.co (kd0 := 11) (k11_0 h0) (l11_0 h0) (C := RX11) (T := TX11) (N := 42) rfl (by decide) rfl in_X11 33 (by decide) (v := .inr (some (5, 0, 33))) rfl mw550 rfl dX11_follow_45 ?_
    refine J_iload_n O.mo dX11_follow_48 1 rfl ?_
    obtain ⟨hg11, h⟩ := gd_some h
    refine J_bald O.co (g := (kV κ7 5 0 33)) (ct_22n (l11_33 h0) (k11_33 h0) (n11_33 h0)) hg11 dX11_follow_49 ?_
    refine J_istore O.mo (lv' := [(0, .inr (some (5, 0, 0))), (1, .inl (.int x1)), (2, .inl (.int x2))]) dX11_follow_50 (by rw [hmL]; decide) rfl rfl ?_
    refine nm_some (P := fun z => J X B (E, κ7) 52 [(4, .inl (.int z)), (0, .inr (some (5, 0, 0))), (1, .inl (.int x1)), (2, .inl (.int x2))] []) h (fun y12 h => ?_)
    refine J_aload_n O.mo dX11_follow_52 1 rfl ?_
    refine J_getF O.co (kd0 := 11) (k11_0 h0) (l11_0 h0) (C := RX11) (T := TX11) (N := 42) rfl (by decide) rfl in_X11 33 (by decide) (v := .inr (some (5, 0, 33))) rfl mw550 rfl dX11_follow_53 ?_
    refine J_iload_n O.mo dX11_follow_56 2 rfl ?_
    refine J_iload_n O.mo dX11_follow_57 3 rfl ?_
    obtain ⟨hg13, h⟩ := gd_some h
    obtain ⟨hg15, h⟩ := gd_some h
    refine row_22 O (l11_33 h0) (k11_33 h0) (n11_33 h0) hg13 (x := x2) hg15 dX11_follow_58 ?_
    refine nm_some (P := fun z => J X B (E, z) 59 [(4, .inl (.int y12)), (0, .inr (some (5, 0, 0))), (1, .inl (.int x1)), (2, .inl (.int x2))] []) h (fun κ14 h => ?_)
    refine J_iload_n O.mo dX11_follow_59 3 rfl ?_
    refine J_if_eq O.mo (tgt := 72) dX11_follow_60 (by decide) (fun hc16 => ?_) (fun hc16 => ?_)
    · replace h := (if_pos hc16).symm.trans h
      refine J_aload_n O.mo dX11_follow_72 1 rfl ?_
      refine J_iload_n O.mo dX11_follow_73 2 rfl ?_
      refine J_sub [0] rfl ?_
      obtain ⟨κ17, r19, hq18, h⟩ := bd_some h
      refine J_callV O hKP (as := [.inl (.int x1)]) (rest := []) (r := (some (.inl (.int r19)))) (c_X11_letOut hfl h0 hq18) rfl (kd0 := 11) (k11_0 h0) (l11_0 h0) (T := TX11) (N := 42) rfl (by decide) mw667 mw668 mw669 mw517 mw670 pd_X11_letOut rfl (by decide) rfl (Nat.le_of_ble_eq_true rfl) (sl_v sl_0) st_0 dX11_follow_74 ?_
      show J X B (E, κ17) 77 [(4, .inl (.int y12))] [.inl (.int r19)]
      refine J_pop O.mo dX11_follow_77 rfl ?_
      refine J_iload O.mo dX11_follow_78 0 rfl ?_
      cases h
      exact hE _ _ dX11_follow_80
    · replace h := (if_neg hc16).symm.trans h
      refine J_aload_n O.mo dX11_follow_63 1 rfl ?_
      refine J_iload_n O.mo dX11_follow_64 2 rfl ?_
      refine J_sub [0] rfl ?_
      obtain ⟨κ20, r22, hq21, h⟩ := bd_some h
      refine J_callV O hKP (as := [.inl (.int x1)]) (rest := []) (r := (some (.inl (.int r22)))) (c_X11_stepOf hfl h0 hq21) rfl (kd0 := 11) (k11_0 h0) (l11_0 h0) (T := TX11) (N := 42) rfl (by decide) mw671 mw672 mw673 mw517 mw674 pd_X11_stepOf rfl (by decide) rfl (Nat.le_of_ble_eq_true rfl) (sl_v sl_0) st_0 dX11_follow_65 ?_
      show J X B (E, κ20) 68 [(4, .inl (.int y12))] [.inl (.int r22)]
      refine J_pop O.mo dX11_follow_68 rfl ?_
      refine J_goto O.mo (tgt := 78) dX11_follow_69 (by decide) ?_
      refine J_iload O.mo dX11_follow_78 0 rfl ?_
      cases h
      exact hE _ _ dX11_follow_80
  · replace h := (if_neg hc10).symm.trans h
    refine J_iconst O.mo (v := 0) dX11_follow_42 (by decide) ?_
    cases h
    exact hE _ _ dX11_follow_43
set_option maxHeartbeats 4000000 in
set_option maxRecDepth 100000 in
theorem w_X11_follow_e {l0 : Launch} (hfl : l0.stackTraces = false) {X : MX} {B : BX (EE × K)} {g : GP} {E : EE} {κ' : K} {rr : Int32} (O : CK l0 X B g cX11_follow RX11 5 88) (hKP : KPok B E) (hmL : B.2.2.2.1 = 5) (hE : ∀ (pc : Nat) (lv : List (Nat × AV)), decode cX11_follow pc = .ok (.ireturn, 1) → J X B (E, κ') pc lv [.inl (.int rr)]) (h0 : PC 11 E 5 0 0) : ∀ (κ : K) (a1 : Int32) (a2 : Int32), f_X11_follow_e E κ a1 a2 = some (κ', rr) → J X B (E, κ) 0 [(0, .inr (some (5, 0, 0))), (1, .inl (.int a1)), (2, .inl (.int a2))] [] := by
  intro κ a1 a2 h
  unfold f_X11_follow_e at h
  refine J_aload_n O.mo dX11_follow_0 0 rfl ?_
  refine J_iload_n O.mo dX11_follow_1 1 rfl ?_
  obtain ⟨κ1, r3, hq2, h⟩ := bd_some h
  refine J_callV O hKP (as := [.inl (.int a1)]) (rest := []) (r := (some (.inl (.int r3)))) (c_X11_isGuest hfl h0 hq2) rfl (kd0 := 11) (k11_0 h0) (l11_0 h0) (T := TX11) (N := 42) rfl (by decide) mw611 mw612 mw613 mw517 mw614 pd_X11_isGuest rfl (by decide) rfl (Nat.le_of_ble_eq_true rfl) (sl_p (s11_0 h0) (sl_v (sl_v sl_0))) st_0 dX11_follow_2 ?_
  show J X B (E, κ1) 5 [(0, .inr (some (5, 0, 0))), (1, .inl (.int a1)), (2, .inl (.int a2))] [.inl (.int r3)]
  refine J_istore_n O.mo (lv' := [(0, .inr (some (5, 0, 0))), (1, .inl (.int a1)), (2, .inl (.int a2))]) dX11_follow_5 (by rw [hmL]; decide) rfl rfl ?_
  refine J_aload_n O.mo dX11_follow_6 1 rfl ?_
  refine J_iload_n O.mo dX11_follow_7 0 rfl ?_
  refine J_if_ne O.mo (tgt := 15) dX11_follow_8 (by decide) (fun hc4 => ?_) (fun hc4 => ?_)
  · replace h := (if_neg hc4).symm.trans h
    refine J_aload_n O.mo dX11_follow_15 1 rfl ?_
    refine J_getF O.co (kd0 := 11) (k11_0 h0) (l11_0 h0) (C := RX11) (T := TX11) (N := 42) rfl (by decide) rfl in_X11 1 (by decide) (v := .inr (some (5, 0, 1))) rfl mw545 rfl dX11_follow_16 ?_
    refine J_bipush O.mo (v := 55) dX11_follow_19 (by decide) ?_
    refine J_iload_n O.mo dX11_follow_21 2 rfl ?_
    refine J_imul O.mo dX11_follow_22 ?_
    refine J_bipush O.mo (v := 49) dX11_follow_23 (by decide) ?_
    refine J_iadd O.mo dX11_follow_25 ?_
    obtain ⟨hg5, h⟩ := gd_some h
    refine J_iald O.co (g := (kV κ1 5 0 1)) (ct_20n (l11_1 h0) (k11_1 h0) (n11_1 h0)) hg5 dX11_follow_26 ?_
    refine J_iconst O.mo (v := 3) dX11_follow_27 (by decide) ?_
    refine J_icmp_ne O.mo (tgt := 35) dX11_follow_28 (by decide) (fun hc6 => ?_) (fun hc6 => ?_)
    · replace h := (if_neg hc6).symm.trans h
      refine J_iconst O.mo (v := 0) dX11_follow_35 (by decide) ?_
      refine J_sub [1, 2, 3] rfl ?_
      exact w_X11_follow_b36 hfl O hKP hmL hE h0 _ _ _ _ h
    · replace h := (if_pos hc6).symm.trans h
      refine J_iconst O.mo (v := 2) dX11_follow_31 (by decide) ?_
      refine J_goto O.mo (tgt := 36) dX11_follow_32 (by decide) ?_
      refine J_sub [1, 2, 3] rfl ?_
      exact w_X11_follow_b36 hfl O hKP hmL hE h0 _ _ _ _ h
  · replace h := (if_pos hc4).symm.trans h
    refine J_iconst O.mo (v := 1) dX11_follow_11 (by decide) ?_
    refine J_goto O.mo (tgt := 36) dX11_follow_12 (by decide) ?_
    refine J_sub [1, 2, 3] rfl ?_
    exact w_X11_follow_b36 hfl O hKP hmL hE h0 _ _ _ _ h
theorem c_X11_follow {l : Launch} (hfl : l.stackTraces = false) {E : EE} {κ κ' : K} {a1 : Int32} {a2 : Int32} (h0 : PC 11 E 5 0 0) {rr : Int32} (h : f_X11_follow E κ a1 a2 = some (κ', rr)) : Con l yX11_follow cX11_follow 5 (some .boolean) 5 88 [.inr (some (5, 0, 0)), .inl (.int a1), .inl (.int a2)] (E, κ) (E, κ') (some (.inl (.int rr))) := by
  unfold f_X11_follow at h
  obtain ⟨κ1, x1, q1, q2⟩ := bd_some h
  obtain ⟨hb, q3⟩ := gd_some q2
  cases q3
  exact Con_of hfl (by decide +kernel) (Nat.le_of_ble_eq_true rfl) rfl ⟨_, rfl, nar_b hb⟩ (fun X B g O hKP hmL hE => w_X11_follow_e hfl O hKP hmL hE h0 _ _ _ q1)
def f_X11_step_b27 (E : EE) (κ : K) (x1 : Int32) (xs0 : Int32) : Option (K × Int32) := bd (f_X11_refused E κ xs0) fun κ7 r9 => if r9 = 0 then bd (f_X11_stepOf E κ7 x1) fun κ11 r13 => some (κ11, r13) else some (κ7, 0)
def f_X11_step (E : EE) (κ : K) (a1 : Int32) : Option (K × Int32) := bd (f_X11_isGuest E κ a1) fun κ1 r3 => if r3 = 0 then f_X11_step_b27 E κ1 a1 1 else gd (¬ (a1 < 0 ∨ 5 ≤ a1.toNatClampNeg)) (if (kV κ1 5 0 33) a1.toNatClampNeg = 0 then f_X11_step_b27 E κ1 a1 2 else f_X11_step_b27 E κ1 a1 0)
set_option maxHeartbeats 4000000 in
set_option maxRecDepth 100000 in
theorem w_X11_step_b27 {l0 : Launch} (hfl : l0.stackTraces = false) {X : MX} {B : BX (EE × K)} {g : GP} {E : EE} {κ' : K} {rr : Int32} (O : CK l0 X B g cX11_step RX11 5 88) (hKP : KPok B E) (hmL : B.2.2.2.1 = 2) (hE : ∀ (pc : Nat) (lv : List (Nat × AV)), decode cX11_step pc = .ok (.ireturn, 1) → J X B (E, κ') pc lv [.inl (.int rr)]) (h0 : PC 11 E 5 0 0) : ∀ (κ : K) (x1 : Int32) (xs0 : Int32), f_X11_step_b27 E κ x1 xs0 = some (κ', rr) → J X B (E, κ) 27 [(0, .inr (some (5, 0, 0))), (1, .inl (.int x1))] [.inl (.int xs0), .inr (some (5, 0, 0))] := by
  intro κ x1 xs0 h
  unfold f_X11_step_b27 at h
  obtain ⟨κ7, r9, hq8, h⟩ := bd_some h
  refine J_callV O hKP (as := [.inl (.int xs0)]) (rest := []) (r := (some (.inl (.int r9)))) (c_X11_refused hfl h0 hq8) rfl (kd0 := 11) (k11_0 h0) (l11_0 h0) (T := TX11) (N := 42) rfl (by decide) mw605 mw606 mw607 mw517 mw608 pd_X11_refused rfl (by decide) rfl (Nat.le_of_ble_eq_true rfl) (sl_p (s11_0 h0) (sl_v sl_0)) st_0 dX11_step_27 ?_
  show J X B (E, κ7) 30 [(0, .inr (some (5, 0, 0))), (1, .inl (.int x1))] [.inl (.int r9)]
  refine J_if_eq O.mo (tgt := 35) dX11_step_30 (by decide) (fun hc10 => ?_) (fun hc10 => ?_)
  · replace h := (if_pos hc10).symm.trans h
    refine J_aload_n O.mo dX11_step_35 0 rfl ?_
    refine J_iload_n O.mo dX11_step_36 1 rfl ?_
    refine J_sub [] rfl ?_
    obtain ⟨κ11, r13, hq12, h⟩ := bd_some h
    refine J_callV O hKP (as := [.inl (.int x1)]) (rest := []) (r := (some (.inl (.int r13)))) (c_X11_stepOf hfl h0 hq12) rfl (kd0 := 11) (k11_0 h0) (l11_0 h0) (T := TX11) (N := 42) rfl (by decide) mw671 mw672 mw673 mw517 mw674 pd_X11_stepOf rfl (by decide) rfl (Nat.le_of_ble_eq_true rfl) sl_0 st_0 dX11_step_37 ?_
    show J X B (E, κ11) 40 [] [.inl (.int r13)]
    cases h
    exact hE _ _ dX11_step_40
  · replace h := (if_neg hc10).symm.trans h
    refine J_iconst O.mo (v := 0) dX11_step_33 (by decide) ?_
    cases h
    exact hE _ _ dX11_step_34
set_option maxHeartbeats 4000000 in
set_option maxRecDepth 100000 in
theorem w_X11_step {l0 : Launch} (hfl : l0.stackTraces = false) {X : MX} {B : BX (EE × K)} {g : GP} {E : EE} {κ' : K} {rr : Int32} (O : CK l0 X B g cX11_step RX11 5 88) (hKP : KPok B E) (hmL : B.2.2.2.1 = 2) (hE : ∀ (pc : Nat) (lv : List (Nat × AV)), decode cX11_step pc = .ok (.ireturn, 1) → J X B (E, κ') pc lv [.inl (.int rr)]) (h0 : PC 11 E 5 0 0) : ∀ (κ : K) (a1 : Int32), f_X11_step E κ a1 = some (κ', rr) → J X B (E, κ) 0 [(0, .inr (some (5, 0, 0))), (1, .inl (.int a1))] [] := by
  intro κ a1 h
  unfold f_X11_step at h
  refine J_aload_n O.mo dX11_step_0 0 rfl ?_
  refine J_aload_n O.mo dX11_step_1 0 rfl ?_
  refine J_iload_n O.mo dX11_step_2 1 rfl ?_
  obtain ⟨κ1, r3, hq2, h⟩ := bd_some h
  refine J_callV O hKP (as := [.inl (.int a1)]) (rest := [.inr (some (5, 0, 0))]) (r := (some (.inl (.int r3)))) (c_X11_isGuest hfl h0 hq2) rfl (kd0 := 11) (k11_0 h0) (l11_0 h0) (T := TX11) (N := 42) rfl (by decide) mw611 mw612 mw613 mw517 mw614 pd_X11_isGuest rfl (by decide) rfl (Nat.le_of_ble_eq_true rfl) (sl_p (s11_0 h0) (sl_v sl_0)) (st_p (s11_0 h0) st_0) dX11_step_3 ?_
  show J X B (E, κ1) 6 [(0, .inr (some (5, 0, 0))), (1, .inl (.int a1))] [.inl (.int r3), .inr (some (5, 0, 0))]
  refine J_if_ne O.mo (tgt := 13) dX11_step_6 (by decide) (fun hc4 => ?_) (fun hc4 => ?_)
  · replace h := (if_neg hc4).symm.trans h
    refine J_aload_n O.mo dX11_step_13 0 rfl ?_
    refine J_getF O.co (kd0 := 11) (k11_0 h0) (l11_0 h0) (C := RX11) (T := TX11) (N := 42) rfl (by decide) rfl in_X11 33 (by decide) (v := .inr (some (5, 0, 33))) rfl mw550 rfl dX11_step_14 ?_
    refine J_iload_n O.mo dX11_step_17 1 rfl ?_
    obtain ⟨hg5, h⟩ := gd_some h
    refine J_bald O.co (g := (kV κ1 5 0 33)) (ct_22n (l11_33 h0) (k11_33 h0) (n11_33 h0)) hg5 dX11_step_18 ?_
    refine J_if_ne O.mo (tgt := 26) dX11_step_19 (by decide) (fun hc6 => ?_) (fun hc6 => ?_)
    · replace h := (if_neg hc6).symm.trans h
      refine J_iconst O.mo (v := 0) dX11_step_26 (by decide) ?_
      exact w_X11_step_b27 hfl O hKP hmL hE h0 _ _ _ h
    · replace h := (if_pos hc6).symm.trans h
      refine J_iconst O.mo (v := 2) dX11_step_22 (by decide) ?_
      refine J_goto O.mo (tgt := 27) dX11_step_23 (by decide) ?_
      exact w_X11_step_b27 hfl O hKP hmL hE h0 _ _ _ h
  · replace h := (if_pos hc4).symm.trans h
    refine J_iconst O.mo (v := 1) dX11_step_9 (by decide) ?_
    refine J_goto O.mo (tgt := 27) dX11_step_10 (by decide) ?_
    exact w_X11_step_b27 hfl O hKP hmL hE h0 _ _ _ h
theorem c_X11_step {l : Launch} (hfl : l.stackTraces = false) {E : EE} {κ κ' : K} {a1 : Int32} (h0 : PC 11 E 5 0 0) {rr : Int32} (h : f_X11_step E κ a1 = some (κ', rr)) : Con l yX11_step cX11_step 2 (some .int) 5 88 [.inr (some (5, 0, 0)), .inl (.int a1)] (E, κ) (E, κ') (some (.inl (.int rr))) := by
  exact Con_of hfl (by decide +kernel) (Nat.le_of_ble_eq_true rfl) rfl ⟨_, rfl, rfl⟩ (fun X B g O hKP hmL hE => w_X11_step hfl O hKP hmL hE h0 _ _ h)
def f_X11_die_b44 (E : EE) : Nat → K → Int32 → Int32 → Option (K × Unit)
  | 0, _, _, _ => none
  | n + 1, κ, x1, x2 => if 8 ≤ x2 then some (κ, ()) else gd (¬ (((8 * x1) + x2) < 0 ∨ 40 ≤ ((8 * x1) + x2).toNatClampNeg)) (nm (setV κ 5 0 27 ((8 * x1) + x2).toNatClampNeg 0) fun κ6 => gd (¬ (((8 * x1) + x2) < 0 ∨ 40 ≤ ((8 * x1) + x2).toNatClampNeg)) (nm (setV κ6 5 0 28 ((8 * x1) + x2).toNatClampNeg ((-1))) fun κ8 => nm (x2 + 1) fun y9 => f_X11_die_b44 E n κ8 x1 y9))
def f_X11_die_b42 (E : EE) (κ : K) (x1 : Int32) : Option (K × Unit) := f_X11_die_b44 E FU κ x1 0
def f_X11_die_b15 (E : EE) : Nat → K → Int32 → Int32 → Option (K × Unit)
  | 0, _, _, _ => none
  | n + 1, κ, x1, x2 => if 32 ≤ x2 then f_X11_die_b42 E κ x1 else gd (¬ ((((55 * x1) + 17) + x2) < 0 ∨ 275 ≤ (((55 * x1) + 17) + x2).toNatClampNeg)) (nm (setV κ 5 0 1 (((55 * x1) + 17) + x2).toNatClampNeg 0) fun κ11 => nm (x2 + 1) fun y12 => f_X11_die_b15 E n κ11 x1 y12)
def f_X11_die (E : EE) (κ : K) (a1 : Int32) : Option (K × Unit) := gd (¬ (((55 * a1) + 49) < 0 ∨ 275 ≤ ((55 * a1) + 49).toNatClampNeg)) (nm (setV κ 5 0 1 ((55 * a1) + 49).toNatClampNeg 3) fun κ2 => f_X11_die_b15 E FU κ2 a1 0)
set_option maxHeartbeats 4000000 in
set_option maxRecDepth 100000 in
theorem w_X11_die_b44 {l0 : Launch} (hfl : l0.stackTraces = false) {X : MX} {B : BX (EE × K)} {g : GP} {E : EE} {κ' : K} {rr : Unit} (O : CK l0 X B g cX11_die RX11 1 0) (hKP : KPok B E) (hmL : B.2.2.2.1 = 3) (hE : ∀ (pc : Nat) (lv : List (Nat × AV)), decode cX11_die pc = .ok (.return_, 1) → J X B (E, κ') pc lv []) (h0 : PC 11 E 5 0 0) : ∀ (n : Nat) (κ : K) (x1 : Int32) (x2 : Int32), f_X11_die_b44 E n κ x1 x2 = some (κ', rr) → J X B (E, κ) 44 [(0, .inr (some (5, 0, 0))), (1, .inl (.int x1)), (2, .inl (.int x2))] [] := by
  intro n
  induction n with
  | zero => intro κ x1 x2 h; cases h
  | succ n ih =>
    intro κ x1 x2 h
    rw [f_X11_die_b44] at h
    refine J_iload_n O.mo dX11_die_44 2 rfl ?_
    refine J_bipush O.mo (v := 8) dX11_die_45 (by decide) ?_
    refine J_icmp_ge O.mo (tgt := 80) dX11_die_47 (by decide) (fun hc4 => ?_) (fun hc4 => ?_)
    · replace h := (if_pos hc4).symm.trans h
      cases h
      exact hE _ _ dX11_die_80
    · replace h := (if_neg hc4).symm.trans h
      refine J_aload_n O.mo dX11_die_50 0 rfl ?_
      refine J_getF O.co (kd0 := 11) (k11_0 h0) (l11_0 h0) (C := RX11) (T := TX11) (N := 42) rfl (by decide) rfl in_X11 27 (by decide) (v := .inr (some (5, 0, 27))) rfl mw528 rfl dX11_die_51 ?_
      refine J_bipush O.mo (v := 8) dX11_die_54 (by decide) ?_
      refine J_iload_n O.mo dX11_die_56 1 rfl ?_
      refine J_imul O.mo dX11_die_57 ?_
      refine J_iload_n O.mo dX11_die_58 2 rfl ?_
      refine J_iadd O.mo dX11_die_59 ?_
      refine J_iconst O.mo (v := 0) dX11_die_60 (by decide) ?_
      obtain ⟨hg5, h⟩ := gd_some h
      refine row_20 O (l11_27 h0) (k11_27 h0) (n11_27 h0) hg5 (x := 0) dX11_die_61 ?_
      refine nm_some (P := fun z => J X B (E, z) 62 [(0, .inr (some (5, 0, 0))), (1, .inl (.int x1)), (2, .inl (.int x2))] []) h (fun κ6 h => ?_)
      refine J_aload_n O.mo dX11_die_62 0 rfl ?_
      refine J_getF O.co (kd0 := 11) (k11_0 h0) (l11_0 h0) (C := RX11) (T := TX11) (N := 42) rfl (by decide) rfl in_X11 28 (by decide) (v := .inr (some (5, 0, 28))) rfl mw527 rfl dX11_die_63 ?_
      refine J_bipush O.mo (v := 8) dX11_die_66 (by decide) ?_
      refine J_iload_n O.mo dX11_die_68 1 rfl ?_
      refine J_imul O.mo dX11_die_69 ?_
      refine J_iload_n O.mo dX11_die_70 2 rfl ?_
      refine J_iadd O.mo dX11_die_71 ?_
      refine J_iconst O.mo (v := (-1)) dX11_die_72 (by decide) ?_
      obtain ⟨hg7, h⟩ := gd_some h
      refine row_20 O (l11_28 h0) (k11_28 h0) (n11_28 h0) hg7 (x := ((-1))) dX11_die_73 ?_
      refine nm_some (P := fun z => J X B (E, z) 74 [(0, .inr (some (5, 0, 0))), (1, .inl (.int x1)), (2, .inl (.int x2))] []) h (fun κ8 h => ?_)
      refine J_iinc O.mo (v := x2 + 1) (lv' := [(0, .inr (some (5, 0, 0))), (1, .inl (.int x1))]) dX11_die_74 (by rw [hmL]; decide) 2 rfl (by rw [show Int32.ofInt (1) = (1 : Int32) from by decide]) rfl rfl ?_
      refine nm_some (P := fun z => J X B (E, κ8) 77 [(2, .inl (.int z)), (0, .inr (some (5, 0, 0))), (1, .inl (.int x1))] []) h (fun y9 h => ?_)
      refine J_goto O.mo (tgt := 44) dX11_die_77 (by decide) ?_
      refine J_sub [1, 2, 0] rfl ?_
      exact ih _ _ _ h
set_option maxHeartbeats 4000000 in
set_option maxRecDepth 100000 in
theorem w_X11_die_b42 {l0 : Launch} (hfl : l0.stackTraces = false) {X : MX} {B : BX (EE × K)} {g : GP} {E : EE} {κ' : K} {rr : Unit} (O : CK l0 X B g cX11_die RX11 1 0) (hKP : KPok B E) (hmL : B.2.2.2.1 = 3) (hE : ∀ (pc : Nat) (lv : List (Nat × AV)), decode cX11_die pc = .ok (.return_, 1) → J X B (E, κ') pc lv []) (h0 : PC 11 E 5 0 0) : ∀ (κ : K) (x1 : Int32), f_X11_die_b42 E κ x1 = some (κ', rr) → J X B (E, κ) 42 [(0, .inr (some (5, 0, 0))), (1, .inl (.int x1))] [] := by
  intro κ x1 h
  unfold f_X11_die_b42 at h
  refine J_iconst O.mo (v := 0) dX11_die_42 (by decide) ?_
  refine J_istore_n O.mo (lv' := [(0, .inr (some (5, 0, 0))), (1, .inl (.int x1))]) dX11_die_43 (by rw [hmL]; decide) rfl rfl ?_
  refine J_sub [1, 2, 0] rfl ?_
  exact w_X11_die_b44 hfl O hKP hmL hE h0 FU _ _ _ h
set_option maxHeartbeats 4000000 in
set_option maxRecDepth 100000 in
theorem w_X11_die_b15 {l0 : Launch} (hfl : l0.stackTraces = false) {X : MX} {B : BX (EE × K)} {g : GP} {E : EE} {κ' : K} {rr : Unit} (O : CK l0 X B g cX11_die RX11 1 0) (hKP : KPok B E) (hmL : B.2.2.2.1 = 3) (hE : ∀ (pc : Nat) (lv : List (Nat × AV)), decode cX11_die pc = .ok (.return_, 1) → J X B (E, κ') pc lv []) (h0 : PC 11 E 5 0 0) : ∀ (n : Nat) (κ : K) (x1 : Int32) (x2 : Int32), f_X11_die_b15 E n κ x1 x2 = some (κ', rr) → J X B (E, κ) 15 [(0, .inr (some (5, 0, 0))), (1, .inl (.int x1)), (2, .inl (.int x2))] [] := by
  intro n
  induction n with
  | zero => intro κ x1 x2 h; cases h
  | succ n ih =>
    intro κ x1 x2 h
    rw [f_X11_die_b15] at h
    refine J_iload_n O.mo dX11_die_15 2 rfl ?_
    refine J_bipush O.mo (v := 32) dX11_die_16 (by decide) ?_
    refine J_icmp_ge O.mo (tgt := 42) dX11_die_18 (by decide) (fun hc3 => ?_) (fun hc3 => ?_)
    · replace h := (if_pos hc3).symm.trans h
      refine J_sub [0, 1] rfl ?_
      exact w_X11_die_b42 hfl O hKP hmL hE h0 _ _ h
    · replace h := (if_neg hc3).symm.trans h
      refine J_aload_n O.mo dX11_die_21 0 rfl ?_
      refine J_getF O.co (kd0 := 11) (k11_0 h0) (l11_0 h0) (C := RX11) (T := TX11) (N := 42) rfl (by decide) rfl in_X11 1 (by decide) (v := .inr (some (5, 0, 1))) rfl mw545 rfl dX11_die_22 ?_
      refine J_bipush O.mo (v := 55) dX11_die_25 (by decide) ?_
      refine J_iload_n O.mo dX11_die_27 1 rfl ?_
      refine J_imul O.mo dX11_die_28 ?_
      refine J_bipush O.mo (v := 17) dX11_die_29 (by decide) ?_
      refine J_iadd O.mo dX11_die_31 ?_
      refine J_iload_n O.mo dX11_die_32 2 rfl ?_
      refine J_iadd O.mo dX11_die_33 ?_
      refine J_iconst O.mo (v := 0) dX11_die_34 (by decide) ?_
      obtain ⟨hg10, h⟩ := gd_some h
      refine row_20 O (l11_1 h0) (k11_1 h0) (n11_1 h0) hg10 (x := 0) dX11_die_35 ?_
      refine nm_some (P := fun z => J X B (E, z) 36 [(0, .inr (some (5, 0, 0))), (1, .inl (.int x1)), (2, .inl (.int x2))] []) h (fun κ11 h => ?_)
      refine J_iinc O.mo (v := x2 + 1) (lv' := [(0, .inr (some (5, 0, 0))), (1, .inl (.int x1))]) dX11_die_36 (by rw [hmL]; decide) 2 rfl (by rw [show Int32.ofInt (1) = (1 : Int32) from by decide]) rfl rfl ?_
      refine nm_some (P := fun z => J X B (E, κ11) 39 [(2, .inl (.int z)), (0, .inr (some (5, 0, 0))), (1, .inl (.int x1))] []) h (fun y12 h => ?_)
      refine J_goto O.mo (tgt := 15) dX11_die_39 (by decide) ?_
      refine J_sub [1, 2, 0] rfl ?_
      exact ih _ _ _ h
set_option maxHeartbeats 4000000 in
set_option maxRecDepth 100000 in
theorem w_X11_die {l0 : Launch} (hfl : l0.stackTraces = false) {X : MX} {B : BX (EE × K)} {g : GP} {E : EE} {κ' : K} {rr : Unit} (O : CK l0 X B g cX11_die RX11 1 0) (hKP : KPok B E) (hmL : B.2.2.2.1 = 3) (hE : ∀ (pc : Nat) (lv : List (Nat × AV)), decode cX11_die pc = .ok (.return_, 1) → J X B (E, κ') pc lv []) (h0 : PC 11 E 5 0 0) : ∀ (κ : K) (a1 : Int32), f_X11_die E κ a1 = some (κ', rr) → J X B (E, κ) 0 [(0, .inr (some (5, 0, 0))), (1, .inl (.int a1))] [] := by
  intro κ a1 h
  unfold f_X11_die at h
  refine J_aload_n O.mo dX11_die_0 0 rfl ?_
  refine J_getF O.co (kd0 := 11) (k11_0 h0) (l11_0 h0) (C := RX11) (T := TX11) (N := 42) rfl (by decide) rfl in_X11 1 (by decide) (v := .inr (some (5, 0, 1))) rfl mw545 rfl dX11_die_1 ?_
  refine J_bipush O.mo (v := 55) dX11_die_4 (by decide) ?_
  refine J_iload_n O.mo dX11_die_6 1 rfl ?_
  refine J_imul O.mo dX11_die_7 ?_
  refine J_bipush O.mo (v := 49) dX11_die_8 (by decide) ?_
  refine J_iadd O.mo dX11_die_10 ?_
  refine J_iconst O.mo (v := 3) dX11_die_11 (by decide) ?_
  obtain ⟨hg1, h⟩ := gd_some h
  refine row_20 O (l11_1 h0) (k11_1 h0) (n11_1 h0) hg1 (x := 3) dX11_die_12 ?_
  refine nm_some (P := fun z => J X B (E, z) 13 [(0, .inr (some (5, 0, 0))), (1, .inl (.int a1))] []) h (fun κ2 h => ?_)
  refine J_iconst O.mo (v := 0) dX11_die_13 (by decide) ?_
  refine J_istore_n O.mo (lv' := [(0, .inr (some (5, 0, 0))), (1, .inl (.int a1))]) dX11_die_14 (by rw [hmL]; decide) rfl rfl ?_
  refine J_sub [1, 2, 0] rfl ?_
  exact w_X11_die_b15 hfl O hKP hmL hE h0 FU _ _ _ h
theorem c_X11_die {l : Launch} (hfl : l.stackTraces = false) {E : EE} {κ κ' : K} {a1 : Int32} (h0 : PC 11 E 5 0 0) {rr : Unit} (h : f_X11_die E κ a1 = some (κ', rr)) : Con l yX11_die cX11_die 3 none 1 0 [.inr (some (5, 0, 0)), .inl (.int a1)] (E, κ) (E, κ') none := by
  exact Con_of hfl (by decide +kernel) (Nat.le_of_ble_eq_true rfl) rfl rfl (fun X B g O hKP hmL hE => w_X11_die hfl O hKP hmL hE h0 _ _ h)
def f_X11_goOn_b39 (E : EE) : Nat → K → Int32 → Int32 → Option (K × Unit)
  | 0, _, _, _ => none
  | n + 1, κ, x1, x2 => gd (¬ (x1 < 0 ∨ 5 ≤ x1.toNatClampNeg)) (if (kV κ 5 0 6) x1.toNatClampNeg ≤ x2 then some (κ, ()) else gd (¬ (((55 * x1) + 54) < 0 ∨ 275 ≤ ((55 * x1) + 54).toNatClampNeg)) (gd (¬ (((512 * x1) + x2) < 0 ∨ 2560 ≤ ((512 * x1) + x2).toNatClampNeg)) (gd (¬ (((512 * x1) + ((kV κ 5 0 1) ((55 * x1) + 54).toNatClampNeg)) < 0 ∨ 2560 ≤ ((512 * x1) + ((kV κ 5 0 1) ((55 * x1) + 54).toNatClampNeg)).toNatClampNeg)) (nm (setV κ 5 0 2 ((512 * x1) + ((kV κ 5 0 1) ((55 * x1) + 54).toNatClampNeg)).toNatClampNeg ((kV κ 5 0 5) ((512 * x1) + x2).toNatClampNeg)) fun κ12 => gd (¬ (((55 * x1) + 54) < 0 ∨ 275 ≤ ((55 * x1) + 54).toNatClampNeg)) (gd (¬ (((55 * x1) + 54) < 0 ∨ 275 ≤ ((55 * x1) + 54).toNatClampNeg)) (nm (setV κ12 5 0 1 ((55 * x1) + 54).toNatClampNeg (((kV κ12 5 0 1) ((55 * x1) + 54).toNatClampNeg) + 1)) fun κ15 => nm (x2 + 1) fun y16 => f_X11_goOn_b39 E n κ15 x1 y16))))))
def f_X11_goOn (E : EE) (κ : K) (a1 : Int32) : Option (K × Unit) := bd (f_X11_giveBack E κ a1 (5, 0, 3) (55 * a1) (5, 0, 4) (512 * a1)) fun κ1 r3 => gd (¬ (a1 < 0 ∨ 5 ≤ a1.toNatClampNeg)) (gd (¬ (a1 < 0 ∨ 5 ≤ a1.toNatClampNeg)) (nm (setV κ1 5 0 15 a1.toNatClampNeg (1 - ((kV κ1 5 0 15) a1.toNatClampNeg))) fun κ6 => f_X11_goOn_b39 E FU κ6 a1 0))
set_option maxHeartbeats 4000000 in
set_option maxRecDepth 100000 in
theorem w_X11_goOn_b39 {l0 : Launch} (hfl : l0.stackTraces = false) {X : MX} {B : BX (EE × K)} {g : GP} {E : EE} {κ' : K} {rr : Unit} (O : CK l0 X B g cX11_goOn RX11 4 70) (hKP : KPok B E) (hmL : B.2.2.2.1 = 3) (hE : ∀ (pc : Nat) (lv : List (Nat × AV)), decode cX11_goOn pc = .ok (.return_, 1) → J X B (E, κ') pc lv []) (h0 : PC 11 E 5 0 0) : ∀ (n : Nat) (κ : K) (x1 : Int32) (x2 : Int32), f_X11_goOn_b39 E n κ x1 x2 = some (κ', rr) → J X B (E, κ) 39 [(0, .inr (some (5, 0, 0))), (1, .inl (.int x1)), (2, .inl (.int x2))] [] := by
  intro n
  induction n with
  | zero => intro κ x1 x2 h; cases h
  | succ n ih =>
    intro κ x1 x2 h
    rw [f_X11_goOn_b39] at h
    refine J_iload_n O.mo dX11_goOn_39 2 rfl ?_
    refine J_aload_n O.mo dX11_goOn_40 0 rfl ?_
    refine J_getF O.co (kd0 := 11) (k11_0 h0) (l11_0 h0) (C := RX11) (T := TX11) (N := 42) rfl (by decide) rfl in_X11 6 (by decide) (v := .inr (some (5, 0, 6))) rfl mw627 rfl dX11_goOn_41 ?_
    refine J_iload_n O.mo dX11_goOn_44 1 rfl ?_
    obtain ⟨hg7, h⟩ := gd_some h
    refine J_iald O.co (g := (kV κ 5 0 6)) (ct_20n (l11_6 h0) (k11_6 h0) (n11_6 h0)) hg7 dX11_goOn_45 ?_
    refine J_icmp_ge O.mo (tgt := 106) dX11_goOn_46 (by decide) (fun hc8 => ?_) (fun hc8 => ?_)
    · replace h := (if_pos hc8).symm.trans h
      cases h
      exact hE _ _ dX11_goOn_106
    · replace h := (if_neg hc8).symm.trans h
      refine J_aload_n O.mo dX11_goOn_49 0 rfl ?_
      refine J_getF O.co (kd0 := 11) (k11_0 h0) (l11_0 h0) (C := RX11) (T := TX11) (N := 42) rfl (by decide) rfl in_X11 2 (by decide) (v := .inr (some (5, 0, 2))) rfl mw555 rfl dX11_goOn_50 ?_
      refine J_sipush O.mo (v := 512) dX11_goOn_53 (by decide) ?_
      refine J_iload_n O.mo dX11_goOn_56 1 rfl ?_
      refine J_imul O.mo dX11_goOn_57 ?_
      refine J_aload_n O.mo dX11_goOn_58 0 rfl ?_
      refine J_getF O.co (kd0 := 11) (k11_0 h0) (l11_0 h0) (C := RX11) (T := TX11) (N := 42) rfl (by decide) rfl in_X11 1 (by decide) (v := .inr (some (5, 0, 1))) rfl mw545 rfl dX11_goOn_59 ?_
      refine J_bipush O.mo (v := 55) dX11_goOn_62 (by decide) ?_
      refine J_iload_n O.mo dX11_goOn_64 1 rfl ?_
      refine J_imul O.mo dX11_goOn_65 ?_
      refine J_bipush O.mo (v := 54) dX11_goOn_66 (by decide) ?_
      refine J_iadd O.mo dX11_goOn_68 ?_
      obtain ⟨hg9, h⟩ := gd_some h
      refine J_iald O.co (g := (kV κ 5 0 1)) (ct_20n (l11_1 h0) (k11_1 h0) (n11_1 h0)) hg9 dX11_goOn_69 ?_
      refine J_iadd O.mo dX11_goOn_70 ?_
      refine J_aload_n O.mo dX11_goOn_71 0 rfl ?_
      refine J_getF O.co (kd0 := 11) (k11_0 h0) (l11_0 h0) (C := RX11) (T := TX11) (N := 42) rfl (by decide) rfl in_X11 5 (by decide) (v := .inr (some (5, 0, 5))) rfl mw626 rfl dX11_goOn_72 ?_
      refine J_sipush O.mo (v := 512) dX11_goOn_75 (by decide) ?_
      refine J_iload_n O.mo dX11_goOn_78 1 rfl ?_
      refine J_imul O.mo dX11_goOn_79 ?_
      refine J_iload_n O.mo dX11_goOn_80 2 rfl ?_
      refine J_iadd O.mo dX11_goOn_81 ?_
      obtain ⟨hg10, h⟩ := gd_some h
      refine J_iald O.co (g := (kV κ 5 0 5)) (ct_20n (l11_5 h0) (k11_5 h0) (n11_5 h0)) hg10 dX11_goOn_82 ?_
      obtain ⟨hg11, h⟩ := gd_some h
      refine row_20 O (l11_2 h0) (k11_2 h0) (n11_2 h0) hg11 (x := ((kV κ 5 0 5) ((512 * x1) + x2).toNatClampNeg)) dX11_goOn_83 ?_
      refine nm_some (P := fun z => J X B (E, z) 84 [(0, .inr (some (5, 0, 0))), (1, .inl (.int x1)), (2, .inl (.int x2))] []) h (fun κ12 h => ?_)
      refine J_aload_n O.mo dX11_goOn_84 0 rfl ?_
      refine J_getF O.co (kd0 := 11) (k11_0 h0) (l11_0 h0) (C := RX11) (T := TX11) (N := 42) rfl (by decide) rfl in_X11 1 (by decide) (v := .inr (some (5, 0, 1))) rfl mw545 rfl dX11_goOn_85 ?_
      refine J_bipush O.mo (v := 55) dX11_goOn_88 (by decide) ?_
      refine J_iload_n O.mo dX11_goOn_90 1 rfl ?_
      refine J_imul O.mo dX11_goOn_91 ?_
      refine J_bipush O.mo (v := 54) dX11_goOn_92 (by decide) ?_
      refine J_iadd O.mo dX11_goOn_94 ?_
      refine J_dup2 O.mo dX11_goOn_95 rfl rfl ?_
      obtain ⟨hg13, h⟩ := gd_some h
      refine J_iald O.co (g := (kV κ12 5 0 1)) (ct_20n (l11_1 h0) (k11_1 h0) (n11_1 h0)) hg13 dX11_goOn_96 ?_
      refine J_iconst O.mo (v := 1) dX11_goOn_97 (by decide) ?_
      refine J_iadd O.mo dX11_goOn_98 ?_
      obtain ⟨hg14, h⟩ := gd_some h
      refine row_20 O (l11_1 h0) (k11_1 h0) (n11_1 h0) hg14 (x := (((kV κ12 5 0 1) ((55 * x1) + 54).toNatClampNeg) + 1)) dX11_goOn_99 ?_
      refine nm_some (P := fun z => J X B (E, z) 100 [(0, .inr (some (5, 0, 0))), (1, .inl (.int x1)), (2, .inl (.int x2))] []) h (fun κ15 h => ?_)
      refine J_iinc O.mo (v := x2 + 1) (lv' := [(0, .inr (some (5, 0, 0))), (1, .inl (.int x1))]) dX11_goOn_100 (by rw [hmL]; decide) 2 rfl (by rw [show Int32.ofInt (1) = (1 : Int32) from by decide]) rfl rfl ?_
      refine nm_some (P := fun z => J X B (E, κ15) 103 [(2, .inl (.int z)), (0, .inr (some (5, 0, 0))), (1, .inl (.int x1))] []) h (fun y16 h => ?_)
      refine J_goto O.mo (tgt := 39) dX11_goOn_103 (by decide) ?_
      refine J_sub [1, 2, 0] rfl ?_
      exact ih _ _ _ h
set_option maxHeartbeats 4000000 in
set_option maxRecDepth 100000 in
theorem w_X11_goOn {l0 : Launch} (hfl : l0.stackTraces = false) {X : MX} {B : BX (EE × K)} {g : GP} {E : EE} {κ' : K} {rr : Unit} (O : CK l0 X B g cX11_goOn RX11 4 70) (hKP : KPok B E) (hmL : B.2.2.2.1 = 3) (hE : ∀ (pc : Nat) (lv : List (Nat × AV)), decode cX11_goOn pc = .ok (.return_, 1) → J X B (E, κ') pc lv []) (h0 : PC 11 E 5 0 0) : ∀ (κ : K) (a1 : Int32), f_X11_goOn E κ a1 = some (κ', rr) → J X B (E, κ) 0 [(0, .inr (some (5, 0, 0))), (1, .inl (.int a1))] [] := by
  intro κ a1 h
  unfold f_X11_goOn at h
  refine J_aload_n O.mo dX11_goOn_0 0 rfl ?_
  refine J_iload_n O.mo dX11_goOn_1 1 rfl ?_
  refine J_aload_n O.mo dX11_goOn_2 0 rfl ?_
  refine J_getF O.co (kd0 := 11) (k11_0 h0) (l11_0 h0) (C := RX11) (T := TX11) (N := 42) rfl (by decide) rfl in_X11 3 (by decide) (v := .inr (some (5, 0, 3))) rfl mw665 rfl dX11_goOn_3 ?_
  refine J_bipush O.mo (v := 55) dX11_goOn_6 (by decide) ?_
  refine J_iload_n O.mo dX11_goOn_8 1 rfl ?_
  refine J_imul O.mo dX11_goOn_9 ?_
  refine J_aload_n O.mo dX11_goOn_10 0 rfl ?_
  refine J_getF O.co (kd0 := 11) (k11_0 h0) (l11_0 h0) (C := RX11) (T := TX11) (N := 42) rfl (by decide) rfl in_X11 4 (by decide) (v := .inr (some (5, 0, 4))) rfl mw666 rfl dX11_goOn_11 ?_
  refine J_sipush O.mo (v := 512) dX11_goOn_14 (by decide) ?_
  refine J_iload_n O.mo dX11_goOn_17 1 rfl ?_
  refine J_imul O.mo dX11_goOn_18 ?_
  obtain ⟨κ1, r3, hq2, h⟩ := bd_some h
  refine J_callV O hKP (as := [.inl (.int a1), .inr (some (5, 0, 3)), .inl (.int (55 * a1)), .inr (some (5, 0, 4)), .inl (.int (512 * a1))]) (rest := []) (r := (some (.inl (.int r3)))) (c_X11_giveBack hfl h0 hq2) rfl (kd0 := 11) (k11_0 h0) (l11_0 h0) (T := TX11) (N := 42) rfl (by decide) mw661 mw662 mw663 mw517 mw664 pd_X11_giveBack rfl (by decide) rfl (Nat.le_of_ble_eq_true rfl) (sl_p (s11_0 h0) (sl_v sl_0)) st_0 dX11_goOn_19 ?_
  show J X B (E, κ1) 22 [(0, .inr (some (5, 0, 0))), (1, .inl (.int a1))] [.inl (.int r3)]
  refine J_pop O.mo dX11_goOn_22 rfl ?_
  refine J_aload_n O.mo dX11_goOn_23 0 rfl ?_
  refine J_getF O.co (kd0 := 11) (k11_0 h0) (l11_0 h0) (C := RX11) (T := TX11) (N := 42) rfl (by decide) rfl in_X11 15 (by decide) (v := .inr (some (5, 0, 15))) rfl mw526 rfl dX11_goOn_24 ?_
  refine J_iload_n O.mo dX11_goOn_27 1 rfl ?_
  refine J_iconst O.mo (v := 1) dX11_goOn_28 (by decide) ?_
  refine J_aload_n O.mo dX11_goOn_29 0 rfl ?_
  refine J_getF O.co (kd0 := 11) (k11_0 h0) (l11_0 h0) (C := RX11) (T := TX11) (N := 42) rfl (by decide) rfl in_X11 15 (by decide) (v := .inr (some (5, 0, 15))) rfl mw526 rfl dX11_goOn_30 ?_
  refine J_iload_n O.mo dX11_goOn_33 1 rfl ?_
  obtain ⟨hg4, h⟩ := gd_some h
  refine J_iald O.co (g := (kV κ1 5 0 15)) (ct_20n (l11_15 h0) (k11_15 h0) (n11_15 h0)) hg4 dX11_goOn_34 ?_
  refine J_isub O.mo dX11_goOn_35 ?_
  obtain ⟨hg5, h⟩ := gd_some h
  refine row_20 O (l11_15 h0) (k11_15 h0) (n11_15 h0) hg5 (x := (1 - ((kV κ1 5 0 15) a1.toNatClampNeg))) dX11_goOn_36 ?_
  refine nm_some (P := fun z => J X B (E, z) 37 [(0, .inr (some (5, 0, 0))), (1, .inl (.int a1))] []) h (fun κ6 h => ?_)
  refine J_iconst O.mo (v := 0) dX11_goOn_37 (by decide) ?_
  refine J_istore_n O.mo (lv' := [(0, .inr (some (5, 0, 0))), (1, .inl (.int a1))]) dX11_goOn_38 (by rw [hmL]; decide) rfl rfl ?_
  refine J_sub [1, 2, 0] rfl ?_
  exact w_X11_goOn_b39 hfl O hKP hmL hE h0 FU _ _ _ h
theorem c_X11_goOn {l : Launch} (hfl : l.stackTraces = false) {E : EE} {κ κ' : K} {a1 : Int32} (h0 : PC 11 E 5 0 0) {rr : Unit} (h : f_X11_goOn E κ a1 = some (κ', rr)) : Con l yX11_goOn cX11_goOn 3 none 4 70 [.inr (some (5, 0, 0)), .inl (.int a1)] (E, κ) (E, κ') none := by
  exact Con_of hfl (by decide +kernel) (Nat.le_of_ble_eq_true rfl) rfl rfl (fun X B g O hKP hmL hE => w_X11_goOn hfl O hKP hmL hE h0 _ _ h)
def f_X11_fail_b134 (E : EE) (k47 : K → Int32 → Int32 → Int32 → Option (K × Int32)) (κ : K) (x1 : Int32) (x2 : Int32) (x3 : Int32) : Option (K × Int32) := nm (x3 + 1) fun y18 => k47 κ x1 x2 y18
def f_X11_fail_b120 (E : EE) (k47 : K → Int32 → Int32 → Int32 → Option (K × Int32)) (κ : K) (x1 : Int32) (x2 : Int32) (x3 : Int32) : Option (K × Int32) := gd (¬ (x3 < 0 ∨ 5 ≤ x3.toNatClampNeg)) (nm (setV κ 5 0 37 x3.toNatClampNeg 0) fun κ26 => gd (¬ (x3 < 0 ∨ 5 ≤ x3.toNatClampNeg)) (nm (setV κ26 5 0 33 x3.toNatClampNeg 0) fun κ28 => f_X11_fail_b134 E k47 κ28 x1 x2 x3))
def f_X11_fail_b97 (E : EE) (k47 : K → Int32 → Int32 → Int32 → Option (K × Int32)) (κ : K) (x1 : Int32) (x2 : Int32) (x3 : Int32) (xs0 : Int32) : Option (K × Int32) := if xs0 = 0 then bd (f_X11_die E κ x3) fun κ22 _ => f_X11_fail_b120 E k47 κ22 x1 x2 x3 else bd (f_X11_goOn E κ x3) fun κ29 _ => nm (x2 + 1) fun y32 => f_X11_fail_b120 E k47 κ29 x1 y32 x3
def f_X11_fail_b96 (E : EE) (k47 : K → Int32 → Int32 → Int32 → Option (K × Int32)) (κ : K) (x1 : Int32) (x2 : Int32) (x3 : Int32) : Option (K × Int32) := f_X11_fail_b97 E k47 κ x1 x2 x3 0
def f_X11_fail_b47 (E : EE) : Nat → K → Int32 → Int32 → Int32 → Option (K × Int32)
  | 0, _, _, _, _ => none
  | n + 1, κ, x1, x2, x3 => if kV κ 5 0 0 26 ≤ x3 then some (κ, x2) else gd (¬ (x3 < 0 ∨ 5 ≤ x3.toNatClampNeg)) (nm (setV κ 5 0 30 x3.toNatClampNeg 0) fun κ15 => gd (¬ (x3 < 0 ∨ 5 ≤ x3.toNatClampNeg)) (if (kV κ15 5 0 15) x3.toNatClampNeg = x1 then gd (¬ (x3 < 0 ∨ 5 ≤ x3.toNatClampNeg)) (if (kV κ15 5 0 33) x3.toNatClampNeg = 0 then f_X11_fail_b96 E (f_X11_fail_b47 E n) κ15 x1 x2 x3 else gd (¬ ((1 - x1) < 0 ∨ 2 ≤ (1 - x1).toNatClampNeg)) (if (kV κ15 5 0 38) (1 - x1).toNatClampNeg = 0 then f_X11_fail_b97 E (f_X11_fail_b47 E n) κ15 x1 x2 x3 1 else f_X11_fail_b96 E (f_X11_fail_b47 E n) κ15 x1 x2 x3)) else f_X11_fail_b134 E (f_X11_fail_b47 E n) κ15 x1 x2 x3))
def f_X11_fail_b28 (E : EE) (κ : K) (x1 : Int32) (xs0 : Int32) : Option (K × Int32) := bd (f_X11_refused E κ xs0) fun κ7 r9 => if r9 = 0 then gd (¬ (x1 < 0 ∨ 2 ≤ x1.toNatClampNeg)) (nm (setV κ7 5 0 38 x1.toNatClampNeg 1) fun κ12 => f_X11_fail_b47 E FU κ12 x1 0 0) else some (κ7, 0)
def f_X11_fail (E : EE) (κ : K) (a1 : Int32) : Option (K × Int32) := bd (f_X11_in E κ a1 0 1) fun κ1 r3 => if r3 = 0 then f_X11_fail_b28 E κ1 a1 1 else gd (¬ (a1 < 0 ∨ 2 ≤ a1.toNatClampNeg)) (if (kV κ1 5 0 38) a1.toNatClampNeg = 0 then f_X11_fail_b28 E κ1 a1 0 else f_X11_fail_b28 E κ1 a1 2)
set_option maxHeartbeats 4000000 in
set_option maxRecDepth 100000 in
theorem w_X11_fail_b134 {l0 : Launch} (hfl : l0.stackTraces = false) {X : MX} {B : BX (EE × K)} {g : GP} {E : EE} {κ' : K} {rr : Int32} (O : CK l0 X B g cX11_fail RX11 5 92) (hKP : KPok B E) (hmL : B.2.2.2.1 = 5) (hE : ∀ (pc : Nat) (lv : List (Nat × AV)), decode cX11_fail pc = .ok (.ireturn, 1) → J X B (E, κ') pc lv [.inl (.int rr)]) (h0 : PC 11 E 5 0 0) {k47 : K → Int32 → Int32 → Int32 → Option (K × Int32)} (hk47 : ∀ (κ : K) (x1 : Int32) (x2 : Int32) (x3 : Int32), k47 κ x1 x2 x3 = some (κ', rr) → J X B (E, κ) 47 [(0, .inr (some (5, 0, 0))), (1, .inl (.int x1)), (2, .inl (.int x2)), (3, .inl (.int x3))] []) : ∀ (κ : K) (x1 : Int32) (x2 : Int32) (x3 : Int32), f_X11_fail_b134 E k47 κ x1 x2 x3 = some (κ', rr) → J X B (E, κ) 134 [(0, .inr (some (5, 0, 0))), (1, .inl (.int x1)), (2, .inl (.int x2)), (3, .inl (.int x3))] [] := by
  intro κ x1 x2 x3 h
  unfold f_X11_fail_b134 at h
  refine J_iinc O.mo (v := x3 + 1) (lv' := [(0, .inr (some (5, 0, 0))), (1, .inl (.int x1)), (2, .inl (.int x2))]) dX11_fail_134 (by rw [hmL]; decide) 3 rfl (by rw [show Int32.ofInt (1) = (1 : Int32) from by decide]) rfl rfl ?_
  refine nm_some (P := fun z => J X B (E, κ) 137 [(3, .inl (.int z)), (0, .inr (some (5, 0, 0))), (1, .inl (.int x1)), (2, .inl (.int x2))] []) h (fun y18 h => ?_)
  refine J_goto O.mo (tgt := 47) dX11_fail_137 (by decide) ?_
  refine J_sub [1, 2, 3, 0] rfl ?_
  exact hk47 _ _ _ _ h
set_option maxHeartbeats 4000000 in
set_option maxRecDepth 100000 in
theorem w_X11_fail_b120 {l0 : Launch} (hfl : l0.stackTraces = false) {X : MX} {B : BX (EE × K)} {g : GP} {E : EE} {κ' : K} {rr : Int32} (O : CK l0 X B g cX11_fail RX11 5 92) (hKP : KPok B E) (hmL : B.2.2.2.1 = 5) (hE : ∀ (pc : Nat) (lv : List (Nat × AV)), decode cX11_fail pc = .ok (.ireturn, 1) → J X B (E, κ') pc lv [.inl (.int rr)]) (h0 : PC 11 E 5 0 0) {k47 : K → Int32 → Int32 → Int32 → Option (K × Int32)} (hk47 : ∀ (κ : K) (x1 : Int32) (x2 : Int32) (x3 : Int32), k47 κ x1 x2 x3 = some (κ', rr) → J X B (E, κ) 47 [(0, .inr (some (5, 0, 0))), (1, .inl (.int x1)), (2, .inl (.int x2)), (3, .inl (.int x3))] []) : ∀ (κ : K) (x1 : Int32) (x2 : Int32) (x3 : Int32), f_X11_fail_b120 E k47 κ x1 x2 x3 = some (κ', rr) → J X B (E, κ) 120 [(0, .inr (some (5, 0, 0))), (1, .inl (.int x1)), (2, .inl (.int x2)), (3, .inl (.int x3))] [] := by
  intro κ x1 x2 x3 h
  unfold f_X11_fail_b120 at h
  refine J_aload_n O.mo dX11_fail_120 0 rfl ?_
  refine J_getF O.co (kd0 := 11) (k11_0 h0) (l11_0 h0) (C := RX11) (T := TX11) (N := 42) rfl (by decide) rfl in_X11 37 (by decide) (v := .inr (some (5, 0, 37))) rfl mw554 rfl dX11_fail_121 ?_
  refine J_iload_n O.mo dX11_fail_124 3 rfl ?_
  refine J_iconst O.mo (v := 0) dX11_fail_125 (by decide) ?_
  obtain ⟨hg25, h⟩ := gd_some h
  refine row_20 O (l11_37 h0) (k11_37 h0) (n11_37 h0) hg25 (x := 0) dX11_fail_126 ?_
  refine nm_some (P := fun z => J X B (E, z) 127 [(0, .inr (some (5, 0, 0))), (1, .inl (.int x1)), (2, .inl (.int x2)), (3, .inl (.int x3))] []) h (fun κ26 h => ?_)
  refine J_aload_n O.mo dX11_fail_127 0 rfl ?_
  refine J_getF O.co (kd0 := 11) (k11_0 h0) (l11_0 h0) (C := RX11) (T := TX11) (N := 42) rfl (by decide) rfl in_X11 33 (by decide) (v := .inr (some (5, 0, 33))) rfl mw550 rfl dX11_fail_128 ?_
  refine J_iload_n O.mo dX11_fail_131 3 rfl ?_
  refine J_iconst O.mo (v := 0) dX11_fail_132 (by decide) ?_
  obtain ⟨hg27, h⟩ := gd_some h
  refine row_22 O (l11_33 h0) (k11_33 h0) (n11_33 h0) hg27 (x := 0) (Or.inl rfl) dX11_fail_133 ?_
  refine nm_some (P := fun z => J X B (E, z) 134 [(0, .inr (some (5, 0, 0))), (1, .inl (.int x1)), (2, .inl (.int x2)), (3, .inl (.int x3))] []) h (fun κ28 h => ?_)
  exact w_X11_fail_b134 hfl O hKP hmL hE h0 hk47 _ _ _ _ h
set_option maxHeartbeats 4000000 in
set_option maxRecDepth 100000 in
theorem w_X11_fail_b97 {l0 : Launch} (hfl : l0.stackTraces = false) {X : MX} {B : BX (EE × K)} {g : GP} {E : EE} {κ' : K} {rr : Int32} (O : CK l0 X B g cX11_fail RX11 5 92) (hKP : KPok B E) (hmL : B.2.2.2.1 = 5) (hE : ∀ (pc : Nat) (lv : List (Nat × AV)), decode cX11_fail pc = .ok (.ireturn, 1) → J X B (E, κ') pc lv [.inl (.int rr)]) (h0 : PC 11 E 5 0 0) {k47 : K → Int32 → Int32 → Int32 → Option (K × Int32)} (hk47 : ∀ (κ : K) (x1 : Int32) (x2 : Int32) (x3 : Int32), k47 κ x1 x2 x3 = some (κ', rr) → J X B (E, κ) 47 [(0, .inr (some (5, 0, 0))), (1, .inl (.int x1)), (2, .inl (.int x2)), (3, .inl (.int x3))] []) : ∀ (κ : K) (x1 : Int32) (x2 : Int32) (x3 : Int32) (xs0 : Int32), f_X11_fail_b97 E k47 κ x1 x2 x3 xs0 = some (κ', rr) → J X B (E, κ) 97 [(0, .inr (some (5, 0, 0))), (1, .inl (.int x1)), (2, .inl (.int x2)), (3, .inl (.int x3))] [.inl (.int xs0)] := by
  intro κ x1 x2 x3 xs0 h
  unfold f_X11_fail_b97 at h
  refine J_istore O.mo (lv' := [(0, .inr (some (5, 0, 0))), (1, .inl (.int x1)), (2, .inl (.int x2)), (3, .inl (.int x3))]) dX11_fail_97 (by rw [hmL]; decide) rfl rfl ?_
  refine J_iload O.mo dX11_fail_99 0 rfl ?_
  refine J_if_eq O.mo (tgt := 115) dX11_fail_101 (by decide) (fun hc21 => ?_) (fun hc21 => ?_)
  · replace h := (if_pos hc21).symm.trans h
    refine J_aload_n O.mo dX11_fail_115 1 rfl ?_
    refine J_iload_n O.mo dX11_fail_116 4 rfl ?_
    refine J_sub [1, 2, 3, 4] rfl ?_
    obtain ⟨κ22, r24, hq23, h⟩ := bd_some h
    refine J_callV O hKP (as := [.inl (.int x3)]) (rest := []) (r := none) (c_X11_die hfl h0 hq23) rfl (kd0 := 11) (k11_0 h0) (l11_0 h0) (T := TX11) (N := 42) rfl (by decide) mw675 mw676 mw677 mw517 mw678 pd_X11_die rfl (by decide) rfl (Nat.le_of_ble_eq_true rfl) (sl_p (s11_0 h0) (sl_v (sl_v (sl_v sl_0)))) st_0 dX11_fail_117 ?_
    show J X B (E, κ22) 120 [(0, .inr (some (5, 0, 0))), (1, .inl (.int x1)), (2, .inl (.int x2)), (3, .inl (.int x3))] []
    exact w_X11_fail_b120 hfl O hKP hmL hE h0 hk47 _ _ _ _ h
  · replace h := (if_neg hc21).symm.trans h
    refine J_aload_n O.mo dX11_fail_104 1 rfl ?_
    refine J_iload_n O.mo dX11_fail_105 4 rfl ?_
    refine J_sub [1, 2, 3, 4] rfl ?_
    obtain ⟨κ29, r31, hq30, h⟩ := bd_some h
    refine J_callV O hKP (as := [.inl (.int x3)]) (rest := []) (r := none) (c_X11_goOn hfl h0 hq30) rfl (kd0 := 11) (k11_0 h0) (l11_0 h0) (T := TX11) (N := 42) rfl (by decide) mw679 mw680 mw681 mw517 mw682 pd_X11_goOn rfl (by decide) rfl (Nat.le_of_ble_eq_true rfl) (sl_p (s11_0 h0) (sl_v (sl_v (sl_v sl_0)))) st_0 dX11_fail_106 ?_
    show J X B (E, κ29) 109 [(0, .inr (some (5, 0, 0))), (1, .inl (.int x1)), (2, .inl (.int x2)), (3, .inl (.int x3))] []
    refine J_iinc O.mo (v := x2 + 1) (lv' := [(0, .inr (some (5, 0, 0))), (1, .inl (.int x1)), (3, .inl (.int x3))]) dX11_fail_109 (by rw [hmL]; decide) 2 rfl (by rw [show Int32.ofInt (1) = (1 : Int32) from by decide]) rfl rfl ?_
    refine nm_some (P := fun z => J X B (E, κ29) 112 [(2, .inl (.int z)), (0, .inr (some (5, 0, 0))), (1, .inl (.int x1)), (3, .inl (.int x3))] []) h (fun y32 h => ?_)
    refine J_goto O.mo (tgt := 120) dX11_fail_112 (by decide) ?_
    refine J_sub [1, 2, 0, 3] rfl ?_
    exact w_X11_fail_b120 hfl O hKP hmL hE h0 hk47 _ _ _ _ h
set_option maxHeartbeats 4000000 in
set_option maxRecDepth 100000 in
theorem w_X11_fail_b96 {l0 : Launch} (hfl : l0.stackTraces = false) {X : MX} {B : BX (EE × K)} {g : GP} {E : EE} {κ' : K} {rr : Int32} (O : CK l0 X B g cX11_fail RX11 5 92) (hKP : KPok B E) (hmL : B.2.2.2.1 = 5) (hE : ∀ (pc : Nat) (lv : List (Nat × AV)), decode cX11_fail pc = .ok (.ireturn, 1) → J X B (E, κ') pc lv [.inl (.int rr)]) (h0 : PC 11 E 5 0 0) {k47 : K → Int32 → Int32 → Int32 → Option (K × Int32)} (hk47 : ∀ (κ : K) (x1 : Int32) (x2 : Int32) (x3 : Int32), k47 κ x1 x2 x3 = some (κ', rr) → J X B (E, κ) 47 [(0, .inr (some (5, 0, 0))), (1, .inl (.int x1)), (2, .inl (.int x2)), (3, .inl (.int x3))] []) : ∀ (κ : K) (x1 : Int32) (x2 : Int32) (x3 : Int32), f_X11_fail_b96 E k47 κ x1 x2 x3 = some (κ', rr) → J X B (E, κ) 96 [(0, .inr (some (5, 0, 0))), (1, .inl (.int x1)), (2, .inl (.int x2)), (3, .inl (.int x3))] [] := by
  intro κ x1 x2 x3 h
  unfold f_X11_fail_b96 at h
  refine J_iconst O.mo (v := 0) dX11_fail_96 (by decide) ?_
  exact w_X11_fail_b97 hfl O hKP hmL hE h0 hk47 _ _ _ _ _ h
set_option maxHeartbeats 4000000 in
set_option maxRecDepth 100000 in
theorem w_X11_fail_b47 {l0 : Launch} (hfl : l0.stackTraces = false) {X : MX} {B : BX (EE × K)} {g : GP} {E : EE} {κ' : K} {rr : Int32} (O : CK l0 X B g cX11_fail RX11 5 92) (hKP : KPok B E) (hmL : B.2.2.2.1 = 5) (hE : ∀ (pc : Nat) (lv : List (Nat × AV)), decode cX11_fail pc = .ok (.ireturn, 1) → J X B (E, κ') pc lv [.inl (.int rr)]) (h0 : PC 11 E 5 0 0) : ∀ (n : Nat) (κ : K) (x1 : Int32) (x2 : Int32) (x3 : Int32), f_X11_fail_b47 E n κ x1 x2 x3 = some (κ', rr) → J X B (E, κ) 47 [(0, .inr (some (5, 0, 0))), (1, .inl (.int x1)), (2, .inl (.int x2)), (3, .inl (.int x3))] [] := by
  intro n
  induction n with
  | zero => intro κ x1 x2 x3 h; cases h
  | succ n ih =>
    intro κ x1 x2 x3 h
    rw [f_X11_fail_b47] at h
    refine J_iload_n O.mo dX11_fail_47 3 rfl ?_
    refine J_aload_n O.mo dX11_fail_48 0 rfl ?_
    refine J_getF O.co (kd0 := 11) (k11_0 h0) (l11_0 h0) (C := RX11) (T := TX11) (N := 42) rfl (by decide) rfl in_X11 26 (by decide) (v := .inl (.int (kV κ 5 0 0 26))) rfl mw514 rfl dX11_fail_49 ?_
    refine J_icmp_ge O.mo (tgt := 140) dX11_fail_52 (by decide) (fun hc13 => ?_) (fun hc13 => ?_)
    · replace h := (if_pos hc13).symm.trans h
      refine J_iload_n O.mo dX11_fail_140 2 rfl ?_
      cases h
      exact hE _ _ dX11_fail_141
    · replace h := (if_neg hc13).symm.trans h
      refine J_aload_n O.mo dX11_fail_55 0 rfl ?_
      refine J_getF O.co (kd0 := 11) (k11_0 h0) (l11_0 h0) (C := RX11) (T := TX11) (N := 42) rfl (by decide) rfl in_X11 30 (by decide) (v := .inr (some (5, 0, 30))) rfl mw535 rfl dX11_fail_56 ?_
      refine J_iload_n O.mo dX11_fail_59 3 rfl ?_
      refine J_iconst O.mo (v := 0) dX11_fail_60 (by decide) ?_
      obtain ⟨hg14, h⟩ := gd_some h
      refine row_22 O (l11_30 h0) (k11_30 h0) (n11_30 h0) hg14 (x := 0) (Or.inl rfl) dX11_fail_61 ?_
      refine nm_some (P := fun z => J X B (E, z) 62 [(0, .inr (some (5, 0, 0))), (1, .inl (.int x1)), (2, .inl (.int x2)), (3, .inl (.int x3))] []) h (fun κ15 h => ?_)
      refine J_aload_n O.mo dX11_fail_62 0 rfl ?_
      refine J_getF O.co (kd0 := 11) (k11_0 h0) (l11_0 h0) (C := RX11) (T := TX11) (N := 42) rfl (by decide) rfl in_X11 15 (by decide) (v := .inr (some (5, 0, 15))) rfl mw526 rfl dX11_fail_63 ?_
      refine J_iload_n O.mo dX11_fail_66 3 rfl ?_
      obtain ⟨hg16, h⟩ := gd_some h
      refine J_iald O.co (g := (kV κ15 5 0 15)) (ct_20n (l11_15 h0) (k11_15 h0) (n11_15 h0)) hg16 dX11_fail_67 ?_
      refine J_iload_n O.mo dX11_fail_68 1 rfl ?_
      refine J_icmp_ne O.mo (tgt := 134) dX11_fail_69 (by decide) (fun hc17 => ?_) (fun hc17 => ?_)
      · replace h := (if_neg hc17).symm.trans h
        exact w_X11_fail_b134 hfl O hKP hmL hE h0 ih _ _ _ _ h
      · replace h := (if_pos hc17).symm.trans h
        refine J_aload_n O.mo dX11_fail_72 0 rfl ?_
        refine J_getF O.co (kd0 := 11) (k11_0 h0) (l11_0 h0) (C := RX11) (T := TX11) (N := 42) rfl (by decide) rfl in_X11 33 (by decide) (v := .inr (some (5, 0, 33))) rfl mw550 rfl dX11_fail_73 ?_
        refine J_iload_n O.mo dX11_fail_76 3 rfl ?_
        obtain ⟨hg19, h⟩ := gd_some h
        refine J_bald O.co (g := (kV κ15 5 0 33)) (ct_22n (l11_33 h0) (k11_33 h0) (n11_33 h0)) hg19 dX11_fail_77 ?_
        refine J_if_eq O.mo (tgt := 96) dX11_fail_78 (by decide) (fun hc20 => ?_) (fun hc20 => ?_)
        · replace h := (if_pos hc20).symm.trans h
          exact w_X11_fail_b96 hfl O hKP hmL hE h0 ih _ _ _ _ h
        · replace h := (if_neg hc20).symm.trans h
          refine J_aload_n O.mo dX11_fail_81 0 rfl ?_
          refine J_getF O.co (kd0 := 11) (k11_0 h0) (l11_0 h0) (C := RX11) (T := TX11) (N := 42) rfl (by decide) rfl in_X11 38 (by decide) (v := .inr (some (5, 0, 38))) rfl mw595 rfl dX11_fail_82 ?_
          refine J_iconst O.mo (v := 1) dX11_fail_85 (by decide) ?_
          refine J_iload_n O.mo dX11_fail_86 1 rfl ?_
          refine J_isub O.mo dX11_fail_87 ?_
          obtain ⟨hg33, h⟩ := gd_some h
          refine J_bald O.co (g := (kV κ15 5 0 38)) (ct_22n (l11_38 h0) (k11_38 h0) (n11_38 h0)) hg33 dX11_fail_88 ?_
          refine J_if_ne O.mo (tgt := 96) dX11_fail_89 (by decide) (fun hc34 => ?_) (fun hc34 => ?_)
          · replace h := (if_neg hc34).symm.trans h
            exact w_X11_fail_b96 hfl O hKP hmL hE h0 ih _ _ _ _ h
          · replace h := (if_pos hc34).symm.trans h
            refine J_iconst O.mo (v := 1) dX11_fail_92 (by decide) ?_
            refine J_goto O.mo (tgt := 97) dX11_fail_93 (by decide) ?_
            exact w_X11_fail_b97 hfl O hKP hmL hE h0 ih _ _ _ _ _ h
set_option maxHeartbeats 4000000 in
set_option maxRecDepth 100000 in
theorem w_X11_fail_b28 {l0 : Launch} (hfl : l0.stackTraces = false) {X : MX} {B : BX (EE × K)} {g : GP} {E : EE} {κ' : K} {rr : Int32} (O : CK l0 X B g cX11_fail RX11 5 92) (hKP : KPok B E) (hmL : B.2.2.2.1 = 5) (hE : ∀ (pc : Nat) (lv : List (Nat × AV)), decode cX11_fail pc = .ok (.ireturn, 1) → J X B (E, κ') pc lv [.inl (.int rr)]) (h0 : PC 11 E 5 0 0) : ∀ (κ : K) (x1 : Int32) (xs0 : Int32), f_X11_fail_b28 E κ x1 xs0 = some (κ', rr) → J X B (E, κ) 28 [(0, .inr (some (5, 0, 0))), (1, .inl (.int x1))] [.inl (.int xs0), .inr (some (5, 0, 0))] := by
  intro κ x1 xs0 h
  unfold f_X11_fail_b28 at h
  obtain ⟨κ7, r9, hq8, h⟩ := bd_some h
  refine J_callV O hKP (as := [.inl (.int xs0)]) (rest := []) (r := (some (.inl (.int r9)))) (c_X11_refused hfl h0 hq8) rfl (kd0 := 11) (k11_0 h0) (l11_0 h0) (T := TX11) (N := 42) rfl (by decide) mw605 mw606 mw607 mw517 mw608 pd_X11_refused rfl (by decide) rfl (Nat.le_of_ble_eq_true rfl) (sl_p (s11_0 h0) (sl_v sl_0)) st_0 dX11_fail_28 ?_
  show J X B (E, κ7) 31 [(0, .inr (some (5, 0, 0))), (1, .inl (.int x1))] [.inl (.int r9)]
  refine J_if_eq O.mo (tgt := 36) dX11_fail_31 (by decide) (fun hc10 => ?_) (fun hc10 => ?_)
  · replace h := (if_pos hc10).symm.trans h
    refine J_aload_n O.mo dX11_fail_36 0 rfl ?_
    refine J_getF O.co (kd0 := 11) (k11_0 h0) (l11_0 h0) (C := RX11) (T := TX11) (N := 42) rfl (by decide) rfl in_X11 38 (by decide) (v := .inr (some (5, 0, 38))) rfl mw595 rfl dX11_fail_37 ?_
    refine J_iload_n O.mo dX11_fail_40 1 rfl ?_
    refine J_iconst O.mo (v := 1) dX11_fail_41 (by decide) ?_
    obtain ⟨hg11, h⟩ := gd_some h
    refine row_22 O (l11_38 h0) (k11_38 h0) (n11_38 h0) hg11 (x := 1) (Or.inr rfl) dX11_fail_42 ?_
    refine nm_some (P := fun z => J X B (E, z) 43 [(0, .inr (some (5, 0, 0))), (1, .inl (.int x1))] []) h (fun κ12 h => ?_)
    refine J_iconst O.mo (v := 0) dX11_fail_43 (by decide) ?_
    refine J_istore_n O.mo (lv' := [(0, .inr (some (5, 0, 0))), (1, .inl (.int x1))]) dX11_fail_44 (by rw [hmL]; decide) rfl rfl ?_
    refine J_iconst O.mo (v := 0) dX11_fail_45 (by decide) ?_
    refine J_istore_n O.mo (lv' := [(2, .inl (.int 0)), (0, .inr (some (5, 0, 0))), (1, .inl (.int x1))]) dX11_fail_46 (by rw [hmL]; decide) rfl rfl ?_
    refine J_sub [2, 3, 1, 0] rfl ?_
    exact w_X11_fail_b47 hfl O hKP hmL hE h0 FU _ _ _ _ h
  · replace h := (if_neg hc10).symm.trans h
    refine J_iconst O.mo (v := 0) dX11_fail_34 (by decide) ?_
    cases h
    exact hE _ _ dX11_fail_35
set_option maxHeartbeats 4000000 in
set_option maxRecDepth 100000 in
theorem w_X11_fail {l0 : Launch} (hfl : l0.stackTraces = false) {X : MX} {B : BX (EE × K)} {g : GP} {E : EE} {κ' : K} {rr : Int32} (O : CK l0 X B g cX11_fail RX11 5 92) (hKP : KPok B E) (hmL : B.2.2.2.1 = 5) (hE : ∀ (pc : Nat) (lv : List (Nat × AV)), decode cX11_fail pc = .ok (.ireturn, 1) → J X B (E, κ') pc lv [.inl (.int rr)]) (h0 : PC 11 E 5 0 0) : ∀ (κ : K) (a1 : Int32), f_X11_fail E κ a1 = some (κ', rr) → J X B (E, κ) 0 [(0, .inr (some (5, 0, 0))), (1, .inl (.int a1))] [] := by
  intro κ a1 h
  unfold f_X11_fail at h
  refine J_aload_n O.mo dX11_fail_0 0 rfl ?_
  refine J_iload_n O.mo dX11_fail_1 1 rfl ?_
  refine J_iconst O.mo (v := 0) dX11_fail_2 (by decide) ?_
  refine J_iconst O.mo (v := 1) dX11_fail_3 (by decide) ?_
  obtain ⟨κ1, r3, hq2, h⟩ := bd_some h
  refine J_callS O hKP (as := [.inl (.int a1), .inl (.int 0), .inl (.int 1)]) (rest := [.inr (some (5, 0, 0))]) (r := (some (.inl (.int r3)))) (c_X11_in hfl hq2) rfl mw515 mw516 mw517 mw518 pd_X11_in rfl (by decide) rfl (Nat.le_of_ble_eq_true rfl) (sl_p (s11_0 h0) (sl_v sl_0)) (st_p (s11_0 h0) st_0) dX11_fail_4 ?_
  show J X B (E, κ1) 7 [(0, .inr (some (5, 0, 0))), (1, .inl (.int a1))] [.inl (.int r3), .inr (some (5, 0, 0))]
  refine J_if_ne O.mo (tgt := 14) dX11_fail_7 (by decide) (fun hc4 => ?_) (fun hc4 => ?_)
  · replace h := (if_neg hc4).symm.trans h
    refine J_aload_n O.mo dX11_fail_14 0 rfl ?_
    refine J_getF O.co (kd0 := 11) (k11_0 h0) (l11_0 h0) (C := RX11) (T := TX11) (N := 42) rfl (by decide) rfl in_X11 38 (by decide) (v := .inr (some (5, 0, 38))) rfl mw595 rfl dX11_fail_15 ?_
    refine J_iload_n O.mo dX11_fail_18 1 rfl ?_
    obtain ⟨hg5, h⟩ := gd_some h
    refine J_bald O.co (g := (kV κ1 5 0 38)) (ct_22n (l11_38 h0) (k11_38 h0) (n11_38 h0)) hg5 dX11_fail_19 ?_
    refine J_if_eq O.mo (tgt := 27) dX11_fail_20 (by decide) (fun hc6 => ?_) (fun hc6 => ?_)
    · replace h := (if_pos hc6).symm.trans h
      refine J_iconst O.mo (v := 0) dX11_fail_27 (by decide) ?_
      exact w_X11_fail_b28 hfl O hKP hmL hE h0 _ _ _ h
    · replace h := (if_neg hc6).symm.trans h
      refine J_iconst O.mo (v := 2) dX11_fail_23 (by decide) ?_
      refine J_goto O.mo (tgt := 28) dX11_fail_24 (by decide) ?_
      exact w_X11_fail_b28 hfl O hKP hmL hE h0 _ _ _ h
  · replace h := (if_pos hc4).symm.trans h
    refine J_iconst O.mo (v := 1) dX11_fail_10 (by decide) ?_
    refine J_goto O.mo (tgt := 28) dX11_fail_11 (by decide) ?_
    exact w_X11_fail_b28 hfl O hKP hmL hE h0 _ _ _ h
theorem c_X11_fail {l : Launch} (hfl : l.stackTraces = false) {E : EE} {κ κ' : K} {a1 : Int32} (h0 : PC 11 E 5 0 0) {rr : Int32} (h : f_X11_fail E κ a1 = some (κ', rr)) : Con l yX11_fail cX11_fail 5 (some .int) 5 92 [.inr (some (5, 0, 0)), .inl (.int a1)] (E, κ) (E, κ') (some (.inl (.int rr))) := by
  exact Con_of hfl (by decide +kernel) (Nat.le_of_ble_eq_true rfl) rfl ⟨_, rfl, rfl⟩ (fun X B g O hKP hmL hE => w_X11_fail hfl O hKP hmL hE h0 _ _ h)
def f_X11_mend_b28 (E : EE) (κ : K) (x1 : Int32) (xs0 : Int32) : Option (K × Unit) := bd (f_X11_refused E κ xs0) fun κ7 r9 => if r9 = 0 then gd (¬ (x1 < 0 ∨ 2 ≤ x1.toNatClampNeg)) (nm (setV κ7 5 0 38 x1.toNatClampNeg 0) fun κ12 => some (κ12, ())) else some (κ7, ())
def f_X11_mend (E : EE) (κ : K) (a1 : Int32) : Option (K × Unit) := bd (f_X11_in E κ a1 0 1) fun κ1 r3 => if r3 = 0 then f_X11_mend_b28 E κ1 a1 1 else gd (¬ (a1 < 0 ∨ 2 ≤ a1.toNatClampNeg)) (if (kV κ1 5 0 38) a1.toNatClampNeg = 0 then f_X11_mend_b28 E κ1 a1 2 else f_X11_mend_b28 E κ1 a1 0)
set_option maxHeartbeats 4000000 in
set_option maxRecDepth 100000 in
theorem w_X11_mend_b28 {l0 : Launch} (hfl : l0.stackTraces = false) {X : MX} {B : BX (EE × K)} {g : GP} {E : EE} {κ' : K} {rr : Unit} (O : CK l0 X B g cX11_mend RX11 2 22) (hKP : KPok B E) (hmL : B.2.2.2.1 = 2) (hE : ∀ (pc : Nat) (lv : List (Nat × AV)), decode cX11_mend pc = .ok (.return_, 1) → J X B (E, κ') pc lv []) (h0 : PC 11 E 5 0 0) : ∀ (κ : K) (x1 : Int32) (xs0 : Int32), f_X11_mend_b28 E κ x1 xs0 = some (κ', rr) → J X B (E, κ) 28 [(0, .inr (some (5, 0, 0))), (1, .inl (.int x1))] [.inl (.int xs0), .inr (some (5, 0, 0))] := by
  intro κ x1 xs0 h
  unfold f_X11_mend_b28 at h
  obtain ⟨κ7, r9, hq8, h⟩ := bd_some h
  refine J_callV O hKP (as := [.inl (.int xs0)]) (rest := []) (r := (some (.inl (.int r9)))) (c_X11_refused hfl h0 hq8) rfl (kd0 := 11) (k11_0 h0) (l11_0 h0) (T := TX11) (N := 42) rfl (by decide) mw605 mw606 mw607 mw517 mw608 pd_X11_refused rfl (by decide) rfl (Nat.le_of_ble_eq_true rfl) (sl_p (s11_0 h0) (sl_v sl_0)) st_0 dX11_mend_28 ?_
  show J X B (E, κ7) 31 [(0, .inr (some (5, 0, 0))), (1, .inl (.int x1))] [.inl (.int r9)]
  refine J_if_ne O.mo (tgt := 41) dX11_mend_31 (by decide) (fun hc10 => ?_) (fun hc10 => ?_)
  · replace h := (if_neg hc10).symm.trans h
    cases h
    exact hE _ _ dX11_mend_41
  · replace h := (if_pos hc10).symm.trans h
    refine J_aload_n O.mo dX11_mend_34 0 rfl ?_
    refine J_getF O.co (kd0 := 11) (k11_0 h0) (l11_0 h0) (C := RX11) (T := TX11) (N := 42) rfl (by decide) rfl in_X11 38 (by decide) (v := .inr (some (5, 0, 38))) rfl mw595 rfl dX11_mend_35 ?_
    refine J_iload_n O.mo dX11_mend_38 1 rfl ?_
    refine J_iconst O.mo (v := 0) dX11_mend_39 (by decide) ?_
    obtain ⟨hg11, h⟩ := gd_some h
    refine row_22 O (l11_38 h0) (k11_38 h0) (n11_38 h0) hg11 (x := 0) (Or.inl rfl) dX11_mend_40 ?_
    refine nm_some (P := fun z => J X B (E, z) 41 [(0, .inr (some (5, 0, 0))), (1, .inl (.int x1))] []) h (fun κ12 h => ?_)
    cases h
    exact hE _ _ dX11_mend_41
set_option maxHeartbeats 4000000 in
set_option maxRecDepth 100000 in
theorem w_X11_mend {l0 : Launch} (hfl : l0.stackTraces = false) {X : MX} {B : BX (EE × K)} {g : GP} {E : EE} {κ' : K} {rr : Unit} (O : CK l0 X B g cX11_mend RX11 2 22) (hKP : KPok B E) (hmL : B.2.2.2.1 = 2) (hE : ∀ (pc : Nat) (lv : List (Nat × AV)), decode cX11_mend pc = .ok (.return_, 1) → J X B (E, κ') pc lv []) (h0 : PC 11 E 5 0 0) : ∀ (κ : K) (a1 : Int32), f_X11_mend E κ a1 = some (κ', rr) → J X B (E, κ) 0 [(0, .inr (some (5, 0, 0))), (1, .inl (.int a1))] [] := by
  intro κ a1 h
  unfold f_X11_mend at h
  refine J_aload_n O.mo dX11_mend_0 0 rfl ?_
  refine J_iload_n O.mo dX11_mend_1 1 rfl ?_
  refine J_iconst O.mo (v := 0) dX11_mend_2 (by decide) ?_
  refine J_iconst O.mo (v := 1) dX11_mend_3 (by decide) ?_
  obtain ⟨κ1, r3, hq2, h⟩ := bd_some h
  refine J_callS O hKP (as := [.inl (.int a1), .inl (.int 0), .inl (.int 1)]) (rest := [.inr (some (5, 0, 0))]) (r := (some (.inl (.int r3)))) (c_X11_in hfl hq2) rfl mw515 mw516 mw517 mw518 pd_X11_in rfl (by decide) rfl (Nat.le_of_ble_eq_true rfl) (sl_p (s11_0 h0) (sl_v sl_0)) (st_p (s11_0 h0) st_0) dX11_mend_4 ?_
  show J X B (E, κ1) 7 [(0, .inr (some (5, 0, 0))), (1, .inl (.int a1))] [.inl (.int r3), .inr (some (5, 0, 0))]
  refine J_if_ne O.mo (tgt := 14) dX11_mend_7 (by decide) (fun hc4 => ?_) (fun hc4 => ?_)
  · replace h := (if_neg hc4).symm.trans h
    refine J_aload_n O.mo dX11_mend_14 0 rfl ?_
    refine J_getF O.co (kd0 := 11) (k11_0 h0) (l11_0 h0) (C := RX11) (T := TX11) (N := 42) rfl (by decide) rfl in_X11 38 (by decide) (v := .inr (some (5, 0, 38))) rfl mw595 rfl dX11_mend_15 ?_
    refine J_iload_n O.mo dX11_mend_18 1 rfl ?_
    obtain ⟨hg5, h⟩ := gd_some h
    refine J_bald O.co (g := (kV κ1 5 0 38)) (ct_22n (l11_38 h0) (k11_38 h0) (n11_38 h0)) hg5 dX11_mend_19 ?_
    refine J_if_ne O.mo (tgt := 27) dX11_mend_20 (by decide) (fun hc6 => ?_) (fun hc6 => ?_)
    · replace h := (if_neg hc6).symm.trans h
      refine J_iconst O.mo (v := 0) dX11_mend_27 (by decide) ?_
      exact w_X11_mend_b28 hfl O hKP hmL hE h0 _ _ _ h
    · replace h := (if_pos hc6).symm.trans h
      refine J_iconst O.mo (v := 2) dX11_mend_23 (by decide) ?_
      refine J_goto O.mo (tgt := 28) dX11_mend_24 (by decide) ?_
      exact w_X11_mend_b28 hfl O hKP hmL hE h0 _ _ _ h
  · replace h := (if_pos hc4).symm.trans h
    refine J_iconst O.mo (v := 1) dX11_mend_10 (by decide) ?_
    refine J_goto O.mo (tgt := 28) dX11_mend_11 (by decide) ?_
    exact w_X11_mend_b28 hfl O hKP hmL hE h0 _ _ _ h
theorem c_X11_mend {l : Launch} (hfl : l.stackTraces = false) {E : EE} {κ κ' : K} {a1 : Int32} (h0 : PC 11 E 5 0 0) {rr : Unit} (h : f_X11_mend E κ a1 = some (κ', rr)) : Con l yX11_mend cX11_mend 2 none 2 22 [.inr (some (5, 0, 0)), .inl (.int a1)] (E, κ) (E, κ') none := by
  exact Con_of hfl (by decide +kernel) (Nat.le_of_ble_eq_true rfl) rfl rfl (fun X B g O hKP hmL hE => w_X11_mend hfl O hKP hmL hE h0 _ _ h)
