theorem k11_5 {E : EE} {f i c : Nat} (h : PC 11 E f i c) : kd f (c + 5) = 20 := PC_kd h 5 (by decide)
theorem l11_5 {E : EE} {f i c : Nat} (h : PC 11 E f i c) : liveC E f i (c + 5) = true := PC_lv h 5 (by decide) (by decide)
theorem s11_5 {E : EE} {f i c : Nat} (h : PC 11 E f i c) : Stab E (.inr (some (f, i, c + 5))) := PC_st h 5 (by decide) (by decide) (by decide)
theorem n11_5 {E : EE} {f i c : Nat} (h : PC 11 E f i c) : sl f (c + 5) = 2560 := PC_sl h 5 (by decide)
theorem k11_6 {E : EE} {f i c : Nat} (h : PC 11 E f i c) : kd f (c + 6) = 20 := PC_kd h 6 (by decide)
theorem l11_6 {E : EE} {f i c : Nat} (h : PC 11 E f i c) : liveC E f i (c + 6) = true := PC_lv h 6 (by decide) (by decide)
theorem s11_6 {E : EE} {f i c : Nat} (h : PC 11 E f i c) : Stab E (.inr (some (f, i, c + 6))) := PC_st h 6 (by decide) (by decide) (by decide)
theorem n11_6 {E : EE} {f i c : Nat} (h : PC 11 E f i c) : sl f (c + 6) = 5 := PC_sl h 6 (by decide)
theorem k11_12 {E : EE} {f i c : Nat} (h : PC 11 E f i c) : kd f (c + 12) = 20 := PC_kd h 12 (by decide)
theorem l11_12 {E : EE} {f i c : Nat} (h : PC 11 E f i c) : liveC E f i (c + 12) = true := PC_lv h 12 (by decide) (by decide)
theorem s11_12 {E : EE} {f i c : Nat} (h : PC 11 E f i c) : Stab E (.inr (some (f, i, c + 12))) := PC_st h 12 (by decide) (by decide) (by decide)
theorem n11_12 {E : EE} {f i c : Nat} (h : PC 11 E f i c) : sl f (c + 12) = 5 := PC_sl h 12 (by decide)
theorem k11_17 {E : EE} {f i c : Nat} (h : PC 11 E f i c) : kd f (c + 17) = 22 := PC_kd h 17 (by decide)
theorem l11_17 {E : EE} {f i c : Nat} (h : PC 11 E f i c) : liveC E f i (c + 17) = true := PC_lv h 17 (by decide) (by decide)
theorem s11_17 {E : EE} {f i c : Nat} (h : PC 11 E f i c) : Stab E (.inr (some (f, i, c + 17))) := PC_st h 17 (by decide) (by decide) (by decide)
theorem n11_17 {E : EE} {f i c : Nat} (h : PC 11 E f i c) : sl f (c + 17) = 5 := PC_sl h 17 (by decide)
theorem k11_19 {E : EE} {f i c : Nat} (h : PC 11 E f i c) : kd f (c + 19) = 22 := PC_kd h 19 (by decide)
theorem l11_19 {E : EE} {f i c : Nat} (h : PC 11 E f i c) : liveC E f i (c + 19) = true := PC_lv h 19 (by decide) (by decide)
theorem s11_19 {E : EE} {f i c : Nat} (h : PC 11 E f i c) : Stab E (.inr (some (f, i, c + 19))) := PC_st h 19 (by decide) (by decide) (by decide)
theorem n11_19 {E : EE} {f i c : Nat} (h : PC 11 E f i c) : sl f (c + 19) = 5 := PC_sl h 19 (by decide)
theorem k11_32 {E : EE} {f i c : Nat} (h : PC 11 E f i c) : kd f (c + 32) = 20 := PC_kd h 32 (by decide)
theorem l11_32 {E : EE} {f i c : Nat} (h : PC 11 E f i c) : liveC E f i (c + 32) = true := PC_lv h 32 (by decide) (by decide)
theorem s11_32 {E : EE} {f i c : Nat} (h : PC 11 E f i c) : Stab E (.inr (some (f, i, c + 32))) := PC_st h 32 (by decide) (by decide) (by decide)
theorem n11_32 {E : EE} {f i c : Nat} (h : PC 11 E f i c) : sl f (c + 32) = 5 := PC_sl h 32 (by decide)
set_option maxRecDepth 100000 in
theorem mw605 : Cond.methodLink RX11 192 yX11_refused ∈ gwl := gwl_tb 1323 rfl rfl
set_option maxRecDepth 100000 in
theorem mw606 : Cond.instanceMethod yX11_refused ∈ gwl := gwl_tb 1325 rfl rfl
set_option maxRecDepth 100000 in
theorem mw607 : Cond.selects RX11 yX11_refused yX11_refused ∈ gwl := gwl_sl 25 rfl rfl
set_option maxRecDepth 100000 in
theorem mw608 : Cond.code yX11_refused cX11_refused 2 (some .boolean) ∈ gwl := gwl_tb 1326 rfl rfl
set_option maxRecDepth 100000 in
theorem mw609 : Cond.fieldLink RX11 55 "GuestHallModel" "sealedOnes" "[Z" ∈ gwl := gwl_tb 1201 rfl rfl
set_option maxRecDepth 100000 in
theorem mw610 : Cond.fieldLink RX11 40 "GuestHallModel" "base" "[I" ∈ gwl := gwl_tb 1196 rfl rfl
set_option maxRecDepth 100000 in
theorem mw611 : Cond.methodLink RX11 202 yX11_isGuest ∈ gwl := gwl_tb 1337 rfl rfl
set_option maxRecDepth 100000 in
theorem mw612 : Cond.instanceMethod yX11_isGuest ∈ gwl := gwl_tb 1339 rfl rfl
set_option maxRecDepth 100000 in
theorem mw613 : Cond.selects RX11 yX11_isGuest yX11_isGuest ∈ gwl := gwl_sl 26 rfl rfl
set_option maxRecDepth 100000 in
theorem mw614 : Cond.code yX11_isGuest cX11_isGuest 2 (some .boolean) ∈ gwl := gwl_tb 1340 rfl rfl
set_option maxRecDepth 100000 in
theorem mw615 : Cond.fieldLink RX11 62 "GuestHallModel" "wasMoved" "[Z" ∈ gwl := gwl_tb 1203 rfl rfl
set_option maxRecDepth 100000 in
theorem mw616 : Cond.methodLink RX11 196 yX11_isA ∈ gwl := gwl_tb 1331 rfl rfl
set_option maxRecDepth 100000 in
theorem mw617 : Cond.static yX11_isA ∈ gwl := gwl_tb 1332 rfl rfl
set_option maxRecDepth 100000 in
theorem mw618 : Cond.code yX11_isA cX11_isA 2 (some .boolean) ∈ gwl := gwl_tb 1333 rfl rfl
set_option maxRecDepth 100000 in
theorem mw619 : Cond.methodLink RX11 199 yX11_isB ∈ gwl := gwl_tb 1334 rfl rfl
set_option maxRecDepth 100000 in
theorem mw620 : Cond.static yX11_isB ∈ gwl := gwl_tb 1335 rfl rfl
set_option maxRecDepth 100000 in
theorem mw621 : Cond.code yX11_isB cX11_isB 2 (some .boolean) ∈ gwl := gwl_tb 1336 rfl rfl
set_option maxRecDepth 100000 in
theorem mw622 : Cond.methodLink RX11 205 yX11_shift ∈ gwl := gwl_tb 1356 rfl rfl
set_option maxRecDepth 100000 in
theorem mw623 : Cond.instanceMethod yX11_shift ∈ gwl := gwl_tb 1358 rfl rfl
set_option maxRecDepth 100000 in
theorem mw624 : Cond.selects RX11 yX11_shift yX11_shift ∈ gwl := gwl_sl 28 rfl rfl
set_option maxRecDepth 100000 in
theorem mw625 : Cond.code yX11_shift cX11_shift 3 none ∈ gwl := gwl_tb 1359 rfl rfl
set_option maxRecDepth 100000 in
theorem mw626 : Cond.fieldLink RX11 22 "GuestHallModel" "since" "[I" ∈ gwl := gwl_tb 1189 rfl rfl
set_option maxRecDepth 100000 in
theorem mw627 : Cond.fieldLink RX11 25 "GuestHallModel" "sinceMany" "[I" ∈ gwl := gwl_tb 1190 rfl rfl
set_option maxRecDepth 100000 in
theorem mw628 : Cond.methodLink RX11 208 yX11_tickOnce ∈ gwl := gwl_tb 1372 rfl rfl
set_option maxRecDepth 100000 in
theorem mw629 : Cond.instanceMethod yX11_tickOnce ∈ gwl := gwl_tb 1374 rfl rfl
set_option maxRecDepth 100000 in
theorem mw630 : Cond.selects RX11 yX11_tickOnce yX11_tickOnce ∈ gwl := gwl_sl 29 rfl rfl
set_option maxRecDepth 100000 in
theorem mw631 : Cond.code yX11_tickOnce cX11_tickOnce 4 none ∈ gwl := gwl_tb 1375 rfl rfl
set_option maxRecDepth 100000 in
theorem mw632 : Cond.methodLink RX11 211 yX11_canShare ∈ gwl := gwl_tb 1432 rfl rfl
set_option maxRecDepth 100000 in
theorem mw633 : Cond.instanceMethod yX11_canShare ∈ gwl := gwl_tb 1434 rfl rfl
set_option maxRecDepth 100000 in
theorem mw634 : Cond.selects RX11 yX11_canShare yX11_canShare ∈ gwl := gwl_sl 43 rfl rfl
set_option maxRecDepth 100000 in
theorem mw635 : Cond.code yX11_canShare cX11_canShare 2 (some .boolean) ∈ gwl := gwl_tb 1435 rfl rfl
set_option maxRecDepth 100000 in
theorem mw636 : Cond.methodLink RX11 214 yX11_areLike ∈ gwl := gwl_tb 1436 rfl rfl
set_option maxRecDepth 100000 in
theorem mw637 : Cond.instanceMethod yX11_areLike ∈ gwl := gwl_tb 1438 rfl rfl
set_option maxRecDepth 100000 in
theorem mw638 : Cond.selects RX11 yX11_areLike yX11_areLike ∈ gwl := gwl_sl 44 rfl rfl
set_option maxRecDepth 100000 in
theorem mw639 : Cond.code yX11_areLike cX11_areLike 5 (some .boolean) ∈ gwl := gwl_tb 1439 rfl rfl
set_option maxRecDepth 100000 in
theorem mw640 : Cond.methodLink RX11 217 yX11_bits ∈ gwl := gwl_tb 1444 rfl rfl
set_option maxRecDepth 100000 in
theorem mw641 : Cond.static yX11_bits ∈ gwl := gwl_tb 1445 rfl rfl
set_option maxRecDepth 100000 in
theorem mw642 : Cond.code yX11_bits cX11_bits 3 (some .int) ∈ gwl := gwl_tb 1446 rfl rfl
set_option maxRecDepth 100000 in
theorem mw643 : Cond.fieldLink RX11 98 "GuestHallModel" "sentPages" "[I" ∈ gwl := gwl_tb 1216 rfl rfl
set_option maxRecDepth 100000 in
theorem mw644 : Cond.methodLink RX11 220 yX11_swapAll ∈ gwl := gwl_tb 1455 rfl rfl
set_option maxRecDepth 100000 in
theorem mw645 : Cond.instanceMethod yX11_swapAll ∈ gwl := gwl_tb 1457 rfl rfl
set_option maxRecDepth 100000 in
theorem mw646 : Cond.selects RX11 yX11_swapAll yX11_swapAll ∈ gwl := gwl_sl 45 rfl rfl
set_option maxRecDepth 100000 in
theorem mw647 : Cond.code yX11_swapAll cX11_swapAll 3 none ∈ gwl := gwl_tb 1458 rfl rfl
theorem pd_X11_refused : (yX11_refused).cls ≠ "java/lang/invoke/MethodHandle" ∧ (yX11_refused).cls ≠ "java/lang/invoke/VarHandle" ∧ (parseMethodDescriptor (yX11_refused).desc).map (fun d => d.parameters.length) = some 1 := ⟨by decide +kernel, by decide +kernel, by decide +kernel⟩
theorem pd_X11_isGuest : (yX11_isGuest).cls ≠ "java/lang/invoke/MethodHandle" ∧ (yX11_isGuest).cls ≠ "java/lang/invoke/VarHandle" ∧ (parseMethodDescriptor (yX11_isGuest).desc).map (fun d => d.parameters.length) = some 1 := ⟨by decide +kernel, by decide +kernel, by decide +kernel⟩
theorem pd_X11_isA : (yX11_isA).cls ≠ "java/lang/invoke/MethodHandle" ∧ (yX11_isA).cls ≠ "java/lang/invoke/VarHandle" ∧ (parseMethodDescriptor (yX11_isA).desc).map (fun d => d.parameters.length) = some 2 := ⟨by decide +kernel, by decide +kernel, by decide +kernel⟩
theorem pd_X11_isB : (yX11_isB).cls ≠ "java/lang/invoke/MethodHandle" ∧ (yX11_isB).cls ≠ "java/lang/invoke/VarHandle" ∧ (parseMethodDescriptor (yX11_isB).desc).map (fun d => d.parameters.length) = some 2 := ⟨by decide +kernel, by decide +kernel, by decide +kernel⟩
theorem pd_X11_shift : (yX11_shift).cls ≠ "java/lang/invoke/MethodHandle" ∧ (yX11_shift).cls ≠ "java/lang/invoke/VarHandle" ∧ (parseMethodDescriptor (yX11_shift).desc).map (fun d => d.parameters.length) = some 2 := ⟨by decide +kernel, by decide +kernel, by decide +kernel⟩
theorem pd_X11_tickOnce : (yX11_tickOnce).cls ≠ "java/lang/invoke/MethodHandle" ∧ (yX11_tickOnce).cls ≠ "java/lang/invoke/VarHandle" ∧ (parseMethodDescriptor (yX11_tickOnce).desc).map (fun d => d.parameters.length) = some 0 := ⟨by decide +kernel, by decide +kernel, by decide +kernel⟩
theorem pd_X11_canShare : (yX11_canShare).cls ≠ "java/lang/invoke/MethodHandle" ∧ (yX11_canShare).cls ≠ "java/lang/invoke/VarHandle" ∧ (parseMethodDescriptor (yX11_canShare).desc).map (fun d => d.parameters.length) = some 1 := ⟨by decide +kernel, by decide +kernel, by decide +kernel⟩
theorem pd_X11_areLike : (yX11_areLike).cls ≠ "java/lang/invoke/MethodHandle" ∧ (yX11_areLike).cls ≠ "java/lang/invoke/VarHandle" ∧ (parseMethodDescriptor (yX11_areLike).desc).map (fun d => d.parameters.length) = some 2 := ⟨by decide +kernel, by decide +kernel, by decide +kernel⟩
theorem pd_X11_bits : (yX11_bits).cls ≠ "java/lang/invoke/MethodHandle" ∧ (yX11_bits).cls ≠ "java/lang/invoke/VarHandle" ∧ (parseMethodDescriptor (yX11_bits).desc).map (fun d => d.parameters.length) = some 1 := ⟨by decide +kernel, by decide +kernel, by decide +kernel⟩
theorem pd_X11_swapAll : (yX11_swapAll).cls ≠ "java/lang/invoke/MethodHandle" ∧ (yX11_swapAll).cls ≠ "java/lang/invoke/VarHandle" ∧ (parseMethodDescriptor (yX11_swapAll).desc).map (fun d => d.parameters.length) = some 1 := ⟨by decide +kernel, by decide +kernel, by decide +kernel⟩
def f_X11_guest_b162 (E : EE) (κ : K) (x1 : Int32) (x2 : Int32) (x3 : Int32) (x4 : Int32) : Option (K × Int32) := gd (¬ (x4 < 0 ∨ 5 ≤ x4.toNatClampNeg)) (nm (setV κ 5 0 15 x4.toNatClampNeg x1) fun κ22 => gd (¬ (x4 < 0 ∨ 5 ≤ x4.toNatClampNeg)) (nm (setV κ22 5 0 16 x4.toNatClampNeg x2) fun κ24 => gd (¬ (x4 < 0 ∨ 5 ≤ x4.toNatClampNeg)) (gd (x3 = 0 ∨ x3 = 1) (nm (setV κ24 5 0 17 x4.toNatClampNeg x3) fun κ26 => gd (¬ (x4 < 0 ∨ 5 ≤ x4.toNatClampNeg)) (nm (setV κ26 5 0 20 x4.toNatClampNeg 1) fun κ29 => gd (¬ (x4 < 0 ∨ 5 ≤ x4.toNatClampNeg)) (nm (setV κ29 5 0 21 x4.toNatClampNeg 0) fun κ31 => gd (¬ (x4 < 0 ∨ 5 ≤ x4.toNatClampNeg)) (nm (setV κ31 5 0 22 x4.toNatClampNeg (kV κ31 5 0 0 41)) fun κ33 => gd (¬ (x4 < 0 ∨ 5 ≤ x4.toNatClampNeg)) (nm (setV κ33 5 0 12 x4.toNatClampNeg ((-1))) fun κ35 => some (κ35, x4)))))))))
def f_X11_guest_b103 (E : EE) : Nat → K → Int32 → Int32 → Int32 → Int32 → Int32 → Option (K × Int32)
  | 0, _, _, _, _, _, _ => none
  | n + 1, κ, x1, x2, x3, x4, x5 => if 8 ≤ x5 then f_X11_guest_b162 E κ x1 x2 x3 x4 else gd (¬ ((((55 * x4) + 9) + x5) < 0 ∨ 275 ≤ (((55 * x4) + 9) + x5).toNatClampNeg)) (nm (setV κ 5 0 1 (((55 * x4) + 9) + x5).toNatClampNeg x5) fun κ37 => gd (¬ (((8 * x4) + x5) < 0 ∨ 40 ≤ ((8 * x4) + x5).toNatClampNeg)) (nm (setV κ37 5 0 27 ((8 * x4) + x5).toNatClampNeg 0) fun κ39 => gd (¬ (((8 * x4) + x5) < 0 ∨ 40 ≤ ((8 * x4) + x5).toNatClampNeg)) (nm (setV κ39 5 0 28 ((8 * x4) + x5).toNatClampNeg ((-1))) fun κ41 => nm (x5 + 1) fun y42 => f_X11_guest_b103 E n κ41 x1 x2 x3 x4 y42)))
def f_X11_guest_b49 (E : EE) (κ : K) (x1 : Int32) (x2 : Int32) (x3 : Int32) (xs0 : Int32) : Option (K × Int32) := bd (f_X11_refused E κ xs0) fun κ10 r12 => if r12 = 0 then nm (kV κ10 5 0 0 26) fun y14 => nm (setV κ10 5 0 0 26 ((kV κ10 5 0 0 26) + 1)) fun κ15 => gd (¬ (((55 * y14) + 5) < 0 ∨ 275 ≤ ((55 * y14) + 5).toNatClampNeg)) (nm (setV κ15 5 0 1 ((55 * y14) + 5).toNatClampNeg ((-1))) fun κ17 => gd (¬ (((55 * y14) + 50) < 0 ∨ 275 ≤ ((55 * y14) + 50).toNatClampNeg)) (nm (setV κ17 5 0 1 ((55 * y14) + 50).toNatClampNeg ((-1))) fun κ19 => f_X11_guest_b103 E FU κ19 x1 x2 x3 y14 0)) else some (κ10, 0)
def f_X11_guest_b44 (E : EE) (κ : K) (x1 : Int32) (x2 : Int32) (x3 : Int32) : Option (K × Int32) := f_X11_guest_b49 E κ x1 x2 x3 3
def f_X11_guest (E : EE) (κ : K) (a1 : Int32) (a2 : Int32) (a3 : Int32) : Option (K × Int32) := bd (f_X11_in E κ a1 0 1) fun κ1 r3 => if r3 = 0 then f_X11_guest_b49 E κ1 a1 a2 a3 1 else bd (f_X11_in E κ1 a2 1 4) fun κ5 r7 => if r7 = 0 then f_X11_guest_b49 E κ5 a1 a2 a3 2 else if kV κ5 5 0 0 26 = 5 then f_X11_guest_b44 E κ5 a1 a2 a3 else gd (¬ (a1 < 0 ∨ 2 ≤ a1.toNatClampNeg)) (if (kV κ5 5 0 38) a1.toNatClampNeg = 0 then f_X11_guest_b49 E κ5 a1 a2 a3 0 else f_X11_guest_b44 E κ5 a1 a2 a3)
set_option maxHeartbeats 4000000 in
set_option maxRecDepth 100000 in
theorem w_X11_guest_b162 {l0 : Launch} (hfl : l0.stackTraces = false) {X : MX} {B : BX (EE × K)} {g : GP} {E : EE} {κ' : K} {rr : Int32} (O : CK l0 X B g cX11_guest RX11 2 22) (hKP : KPok B E) (hmL : B.2.2.2.1 = 6) (hE : ∀ (pc : Nat) (lv : List (Nat × AV)), decode cX11_guest pc = .ok (.ireturn, 1) → J X B (E, κ') pc lv [.inl (.int rr)]) (h0 : PC 11 E 5 0 0) : ∀ (κ : K) (x1 : Int32) (x2 : Int32) (x3 : Int32) (x4 : Int32), f_X11_guest_b162 E κ x1 x2 x3 x4 = some (κ', rr) → J X B (E, κ) 162 [(0, .inr (some (5, 0, 0))), (1, .inl (.int x1)), (2, .inl (.int x2)), (3, .inl (.int x3)), (4, .inl (.int x4))] [] := by
  intro κ x1 x2 x3 x4 h
  unfold f_X11_guest_b162 at h
  refine J_aload_n O.mo dX11_guest_162 0 rfl ?_
  refine J_getF O.co (kd0 := 11) (k11_0 h0) (l11_0 h0) (C := RX11) (T := TX11) (N := 42) rfl (by decide) rfl in_X11 15 (by decide) (v := .inr (some (5, 0, 15))) rfl mw526 rfl dX11_guest_163 ?_
  refine J_iload O.mo dX11_guest_166 4 rfl ?_
  refine J_iload_n O.mo dX11_guest_168 1 rfl ?_
  obtain ⟨hg21, h⟩ := gd_some h
  refine row_20 O (l11_15 h0) (k11_15 h0) (n11_15 h0) hg21 (x := x1) dX11_guest_169 ?_
  refine nm_some (P := fun z => J X B (E, z) 170 [(0, .inr (some (5, 0, 0))), (1, .inl (.int x1)), (2, .inl (.int x2)), (3, .inl (.int x3)), (4, .inl (.int x4))] []) h (fun κ22 h => ?_)
  refine J_aload_n O.mo dX11_guest_170 0 rfl ?_
  refine J_getF O.co (kd0 := 11) (k11_0 h0) (l11_0 h0) (C := RX11) (T := TX11) (N := 42) rfl (by decide) rfl in_X11 16 (by decide) (v := .inr (some (5, 0, 16))) rfl mw594 rfl dX11_guest_171 ?_
  refine J_iload O.mo dX11_guest_174 4 rfl ?_
  refine J_iload_n O.mo dX11_guest_176 2 rfl ?_
  obtain ⟨hg23, h⟩ := gd_some h
  refine row_20 O (l11_16 h0) (k11_16 h0) (n11_16 h0) hg23 (x := x2) dX11_guest_177 ?_
  refine nm_some (P := fun z => J X B (E, z) 178 [(0, .inr (some (5, 0, 0))), (1, .inl (.int x1)), (2, .inl (.int x2)), (3, .inl (.int x3)), (4, .inl (.int x4))] []) h (fun κ24 h => ?_)
  refine J_aload_n O.mo dX11_guest_178 0 rfl ?_
  refine J_getF O.co (kd0 := 11) (k11_0 h0) (l11_0 h0) (C := RX11) (T := TX11) (N := 42) rfl (by decide) rfl in_X11 17 (by decide) (v := .inr (some (5, 0, 17))) rfl mw609 rfl dX11_guest_179 ?_
  refine J_iload O.mo dX11_guest_182 4 rfl ?_
  refine J_iload_n O.mo dX11_guest_184 3 rfl ?_
  obtain ⟨hg25, h⟩ := gd_some h
  obtain ⟨hg27, h⟩ := gd_some h
  refine row_22 O (l11_17 h0) (k11_17 h0) (n11_17 h0) hg25 (x := x3) hg27 dX11_guest_185 ?_
  refine nm_some (P := fun z => J X B (E, z) 186 [(0, .inr (some (5, 0, 0))), (1, .inl (.int x1)), (2, .inl (.int x2)), (3, .inl (.int x3)), (4, .inl (.int x4))] []) h (fun κ26 h => ?_)
  refine J_aload_n O.mo dX11_guest_186 0 rfl ?_
  refine J_getF O.co (kd0 := 11) (k11_0 h0) (l11_0 h0) (C := RX11) (T := TX11) (N := 42) rfl (by decide) rfl in_X11 20 (by decide) (v := .inr (some (5, 0, 20))) rfl mw521 rfl dX11_guest_187 ?_
  refine J_iload O.mo dX11_guest_190 4 rfl ?_
  refine J_iconst O.mo (v := 1) dX11_guest_192 (by decide) ?_
  obtain ⟨hg28, h⟩ := gd_some h
  refine row_20 O (l11_20 h0) (k11_20 h0) (n11_20 h0) hg28 (x := 1) dX11_guest_193 ?_
  refine nm_some (P := fun z => J X B (E, z) 194 [(0, .inr (some (5, 0, 0))), (1, .inl (.int x1)), (2, .inl (.int x2)), (3, .inl (.int x3)), (4, .inl (.int x4))] []) h (fun κ29 h => ?_)
  refine J_aload_n O.mo dX11_guest_194 0 rfl ?_
  refine J_getF O.co (kd0 := 11) (k11_0 h0) (l11_0 h0) (C := RX11) (T := TX11) (N := 42) rfl (by decide) rfl in_X11 21 (by decide) (v := .inr (some (5, 0, 21))) rfl mw522 rfl dX11_guest_195 ?_
  refine J_iload O.mo dX11_guest_198 4 rfl ?_
  refine J_iconst O.mo (v := 0) dX11_guest_200 (by decide) ?_
  obtain ⟨hg30, h⟩ := gd_some h
  refine row_20 O (l11_21 h0) (k11_21 h0) (n11_21 h0) hg30 (x := 0) dX11_guest_201 ?_
  refine nm_some (P := fun z => J X B (E, z) 202 [(0, .inr (some (5, 0, 0))), (1, .inl (.int x1)), (2, .inl (.int x2)), (3, .inl (.int x3)), (4, .inl (.int x4))] []) h (fun κ31 h => ?_)
  refine J_aload_n O.mo dX11_guest_202 0 rfl ?_
  refine J_getF O.co (kd0 := 11) (k11_0 h0) (l11_0 h0) (C := RX11) (T := TX11) (N := 42) rfl (by decide) rfl in_X11 22 (by decide) (v := .inr (some (5, 0, 22))) rfl mw520 rfl dX11_guest_203 ?_
  refine J_iload O.mo dX11_guest_206 4 rfl ?_
  refine J_aload_n O.mo dX11_guest_208 0 rfl ?_
  refine J_getF O.co (kd0 := 11) (k11_0 h0) (l11_0 h0) (C := RX11) (T := TX11) (N := 42) rfl (by decide) rfl in_X11 41 (by decide) (v := .inl (.int (kV κ31 5 0 0 41))) rfl mw519 rfl dX11_guest_209 ?_
  obtain ⟨hg32, h⟩ := gd_some h
  refine row_20 O (l11_22 h0) (k11_22 h0) (n11_22 h0) hg32 (x := (kV κ31 5 0 0 41)) dX11_guest_212 ?_
  refine nm_some (P := fun z => J X B (E, z) 213 [(0, .inr (some (5, 0, 0))), (1, .inl (.int x1)), (2, .inl (.int x2)), (3, .inl (.int x3)), (4, .inl (.int x4))] []) h (fun κ33 h => ?_)
  refine J_aload_n O.mo dX11_guest_213 0 rfl ?_
  refine J_getF O.co (kd0 := 11) (k11_0 h0) (l11_0 h0) (C := RX11) (T := TX11) (N := 42) rfl (by decide) rfl in_X11 12 (by decide) (v := .inr (some (5, 0, 12))) rfl mw610 rfl dX11_guest_214 ?_
  refine J_iload O.mo dX11_guest_217 4 rfl ?_
  refine J_iconst O.mo (v := (-1)) dX11_guest_219 (by decide) ?_
  obtain ⟨hg34, h⟩ := gd_some h
  refine row_20 O (l11_12 h0) (k11_12 h0) (n11_12 h0) hg34 (x := ((-1))) dX11_guest_220 ?_
  refine nm_some (P := fun z => J X B (E, z) 221 [(0, .inr (some (5, 0, 0))), (1, .inl (.int x1)), (2, .inl (.int x2)), (3, .inl (.int x3)), (4, .inl (.int x4))] []) h (fun κ35 h => ?_)
  refine J_iload O.mo dX11_guest_221 4 rfl ?_
  cases h
  exact hE _ _ dX11_guest_223
set_option maxHeartbeats 4000000 in
set_option maxRecDepth 100000 in
theorem w_X11_guest_b103 {l0 : Launch} (hfl : l0.stackTraces = false) {X : MX} {B : BX (EE × K)} {g : GP} {E : EE} {κ' : K} {rr : Int32} (O : CK l0 X B g cX11_guest RX11 2 22) (hKP : KPok B E) (hmL : B.2.2.2.1 = 6) (hE : ∀ (pc : Nat) (lv : List (Nat × AV)), decode cX11_guest pc = .ok (.ireturn, 1) → J X B (E, κ') pc lv [.inl (.int rr)]) (h0 : PC 11 E 5 0 0) : ∀ (n : Nat) (κ : K) (x1 : Int32) (x2 : Int32) (x3 : Int32) (x4 : Int32) (x5 : Int32), f_X11_guest_b103 E n κ x1 x2 x3 x4 x5 = some (κ', rr) → J X B (E, κ) 103 [(0, .inr (some (5, 0, 0))), (1, .inl (.int x1)), (2, .inl (.int x2)), (3, .inl (.int x3)), (4, .inl (.int x4)), (5, .inl (.int x5))] [] := by
  intro n
  induction n with
  | zero => intro κ x1 x2 x3 x4 x5 h; cases h
  | succ n ih =>
    intro κ x1 x2 x3 x4 x5 h
    rw [f_X11_guest_b103] at h
    refine J_iload O.mo dX11_guest_103 5 rfl ?_
    refine J_bipush O.mo (v := 8) dX11_guest_105 (by decide) ?_
    refine J_icmp_ge O.mo (tgt := 162) dX11_guest_107 (by decide) (fun hc20 => ?_) (fun hc20 => ?_)
    · replace h := (if_pos hc20).symm.trans h
      refine J_sub [0, 1, 2, 3, 4] rfl ?_
      exact w_X11_guest_b162 hfl O hKP hmL hE h0 _ _ _ _ _ h
    · replace h := (if_neg hc20).symm.trans h
      refine J_aload_n O.mo dX11_guest_110 0 rfl ?_
      refine J_getF O.co (kd0 := 11) (k11_0 h0) (l11_0 h0) (C := RX11) (T := TX11) (N := 42) rfl (by decide) rfl in_X11 1 (by decide) (v := .inr (some (5, 0, 1))) rfl mw545 rfl dX11_guest_111 ?_
      refine J_bipush O.mo (v := 55) dX11_guest_114 (by decide) ?_
      refine J_iload O.mo dX11_guest_116 4 rfl ?_
      refine J_imul O.mo dX11_guest_118 ?_
      refine J_bipush O.mo (v := 9) dX11_guest_119 (by decide) ?_
      refine J_iadd O.mo dX11_guest_121 ?_
      refine J_iload O.mo dX11_guest_122 5 rfl ?_
      refine J_iadd O.mo dX11_guest_124 ?_
      refine J_iload O.mo dX11_guest_125 5 rfl ?_
      obtain ⟨hg36, h⟩ := gd_some h
      refine row_20 O (l11_1 h0) (k11_1 h0) (n11_1 h0) hg36 (x := x5) dX11_guest_127 ?_
      refine nm_some (P := fun z => J X B (E, z) 128 [(0, .inr (some (5, 0, 0))), (1, .inl (.int x1)), (2, .inl (.int x2)), (3, .inl (.int x3)), (4, .inl (.int x4)), (5, .inl (.int x5))] []) h (fun κ37 h => ?_)
      refine J_aload_n O.mo dX11_guest_128 0 rfl ?_
      refine J_getF O.co (kd0 := 11) (k11_0 h0) (l11_0 h0) (C := RX11) (T := TX11) (N := 42) rfl (by decide) rfl in_X11 27 (by decide) (v := .inr (some (5, 0, 27))) rfl mw528 rfl dX11_guest_129 ?_
      refine J_bipush O.mo (v := 8) dX11_guest_132 (by decide) ?_
      refine J_iload O.mo dX11_guest_134 4 rfl ?_
      refine J_imul O.mo dX11_guest_136 ?_
      refine J_iload O.mo dX11_guest_137 5 rfl ?_
      refine J_iadd O.mo dX11_guest_139 ?_
      refine J_iconst O.mo (v := 0) dX11_guest_140 (by decide) ?_
      obtain ⟨hg38, h⟩ := gd_some h
      refine row_20 O (l11_27 h0) (k11_27 h0) (n11_27 h0) hg38 (x := 0) dX11_guest_141 ?_
      refine nm_some (P := fun z => J X B (E, z) 142 [(0, .inr (some (5, 0, 0))), (1, .inl (.int x1)), (2, .inl (.int x2)), (3, .inl (.int x3)), (4, .inl (.int x4)), (5, .inl (.int x5))] []) h (fun κ39 h => ?_)
      refine J_aload_n O.mo dX11_guest_142 0 rfl ?_
      refine J_getF O.co (kd0 := 11) (k11_0 h0) (l11_0 h0) (C := RX11) (T := TX11) (N := 42) rfl (by decide) rfl in_X11 28 (by decide) (v := .inr (some (5, 0, 28))) rfl mw527 rfl dX11_guest_143 ?_
      refine J_bipush O.mo (v := 8) dX11_guest_146 (by decide) ?_
      refine J_iload O.mo dX11_guest_148 4 rfl ?_
      refine J_imul O.mo dX11_guest_150 ?_
      refine J_iload O.mo dX11_guest_151 5 rfl ?_
      refine J_iadd O.mo dX11_guest_153 ?_
      refine J_iconst O.mo (v := (-1)) dX11_guest_154 (by decide) ?_
      obtain ⟨hg40, h⟩ := gd_some h
      refine row_20 O (l11_28 h0) (k11_28 h0) (n11_28 h0) hg40 (x := ((-1))) dX11_guest_155 ?_
      refine nm_some (P := fun z => J X B (E, z) 156 [(0, .inr (some (5, 0, 0))), (1, .inl (.int x1)), (2, .inl (.int x2)), (3, .inl (.int x3)), (4, .inl (.int x4)), (5, .inl (.int x5))] []) h (fun κ41 h => ?_)
      refine J_iinc O.mo (v := x5 + 1) (lv' := [(0, .inr (some (5, 0, 0))), (1, .inl (.int x1)), (2, .inl (.int x2)), (3, .inl (.int x3)), (4, .inl (.int x4))]) dX11_guest_156 (by rw [hmL]; decide) 5 rfl (by rw [show Int32.ofInt (1) = (1 : Int32) from by decide]) rfl rfl ?_
      refine nm_some (P := fun z => J X B (E, κ41) 159 [(5, .inl (.int z)), (0, .inr (some (5, 0, 0))), (1, .inl (.int x1)), (2, .inl (.int x2)), (3, .inl (.int x3)), (4, .inl (.int x4))] []) h (fun y42 h => ?_)
      refine J_goto O.mo (tgt := 103) dX11_guest_159 (by decide) ?_
      refine J_sub [1, 2, 3, 4, 5, 0] rfl ?_
      exact ih _ _ _ _ _ _ h
set_option maxHeartbeats 4000000 in
set_option maxRecDepth 100000 in
theorem w_X11_guest_b49 {l0 : Launch} (hfl : l0.stackTraces = false) {X : MX} {B : BX (EE × K)} {g : GP} {E : EE} {κ' : K} {rr : Int32} (O : CK l0 X B g cX11_guest RX11 2 22) (hKP : KPok B E) (hmL : B.2.2.2.1 = 6) (hE : ∀ (pc : Nat) (lv : List (Nat × AV)), decode cX11_guest pc = .ok (.ireturn, 1) → J X B (E, κ') pc lv [.inl (.int rr)]) (h0 : PC 11 E 5 0 0) : ∀ (κ : K) (x1 : Int32) (x2 : Int32) (x3 : Int32) (xs0 : Int32), f_X11_guest_b49 E κ x1 x2 x3 xs0 = some (κ', rr) → J X B (E, κ) 49 [(0, .inr (some (5, 0, 0))), (1, .inl (.int x1)), (2, .inl (.int x2)), (3, .inl (.int x3))] [.inl (.int xs0), .inr (some (5, 0, 0))] := by
  intro κ x1 x2 x3 xs0 h
  unfold f_X11_guest_b49 at h
  obtain ⟨κ10, r12, hq11, h⟩ := bd_some h
  refine J_callV O hKP (as := [.inl (.int xs0)]) (rest := []) (r := (some (.inl (.int r12)))) (c_X11_refused hfl h0 hq11) rfl (kd0 := 11) (k11_0 h0) (l11_0 h0) (T := TX11) (N := 42) rfl (by decide) mw605 mw606 mw607 mw517 mw608 pd_X11_refused rfl (by decide) rfl (Nat.le_of_ble_eq_true rfl) (sl_p (s11_0 h0) (sl_v (sl_v (sl_v sl_0)))) st_0 dX11_guest_49 ?_
  show J X B (E, κ10) 52 [(0, .inr (some (5, 0, 0))), (1, .inl (.int x1)), (2, .inl (.int x2)), (3, .inl (.int x3))] [.inl (.int r12)]
  refine J_if_eq O.mo (tgt := 57) dX11_guest_52 (by decide) (fun hc13 => ?_) (fun hc13 => ?_)
  · replace h := (if_pos hc13).symm.trans h
    refine J_aload_n O.mo dX11_guest_57 0 rfl ?_
    refine J_getF O.co (kd0 := 11) (k11_0 h0) (l11_0 h0) (C := RX11) (T := TX11) (N := 42) rfl (by decide) rfl in_X11 26 (by decide) (v := .inl (.int (kV κ10 5 0 0 26))) rfl mw514 rfl dX11_guest_58 ?_
    refine J_istore O.mo (lv' := [(0, .inr (some (5, 0, 0))), (1, .inl (.int x1)), (2, .inl (.int x2)), (3, .inl (.int x3))]) dX11_guest_61 (by rw [hmL]; decide) rfl rfl ?_
    refine nm_some (P := fun z => J X B (E, κ10) 63 [(4, .inl (.int z)), (0, .inr (some (5, 0, 0))), (1, .inl (.int x1)), (2, .inl (.int x2)), (3, .inl (.int x3))] []) h (fun y14 h => ?_)
    refine J_aload_n O.mo dX11_guest_63 1 rfl ?_
    refine J_dup O.mo dX11_guest_64 rfl ?_
    refine J_getF O.co (kd0 := 11) (k11_0 h0) (l11_0 h0) (C := RX11) (T := TX11) (N := 42) rfl (by decide) rfl in_X11 26 (by decide) (v := .inl (.int (kV κ10 5 0 0 26))) rfl mw514 rfl dX11_guest_65 ?_
    refine J_iconst O.mo (v := 1) dX11_guest_68 (by decide) ?_
    refine J_iadd O.mo dX11_guest_69 ?_
    refine J_putI O.co (kd0 := 11) (k11_0 h0) (l11_0 h0) (C := RX11) (T := TX11) (N := 42) rfl (by decide) rfl in_X11 tyX11 tyX11_ok nmX11 26 (by decide) rfl rfl (x := ((kV κ10 5 0 0 26) + 1)) (Or.inl rfl) mw514 dX11_guest_70 ?_
    refine nm_some (P := fun z => J X B (E, z) 73 [(4, .inl (.int y14)), (0, .inr (some (5, 0, 0))), (1, .inl (.int x1)), (2, .inl (.int x2)), (3, .inl (.int x3))] []) h (fun κ15 h => ?_)
    refine J_aload_n O.mo dX11_guest_73 1 rfl ?_
    refine J_getF O.co (kd0 := 11) (k11_0 h0) (l11_0 h0) (C := RX11) (T := TX11) (N := 42) rfl (by decide) rfl in_X11 1 (by decide) (v := .inr (some (5, 0, 1))) rfl mw545 rfl dX11_guest_74 ?_
    refine J_bipush O.mo (v := 55) dX11_guest_77 (by decide) ?_
    refine J_iload O.mo dX11_guest_79 0 rfl ?_
    refine J_imul O.mo dX11_guest_81 ?_
    refine J_iconst O.mo (v := 5) dX11_guest_82 (by decide) ?_
    refine J_iadd O.mo dX11_guest_83 ?_
    refine J_iconst O.mo (v := (-1)) dX11_guest_84 (by decide) ?_
    obtain ⟨hg16, h⟩ := gd_some h
    refine row_20 O (l11_1 h0) (k11_1 h0) (n11_1 h0) hg16 (x := ((-1))) dX11_guest_85 ?_
    refine nm_some (P := fun z => J X B (E, z) 86 [(4, .inl (.int y14)), (0, .inr (some (5, 0, 0))), (1, .inl (.int x1)), (2, .inl (.int x2)), (3, .inl (.int x3))] []) h (fun κ17 h => ?_)
    refine J_aload_n O.mo dX11_guest_86 1 rfl ?_
    refine J_getF O.co (kd0 := 11) (k11_0 h0) (l11_0 h0) (C := RX11) (T := TX11) (N := 42) rfl (by decide) rfl in_X11 1 (by decide) (v := .inr (some (5, 0, 1))) rfl mw545 rfl dX11_guest_87 ?_
    refine J_bipush O.mo (v := 55) dX11_guest_90 (by decide) ?_
    refine J_iload O.mo dX11_guest_92 0 rfl ?_
    refine J_imul O.mo dX11_guest_94 ?_
    refine J_bipush O.mo (v := 50) dX11_guest_95 (by decide) ?_
    refine J_iadd O.mo dX11_guest_97 ?_
    refine J_iconst O.mo (v := (-1)) dX11_guest_98 (by decide) ?_
    obtain ⟨hg18, h⟩ := gd_some h
    refine row_20 O (l11_1 h0) (k11_1 h0) (n11_1 h0) hg18 (x := ((-1))) dX11_guest_99 ?_
    refine nm_some (P := fun z => J X B (E, z) 100 [(4, .inl (.int y14)), (0, .inr (some (5, 0, 0))), (1, .inl (.int x1)), (2, .inl (.int x2)), (3, .inl (.int x3))] []) h (fun κ19 h => ?_)
    refine J_iconst O.mo (v := 0) dX11_guest_100 (by decide) ?_
    refine J_istore O.mo (lv' := [(4, .inl (.int y14)), (0, .inr (some (5, 0, 0))), (1, .inl (.int x1)), (2, .inl (.int x2)), (3, .inl (.int x3))]) dX11_guest_101 (by rw [hmL]; decide) rfl rfl ?_
    refine J_sub [2, 3, 4, 5, 1, 0] rfl ?_
    exact w_X11_guest_b103 hfl O hKP hmL hE h0 FU _ _ _ _ _ _ h
  · replace h := (if_neg hc13).symm.trans h
    refine J_iconst O.mo (v := 0) dX11_guest_55 (by decide) ?_
    cases h
    exact hE _ _ dX11_guest_56
set_option maxHeartbeats 4000000 in
set_option maxRecDepth 100000 in
theorem w_X11_guest_b44 {l0 : Launch} (hfl : l0.stackTraces = false) {X : MX} {B : BX (EE × K)} {g : GP} {E : EE} {κ' : K} {rr : Int32} (O : CK l0 X B g cX11_guest RX11 2 22) (hKP : KPok B E) (hmL : B.2.2.2.1 = 6) (hE : ∀ (pc : Nat) (lv : List (Nat × AV)), decode cX11_guest pc = .ok (.ireturn, 1) → J X B (E, κ') pc lv [.inl (.int rr)]) (h0 : PC 11 E 5 0 0) : ∀ (κ : K) (x1 : Int32) (x2 : Int32) (x3 : Int32), f_X11_guest_b44 E κ x1 x2 x3 = some (κ', rr) → J X B (E, κ) 44 [(0, .inr (some (5, 0, 0))), (1, .inl (.int x1)), (2, .inl (.int x2)), (3, .inl (.int x3))] [.inr (some (5, 0, 0))] := by
  intro κ x1 x2 x3 h
  unfold f_X11_guest_b44 at h
  refine J_iconst O.mo (v := 3) dX11_guest_44 (by decide) ?_
  refine J_goto O.mo (tgt := 49) dX11_guest_45 (by decide) ?_
  exact w_X11_guest_b49 hfl O hKP hmL hE h0 _ _ _ _ _ h
set_option maxHeartbeats 4000000 in
set_option maxRecDepth 100000 in
theorem w_X11_guest {l0 : Launch} (hfl : l0.stackTraces = false) {X : MX} {B : BX (EE × K)} {g : GP} {E : EE} {κ' : K} {rr : Int32} (O : CK l0 X B g cX11_guest RX11 2 22) (hKP : KPok B E) (hmL : B.2.2.2.1 = 6) (hE : ∀ (pc : Nat) (lv : List (Nat × AV)), decode cX11_guest pc = .ok (.ireturn, 1) → J X B (E, κ') pc lv [.inl (.int rr)]) (h0 : PC 11 E 5 0 0) : ∀ (κ : K) (a1 : Int32) (a2 : Int32) (a3 : Int32), f_X11_guest E κ a1 a2 a3 = some (κ', rr) → J X B (E, κ) 0 [(0, .inr (some (5, 0, 0))), (1, .inl (.int a1)), (2, .inl (.int a2)), (3, .inl (.int a3))] [] := by
  intro κ a1 a2 a3 h
  unfold f_X11_guest at h
  refine J_aload_n O.mo dX11_guest_0 0 rfl ?_
  refine J_iload_n O.mo dX11_guest_1 1 rfl ?_
  refine J_iconst O.mo (v := 0) dX11_guest_2 (by decide) ?_
  refine J_iconst O.mo (v := 1) dX11_guest_3 (by decide) ?_
  obtain ⟨κ1, r3, hq2, h⟩ := bd_some h
  refine J_callS O hKP (as := [.inl (.int a1), .inl (.int 0), .inl (.int 1)]) (rest := [.inr (some (5, 0, 0))]) (r := (some (.inl (.int r3)))) (c_X11_in hfl hq2) rfl mw515 mw516 mw517 mw518 pd_X11_in rfl (by decide) rfl (Nat.le_of_ble_eq_true rfl) (sl_p (s11_0 h0) (sl_v (sl_v (sl_v sl_0)))) (st_p (s11_0 h0) st_0) dX11_guest_4 ?_
  show J X B (E, κ1) 7 [(0, .inr (some (5, 0, 0))), (1, .inl (.int a1)), (2, .inl (.int a2)), (3, .inl (.int a3))] [.inl (.int r3), .inr (some (5, 0, 0))]
  refine J_if_ne O.mo (tgt := 14) dX11_guest_7 (by decide) (fun hc4 => ?_) (fun hc4 => ?_)
  · replace h := (if_neg hc4).symm.trans h
    refine J_iload_n O.mo dX11_guest_14 2 rfl ?_
    refine J_iconst O.mo (v := 1) dX11_guest_15 (by decide) ?_
    refine J_iconst O.mo (v := 4) dX11_guest_16 (by decide) ?_
    obtain ⟨κ5, r7, hq6, h⟩ := bd_some h
    refine J_callS O hKP (as := [.inl (.int a2), .inl (.int 1), .inl (.int 4)]) (rest := [.inr (some (5, 0, 0))]) (r := (some (.inl (.int r7)))) (c_X11_in hfl hq6) rfl mw515 mw516 mw517 mw518 pd_X11_in rfl (by decide) rfl (Nat.le_of_ble_eq_true rfl) (sl_p (s11_0 h0) (sl_v (sl_v (sl_v sl_0)))) (st_p (s11_0 h0) st_0) dX11_guest_17 ?_
    show J X B (E, κ5) 20 [(0, .inr (some (5, 0, 0))), (1, .inl (.int a1)), (2, .inl (.int a2)), (3, .inl (.int a3))] [.inl (.int r7), .inr (some (5, 0, 0))]
    refine J_if_ne O.mo (tgt := 27) dX11_guest_20 (by decide) (fun hc8 => ?_) (fun hc8 => ?_)
    · replace h := (if_neg hc8).symm.trans h
      refine J_aload_n O.mo dX11_guest_27 0 rfl ?_
      refine J_getF O.co (kd0 := 11) (k11_0 h0) (l11_0 h0) (C := RX11) (T := TX11) (N := 42) rfl (by decide) rfl in_X11 26 (by decide) (v := .inl (.int (kV κ5 5 0 0 26))) rfl mw514 rfl dX11_guest_28 ?_
      refine J_iconst O.mo (v := 5) dX11_guest_31 (by decide) ?_
      refine J_icmp_eq O.mo (tgt := 44) dX11_guest_32 (by decide) (fun hc9 => ?_) (fun hc9 => ?_)
      · replace h := (if_pos hc9).symm.trans h
        exact w_X11_guest_b44 hfl O hKP hmL hE h0 _ _ _ _ h
      · replace h := (if_neg hc9).symm.trans h
        refine J_aload_n O.mo dX11_guest_35 0 rfl ?_
        refine J_getF O.co (kd0 := 11) (k11_0 h0) (l11_0 h0) (C := RX11) (T := TX11) (N := 42) rfl (by decide) rfl in_X11 38 (by decide) (v := .inr (some (5, 0, 38))) rfl mw595 rfl dX11_guest_36 ?_
        refine J_iload_n O.mo dX11_guest_39 1 rfl ?_
        obtain ⟨hg43, h⟩ := gd_some h
        refine J_bald O.co (g := (kV κ5 5 0 38)) (ct_22n (l11_38 h0) (k11_38 h0) (n11_38 h0)) hg43 dX11_guest_40 ?_
        refine J_if_eq O.mo (tgt := 48) dX11_guest_41 (by decide) (fun hc44 => ?_) (fun hc44 => ?_)
        · replace h := (if_pos hc44).symm.trans h
          refine J_iconst O.mo (v := 0) dX11_guest_48 (by decide) ?_
          exact w_X11_guest_b49 hfl O hKP hmL hE h0 _ _ _ _ _ h
        · replace h := (if_neg hc44).symm.trans h
          exact w_X11_guest_b44 hfl O hKP hmL hE h0 _ _ _ _ h
    · replace h := (if_pos hc8).symm.trans h
      refine J_iconst O.mo (v := 2) dX11_guest_23 (by decide) ?_
      refine J_goto O.mo (tgt := 49) dX11_guest_24 (by decide) ?_
      exact w_X11_guest_b49 hfl O hKP hmL hE h0 _ _ _ _ _ h
  · replace h := (if_pos hc4).symm.trans h
    refine J_iconst O.mo (v := 1) dX11_guest_10 (by decide) ?_
    refine J_goto O.mo (tgt := 49) dX11_guest_11 (by decide) ?_
    exact w_X11_guest_b49 hfl O hKP hmL hE h0 _ _ _ _ _ h
theorem c_X11_guest {l : Launch} (hfl : l.stackTraces = false) {E : EE} {κ κ' : K} {a1 : Int32} {a2 : Int32} {a3 : Int32} (h0 : PC 11 E 5 0 0) {rr : Int32} (h : f_X11_guest E κ a1 a2 a3 = some (κ', rr)) : Con l yX11_guest cX11_guest 6 (some .int) 2 22 [.inr (some (5, 0, 0)), .inl (.int a1), .inl (.int a2), .inl (.int a3)] (E, κ) (E, κ') (some (.inl (.int rr))) := by
  exact Con_of hfl (by decide +kernel) (Nat.le_of_ble_eq_true rfl) rfl ⟨_, rfl, rfl⟩ (fun X B g O hKP hmL hE => w_X11_guest hfl O hKP hmL hE h0 _ _ _ _ h)
def f_X11_isA_b17 (E : EE) (κ : K) (x1 : Int32) : Option (K × Int32) := bd (f_X11_in E κ x1 0 3) fun κ2 r4 => some (κ2, r4)
def f_X11_isA_b41 (E : EE) (κ : K) : Option (K × Int32) := some (κ, 1)
def f_X11_isA_e (E : EE) (κ : K) (a0 : Int32) (a1 : Int32) : Option (K × Int32) := if a0 ≤ 4 then f_X11_isA_b17 E κ a1 else if a0 = 6 then f_X11_isA_b17 E κ a1 else if a0 = 7 then f_X11_isA_b17 E κ a1 else if a0 = 5 then bd (f_X11_in E κ a1 0 7) fun κ8 r10 => if r10 = 0 then some (κ8, 0) else f_X11_isA_b41 E κ8 else f_X11_isA_b41 E κ
def f_X11_isA (E : EE) (κ : K) (a0 : Int32) (a1 : Int32) : Option (K × Int32) := bd (f_X11_isA_e E κ a0 a1) fun κ x => gd (x = 0 ∨ x = 1) (some (κ, x))
set_option maxHeartbeats 4000000 in
set_option maxRecDepth 100000 in
theorem w_X11_isA_b17 {l0 : Launch} (hfl : l0.stackTraces = false) {X : MX} {B : BX (EE × K)} {g : GP} {E : EE} {κ' : K} {rr : Int32} (O : CK l0 X B g cX11_isA RX11 2 22) (hKP : KPok B E) (hmL : B.2.2.2.1 = 2) (hE : ∀ (pc : Nat) (lv : List (Nat × AV)), decode cX11_isA pc = .ok (.ireturn, 1) → J X B (E, κ') pc lv [.inl (.int rr)]) : ∀ (κ : K) (x1 : Int32), f_X11_isA_b17 E κ x1 = some (κ', rr) → J X B (E, κ) 17 [(1, .inl (.int x1))] [] := by
  intro κ x1 h
  unfold f_X11_isA_b17 at h
  refine J_iload_n O.mo dX11_isA_17 0 rfl ?_
  refine J_iconst O.mo (v := 0) dX11_isA_18 (by decide) ?_
  refine J_iconst O.mo (v := 3) dX11_isA_19 (by decide) ?_
  refine J_sub [] rfl ?_
  obtain ⟨κ2, r4, hq3, h⟩ := bd_some h
  refine J_callS O hKP (as := [.inl (.int x1), .inl (.int 0), .inl (.int 3)]) (rest := []) (r := (some (.inl (.int r4)))) (c_X11_in hfl hq3) rfl mw515 mw516 mw517 mw518 pd_X11_in rfl (by decide) rfl (Nat.le_of_ble_eq_true rfl) sl_0 st_0 dX11_isA_20 ?_
  show J X B (E, κ2) 23 [] [.inl (.int r4)]
  refine J_goto O.mo (tgt := 46) dX11_isA_23 (by decide) ?_
  cases h
  exact hE _ _ dX11_isA_46
set_option maxHeartbeats 4000000 in
set_option maxRecDepth 100000 in
theorem w_X11_isA_b41 {l0 : Launch} (hfl : l0.stackTraces = false) {X : MX} {B : BX (EE × K)} {g : GP} {E : EE} {κ' : K} {rr : Int32} (O : CK l0 X B g cX11_isA RX11 2 22) (hKP : KPok B E) (hmL : B.2.2.2.1 = 2) (hE : ∀ (pc : Nat) (lv : List (Nat × AV)), decode cX11_isA pc = .ok (.ireturn, 1) → J X B (E, κ') pc lv [.inl (.int rr)]) : ∀ (κ : K), f_X11_isA_b41 E κ = some (κ', rr) → J X B (E, κ) 41 [] [] := by
  intro κ h
  unfold f_X11_isA_b41 at h
  refine J_iconst O.mo (v := 1) dX11_isA_41 (by decide) ?_
  refine J_goto O.mo (tgt := 46) dX11_isA_42 (by decide) ?_
  cases h
  exact hE _ _ dX11_isA_46
set_option maxHeartbeats 4000000 in
set_option maxRecDepth 100000 in
theorem w_X11_isA_e {l0 : Launch} (hfl : l0.stackTraces = false) {X : MX} {B : BX (EE × K)} {g : GP} {E : EE} {κ' : K} {rr : Int32} (O : CK l0 X B g cX11_isA RX11 2 22) (hKP : KPok B E) (hmL : B.2.2.2.1 = 2) (hE : ∀ (pc : Nat) (lv : List (Nat × AV)), decode cX11_isA pc = .ok (.ireturn, 1) → J X B (E, κ') pc lv [.inl (.int rr)]) : ∀ (κ : K) (a0 : Int32) (a1 : Int32), f_X11_isA_e E κ a0 a1 = some (κ', rr) → J X B (E, κ) 0 [(0, .inl (.int a0)), (1, .inl (.int a1))] [] := by
  intro κ a0 a1 h
  unfold f_X11_isA_e at h
  refine J_iload_n O.mo dX11_isA_0 0 rfl ?_
  refine J_iconst O.mo (v := 4) dX11_isA_1 (by decide) ?_
  refine J_icmp_le O.mo (tgt := 17) dX11_isA_2 (by decide) (fun hc1 => ?_) (fun hc1 => ?_)
  · replace h := (if_pos hc1).symm.trans h
    refine J_sub [1] rfl ?_
    exact w_X11_isA_b17 hfl O hKP hmL hE _ _ h
  · replace h := (if_neg hc1).symm.trans h
    refine J_iload_n O.mo dX11_isA_5 0 rfl ?_
    refine J_bipush O.mo (v := 6) dX11_isA_6 (by decide) ?_
    refine J_icmp_eq O.mo (tgt := 17) dX11_isA_8 (by decide) (fun hc5 => ?_) (fun hc5 => ?_)
    · replace h := (if_pos hc5).symm.trans h
      refine J_sub [1] rfl ?_
      exact w_X11_isA_b17 hfl O hKP hmL hE _ _ h
    · replace h := (if_neg hc5).symm.trans h
      refine J_iload_n O.mo dX11_isA_11 0 rfl ?_
      refine J_bipush O.mo (v := 7) dX11_isA_12 (by decide) ?_
      refine J_icmp_ne O.mo (tgt := 26) dX11_isA_14 (by decide) (fun hc6 => ?_) (fun hc6 => ?_)
      · replace h := (if_neg hc6).symm.trans h
        refine J_iload_n O.mo dX11_isA_26 0 rfl ?_
        refine J_iconst O.mo (v := 5) dX11_isA_27 (by decide) ?_
        refine J_icmp_ne O.mo (tgt := 41) dX11_isA_28 (by decide) (fun hc7 => ?_) (fun hc7 => ?_)
        · replace h := (if_neg hc7).symm.trans h
          refine J_sub [] rfl ?_
          exact w_X11_isA_b41 hfl O hKP hmL hE _ h
        · replace h := (if_pos hc7).symm.trans h
          refine J_iload_n O.mo dX11_isA_31 1 rfl ?_
          refine J_iconst O.mo (v := 0) dX11_isA_32 (by decide) ?_
          refine J_bipush O.mo (v := 7) dX11_isA_33 (by decide) ?_
          refine J_sub [] rfl ?_
          obtain ⟨κ8, r10, hq9, h⟩ := bd_some h
          refine J_callS O hKP (as := [.inl (.int a1), .inl (.int 0), .inl (.int 7)]) (rest := []) (r := (some (.inl (.int r10)))) (c_X11_in hfl hq9) rfl mw515 mw516 mw517 mw518 pd_X11_in rfl (by decide) rfl (Nat.le_of_ble_eq_true rfl) sl_0 st_0 dX11_isA_35 ?_
          show J X B (E, κ8) 38 [] [.inl (.int r10)]
          refine J_if_eq O.mo (tgt := 45) dX11_isA_38 (by decide) (fun hc11 => ?_) (fun hc11 => ?_)
          · replace h := (if_pos hc11).symm.trans h
            refine J_iconst O.mo (v := 0) dX11_isA_45 (by decide) ?_
            cases h
            exact hE _ _ dX11_isA_46
          · replace h := (if_neg hc11).symm.trans h
            exact w_X11_isA_b41 hfl O hKP hmL hE _ h
      · replace h := (if_pos hc6).symm.trans h
        refine J_sub [1] rfl ?_
        exact w_X11_isA_b17 hfl O hKP hmL hE _ _ h
theorem c_X11_isA {l : Launch} (hfl : l.stackTraces = false) {E : EE} {κ κ' : K} {a0 : Int32} {a1 : Int32} {rr : Int32} (h : f_X11_isA E κ a0 a1 = some (κ', rr)) : Con l yX11_isA cX11_isA 2 (some .boolean) 2 22 [.inl (.int a0), .inl (.int a1)] (E, κ) (E, κ') (some (.inl (.int rr))) := by
  unfold f_X11_isA at h
  obtain ⟨κ1, x1, q1, q2⟩ := bd_some h
  obtain ⟨hb, q3⟩ := gd_some q2
  cases q3
  exact Con_of hfl (by decide +kernel) (Nat.le_of_ble_eq_true rfl) rfl ⟨_, rfl, nar_b hb⟩ (fun X B g O hKP hmL hE => w_X11_isA_e hfl O hKP hmL hE _ _ _ q1)
def f_X11_isB_e (E : EE) (κ : K) (a0 : Int32) (a1 : Int32) : Option (K × Int32) := if a0 = 0 then bd (f_X11_in E κ a1 0 9999) fun κ2 r4 => some (κ2, r4) else if a0 = 1 then bd (f_X11_in E κ a1 0 3) fun κ6 r8 => some (κ6, r8) else if a0 = 2 then bd (f_X11_in E κ a1 0 3) fun κ10 r12 => some (κ10, r12) else if a0 = 3 then bd (f_X11_in E κ a1 0 3) fun κ14 r16 => some (κ14, r16) else if a0 = 4 then bd (f_X11_in E κ a1 0 23) fun κ18 r20 => some (κ18, r20) else if a0 = 5 then bd (f_X11_in E κ a1 0 8) fun κ22 r24 => some (κ22, r24) else if a0 = 6 then bd (f_X11_in E κ a1 0 1) fun κ26 r28 => some (κ26, r28) else if a0 = 7 then bd (f_X11_in E κ a1 0 2) fun κ30 r32 => some (κ30, r32) else if a0 = 8 then some (κ, 1) else if a0 = 9 then bd (f_X11_in E κ a1 0 23) fun κ35 r37 => some (κ35, r37) else if a0 = 10 then bd (f_X11_in E κ a1 0 1) fun κ39 r41 => some (κ39, r41) else if a0 = 11 then some (κ, 1) else if a0 = 12 then bd (f_X11_in E κ a1 0 7) fun κ44 r46 => some (κ44, r46) else some (κ, 1)
def f_X11_isB (E : EE) (κ : K) (a0 : Int32) (a1 : Int32) : Option (K × Int32) := bd (f_X11_isB_e E κ a0 a1) fun κ x => gd (x = 0 ∨ x = 1) (some (κ, x))
set_option maxHeartbeats 4000000 in
set_option maxRecDepth 100000 in
theorem w_X11_isB_e {l0 : Launch} (hfl : l0.stackTraces = false) {X : MX} {B : BX (EE × K)} {g : GP} {E : EE} {κ' : K} {rr : Int32} (O : CK l0 X B g cX11_isB RX11 2 22) (hKP : KPok B E) (hmL : B.2.2.2.1 = 2) (hE : ∀ (pc : Nat) (lv : List (Nat × AV)), decode cX11_isB pc = .ok (.ireturn, 1) → J X B (E, κ') pc lv [.inl (.int rr)]) : ∀ (κ : K) (a0 : Int32) (a1 : Int32), f_X11_isB_e E κ a0 a1 = some (κ', rr) → J X B (E, κ) 0 [(0, .inl (.int a0)), (1, .inl (.int a1))] [] := by
  intro κ a0 a1 h
  unfold f_X11_isB_e at h
  refine J_iload_n O.mo dX11_isB_0 0 rfl ?_
  by_cases hc1 : a0 = 0
  · replace h := (if_pos hc1).symm.trans h
    refine J_tabIn O.mo (tgt := 68) 0 hc1 dX11_isB_1 (by decide) (by decide) rfl (by decide) ?_
    refine J_iload_n O.mo dX11_isB_68 1 rfl ?_
    refine J_iconst O.mo (v := 0) dX11_isB_69 (by decide) ?_
    refine J_sipush O.mo (v := 9999) dX11_isB_70 (by decide) ?_
    refine J_sub [] rfl ?_
    obtain ⟨κ2, r4, hq3, h⟩ := bd_some h
    refine J_callS O hKP (as := [.inl (.int a1), .inl (.int 0), .inl (.int 9999)]) (rest := []) (r := (some (.inl (.int r4)))) (c_X11_in hfl hq3) rfl mw515 mw516 mw517 mw518 pd_X11_in rfl (by decide) rfl (Nat.le_of_ble_eq_true rfl) sl_0 st_0 dX11_isB_73 ?_
    show J X B (E, κ2) 76 [] [.inl (.int r4)]
    cases h
    exact hE _ _ dX11_isB_76
  · replace h := (if_neg hc1).symm.trans h
    by_cases hc5 : a0 = 1
    · replace h := (if_pos hc5).symm.trans h
      refine J_tabIn O.mo (tgt := 77) 1 hc5 dX11_isB_1 (by decide) (by decide) rfl (by decide) ?_
      refine J_iload_n O.mo dX11_isB_77 1 rfl ?_
      refine J_iconst O.mo (v := 0) dX11_isB_78 (by decide) ?_
      refine J_iconst O.mo (v := 3) dX11_isB_79 (by decide) ?_
      refine J_sub [] rfl ?_
      obtain ⟨κ6, r8, hq7, h⟩ := bd_some h
      refine J_callS O hKP (as := [.inl (.int a1), .inl (.int 0), .inl (.int 3)]) (rest := []) (r := (some (.inl (.int r8)))) (c_X11_in hfl hq7) rfl mw515 mw516 mw517 mw518 pd_X11_in rfl (by decide) rfl (Nat.le_of_ble_eq_true rfl) sl_0 st_0 dX11_isB_80 ?_
      show J X B (E, κ6) 83 [] [.inl (.int r8)]
      cases h
      exact hE _ _ dX11_isB_83
    · replace h := (if_neg hc5).symm.trans h
      by_cases hc9 : a0 = 2
      · replace h := (if_pos hc9).symm.trans h
        refine J_tabIn O.mo (tgt := 77) 2 hc9 dX11_isB_1 (by decide) (by decide) rfl (by decide) ?_
        refine J_iload_n O.mo dX11_isB_77 1 rfl ?_
        refine J_iconst O.mo (v := 0) dX11_isB_78 (by decide) ?_
        refine J_iconst O.mo (v := 3) dX11_isB_79 (by decide) ?_
        refine J_sub [] rfl ?_
        obtain ⟨κ10, r12, hq11, h⟩ := bd_some h
        refine J_callS O hKP (as := [.inl (.int a1), .inl (.int 0), .inl (.int 3)]) (rest := []) (r := (some (.inl (.int r12)))) (c_X11_in hfl hq11) rfl mw515 mw516 mw517 mw518 pd_X11_in rfl (by decide) rfl (Nat.le_of_ble_eq_true rfl) sl_0 st_0 dX11_isB_80 ?_
        show J X B (E, κ10) 83 [] [.inl (.int r12)]
        cases h
        exact hE _ _ dX11_isB_83
      · replace h := (if_neg hc9).symm.trans h
        by_cases hc13 : a0 = 3
        · replace h := (if_pos hc13).symm.trans h
          refine J_tabIn O.mo (tgt := 77) 3 hc13 dX11_isB_1 (by decide) (by decide) rfl (by decide) ?_
          refine J_iload_n O.mo dX11_isB_77 1 rfl ?_
          refine J_iconst O.mo (v := 0) dX11_isB_78 (by decide) ?_
          refine J_iconst O.mo (v := 3) dX11_isB_79 (by decide) ?_
          refine J_sub [] rfl ?_
          obtain ⟨κ14, r16, hq15, h⟩ := bd_some h
          refine J_callS O hKP (as := [.inl (.int a1), .inl (.int 0), .inl (.int 3)]) (rest := []) (r := (some (.inl (.int r16)))) (c_X11_in hfl hq15) rfl mw515 mw516 mw517 mw518 pd_X11_in rfl (by decide) rfl (Nat.le_of_ble_eq_true rfl) sl_0 st_0 dX11_isB_80 ?_
          show J X B (E, κ14) 83 [] [.inl (.int r16)]
          cases h
          exact hE _ _ dX11_isB_83
        · replace h := (if_neg hc13).symm.trans h
          by_cases hc17 : a0 = 4
          · replace h := (if_pos hc17).symm.trans h
            refine J_tabIn O.mo (tgt := 84) 4 hc17 dX11_isB_1 (by decide) (by decide) rfl (by decide) ?_
            refine J_iload_n O.mo dX11_isB_84 1 rfl ?_
            refine J_iconst O.mo (v := 0) dX11_isB_85 (by decide) ?_
            refine J_bipush O.mo (v := 23) dX11_isB_86 (by decide) ?_
            refine J_sub [] rfl ?_
            obtain ⟨κ18, r20, hq19, h⟩ := bd_some h
            refine J_callS O hKP (as := [.inl (.int a1), .inl (.int 0), .inl (.int 23)]) (rest := []) (r := (some (.inl (.int r20)))) (c_X11_in hfl hq19) rfl mw515 mw516 mw517 mw518 pd_X11_in rfl (by decide) rfl (Nat.le_of_ble_eq_true rfl) sl_0 st_0 dX11_isB_88 ?_
            show J X B (E, κ18) 91 [] [.inl (.int r20)]
            cases h
            exact hE _ _ dX11_isB_91
          · replace h := (if_neg hc17).symm.trans h
            by_cases hc21 : a0 = 5
            · replace h := (if_pos hc21).symm.trans h
              refine J_tabIn O.mo (tgt := 92) 5 hc21 dX11_isB_1 (by decide) (by decide) rfl (by decide) ?_
              refine J_iload_n O.mo dX11_isB_92 1 rfl ?_
              refine J_iconst O.mo (v := 0) dX11_isB_93 (by decide) ?_
              refine J_bipush O.mo (v := 8) dX11_isB_94 (by decide) ?_
              refine J_sub [] rfl ?_
              obtain ⟨κ22, r24, hq23, h⟩ := bd_some h
              refine J_callS O hKP (as := [.inl (.int a1), .inl (.int 0), .inl (.int 8)]) (rest := []) (r := (some (.inl (.int r24)))) (c_X11_in hfl hq23) rfl mw515 mw516 mw517 mw518 pd_X11_in rfl (by decide) rfl (Nat.le_of_ble_eq_true rfl) sl_0 st_0 dX11_isB_96 ?_
              show J X B (E, κ22) 99 [] [.inl (.int r24)]
              cases h
              exact hE _ _ dX11_isB_99
            · replace h := (if_neg hc21).symm.trans h
              by_cases hc25 : a0 = 6
              · replace h := (if_pos hc25).symm.trans h
                refine J_tabIn O.mo (tgt := 100) 6 hc25 dX11_isB_1 (by decide) (by decide) rfl (by decide) ?_
                refine J_iload_n O.mo dX11_isB_100 1 rfl ?_
                refine J_iconst O.mo (v := 0) dX11_isB_101 (by decide) ?_
                refine J_iconst O.mo (v := 1) dX11_isB_102 (by decide) ?_
                refine J_sub [] rfl ?_
                obtain ⟨κ26, r28, hq27, h⟩ := bd_some h
                refine J_callS O hKP (as := [.inl (.int a1), .inl (.int 0), .inl (.int 1)]) (rest := []) (r := (some (.inl (.int r28)))) (c_X11_in hfl hq27) rfl mw515 mw516 mw517 mw518 pd_X11_in rfl (by decide) rfl (Nat.le_of_ble_eq_true rfl) sl_0 st_0 dX11_isB_103 ?_
                show J X B (E, κ26) 106 [] [.inl (.int r28)]
                cases h
                exact hE _ _ dX11_isB_106
              · replace h := (if_neg hc25).symm.trans h
                by_cases hc29 : a0 = 7
                · replace h := (if_pos hc29).symm.trans h
                  refine J_tabIn O.mo (tgt := 107) 7 hc29 dX11_isB_1 (by decide) (by decide) rfl (by decide) ?_
                  refine J_iload_n O.mo dX11_isB_107 1 rfl ?_
                  refine J_iconst O.mo (v := 0) dX11_isB_108 (by decide) ?_
                  refine J_iconst O.mo (v := 2) dX11_isB_109 (by decide) ?_
                  refine J_sub [] rfl ?_
                  obtain ⟨κ30, r32, hq31, h⟩ := bd_some h
                  refine J_callS O hKP (as := [.inl (.int a1), .inl (.int 0), .inl (.int 2)]) (rest := []) (r := (some (.inl (.int r32)))) (c_X11_in hfl hq31) rfl mw515 mw516 mw517 mw518 pd_X11_in rfl (by decide) rfl (Nat.le_of_ble_eq_true rfl) sl_0 st_0 dX11_isB_110 ?_
                  show J X B (E, κ30) 113 [] [.inl (.int r32)]
                  cases h
                  exact hE _ _ dX11_isB_113
                · replace h := (if_neg hc29).symm.trans h
                  by_cases hc33 : a0 = 8
                  · replace h := (if_pos hc33).symm.trans h
                    refine J_tabIn O.mo (tgt := 122) 8 hc33 dX11_isB_1 (by decide) (by decide) rfl (by decide) ?_
                    refine J_iconst O.mo (v := 1) dX11_isB_122 (by decide) ?_
                    cases h
                    exact hE _ _ dX11_isB_123
                  · replace h := (if_neg hc33).symm.trans h
                    by_cases hc34 : a0 = 9
                    · replace h := (if_pos hc34).symm.trans h
                      refine J_tabIn O.mo (tgt := 84) 9 hc34 dX11_isB_1 (by decide) (by decide) rfl (by decide) ?_
                      refine J_iload_n O.mo dX11_isB_84 1 rfl ?_
                      refine J_iconst O.mo (v := 0) dX11_isB_85 (by decide) ?_
                      refine J_bipush O.mo (v := 23) dX11_isB_86 (by decide) ?_
                      refine J_sub [] rfl ?_
                      obtain ⟨κ35, r37, hq36, h⟩ := bd_some h
                      refine J_callS O hKP (as := [.inl (.int a1), .inl (.int 0), .inl (.int 23)]) (rest := []) (r := (some (.inl (.int r37)))) (c_X11_in hfl hq36) rfl mw515 mw516 mw517 mw518 pd_X11_in rfl (by decide) rfl (Nat.le_of_ble_eq_true rfl) sl_0 st_0 dX11_isB_88 ?_
                      show J X B (E, κ35) 91 [] [.inl (.int r37)]
                      cases h
                      exact hE _ _ dX11_isB_91
                    · replace h := (if_neg hc34).symm.trans h
                      by_cases hc38 : a0 = 10
                      · replace h := (if_pos hc38).symm.trans h
                        refine J_tabIn O.mo (tgt := 100) 10 hc38 dX11_isB_1 (by decide) (by decide) rfl (by decide) ?_
                        refine J_iload_n O.mo dX11_isB_100 1 rfl ?_
                        refine J_iconst O.mo (v := 0) dX11_isB_101 (by decide) ?_
                        refine J_iconst O.mo (v := 1) dX11_isB_102 (by decide) ?_
                        refine J_sub [] rfl ?_
                        obtain ⟨κ39, r41, hq40, h⟩ := bd_some h
                        refine J_callS O hKP (as := [.inl (.int a1), .inl (.int 0), .inl (.int 1)]) (rest := []) (r := (some (.inl (.int r41)))) (c_X11_in hfl hq40) rfl mw515 mw516 mw517 mw518 pd_X11_in rfl (by decide) rfl (Nat.le_of_ble_eq_true rfl) sl_0 st_0 dX11_isB_103 ?_
                        show J X B (E, κ39) 106 [] [.inl (.int r41)]
                        cases h
                        exact hE _ _ dX11_isB_106
                      · replace h := (if_neg hc38).symm.trans h
                        by_cases hc42 : a0 = 11
                        · replace h := (if_pos hc42).symm.trans h
                          refine J_tabIn O.mo (tgt := 122) 11 hc42 dX11_isB_1 (by decide) (by decide) rfl (by decide) ?_
                          refine J_iconst O.mo (v := 1) dX11_isB_122 (by decide) ?_
                          cases h
                          exact hE _ _ dX11_isB_123
                        · replace h := (if_neg hc42).symm.trans h
                          by_cases hc43 : a0 = 12
                          · replace h := (if_pos hc43).symm.trans h
                            refine J_tabIn O.mo (tgt := 114) 12 hc43 dX11_isB_1 (by decide) (by decide) rfl (by decide) ?_
                            refine J_iload_n O.mo dX11_isB_114 1 rfl ?_
                            refine J_iconst O.mo (v := 0) dX11_isB_115 (by decide) ?_
                            refine J_bipush O.mo (v := 7) dX11_isB_116 (by decide) ?_
                            refine J_sub [] rfl ?_
                            obtain ⟨κ44, r46, hq45, h⟩ := bd_some h
                            refine J_callS O hKP (as := [.inl (.int a1), .inl (.int 0), .inl (.int 7)]) (rest := []) (r := (some (.inl (.int r46)))) (c_X11_in hfl hq45) rfl mw515 mw516 mw517 mw518 pd_X11_in rfl (by decide) rfl (Nat.le_of_ble_eq_true rfl) sl_0 st_0 dX11_isB_118 ?_
                            show J X B (E, κ44) 121 [] [.inl (.int r46)]
                            cases h
                            exact hE _ _ dX11_isB_121
                          · replace h := (if_neg hc43).symm.trans h
                            refine J_tabOut O.mo (tgt := 122) 13 (by decide) (by decide) (tb_s (tb_s (tb_s (tb_s (tb_s (tb_s (tb_s (tb_s (tb_s (tb_s (tb_s (tb_s (tb_s tb_0 (fun z => hc1 (z.trans (by decide)))) (fun z => hc5 (z.trans (by decide)))) (fun z => hc9 (z.trans (by decide)))) (fun z => hc13 (z.trans (by decide)))) (fun z => hc17 (z.trans (by decide)))) (fun z => hc21 (z.trans (by decide)))) (fun z => hc25 (z.trans (by decide)))) (fun z => hc29 (z.trans (by decide)))) (fun z => hc33 (z.trans (by decide)))) (fun z => hc34 (z.trans (by decide)))) (fun z => hc38 (z.trans (by decide)))) (fun z => hc42 (z.trans (by decide)))) (fun z => hc43 (z.trans (by decide)))) dX11_isB_1 (by decide) ?_
                            refine J_iconst O.mo (v := 1) dX11_isB_122 (by decide) ?_
                            cases h
                            exact hE _ _ dX11_isB_123
theorem c_X11_isB {l : Launch} (hfl : l.stackTraces = false) {E : EE} {κ κ' : K} {a0 : Int32} {a1 : Int32} {rr : Int32} (h : f_X11_isB E κ a0 a1 = some (κ', rr)) : Con l yX11_isB cX11_isB 2 (some .boolean) 2 22 [.inl (.int a0), .inl (.int a1)] (E, κ) (E, κ') (some (.inl (.int rr))) := by
  unfold f_X11_isB at h
  obtain ⟨κ1, x1, q1, q2⟩ := bd_some h
  obtain ⟨hb, q3⟩ := gd_some q2
  cases q3
  exact Con_of hfl (by decide +kernel) (Nat.le_of_ble_eq_true rfl) rfl ⟨_, rfl, nar_b hb⟩ (fun X B g O hKP hmL hE => w_X11_isB_e hfl O hKP hmL hE _ _ _ q1)
def f_X11_instruct_b90 (E : EE) (κ : K) (x1 : Int32) (x2 : Int32) (x3 : Int32) (x4 : Int32) (xs0 : Int32) : Option (K × Int32) := bd (f_X11_refused E κ xs0) fun κ12 r14 => if r14 = 0 then gd (¬ (x1 < 0 ∨ 5 ≤ x1.toNatClampNeg)) (nm ((72 * x1) + (3 * ((kV κ12 5 0 14) x1.toNatClampNeg))) fun y17 => gd (¬ (y17 < 0 ∨ 360 ≤ y17.toNatClampNeg)) (nm (setV κ12 5 0 13 y17.toNatClampNeg x2) fun κ19 => gd (¬ ((y17 + 1) < 0 ∨ 360 ≤ (y17 + 1).toNatClampNeg)) (nm (setV κ19 5 0 13 (y17 + 1).toNatClampNeg x3) fun κ21 => gd (¬ ((y17 + 2) < 0 ∨ 360 ≤ (y17 + 2).toNatClampNeg)) (nm (setV κ21 5 0 13 (y17 + 2).toNatClampNeg x4) fun κ23 => gd (¬ (x1 < 0 ∨ 5 ≤ x1.toNatClampNeg)) (gd (¬ (x1 < 0 ∨ 5 ≤ x1.toNatClampNeg)) (nm (setV κ23 5 0 14 x1.toNatClampNeg (((kV κ23 5 0 14) x1.toNatClampNeg) + 1)) fun κ26 => gd (¬ (x1 < 0 ∨ 5 ≤ x1.toNatClampNeg)) (some (κ26, ((kV κ26 5 0 14) x1.toNatClampNeg) - 1)))))))) else some (κ12, 0)
def f_X11_instruct_b85 (E : EE) (κ : K) (x1 : Int32) (x2 : Int32) (x3 : Int32) (x4 : Int32) : Option (K × Int32) := f_X11_instruct_b90 E κ x1 x2 x3 x4 3
def f_X11_instruct_b32 (E : EE) (κ : K) (x1 : Int32) (x2 : Int32) (x3 : Int32) (x4 : Int32) (xs0 : Int32) : Option (K × Int32) := bd (f_X11_isGuest E κ x1) fun κ5 r7 => if r7 = 0 then f_X11_instruct_b90 E κ5 x1 x2 x3 x4 1 else if xs0 = 0 then f_X11_instruct_b90 E κ5 x1 x2 x3 x4 2 else gd (¬ (x1 < 0 ∨ 5 ≤ x1.toNatClampNeg)) (if (kV κ5 5 0 14) x1.toNatClampNeg = 24 then f_X11_instruct_b85 E κ5 x1 x2 x3 x4 else gd (¬ (x1 < 0 ∨ 5 ≤ x1.toNatClampNeg)) (if 0 < (kV κ5 5 0 24) x1.toNatClampNeg then f_X11_instruct_b85 E κ5 x1 x2 x3 x4 else gd (¬ (x1 < 0 ∨ 5 ≤ x1.toNatClampNeg)) (if (kV κ5 5 0 19) x1.toNatClampNeg = 0 then f_X11_instruct_b90 E κ5 x1 x2 x3 x4 0 else f_X11_instruct_b85 E κ5 x1 x2 x3 x4)))
def f_X11_instruct_b31 (E : EE) (κ : K) (x1 : Int32) (x2 : Int32) (x3 : Int32) (x4 : Int32) : Option (K × Int32) := f_X11_instruct_b32 E κ x1 x2 x3 x4 0
def f_X11_instruct (E : EE) (κ : K) (a1 : Int32) (a2 : Int32) (a3 : Int32) (a4 : Int32) : Option (K × Int32) := bd (f_X11_in E κ a2 0 13) fun κ1 r3 => if r3 = 0 then f_X11_instruct_b31 E κ1 a1 a2 a3 a4 else bd (f_X11_isA E κ1 a2 a3) fun κ32 r34 => if r34 = 0 then f_X11_instruct_b31 E κ32 a1 a2 a3 a4 else bd (f_X11_isB E κ32 a2 a4) fun κ36 r38 => if r38 = 0 then f_X11_instruct_b31 E κ36 a1 a2 a3 a4 else f_X11_instruct_b32 E κ36 a1 a2 a3 a4 1
set_option maxHeartbeats 4000000 in
set_option maxRecDepth 100000 in
theorem w_X11_instruct_b90 {l0 : Launch} (hfl : l0.stackTraces = false) {X : MX} {B : BX (EE × K)} {g : GP} {E : EE} {κ' : K} {rr : Int32} (O : CK l0 X B g cX11_instruct RX11 3 43) (hKP : KPok B E) (hmL : B.2.2.2.1 = 7) (hE : ∀ (pc : Nat) (lv : List (Nat × AV)), decode cX11_instruct pc = .ok (.ireturn, 1) → J X B (E, κ') pc lv [.inl (.int rr)]) (h0 : PC 11 E 5 0 0) : ∀ (κ : K) (x1 : Int32) (x2 : Int32) (x3 : Int32) (x4 : Int32) (xs0 : Int32), f_X11_instruct_b90 E κ x1 x2 x3 x4 xs0 = some (κ', rr) → J X B (E, κ) 90 [(0, .inr (some (5, 0, 0))), (1, .inl (.int x1)), (2, .inl (.int x2)), (3, .inl (.int x3)), (4, .inl (.int x4))] [.inl (.int xs0), .inr (some (5, 0, 0))] := by
  intro κ x1 x2 x3 x4 xs0 h
  unfold f_X11_instruct_b90 at h
  obtain ⟨κ12, r14, hq13, h⟩ := bd_some h
  refine J_callV O hKP (as := [.inl (.int xs0)]) (rest := []) (r := (some (.inl (.int r14)))) (c_X11_refused hfl h0 hq13) rfl (kd0 := 11) (k11_0 h0) (l11_0 h0) (T := TX11) (N := 42) rfl (by decide) mw605 mw606 mw607 mw517 mw608 pd_X11_refused rfl (by decide) rfl (Nat.le_of_ble_eq_true rfl) (sl_p (s11_0 h0) (sl_v (sl_v (sl_v (sl_v sl_0))))) st_0 dX11_instruct_90 ?_
  show J X B (E, κ12) 93 [(0, .inr (some (5, 0, 0))), (1, .inl (.int x1)), (2, .inl (.int x2)), (3, .inl (.int x3)), (4, .inl (.int x4))] [.inl (.int r14)]
  refine J_if_eq O.mo (tgt := 98) dX11_instruct_93 (by decide) (fun hc15 => ?_) (fun hc15 => ?_)
  · replace h := (if_pos hc15).symm.trans h
    refine J_bipush O.mo (v := 72) dX11_instruct_98 (by decide) ?_
    refine J_iload_n O.mo dX11_instruct_100 1 rfl ?_
    refine J_imul O.mo dX11_instruct_101 ?_
    refine J_iconst O.mo (v := 3) dX11_instruct_102 (by decide) ?_
    refine J_aload_n O.mo dX11_instruct_103 0 rfl ?_
    refine J_getF O.co (kd0 := 11) (k11_0 h0) (l11_0 h0) (C := RX11) (T := TX11) (N := 42) rfl (by decide) rfl in_X11 14 (by decide) (v := .inr (some (5, 0, 14))) rfl mw557 rfl dX11_instruct_104 ?_
    refine J_iload_n O.mo dX11_instruct_107 1 rfl ?_
    obtain ⟨hg16, h⟩ := gd_some h
    refine J_iald O.co (g := (kV κ12 5 0 14)) (ct_20n (l11_14 h0) (k11_14 h0) (n11_14 h0)) hg16 dX11_instruct_108 ?_
    refine J_imul O.mo dX11_instruct_109 ?_
    refine J_iadd O.mo dX11_instruct_110 ?_
    refine J_istore O.mo (lv' := [(0, .inr (some (5, 0, 0))), (1, .inl (.int x1)), (2, .inl (.int x2)), (3, .inl (.int x3)), (4, .inl (.int x4))]) dX11_instruct_111 (by rw [hmL]; decide) rfl rfl ?_
    refine nm_some (P := fun z => J X B (E, κ12) 113 [(6, .inl (.int z)), (0, .inr (some (5, 0, 0))), (1, .inl (.int x1)), (2, .inl (.int x2)), (3, .inl (.int x3)), (4, .inl (.int x4))] []) h (fun y17 h => ?_)
    refine J_aload_n O.mo dX11_instruct_113 1 rfl ?_
    refine J_getF O.co (kd0 := 11) (k11_0 h0) (l11_0 h0) (C := RX11) (T := TX11) (N := 42) rfl (by decide) rfl in_X11 13 (by decide) (v := .inr (some (5, 0, 13))) rfl mw558 rfl dX11_instruct_114 ?_
    refine J_iload O.mo dX11_instruct_117 0 rfl ?_
    refine J_iload_n O.mo dX11_instruct_119 3 rfl ?_
    obtain ⟨hg18, h⟩ := gd_some h
    refine row_20 O (l11_13 h0) (k11_13 h0) (n11_13 h0) hg18 (x := x2) dX11_instruct_120 ?_
    refine nm_some (P := fun z => J X B (E, z) 121 [(6, .inl (.int y17)), (0, .inr (some (5, 0, 0))), (1, .inl (.int x1)), (2, .inl (.int x2)), (3, .inl (.int x3)), (4, .inl (.int x4))] []) h (fun κ19 h => ?_)
    refine J_aload_n O.mo dX11_instruct_121 1 rfl ?_
    refine J_getF O.co (kd0 := 11) (k11_0 h0) (l11_0 h0) (C := RX11) (T := TX11) (N := 42) rfl (by decide) rfl in_X11 13 (by decide) (v := .inr (some (5, 0, 13))) rfl mw558 rfl dX11_instruct_122 ?_
    refine J_iload O.mo dX11_instruct_125 0 rfl ?_
    refine J_iconst O.mo (v := 1) dX11_instruct_127 (by decide) ?_
    refine J_iadd O.mo dX11_instruct_128 ?_
    refine J_iload_n O.mo dX11_instruct_129 4 rfl ?_
    obtain ⟨hg20, h⟩ := gd_some h
    refine row_20 O (l11_13 h0) (k11_13 h0) (n11_13 h0) hg20 (x := x3) dX11_instruct_130 ?_
    refine nm_some (P := fun z => J X B (E, z) 131 [(6, .inl (.int y17)), (0, .inr (some (5, 0, 0))), (1, .inl (.int x1)), (2, .inl (.int x2)), (3, .inl (.int x3)), (4, .inl (.int x4))] []) h (fun κ21 h => ?_)
    refine J_aload_n O.mo dX11_instruct_131 1 rfl ?_
    refine J_getF O.co (kd0 := 11) (k11_0 h0) (l11_0 h0) (C := RX11) (T := TX11) (N := 42) rfl (by decide) rfl in_X11 13 (by decide) (v := .inr (some (5, 0, 13))) rfl mw558 rfl dX11_instruct_132 ?_
    refine J_iload O.mo dX11_instruct_135 0 rfl ?_
    refine J_iconst O.mo (v := 2) dX11_instruct_137 (by decide) ?_
    refine J_iadd O.mo dX11_instruct_138 ?_
    refine J_iload O.mo dX11_instruct_139 5 rfl ?_
    obtain ⟨hg22, h⟩ := gd_some h
    refine row_20 O (l11_13 h0) (k11_13 h0) (n11_13 h0) hg22 (x := x4) dX11_instruct_141 ?_
    refine nm_some (P := fun z => J X B (E, z) 142 [(6, .inl (.int y17)), (0, .inr (some (5, 0, 0))), (1, .inl (.int x1)), (2, .inl (.int x2)), (3, .inl (.int x3)), (4, .inl (.int x4))] []) h (fun κ23 h => ?_)
    refine J_aload_n O.mo dX11_instruct_142 1 rfl ?_
    refine J_getF O.co (kd0 := 11) (k11_0 h0) (l11_0 h0) (C := RX11) (T := TX11) (N := 42) rfl (by decide) rfl in_X11 14 (by decide) (v := .inr (some (5, 0, 14))) rfl mw557 rfl dX11_instruct_143 ?_
    refine J_iload_n O.mo dX11_instruct_146 2 rfl ?_
    refine J_dup2 O.mo dX11_instruct_147 rfl rfl ?_
    obtain ⟨hg24, h⟩ := gd_some h
    refine J_iald O.co (g := (kV κ23 5 0 14)) (ct_20n (l11_14 h0) (k11_14 h0) (n11_14 h0)) hg24 dX11_instruct_148 ?_
    refine J_iconst O.mo (v := 1) dX11_instruct_149 (by decide) ?_
    refine J_iadd O.mo dX11_instruct_150 ?_
    obtain ⟨hg25, h⟩ := gd_some h
    refine row_20 O (l11_14 h0) (k11_14 h0) (n11_14 h0) hg25 (x := (((kV κ23 5 0 14) x1.toNatClampNeg) + 1)) dX11_instruct_151 ?_
    refine nm_some (P := fun z => J X B (E, z) 152 [(6, .inl (.int y17)), (0, .inr (some (5, 0, 0))), (1, .inl (.int x1)), (2, .inl (.int x2)), (3, .inl (.int x3)), (4, .inl (.int x4))] []) h (fun κ26 h => ?_)
    refine J_aload_n O.mo dX11_instruct_152 1 rfl ?_
    refine J_getF O.co (kd0 := 11) (k11_0 h0) (l11_0 h0) (C := RX11) (T := TX11) (N := 42) rfl (by decide) rfl in_X11 14 (by decide) (v := .inr (some (5, 0, 14))) rfl mw557 rfl dX11_instruct_153 ?_
    refine J_iload_n O.mo dX11_instruct_156 2 rfl ?_
    obtain ⟨hg27, h⟩ := gd_some h
    refine J_iald O.co (g := (kV κ26 5 0 14)) (ct_20n (l11_14 h0) (k11_14 h0) (n11_14 h0)) hg27 dX11_instruct_157 ?_
    refine J_iconst O.mo (v := 1) dX11_instruct_158 (by decide) ?_
    refine J_isub O.mo dX11_instruct_159 ?_
    cases h
    exact hE _ _ dX11_instruct_160
  · replace h := (if_neg hc15).symm.trans h
    refine J_iconst O.mo (v := 0) dX11_instruct_96 (by decide) ?_
    cases h
    exact hE _ _ dX11_instruct_97
set_option maxHeartbeats 4000000 in
set_option maxRecDepth 100000 in
theorem w_X11_instruct_b85 {l0 : Launch} (hfl : l0.stackTraces = false) {X : MX} {B : BX (EE × K)} {g : GP} {E : EE} {κ' : K} {rr : Int32} (O : CK l0 X B g cX11_instruct RX11 3 43) (hKP : KPok B E) (hmL : B.2.2.2.1 = 7) (hE : ∀ (pc : Nat) (lv : List (Nat × AV)), decode cX11_instruct pc = .ok (.ireturn, 1) → J X B (E, κ') pc lv [.inl (.int rr)]) (h0 : PC 11 E 5 0 0) : ∀ (κ : K) (x1 : Int32) (x2 : Int32) (x3 : Int32) (x4 : Int32), f_X11_instruct_b85 E κ x1 x2 x3 x4 = some (κ', rr) → J X B (E, κ) 85 [(0, .inr (some (5, 0, 0))), (1, .inl (.int x1)), (2, .inl (.int x2)), (3, .inl (.int x3)), (4, .inl (.int x4))] [.inr (some (5, 0, 0))] := by
  intro κ x1 x2 x3 x4 h
  unfold f_X11_instruct_b85 at h
  refine J_iconst O.mo (v := 3) dX11_instruct_85 (by decide) ?_
  refine J_goto O.mo (tgt := 90) dX11_instruct_86 (by decide) ?_
  exact w_X11_instruct_b90 hfl O hKP hmL hE h0 _ _ _ _ _ _ h
set_option maxHeartbeats 4000000 in
set_option maxRecDepth 100000 in
theorem w_X11_instruct_b32 {l0 : Launch} (hfl : l0.stackTraces = false) {X : MX} {B : BX (EE × K)} {g : GP} {E : EE} {κ' : K} {rr : Int32} (O : CK l0 X B g cX11_instruct RX11 3 43) (hKP : KPok B E) (hmL : B.2.2.2.1 = 7) (hE : ∀ (pc : Nat) (lv : List (Nat × AV)), decode cX11_instruct pc = .ok (.ireturn, 1) → J X B (E, κ') pc lv [.inl (.int rr)]) (h0 : PC 11 E 5 0 0) : ∀ (κ : K) (x1 : Int32) (x2 : Int32) (x3 : Int32) (x4 : Int32) (xs0 : Int32), f_X11_instruct_b32 E κ x1 x2 x3 x4 xs0 = some (κ', rr) → J X B (E, κ) 32 [(0, .inr (some (5, 0, 0))), (1, .inl (.int x1)), (2, .inl (.int x2)), (3, .inl (.int x3)), (4, .inl (.int x4))] [.inl (.int xs0)] := by
  intro κ x1 x2 x3 x4 xs0 h
  unfold f_X11_instruct_b32 at h
  refine J_istore O.mo (lv' := [(0, .inr (some (5, 0, 0))), (1, .inl (.int x1)), (2, .inl (.int x2)), (3, .inl (.int x3)), (4, .inl (.int x4))]) dX11_instruct_32 (by rw [hmL]; decide) rfl rfl ?_
  refine J_aload_n O.mo dX11_instruct_34 1 rfl ?_
  refine J_aload_n O.mo dX11_instruct_35 1 rfl ?_
  refine J_iload_n O.mo dX11_instruct_36 2 rfl ?_
  obtain ⟨κ5, r7, hq6, h⟩ := bd_some h
  refine J_callV O hKP (as := [.inl (.int x1)]) (rest := [.inr (some (5, 0, 0))]) (r := (some (.inl (.int r7)))) (c_X11_isGuest hfl h0 hq6) rfl (kd0 := 11) (k11_0 h0) (l11_0 h0) (T := TX11) (N := 42) rfl (by decide) mw611 mw612 mw613 mw517 mw614 pd_X11_isGuest rfl (by decide) rfl (Nat.le_of_ble_eq_true rfl) (sl_v (sl_p (s11_0 h0) (sl_v (sl_v (sl_v (sl_v sl_0)))))) (st_p (s11_0 h0) st_0) dX11_instruct_37 ?_
  show J X B (E, κ5) 40 [(5, .inl (.int xs0)), (0, .inr (some (5, 0, 0))), (1, .inl (.int x1)), (2, .inl (.int x2)), (3, .inl (.int x3)), (4, .inl (.int x4))] [.inl (.int r7), .inr (some (5, 0, 0))]
  refine J_if_ne O.mo (tgt := 47) dX11_instruct_40 (by decide) (fun hc8 => ?_) (fun hc8 => ?_)
  · replace h := (if_neg hc8).symm.trans h
    refine J_iload O.mo dX11_instruct_47 0 rfl ?_
    refine J_if_ne O.mo (tgt := 56) dX11_instruct_49 (by decide) (fun hc9 => ?_) (fun hc9 => ?_)
    · replace h := (if_neg hc9).symm.trans h
      refine J_aload_n O.mo dX11_instruct_56 1 rfl ?_
      refine J_getF O.co (kd0 := 11) (k11_0 h0) (l11_0 h0) (C := RX11) (T := TX11) (N := 42) rfl (by decide) rfl in_X11 14 (by decide) (v := .inr (some (5, 0, 14))) rfl mw557 rfl dX11_instruct_57 ?_
      refine J_iload_n O.mo dX11_instruct_60 2 rfl ?_
      obtain ⟨hg10, h⟩ := gd_some h
      refine J_iald O.co (g := (kV κ5 5 0 14)) (ct_20n (l11_14 h0) (k11_14 h0) (n11_14 h0)) hg10 dX11_instruct_61 ?_
      refine J_bipush O.mo (v := 24) dX11_instruct_62 (by decide) ?_
      refine J_icmp_eq O.mo (tgt := 85) dX11_instruct_64 (by decide) (fun hc11 => ?_) (fun hc11 => ?_)
      · replace h := (if_pos hc11).symm.trans h
        refine J_sub [1, 2, 3, 4, 5] rfl ?_
        exact w_X11_instruct_b85 hfl O hKP hmL hE h0 _ _ _ _ _ h
      · replace h := (if_neg hc11).symm.trans h
        refine J_aload_n O.mo dX11_instruct_67 1 rfl ?_
        refine J_getF O.co (kd0 := 11) (k11_0 h0) (l11_0 h0) (C := RX11) (T := TX11) (N := 42) rfl (by decide) rfl in_X11 24 (by decide) (v := .inr (some (5, 0, 24))) rfl mw556 rfl dX11_instruct_68 ?_
        refine J_iload_n O.mo dX11_instruct_71 2 rfl ?_
        obtain ⟨hg28, h⟩ := gd_some h
        refine J_iald O.co (g := (kV κ5 5 0 24)) (ct_20n (l11_24 h0) (k11_24 h0) (n11_24 h0)) hg28 dX11_instruct_72 ?_
        refine J_if_gt O.mo (tgt := 85) dX11_instruct_73 (by decide) (fun hc29 => ?_) (fun hc29 => ?_)
        · replace h := (if_pos hc29).symm.trans h
          refine J_sub [1, 2, 3, 4, 5] rfl ?_
          exact w_X11_instruct_b85 hfl O hKP hmL hE h0 _ _ _ _ _ h
        · replace h := (if_neg hc29).symm.trans h
          refine J_aload_n O.mo dX11_instruct_76 1 rfl ?_
          refine J_getF O.co (kd0 := 11) (k11_0 h0) (l11_0 h0) (C := RX11) (T := TX11) (N := 42) rfl (by decide) rfl in_X11 19 (by decide) (v := .inr (some (5, 0, 19))) rfl mw615 rfl dX11_instruct_77 ?_
          refine J_iload_n O.mo dX11_instruct_80 2 rfl ?_
          obtain ⟨hg30, h⟩ := gd_some h
          refine J_bald O.co (g := (kV κ5 5 0 19)) (ct_22n (l11_19 h0) (k11_19 h0) (n11_19 h0)) hg30 dX11_instruct_81 ?_
          refine J_if_eq O.mo (tgt := 89) dX11_instruct_82 (by decide) (fun hc31 => ?_) (fun hc31 => ?_)
          · replace h := (if_pos hc31).symm.trans h
            refine J_iconst O.mo (v := 0) dX11_instruct_89 (by decide) ?_
            refine J_sub [1, 2, 3, 4, 5] rfl ?_
            exact w_X11_instruct_b90 hfl O hKP hmL hE h0 _ _ _ _ _ _ h
          · replace h := (if_neg hc31).symm.trans h
            refine J_sub [1, 2, 3, 4, 5] rfl ?_
            exact w_X11_instruct_b85 hfl O hKP hmL hE h0 _ _ _ _ _ h
    · replace h := (if_pos hc9).symm.trans h
      refine J_iconst O.mo (v := 2) dX11_instruct_52 (by decide) ?_
      refine J_goto O.mo (tgt := 90) dX11_instruct_53 (by decide) ?_
      refine J_sub [1, 2, 3, 4, 5] rfl ?_
      exact w_X11_instruct_b90 hfl O hKP hmL hE h0 _ _ _ _ _ _ h
  · replace h := (if_pos hc8).symm.trans h
    refine J_iconst O.mo (v := 1) dX11_instruct_43 (by decide) ?_
    refine J_goto O.mo (tgt := 90) dX11_instruct_44 (by decide) ?_
    refine J_sub [1, 2, 3, 4, 5] rfl ?_
    exact w_X11_instruct_b90 hfl O hKP hmL hE h0 _ _ _ _ _ _ h
set_option maxHeartbeats 4000000 in
set_option maxRecDepth 100000 in
theorem w_X11_instruct_b31 {l0 : Launch} (hfl : l0.stackTraces = false) {X : MX} {B : BX (EE × K)} {g : GP} {E : EE} {κ' : K} {rr : Int32} (O : CK l0 X B g cX11_instruct RX11 3 43) (hKP : KPok B E) (hmL : B.2.2.2.1 = 7) (hE : ∀ (pc : Nat) (lv : List (Nat × AV)), decode cX11_instruct pc = .ok (.ireturn, 1) → J X B (E, κ') pc lv [.inl (.int rr)]) (h0 : PC 11 E 5 0 0) : ∀ (κ : K) (x1 : Int32) (x2 : Int32) (x3 : Int32) (x4 : Int32), f_X11_instruct_b31 E κ x1 x2 x3 x4 = some (κ', rr) → J X B (E, κ) 31 [(0, .inr (some (5, 0, 0))), (1, .inl (.int x1)), (2, .inl (.int x2)), (3, .inl (.int x3)), (4, .inl (.int x4))] [] := by
  intro κ x1 x2 x3 x4 h
  unfold f_X11_instruct_b31 at h
  refine J_iconst O.mo (v := 0) dX11_instruct_31 (by decide) ?_
  exact w_X11_instruct_b32 hfl O hKP hmL hE h0 _ _ _ _ _ _ h
set_option maxHeartbeats 4000000 in
set_option maxRecDepth 100000 in
theorem w_X11_instruct {l0 : Launch} (hfl : l0.stackTraces = false) {X : MX} {B : BX (EE × K)} {g : GP} {E : EE} {κ' : K} {rr : Int32} (O : CK l0 X B g cX11_instruct RX11 3 43) (hKP : KPok B E) (hmL : B.2.2.2.1 = 7) (hE : ∀ (pc : Nat) (lv : List (Nat × AV)), decode cX11_instruct pc = .ok (.ireturn, 1) → J X B (E, κ') pc lv [.inl (.int rr)]) (h0 : PC 11 E 5 0 0) : ∀ (κ : K) (a1 : Int32) (a2 : Int32) (a3 : Int32) (a4 : Int32), f_X11_instruct E κ a1 a2 a3 a4 = some (κ', rr) → J X B (E, κ) 0 [(0, .inr (some (5, 0, 0))), (1, .inl (.int a1)), (2, .inl (.int a2)), (3, .inl (.int a3)), (4, .inl (.int a4))] [] := by
  intro κ a1 a2 a3 a4 h
  unfold f_X11_instruct at h
  refine J_iload_n O.mo dX11_instruct_0 2 rfl ?_
  refine J_iconst O.mo (v := 0) dX11_instruct_1 (by decide) ?_
  refine J_bipush O.mo (v := 13) dX11_instruct_2 (by decide) ?_
  obtain ⟨κ1, r3, hq2, h⟩ := bd_some h
  refine J_callS O hKP (as := [.inl (.int a2), .inl (.int 0), .inl (.int 13)]) (rest := []) (r := (some (.inl (.int r3)))) (c_X11_in hfl hq2) rfl mw515 mw516 mw517 mw518 pd_X11_in rfl (by decide) rfl (Nat.le_of_ble_eq_true rfl) (sl_p (s11_0 h0) (sl_v (sl_v (sl_v (sl_v sl_0))))) st_0 dX11_instruct_4 ?_
  show J X B (E, κ1) 7 [(0, .inr (some (5, 0, 0))), (1, .inl (.int a1)), (2, .inl (.int a2)), (3, .inl (.int a3)), (4, .inl (.int a4))] [.inl (.int r3)]
  refine J_if_eq O.mo (tgt := 31) dX11_instruct_7 (by decide) (fun hc4 => ?_) (fun hc4 => ?_)
  · replace h := (if_pos hc4).symm.trans h
    exact w_X11_instruct_b31 hfl O hKP hmL hE h0 _ _ _ _ _ h
  · replace h := (if_neg hc4).symm.trans h
    refine J_iload_n O.mo dX11_instruct_10 2 rfl ?_
    refine J_iload_n O.mo dX11_instruct_11 3 rfl ?_
    obtain ⟨κ32, r34, hq33, h⟩ := bd_some h
    refine J_callS O hKP (as := [.inl (.int a2), .inl (.int a3)]) (rest := []) (r := (some (.inl (.int r34)))) (c_X11_isA hfl hq33) rfl mw616 mw617 mw517 mw618 pd_X11_isA rfl (by decide) rfl (Nat.le_of_ble_eq_true rfl) (sl_p (s11_0 h0) (sl_v (sl_v (sl_v (sl_v sl_0))))) st_0 dX11_instruct_12 ?_
    show J X B (E, κ32) 15 [(0, .inr (some (5, 0, 0))), (1, .inl (.int a1)), (2, .inl (.int a2)), (3, .inl (.int a3)), (4, .inl (.int a4))] [.inl (.int r34)]
    refine J_if_eq O.mo (tgt := 31) dX11_instruct_15 (by decide) (fun hc35 => ?_) (fun hc35 => ?_)
    · replace h := (if_pos hc35).symm.trans h
      exact w_X11_instruct_b31 hfl O hKP hmL hE h0 _ _ _ _ _ h
    · replace h := (if_neg hc35).symm.trans h
      refine J_iload_n O.mo dX11_instruct_18 2 rfl ?_
      refine J_iload O.mo dX11_instruct_19 4 rfl ?_
      obtain ⟨κ36, r38, hq37, h⟩ := bd_some h
      refine J_callS O hKP (as := [.inl (.int a2), .inl (.int a4)]) (rest := []) (r := (some (.inl (.int r38)))) (c_X11_isB hfl hq37) rfl mw619 mw620 mw517 mw621 pd_X11_isB rfl (by decide) rfl (Nat.le_of_ble_eq_true rfl) (sl_p (s11_0 h0) (sl_v (sl_v (sl_v (sl_v sl_0))))) st_0 dX11_instruct_21 ?_
      show J X B (E, κ36) 24 [(0, .inr (some (5, 0, 0))), (1, .inl (.int a1)), (2, .inl (.int a2)), (3, .inl (.int a3)), (4, .inl (.int a4))] [.inl (.int r38)]
      refine J_if_eq O.mo (tgt := 31) dX11_instruct_24 (by decide) (fun hc39 => ?_) (fun hc39 => ?_)
      · replace h := (if_pos hc39).symm.trans h
        exact w_X11_instruct_b31 hfl O hKP hmL hE h0 _ _ _ _ _ h
      · replace h := (if_neg hc39).symm.trans h
        refine J_iconst O.mo (v := 1) dX11_instruct_27 (by decide) ?_
        refine J_goto O.mo (tgt := 32) dX11_instruct_28 (by decide) ?_
        exact w_X11_instruct_b32 hfl O hKP hmL hE h0 _ _ _ _ _ _ h
theorem c_X11_instruct {l : Launch} (hfl : l.stackTraces = false) {E : EE} {κ κ' : K} {a1 : Int32} {a2 : Int32} {a3 : Int32} {a4 : Int32} (h0 : PC 11 E 5 0 0) {rr : Int32} (h : f_X11_instruct E κ a1 a2 a3 a4 = some (κ', rr)) : Con l yX11_instruct cX11_instruct 7 (some .int) 3 43 [.inr (some (5, 0, 0)), .inl (.int a1), .inl (.int a2), .inl (.int a3), .inl (.int a4)] (E, κ) (E, κ') (some (.inl (.int rr))) := by
  exact Con_of hfl (by decide +kernel) (Nat.le_of_ble_eq_true rfl) rfl ⟨_, rfl, rfl⟩ (fun X B g O hKP hmL hE => w_X11_instruct hfl O hKP hmL hE h0 _ _ _ _ _ h)
def f_X11_pause_b14 (E : EE) (κ : K) (x1 : Int32) (x2 : Int32) (xs0 : Int32) : Option (K × Int32) := bd (f_X11_refused E κ xs0) fun κ5 r7 => if r7 = 0 then gd (¬ (x1 < 0 ∨ 5 ≤ x1.toNatClampNeg)) (nm ((kV κ5 5 0 18) x1.toNatClampNeg) fun y10 => gd (¬ (x1 < 0 ∨ 5 ≤ x1.toNatClampNeg)) (gd (x2 = 0 ∨ x2 = 1) (nm (setV κ5 5 0 18 x1.toNatClampNeg x2) fun κ12 => some (κ12, y10)))) else some (κ5, 0)
def f_X11_pause_e (E : EE) (κ : K) (a1 : Int32) (a2 : Int32) : Option (K × Int32) := bd (f_X11_isGuest E κ a1) fun κ1 r3 => if r3 = 0 then f_X11_pause_b14 E κ1 a1 a2 1 else f_X11_pause_b14 E κ1 a1 a2 0
def f_X11_pause (E : EE) (κ : K) (a1 : Int32) (a2 : Int32) : Option (K × Int32) := bd (f_X11_pause_e E κ a1 a2) fun κ x => gd (x = 0 ∨ x = 1) (some (κ, x))
set_option maxHeartbeats 4000000 in
set_option maxRecDepth 100000 in
theorem w_X11_pause_b14 {l0 : Launch} (hfl : l0.stackTraces = false) {X : MX} {B : BX (EE × K)} {g : GP} {E : EE} {κ' : K} {rr : Int32} (O : CK l0 X B g cX11_pause RX11 3 43) (hKP : KPok B E) (hmL : B.2.2.2.1 = 4) (hE : ∀ (pc : Nat) (lv : List (Nat × AV)), decode cX11_pause pc = .ok (.ireturn, 1) → J X B (E, κ') pc lv [.inl (.int rr)]) (h0 : PC 11 E 5 0 0) : ∀ (κ : K) (x1 : Int32) (x2 : Int32) (xs0 : Int32), f_X11_pause_b14 E κ x1 x2 xs0 = some (κ', rr) → J X B (E, κ) 14 [(0, .inr (some (5, 0, 0))), (1, .inl (.int x1)), (2, .inl (.int x2))] [.inl (.int xs0), .inr (some (5, 0, 0))] := by
  intro κ x1 x2 xs0 h
  unfold f_X11_pause_b14 at h
  obtain ⟨κ5, r7, hq6, h⟩ := bd_some h
  refine J_callV O hKP (as := [.inl (.int xs0)]) (rest := []) (r := (some (.inl (.int r7)))) (c_X11_refused hfl h0 hq6) rfl (kd0 := 11) (k11_0 h0) (l11_0 h0) (T := TX11) (N := 42) rfl (by decide) mw605 mw606 mw607 mw517 mw608 pd_X11_refused rfl (by decide) rfl (Nat.le_of_ble_eq_true rfl) (sl_p (s11_0 h0) (sl_v (sl_v sl_0))) st_0 dX11_pause_14 ?_
  show J X B (E, κ5) 17 [(0, .inr (some (5, 0, 0))), (1, .inl (.int x1)), (2, .inl (.int x2))] [.inl (.int r7)]
  refine J_if_eq O.mo (tgt := 22) dX11_pause_17 (by decide) (fun hc8 => ?_) (fun hc8 => ?_)
  · replace h := (if_pos hc8).symm.trans h
    refine J_aload_n O.mo dX11_pause_22 0 rfl ?_
    refine J_getF O.co (kd0 := 11) (k11_0 h0) (l11_0 h0) (C := RX11) (T := TX11) (N := 42) rfl (by decide) rfl in_X11 18 (by decide) (v := .inr (some (5, 0, 18))) rfl mw587 rfl dX11_pause_23 ?_
    refine J_iload_n O.mo dX11_pause_26 1 rfl ?_
    obtain ⟨hg9, h⟩ := gd_some h
    refine J_bald O.co (g := (kV κ5 5 0 18)) (ct_22n (l11_18 h0) (k11_18 h0) (n11_18 h0)) hg9 dX11_pause_27 ?_
    refine J_istore_n O.mo (lv' := [(0, .inr (some (5, 0, 0))), (1, .inl (.int x1)), (2, .inl (.int x2))]) dX11_pause_28 (by rw [hmL]; decide) rfl rfl ?_
    refine nm_some (P := fun z => J X B (E, κ5) 29 [(3, .inl (.int z)), (0, .inr (some (5, 0, 0))), (1, .inl (.int x1)), (2, .inl (.int x2))] []) h (fun y10 h => ?_)
    refine J_aload_n O.mo dX11_pause_29 1 rfl ?_
    refine J_getF O.co (kd0 := 11) (k11_0 h0) (l11_0 h0) (C := RX11) (T := TX11) (N := 42) rfl (by decide) rfl in_X11 18 (by decide) (v := .inr (some (5, 0, 18))) rfl mw587 rfl dX11_pause_30 ?_
    refine J_iload_n O.mo dX11_pause_33 2 rfl ?_
    refine J_iload_n O.mo dX11_pause_34 3 rfl ?_
    obtain ⟨hg11, h⟩ := gd_some h
    obtain ⟨hg13, h⟩ := gd_some h
    refine row_22 O (l11_18 h0) (k11_18 h0) (n11_18 h0) hg11 (x := x2) hg13 dX11_pause_35 ?_
    refine nm_some (P := fun z => J X B (E, z) 36 [(3, .inl (.int y10)), (0, .inr (some (5, 0, 0))), (1, .inl (.int x1)), (2, .inl (.int x2))] []) h (fun κ12 h => ?_)
    refine J_iload_n O.mo dX11_pause_36 0 rfl ?_
    cases h
    exact hE _ _ dX11_pause_37
  · replace h := (if_neg hc8).symm.trans h
    refine J_iconst O.mo (v := 0) dX11_pause_20 (by decide) ?_
    cases h
    exact hE _ _ dX11_pause_21
set_option maxHeartbeats 4000000 in
set_option maxRecDepth 100000 in
theorem w_X11_pause_e {l0 : Launch} (hfl : l0.stackTraces = false) {X : MX} {B : BX (EE × K)} {g : GP} {E : EE} {κ' : K} {rr : Int32} (O : CK l0 X B g cX11_pause RX11 3 43) (hKP : KPok B E) (hmL : B.2.2.2.1 = 4) (hE : ∀ (pc : Nat) (lv : List (Nat × AV)), decode cX11_pause pc = .ok (.ireturn, 1) → J X B (E, κ') pc lv [.inl (.int rr)]) (h0 : PC 11 E 5 0 0) : ∀ (κ : K) (a1 : Int32) (a2 : Int32), f_X11_pause_e E κ a1 a2 = some (κ', rr) → J X B (E, κ) 0 [(0, .inr (some (5, 0, 0))), (1, .inl (.int a1)), (2, .inl (.int a2))] [] := by
  intro κ a1 a2 h
  unfold f_X11_pause_e at h
  refine J_aload_n O.mo dX11_pause_0 0 rfl ?_
  refine J_aload_n O.mo dX11_pause_1 0 rfl ?_
  refine J_iload_n O.mo dX11_pause_2 1 rfl ?_
  obtain ⟨κ1, r3, hq2, h⟩ := bd_some h
  refine J_callV O hKP (as := [.inl (.int a1)]) (rest := [.inr (some (5, 0, 0))]) (r := (some (.inl (.int r3)))) (c_X11_isGuest hfl h0 hq2) rfl (kd0 := 11) (k11_0 h0) (l11_0 h0) (T := TX11) (N := 42) rfl (by decide) mw611 mw612 mw613 mw517 mw614 pd_X11_isGuest rfl (by decide) rfl (Nat.le_of_ble_eq_true rfl) (sl_p (s11_0 h0) (sl_v (sl_v sl_0))) (st_p (s11_0 h0) st_0) dX11_pause_3 ?_
  show J X B (E, κ1) 6 [(0, .inr (some (5, 0, 0))), (1, .inl (.int a1)), (2, .inl (.int a2))] [.inl (.int r3), .inr (some (5, 0, 0))]
  refine J_if_eq O.mo (tgt := 13) dX11_pause_6 (by decide) (fun hc4 => ?_) (fun hc4 => ?_)
  · replace h := (if_pos hc4).symm.trans h
    refine J_iconst O.mo (v := 1) dX11_pause_13 (by decide) ?_
    exact w_X11_pause_b14 hfl O hKP hmL hE h0 _ _ _ _ h
  · replace h := (if_neg hc4).symm.trans h
    refine J_iconst O.mo (v := 0) dX11_pause_9 (by decide) ?_
    refine J_goto O.mo (tgt := 14) dX11_pause_10 (by decide) ?_
    exact w_X11_pause_b14 hfl O hKP hmL hE h0 _ _ _ _ h
theorem c_X11_pause {l : Launch} (hfl : l.stackTraces = false) {E : EE} {κ κ' : K} {a1 : Int32} {a2 : Int32} (h0 : PC 11 E 5 0 0) {rr : Int32} (h : f_X11_pause E κ a1 a2 = some (κ', rr)) : Con l yX11_pause cX11_pause 4 (some .boolean) 3 43 [.inr (some (5, 0, 0)), .inl (.int a1), .inl (.int a2)] (E, κ) (E, κ') (some (.inl (.int rr))) := by
  unfold f_X11_pause at h
  obtain ⟨κ1, x1, q1, q2⟩ := bd_some h
  obtain ⟨hb, q3⟩ := gd_some q2
  cases q3
  exact Con_of hfl (by decide +kernel) (Nat.le_of_ble_eq_true rfl) rfl ⟨_, rfl, nar_b hb⟩ (fun X B g O hKP hmL hE => w_X11_pause_e hfl O hKP hmL hE h0 _ _ _ q1)
def f_X11_scale_b27 (E : EE) (κ : K) (x1 : Int32) (x2 : Int32) (xs0 : Int32) : Option (K × Int32) := bd (f_X11_refused E κ xs0) fun κ9 r11 => if r11 = 0 then gd (¬ (x1 < 0 ∨ 5 ≤ x1.toNatClampNeg)) (nm ((kV κ9 5 0 20) x1.toNatClampNeg) fun y14 => bd (f_X11_clock E κ9 x1) fun κ15 r17 => gd (¬ (x1 < 0 ∨ 5 ≤ x1.toNatClampNeg)) (nm (setV κ15 5 0 20 x1.toNatClampNeg x2) fun κ19 => bd (f_X11_shift E κ19 x1 r17) fun κ20 _ => some (κ20, y14))) else some (κ9, 0)
def f_X11_scale (E : EE) (κ : K) (a1 : Int32) (a2 : Int32) : Option (K × Int32) := bd (f_X11_isGuest E κ a1) fun κ1 r3 => if r3 = 0 then f_X11_scale_b27 E κ1 a1 a2 1 else bd (f_X11_in E κ1 a2 1 3) fun κ5 r7 => if r7 = 0 then f_X11_scale_b27 E κ5 a1 a2 2 else f_X11_scale_b27 E κ5 a1 a2 0
set_option maxHeartbeats 4000000 in
set_option maxRecDepth 100000 in
theorem w_X11_scale_b27 {l0 : Launch} (hfl : l0.stackTraces = false) {X : MX} {B : BX (EE × K)} {g : GP} {E : EE} {κ' : K} {rr : Int32} (O : CK l0 X B g cX11_scale RX11 3 43) (hKP : KPok B E) (hmL : B.2.2.2.1 = 5) (hE : ∀ (pc : Nat) (lv : List (Nat × AV)), decode cX11_scale pc = .ok (.ireturn, 1) → J X B (E, κ') pc lv [.inl (.int rr)]) (h0 : PC 11 E 5 0 0) : ∀ (κ : K) (x1 : Int32) (x2 : Int32) (xs0 : Int32), f_X11_scale_b27 E κ x1 x2 xs0 = some (κ', rr) → J X B (E, κ) 27 [(0, .inr (some (5, 0, 0))), (1, .inl (.int x1)), (2, .inl (.int x2))] [.inl (.int xs0), .inr (some (5, 0, 0))] := by
  intro κ x1 x2 xs0 h
  unfold f_X11_scale_b27 at h
  obtain ⟨κ9, r11, hq10, h⟩ := bd_some h
  refine J_callV O hKP (as := [.inl (.int xs0)]) (rest := []) (r := (some (.inl (.int r11)))) (c_X11_refused hfl h0 hq10) rfl (kd0 := 11) (k11_0 h0) (l11_0 h0) (T := TX11) (N := 42) rfl (by decide) mw605 mw606 mw607 mw517 mw608 pd_X11_refused rfl (by decide) rfl (Nat.le_of_ble_eq_true rfl) (sl_p (s11_0 h0) (sl_v (sl_v sl_0))) st_0 dX11_scale_27 ?_
  show J X B (E, κ9) 30 [(0, .inr (some (5, 0, 0))), (1, .inl (.int x1)), (2, .inl (.int x2))] [.inl (.int r11)]
  refine J_if_eq O.mo (tgt := 35) dX11_scale_30 (by decide) (fun hc12 => ?_) (fun hc12 => ?_)
  · replace h := (if_pos hc12).symm.trans h
    refine J_aload_n O.mo dX11_scale_35 0 rfl ?_
    refine J_getF O.co (kd0 := 11) (k11_0 h0) (l11_0 h0) (C := RX11) (T := TX11) (N := 42) rfl (by decide) rfl in_X11 20 (by decide) (v := .inr (some (5, 0, 20))) rfl mw521 rfl dX11_scale_36 ?_
    refine J_iload_n O.mo dX11_scale_39 1 rfl ?_
    obtain ⟨hg13, h⟩ := gd_some h
    refine J_iald O.co (g := (kV κ9 5 0 20)) (ct_20n (l11_20 h0) (k11_20 h0) (n11_20 h0)) hg13 dX11_scale_40 ?_
    refine J_istore_n O.mo (lv' := [(0, .inr (some (5, 0, 0))), (1, .inl (.int x1)), (2, .inl (.int x2))]) dX11_scale_41 (by rw [hmL]; decide) rfl rfl ?_
    refine nm_some (P := fun z => J X B (E, κ9) 42 [(3, .inl (.int z)), (0, .inr (some (5, 0, 0))), (1, .inl (.int x1)), (2, .inl (.int x2))] []) h (fun y14 h => ?_)
    refine J_aload_n O.mo dX11_scale_42 1 rfl ?_
    refine J_iload_n O.mo dX11_scale_43 2 rfl ?_
    obtain ⟨κ15, r17, hq16, h⟩ := bd_some h
    refine J_callV O hKP (as := [.inl (.int x1)]) (rest := []) (r := (some (.inl (.int r17)))) (c_X11_clock hfl h0 hq16) rfl (kd0 := 11) (k11_0 h0) (l11_0 h0) (T := TX11) (N := 42) rfl (by decide) mw571 mw572 mw573 mw517 mw574 pd_X11_clock rfl (by decide) rfl (Nat.le_of_ble_eq_true rfl) (sl_v (sl_p (s11_0 h0) (sl_v (sl_v sl_0)))) st_0 dX11_scale_44 ?_
    show J X B (E, κ15) 47 [(3, .inl (.int y14)), (0, .inr (some (5, 0, 0))), (1, .inl (.int x1)), (2, .inl (.int x2))] [.inl (.int r17)]
    refine J_istore O.mo (lv' := [(3, .inl (.int y14)), (0, .inr (some (5, 0, 0))), (1, .inl (.int x1)), (2, .inl (.int x2))]) dX11_scale_47 (by rw [hmL]; decide) rfl rfl ?_
    refine J_aload_n O.mo dX11_scale_49 2 rfl ?_
    refine J_getF O.co (kd0 := 11) (k11_0 h0) (l11_0 h0) (C := RX11) (T := TX11) (N := 42) rfl (by decide) rfl in_X11 20 (by decide) (v := .inr (some (5, 0, 20))) rfl mw521 rfl dX11_scale_50 ?_
    refine J_iload_n O.mo dX11_scale_53 3 rfl ?_
    refine J_iload_n O.mo dX11_scale_54 4 rfl ?_
    obtain ⟨hg18, h⟩ := gd_some h
    refine row_20 O (l11_20 h0) (k11_20 h0) (n11_20 h0) hg18 (x := x2) dX11_scale_55 ?_
    refine nm_some (P := fun z => J X B (E, z) 56 [(4, .inl (.int r17)), (3, .inl (.int y14)), (0, .inr (some (5, 0, 0))), (1, .inl (.int x1)), (2, .inl (.int x2))] []) h (fun κ19 h => ?_)
    refine J_aload_n O.mo dX11_scale_56 2 rfl ?_
    refine J_iload_n O.mo dX11_scale_57 3 rfl ?_
    refine J_iload O.mo dX11_scale_58 0 rfl ?_
    refine J_sub [1] rfl ?_
    obtain ⟨κ20, r22, hq21, h⟩ := bd_some h
    refine J_callV O hKP (as := [.inl (.int x1), .inl (.int r17)]) (rest := []) (r := none) (c_X11_shift hfl h0 hq21) rfl (kd0 := 11) (k11_0 h0) (l11_0 h0) (T := TX11) (N := 42) rfl (by decide) mw622 mw623 mw624 mw517 mw625 pd_X11_shift rfl (by decide) rfl (Nat.le_of_ble_eq_true rfl) (sl_v sl_0) st_0 dX11_scale_60 ?_
    show J X B (E, κ20) 63 [(3, .inl (.int y14))] []
    refine J_iload_n O.mo dX11_scale_63 0 rfl ?_
    cases h
    exact hE _ _ dX11_scale_64
  · replace h := (if_neg hc12).symm.trans h
    refine J_iconst O.mo (v := 0) dX11_scale_33 (by decide) ?_
    cases h
    exact hE _ _ dX11_scale_34
set_option maxHeartbeats 4000000 in
set_option maxRecDepth 100000 in
theorem w_X11_scale {l0 : Launch} (hfl : l0.stackTraces = false) {X : MX} {B : BX (EE × K)} {g : GP} {E : EE} {κ' : K} {rr : Int32} (O : CK l0 X B g cX11_scale RX11 3 43) (hKP : KPok B E) (hmL : B.2.2.2.1 = 5) (hE : ∀ (pc : Nat) (lv : List (Nat × AV)), decode cX11_scale pc = .ok (.ireturn, 1) → J X B (E, κ') pc lv [.inl (.int rr)]) (h0 : PC 11 E 5 0 0) : ∀ (κ : K) (a1 : Int32) (a2 : Int32), f_X11_scale E κ a1 a2 = some (κ', rr) → J X B (E, κ) 0 [(0, .inr (some (5, 0, 0))), (1, .inl (.int a1)), (2, .inl (.int a2))] [] := by
  intro κ a1 a2 h
  unfold f_X11_scale at h
  refine J_aload_n O.mo dX11_scale_0 0 rfl ?_
  refine J_aload_n O.mo dX11_scale_1 0 rfl ?_
  refine J_iload_n O.mo dX11_scale_2 1 rfl ?_
  obtain ⟨κ1, r3, hq2, h⟩ := bd_some h
  refine J_callV O hKP (as := [.inl (.int a1)]) (rest := [.inr (some (5, 0, 0))]) (r := (some (.inl (.int r3)))) (c_X11_isGuest hfl h0 hq2) rfl (kd0 := 11) (k11_0 h0) (l11_0 h0) (T := TX11) (N := 42) rfl (by decide) mw611 mw612 mw613 mw517 mw614 pd_X11_isGuest rfl (by decide) rfl (Nat.le_of_ble_eq_true rfl) (sl_p (s11_0 h0) (sl_v (sl_v sl_0))) (st_p (s11_0 h0) st_0) dX11_scale_3 ?_
  show J X B (E, κ1) 6 [(0, .inr (some (5, 0, 0))), (1, .inl (.int a1)), (2, .inl (.int a2))] [.inl (.int r3), .inr (some (5, 0, 0))]
  refine J_if_ne O.mo (tgt := 13) dX11_scale_6 (by decide) (fun hc4 => ?_) (fun hc4 => ?_)
  · replace h := (if_neg hc4).symm.trans h
    refine J_iload_n O.mo dX11_scale_13 2 rfl ?_
    refine J_iconst O.mo (v := 1) dX11_scale_14 (by decide) ?_
    refine J_iconst O.mo (v := 3) dX11_scale_15 (by decide) ?_
    obtain ⟨κ5, r7, hq6, h⟩ := bd_some h
    refine J_callS O hKP (as := [.inl (.int a2), .inl (.int 1), .inl (.int 3)]) (rest := [.inr (some (5, 0, 0))]) (r := (some (.inl (.int r7)))) (c_X11_in hfl hq6) rfl mw515 mw516 mw517 mw518 pd_X11_in rfl (by decide) rfl (Nat.le_of_ble_eq_true rfl) (sl_p (s11_0 h0) (sl_v (sl_v sl_0))) (st_p (s11_0 h0) st_0) dX11_scale_16 ?_
    show J X B (E, κ5) 19 [(0, .inr (some (5, 0, 0))), (1, .inl (.int a1)), (2, .inl (.int a2))] [.inl (.int r7), .inr (some (5, 0, 0))]
    refine J_if_ne O.mo (tgt := 26) dX11_scale_19 (by decide) (fun hc8 => ?_) (fun hc8 => ?_)
    · replace h := (if_neg hc8).symm.trans h
      refine J_iconst O.mo (v := 0) dX11_scale_26 (by decide) ?_
      exact w_X11_scale_b27 hfl O hKP hmL hE h0 _ _ _ _ h
    · replace h := (if_pos hc8).symm.trans h
      refine J_iconst O.mo (v := 2) dX11_scale_22 (by decide) ?_
      refine J_goto O.mo (tgt := 27) dX11_scale_23 (by decide) ?_
      exact w_X11_scale_b27 hfl O hKP hmL hE h0 _ _ _ _ h
  · replace h := (if_pos hc4).symm.trans h
    refine J_iconst O.mo (v := 1) dX11_scale_9 (by decide) ?_
    refine J_goto O.mo (tgt := 27) dX11_scale_10 (by decide) ?_
    exact w_X11_scale_b27 hfl O hKP hmL hE h0 _ _ _ _ h
theorem c_X11_scale {l : Launch} (hfl : l.stackTraces = false) {E : EE} {κ κ' : K} {a1 : Int32} {a2 : Int32} (h0 : PC 11 E 5 0 0) {rr : Int32} (h : f_X11_scale E κ a1 a2 = some (κ', rr)) : Con l yX11_scale cX11_scale 5 (some .int) 3 43 [.inr (some (5, 0, 0)), .inl (.int a1), .inl (.int a2)] (E, κ) (E, κ') (some (.inl (.int rr))) := by
  exact Con_of hfl (by decide +kernel) (Nat.le_of_ble_eq_true rfl) rfl ⟨_, rfl, rfl⟩ (fun X B g O hKP hmL hE => w_X11_scale hfl O hKP hmL hE h0 _ _ _ h)
def f_X11_input_b134 (E : EE) (κ : K) (x3 : Int32) : Option (K × Int32) := gd (¬ ((x3 + 54) < 0 ∨ 275 ≤ (x3 + 54).toNatClampNeg)) (some (κ, (kV κ 5 0 1) (x3 + 54).toNatClampNeg))
def f_X11_input_b50 (E : EE) (κ : K) (x1 : Int32) (x2 : Int32) (xs0 : Int32) : Option (K × Int32) := bd (f_X11_refused E κ xs0) fun κ11 r13 => if r13 = 0 then nm (55 * x1) fun y15 => gd (¬ ((y15 + 54) < 0 ∨ 275 ≤ (y15 + 54).toNatClampNeg)) (gd (¬ (((512 * x1) + ((kV κ11 5 0 1) (y15 + 54).toNatClampNeg)) < 0 ∨ 2560 ≤ ((512 * x1) + ((kV κ11 5 0 1) (y15 + 54).toNatClampNeg)).toNatClampNeg)) (nm (setV κ11 5 0 2 ((512 * x1) + ((kV κ11 5 0 1) (y15 + 54).toNatClampNeg)).toNatClampNeg x2) fun κ18 => gd (¬ ((y15 + 54) < 0 ∨ 275 ≤ (y15 + 54).toNatClampNeg)) (gd (¬ ((y15 + 54) < 0 ∨ 275 ≤ (y15 + 54).toNatClampNeg)) (nm (setV κ18 5 0 1 (y15 + 54).toNatClampNeg (((kV κ18 5 0 1) (y15 + 54).toNatClampNeg) + 1)) fun κ21 => gd (¬ (x1 < 0 ∨ 5 ≤ x1.toNatClampNeg)) (if (kV κ21 5 0 33) x1.toNatClampNeg = 0 then f_X11_input_b134 E κ21 y15 else gd (¬ (x1 < 0 ∨ 5 ≤ x1.toNatClampNeg)) (gd (¬ (((512 * x1) + ((kV κ21 5 0 6) x1.toNatClampNeg)) < 0 ∨ 2560 ≤ ((512 * x1) + ((kV κ21 5 0 6) x1.toNatClampNeg)).toNatClampNeg)) (nm (setV κ21 5 0 5 ((512 * x1) + ((kV κ21 5 0 6) x1.toNatClampNeg)).toNatClampNeg x2) fun κ27 => gd (¬ (x1 < 0 ∨ 5 ≤ x1.toNatClampNeg)) (gd (¬ (x1 < 0 ∨ 5 ≤ x1.toNatClampNeg)) (nm (setV κ27 5 0 6 x1.toNatClampNeg (((kV κ27 5 0 6) x1.toNatClampNeg) + 1)) fun κ30 => f_X11_input_b134 E κ30 y15))))))))) else some (κ11, 0)
def f_X11_input (E : EE) (κ : K) (a1 : Int32) (a2 : Int32) : Option (K × Int32) := bd (f_X11_isGuest E κ a1) fun κ1 r3 => if r3 = 0 then f_X11_input_b50 E κ1 a1 a2 1 else bd (f_X11_in E κ1 a2 0 9999) fun κ5 r7 => if r7 = 0 then f_X11_input_b50 E κ5 a1 a2 2 else gd (¬ (((55 * a1) + 54) < 0 ∨ 275 ≤ ((55 * a1) + 54).toNatClampNeg)) (if (kV κ5 5 0 1) ((55 * a1) + 54).toNatClampNeg < 20 then f_X11_input_b50 E κ5 a1 a2 0 else f_X11_input_b50 E κ5 a1 a2 3)
set_option maxHeartbeats 4000000 in
set_option maxRecDepth 100000 in
theorem w_X11_input_b134 {l0 : Launch} (hfl : l0.stackTraces = false) {X : MX} {B : BX (EE × K)} {g : GP} {E : EE} {κ' : K} {rr : Int32} (O : CK l0 X B g cX11_input RX11 3 43) (hKP : KPok B E) (hmL : B.2.2.2.1 = 4) (hE : ∀ (pc : Nat) (lv : List (Nat × AV)), decode cX11_input pc = .ok (.ireturn, 1) → J X B (E, κ') pc lv [.inl (.int rr)]) (h0 : PC 11 E 5 0 0) : ∀ (κ : K) (x3 : Int32), f_X11_input_b134 E κ x3 = some (κ', rr) → J X B (E, κ) 134 [(0, .inr (some (5, 0, 0))), (3, .inl (.int x3))] [] := by
  intro κ x3 h
  unfold f_X11_input_b134 at h
  refine J_aload_n O.mo dX11_input_134 0 rfl ?_
  refine J_getF O.co (kd0 := 11) (k11_0 h0) (l11_0 h0) (C := RX11) (T := TX11) (N := 42) rfl (by decide) rfl in_X11 1 (by decide) (v := .inr (some (5, 0, 1))) rfl mw545 rfl dX11_input_135 ?_
  refine J_iload_n O.mo dX11_input_138 1 rfl ?_
  refine J_bipush O.mo (v := 54) dX11_input_139 (by decide) ?_
  refine J_iadd O.mo dX11_input_141 ?_
  obtain ⟨hg24, h⟩ := gd_some h
  refine J_iald O.co (g := (kV κ 5 0 1)) (ct_20n (l11_1 h0) (k11_1 h0) (n11_1 h0)) hg24 dX11_input_142 ?_
  cases h
  exact hE _ _ dX11_input_143
set_option maxHeartbeats 4000000 in
set_option maxRecDepth 100000 in
theorem w_X11_input_b50 {l0 : Launch} (hfl : l0.stackTraces = false) {X : MX} {B : BX (EE × K)} {g : GP} {E : EE} {κ' : K} {rr : Int32} (O : CK l0 X B g cX11_input RX11 3 43) (hKP : KPok B E) (hmL : B.2.2.2.1 = 4) (hE : ∀ (pc : Nat) (lv : List (Nat × AV)), decode cX11_input pc = .ok (.ireturn, 1) → J X B (E, κ') pc lv [.inl (.int rr)]) (h0 : PC 11 E 5 0 0) : ∀ (κ : K) (x1 : Int32) (x2 : Int32) (xs0 : Int32), f_X11_input_b50 E κ x1 x2 xs0 = some (κ', rr) → J X B (E, κ) 50 [(0, .inr (some (5, 0, 0))), (1, .inl (.int x1)), (2, .inl (.int x2))] [.inl (.int xs0), .inr (some (5, 0, 0))] := by
  intro κ x1 x2 xs0 h
  unfold f_X11_input_b50 at h
  obtain ⟨κ11, r13, hq12, h⟩ := bd_some h
  refine J_callV O hKP (as := [.inl (.int xs0)]) (rest := []) (r := (some (.inl (.int r13)))) (c_X11_refused hfl h0 hq12) rfl (kd0 := 11) (k11_0 h0) (l11_0 h0) (T := TX11) (N := 42) rfl (by decide) mw605 mw606 mw607 mw517 mw608 pd_X11_refused rfl (by decide) rfl (Nat.le_of_ble_eq_true rfl) (sl_p (s11_0 h0) (sl_v (sl_v sl_0))) st_0 dX11_input_50 ?_
  show J X B (E, κ11) 53 [(0, .inr (some (5, 0, 0))), (1, .inl (.int x1)), (2, .inl (.int x2))] [.inl (.int r13)]
  refine J_if_eq O.mo (tgt := 58) dX11_input_53 (by decide) (fun hc14 => ?_) (fun hc14 => ?_)
  · replace h := (if_pos hc14).symm.trans h
    refine J_bipush O.mo (v := 55) dX11_input_58 (by decide) ?_
    refine J_iload_n O.mo dX11_input_60 1 rfl ?_
    refine J_imul O.mo dX11_input_61 ?_
    refine J_istore_n O.mo (lv' := [(0, .inr (some (5, 0, 0))), (1, .inl (.int x1)), (2, .inl (.int x2))]) dX11_input_62 (by rw [hmL]; decide) rfl rfl ?_
    refine nm_some (P := fun z => J X B (E, κ11) 63 [(3, .inl (.int z)), (0, .inr (some (5, 0, 0))), (1, .inl (.int x1)), (2, .inl (.int x2))] []) h (fun y15 h => ?_)
    refine J_aload_n O.mo dX11_input_63 1 rfl ?_
    refine J_getF O.co (kd0 := 11) (k11_0 h0) (l11_0 h0) (C := RX11) (T := TX11) (N := 42) rfl (by decide) rfl in_X11 2 (by decide) (v := .inr (some (5, 0, 2))) rfl mw555 rfl dX11_input_64 ?_
    refine J_sipush O.mo (v := 512) dX11_input_67 (by decide) ?_
    refine J_iload_n O.mo dX11_input_70 2 rfl ?_
    refine J_imul O.mo dX11_input_71 ?_
    refine J_aload_n O.mo dX11_input_72 1 rfl ?_
    refine J_getF O.co (kd0 := 11) (k11_0 h0) (l11_0 h0) (C := RX11) (T := TX11) (N := 42) rfl (by decide) rfl in_X11 1 (by decide) (v := .inr (some (5, 0, 1))) rfl mw545 rfl dX11_input_73 ?_
    refine J_iload_n O.mo dX11_input_76 0 rfl ?_
    refine J_bipush O.mo (v := 54) dX11_input_77 (by decide) ?_
    refine J_iadd O.mo dX11_input_79 ?_
    obtain ⟨hg16, h⟩ := gd_some h
    refine J_iald O.co (g := (kV κ11 5 0 1)) (ct_20n (l11_1 h0) (k11_1 h0) (n11_1 h0)) hg16 dX11_input_80 ?_
    refine J_iadd O.mo dX11_input_81 ?_
    refine J_iload_n O.mo dX11_input_82 3 rfl ?_
    obtain ⟨hg17, h⟩ := gd_some h
    refine row_20 O (l11_2 h0) (k11_2 h0) (n11_2 h0) hg17 (x := x2) dX11_input_83 ?_
    refine nm_some (P := fun z => J X B (E, z) 84 [(3, .inl (.int y15)), (0, .inr (some (5, 0, 0))), (1, .inl (.int x1)), (2, .inl (.int x2))] []) h (fun κ18 h => ?_)
    refine J_aload_n O.mo dX11_input_84 1 rfl ?_
    refine J_getF O.co (kd0 := 11) (k11_0 h0) (l11_0 h0) (C := RX11) (T := TX11) (N := 42) rfl (by decide) rfl in_X11 1 (by decide) (v := .inr (some (5, 0, 1))) rfl mw545 rfl dX11_input_85 ?_
    refine J_iload_n O.mo dX11_input_88 0 rfl ?_
    refine J_bipush O.mo (v := 54) dX11_input_89 (by decide) ?_
    refine J_iadd O.mo dX11_input_91 ?_
    refine J_dup2 O.mo dX11_input_92 rfl rfl ?_
    obtain ⟨hg19, h⟩ := gd_some h
    refine J_iald O.co (g := (kV κ18 5 0 1)) (ct_20n (l11_1 h0) (k11_1 h0) (n11_1 h0)) hg19 dX11_input_93 ?_
    refine J_iconst O.mo (v := 1) dX11_input_94 (by decide) ?_
    refine J_iadd O.mo dX11_input_95 ?_
    obtain ⟨hg20, h⟩ := gd_some h
    refine row_20 O (l11_1 h0) (k11_1 h0) (n11_1 h0) hg20 (x := (((kV κ18 5 0 1) (y15 + 54).toNatClampNeg) + 1)) dX11_input_96 ?_
    refine nm_some (P := fun z => J X B (E, z) 97 [(3, .inl (.int y15)), (0, .inr (some (5, 0, 0))), (1, .inl (.int x1)), (2, .inl (.int x2))] []) h (fun κ21 h => ?_)
    refine J_aload_n O.mo dX11_input_97 1 rfl ?_
    refine J_getF O.co (kd0 := 11) (k11_0 h0) (l11_0 h0) (C := RX11) (T := TX11) (N := 42) rfl (by decide) rfl in_X11 33 (by decide) (v := .inr (some (5, 0, 33))) rfl mw550 rfl dX11_input_98 ?_
    refine J_iload_n O.mo dX11_input_101 2 rfl ?_
    obtain ⟨hg22, h⟩ := gd_some h
    refine J_bald O.co (g := (kV κ21 5 0 33)) (ct_22n (l11_33 h0) (k11_33 h0) (n11_33 h0)) hg22 dX11_input_102 ?_
    refine J_if_eq O.mo (tgt := 134) dX11_input_103 (by decide) (fun hc23 => ?_) (fun hc23 => ?_)
    · replace h := (if_pos hc23).symm.trans h
      refine J_sub [1, 0] rfl ?_
      exact w_X11_input_b134 hfl O hKP hmL hE h0 _ _ h
    · replace h := (if_neg hc23).symm.trans h
      refine J_aload_n O.mo dX11_input_106 1 rfl ?_
      refine J_getF O.co (kd0 := 11) (k11_0 h0) (l11_0 h0) (C := RX11) (T := TX11) (N := 42) rfl (by decide) rfl in_X11 5 (by decide) (v := .inr (some (5, 0, 5))) rfl mw626 rfl dX11_input_107 ?_
      refine J_sipush O.mo (v := 512) dX11_input_110 (by decide) ?_
      refine J_iload_n O.mo dX11_input_113 2 rfl ?_
      refine J_imul O.mo dX11_input_114 ?_
      refine J_aload_n O.mo dX11_input_115 1 rfl ?_
      refine J_getF O.co (kd0 := 11) (k11_0 h0) (l11_0 h0) (C := RX11) (T := TX11) (N := 42) rfl (by decide) rfl in_X11 6 (by decide) (v := .inr (some (5, 0, 6))) rfl mw627 rfl dX11_input_116 ?_
      refine J_iload_n O.mo dX11_input_119 2 rfl ?_
      obtain ⟨hg25, h⟩ := gd_some h
      refine J_iald O.co (g := (kV κ21 5 0 6)) (ct_20n (l11_6 h0) (k11_6 h0) (n11_6 h0)) hg25 dX11_input_120 ?_
      refine J_iadd O.mo dX11_input_121 ?_
      refine J_iload_n O.mo dX11_input_122 3 rfl ?_
      obtain ⟨hg26, h⟩ := gd_some h
      refine row_20 O (l11_5 h0) (k11_5 h0) (n11_5 h0) hg26 (x := x2) dX11_input_123 ?_
      refine nm_some (P := fun z => J X B (E, z) 124 [(3, .inl (.int y15)), (0, .inr (some (5, 0, 0))), (1, .inl (.int x1)), (2, .inl (.int x2))] []) h (fun κ27 h => ?_)
      refine J_aload_n O.mo dX11_input_124 1 rfl ?_
      refine J_getF O.co (kd0 := 11) (k11_0 h0) (l11_0 h0) (C := RX11) (T := TX11) (N := 42) rfl (by decide) rfl in_X11 6 (by decide) (v := .inr (some (5, 0, 6))) rfl mw627 rfl dX11_input_125 ?_
      refine J_iload_n O.mo dX11_input_128 2 rfl ?_
      refine J_dup2 O.mo dX11_input_129 rfl rfl ?_
      obtain ⟨hg28, h⟩ := gd_some h
      refine J_iald O.co (g := (kV κ27 5 0 6)) (ct_20n (l11_6 h0) (k11_6 h0) (n11_6 h0)) hg28 dX11_input_130 ?_
      refine J_iconst O.mo (v := 1) dX11_input_131 (by decide) ?_
      refine J_iadd O.mo dX11_input_132 ?_
      obtain ⟨hg29, h⟩ := gd_some h
      refine row_20 O (l11_6 h0) (k11_6 h0) (n11_6 h0) hg29 (x := (((kV κ27 5 0 6) x1.toNatClampNeg) + 1)) dX11_input_133 ?_
      refine nm_some (P := fun z => J X B (E, z) 134 [(3, .inl (.int y15)), (0, .inr (some (5, 0, 0))), (1, .inl (.int x1)), (2, .inl (.int x2))] []) h (fun κ30 h => ?_)
      refine J_sub [1, 0] rfl ?_
      exact w_X11_input_b134 hfl O hKP hmL hE h0 _ _ h
  · replace h := (if_neg hc14).symm.trans h
    refine J_iconst O.mo (v := 0) dX11_input_56 (by decide) ?_
    cases h
    exact hE _ _ dX11_input_57
set_option maxHeartbeats 4000000 in
set_option maxRecDepth 100000 in
theorem w_X11_input {l0 : Launch} (hfl : l0.stackTraces = false) {X : MX} {B : BX (EE × K)} {g : GP} {E : EE} {κ' : K} {rr : Int32} (O : CK l0 X B g cX11_input RX11 3 43) (hKP : KPok B E) (hmL : B.2.2.2.1 = 4) (hE : ∀ (pc : Nat) (lv : List (Nat × AV)), decode cX11_input pc = .ok (.ireturn, 1) → J X B (E, κ') pc lv [.inl (.int rr)]) (h0 : PC 11 E 5 0 0) : ∀ (κ : K) (a1 : Int32) (a2 : Int32), f_X11_input E κ a1 a2 = some (κ', rr) → J X B (E, κ) 0 [(0, .inr (some (5, 0, 0))), (1, .inl (.int a1)), (2, .inl (.int a2))] [] := by
  intro κ a1 a2 h
  unfold f_X11_input at h
  refine J_aload_n O.mo dX11_input_0 0 rfl ?_
  refine J_aload_n O.mo dX11_input_1 0 rfl ?_
  refine J_iload_n O.mo dX11_input_2 1 rfl ?_
  obtain ⟨κ1, r3, hq2, h⟩ := bd_some h
  refine J_callV O hKP (as := [.inl (.int a1)]) (rest := [.inr (some (5, 0, 0))]) (r := (some (.inl (.int r3)))) (c_X11_isGuest hfl h0 hq2) rfl (kd0 := 11) (k11_0 h0) (l11_0 h0) (T := TX11) (N := 42) rfl (by decide) mw611 mw612 mw613 mw517 mw614 pd_X11_isGuest rfl (by decide) rfl (Nat.le_of_ble_eq_true rfl) (sl_p (s11_0 h0) (sl_v (sl_v sl_0))) (st_p (s11_0 h0) st_0) dX11_input_3 ?_
  show J X B (E, κ1) 6 [(0, .inr (some (5, 0, 0))), (1, .inl (.int a1)), (2, .inl (.int a2))] [.inl (.int r3), .inr (some (5, 0, 0))]
  refine J_if_ne O.mo (tgt := 13) dX11_input_6 (by decide) (fun hc4 => ?_) (fun hc4 => ?_)
  · replace h := (if_neg hc4).symm.trans h
    refine J_iload_n O.mo dX11_input_13 2 rfl ?_
    refine J_iconst O.mo (v := 0) dX11_input_14 (by decide) ?_
    refine J_sipush O.mo (v := 9999) dX11_input_15 (by decide) ?_
    obtain ⟨κ5, r7, hq6, h⟩ := bd_some h
    refine J_callS O hKP (as := [.inl (.int a2), .inl (.int 0), .inl (.int 9999)]) (rest := [.inr (some (5, 0, 0))]) (r := (some (.inl (.int r7)))) (c_X11_in hfl hq6) rfl mw515 mw516 mw517 mw518 pd_X11_in rfl (by decide) rfl (Nat.le_of_ble_eq_true rfl) (sl_p (s11_0 h0) (sl_v (sl_v sl_0))) (st_p (s11_0 h0) st_0) dX11_input_18 ?_
    show J X B (E, κ5) 21 [(0, .inr (some (5, 0, 0))), (1, .inl (.int a1)), (2, .inl (.int a2))] [.inl (.int r7), .inr (some (5, 0, 0))]
    refine J_if_ne O.mo (tgt := 28) dX11_input_21 (by decide) (fun hc8 => ?_) (fun hc8 => ?_)
    · replace h := (if_neg hc8).symm.trans h
      refine J_aload_n O.mo dX11_input_28 0 rfl ?_
      refine J_getF O.co (kd0 := 11) (k11_0 h0) (l11_0 h0) (C := RX11) (T := TX11) (N := 42) rfl (by decide) rfl in_X11 1 (by decide) (v := .inr (some (5, 0, 1))) rfl mw545 rfl dX11_input_29 ?_
      refine J_bipush O.mo (v := 55) dX11_input_32 (by decide) ?_
      refine J_iload_n O.mo dX11_input_34 1 rfl ?_
      refine J_imul O.mo dX11_input_35 ?_
      refine J_bipush O.mo (v := 54) dX11_input_36 (by decide) ?_
      refine J_iadd O.mo dX11_input_38 ?_
      obtain ⟨hg9, h⟩ := gd_some h
      refine J_iald O.co (g := (kV κ5 5 0 1)) (ct_20n (l11_1 h0) (k11_1 h0) (n11_1 h0)) hg9 dX11_input_39 ?_
      refine J_bipush O.mo (v := 20) dX11_input_40 (by decide) ?_
      refine J_icmp_lt O.mo (tgt := 49) dX11_input_42 (by decide) (fun hc10 => ?_) (fun hc10 => ?_)
      · replace h := (if_pos hc10).symm.trans h
        refine J_iconst O.mo (v := 0) dX11_input_49 (by decide) ?_
        exact w_X11_input_b50 hfl O hKP hmL hE h0 _ _ _ _ h
      · replace h := (if_neg hc10).symm.trans h
        refine J_iconst O.mo (v := 3) dX11_input_45 (by decide) ?_
        refine J_goto O.mo (tgt := 50) dX11_input_46 (by decide) ?_
        exact w_X11_input_b50 hfl O hKP hmL hE h0 _ _ _ _ h
    · replace h := (if_pos hc8).symm.trans h
      refine J_iconst O.mo (v := 2) dX11_input_24 (by decide) ?_
      refine J_goto O.mo (tgt := 50) dX11_input_25 (by decide) ?_
      exact w_X11_input_b50 hfl O hKP hmL hE h0 _ _ _ _ h
  · replace h := (if_pos hc4).symm.trans h
    refine J_iconst O.mo (v := 1) dX11_input_9 (by decide) ?_
    refine J_goto O.mo (tgt := 50) dX11_input_10 (by decide) ?_
    exact w_X11_input_b50 hfl O hKP hmL hE h0 _ _ _ _ h
theorem c_X11_input {l : Launch} (hfl : l.stackTraces = false) {E : EE} {κ κ' : K} {a1 : Int32} {a2 : Int32} (h0 : PC 11 E 5 0 0) {rr : Int32} (h : f_X11_input E κ a1 a2 = some (κ', rr)) : Con l yX11_input cX11_input 4 (some .int) 3 43 [.inr (some (5, 0, 0)), .inl (.int a1), .inl (.int a2)] (E, κ) (E, κ') (some (.inl (.int rr))) := by
  exact Con_of hfl (by decide +kernel) (Nat.le_of_ble_eq_true rfl) rfl ⟨_, rfl, rfl⟩ (fun X B g O hKP hmL hE => w_X11_input hfl O hKP hmL hE h0 _ _ _ h)
def f_X11_send_b84 (E : EE) (κ : K) (x4 : Int32) (xs0 : Int32) : Option (K × Int32) := gd (¬ ((x4 + 52) < 0 ∨ 275 ≤ (x4 + 52).toNatClampNeg)) (nm (setV κ 5 0 1 (x4 + 52).toNatClampNeg 1) fun κ15 => gd (¬ ((x4 + 49) < 0 ∨ 275 ≤ (x4 + 49).toNatClampNeg)) (nm (setV κ15 5 0 1 (x4 + 49).toNatClampNeg 0) fun κ17 => some (κ17, xs0)))
def f_X11_send_b51 (E : EE) (κ : K) (x1 : Int32) (xs0 : Int32) : Option (K × Int32) := bd (f_X11_refused E κ xs0) fun κ7 r9 => if r9 = 0 then nm (55 * x1) fun y11 => gd (¬ ((y11 + 52) < 0 ∨ 275 ≤ (y11 + 52).toNatClampNeg)) (if (kV κ7 5 0 1) (y11 + 52).toNatClampNeg = 1 then f_X11_send_b84 E κ7 y11 1 else f_X11_send_b84 E κ7 y11 0) else some (κ7, 0)
def f_X11_send_b46 (E : EE) (κ : K) (x1 : Int32) : Option (K × Int32) := f_X11_send_b51 E κ x1 2
def f_X11_send_b26 (E : EE) (κ : K) (x1 : Int32) (x2 : Int32) (xs0 : Int32) : Option (K × Int32) := if x2 = 0 then f_X11_send_b51 E κ x1 1 else if xs0 = 2 then f_X11_send_b46 E κ x1 else if xs0 = 3 then f_X11_send_b46 E κ x1 else f_X11_send_b51 E κ x1 0
def f_X11_send_e (E : EE) (κ : K) (a1 : Int32) : Option (K × Int32) := bd (f_X11_isGuest E κ a1) fun κ1 r3 => if r3 = 0 then f_X11_send_b26 E κ1 a1 r3 0 else gd (¬ (((55 * a1) + 49) < 0 ∨ 275 ≤ ((55 * a1) + 49).toNatClampNeg)) (f_X11_send_b26 E κ1 a1 r3 ((kV κ1 5 0 1) ((55 * a1) + 49).toNatClampNeg))
def f_X11_send (E : EE) (κ : K) (a1 : Int32) : Option (K × Int32) := bd (f_X11_send_e E κ a1) fun κ x => gd (x = 0 ∨ x = 1) (some (κ, x))
set_option maxHeartbeats 4000000 in
set_option maxRecDepth 100000 in
theorem w_X11_send_b84 {l0 : Launch} (hfl : l0.stackTraces = false) {X : MX} {B : BX (EE × K)} {g : GP} {E : EE} {κ' : K} {rr : Int32} (O : CK l0 X B g cX11_send RX11 3 43) (hKP : KPok B E) (hmL : B.2.2.2.1 = 6) (hE : ∀ (pc : Nat) (lv : List (Nat × AV)), decode cX11_send pc = .ok (.ireturn, 1) → J X B (E, κ') pc lv [.inl (.int rr)]) (h0 : PC 11 E 5 0 0) : ∀ (κ : K) (x4 : Int32) (xs0 : Int32), f_X11_send_b84 E κ x4 xs0 = some (κ', rr) → J X B (E, κ) 84 [(0, .inr (some (5, 0, 0))), (4, .inl (.int x4))] [.inl (.int xs0)] := by
  intro κ x4 xs0 h
  unfold f_X11_send_b84 at h
  refine J_istore O.mo (lv' := [(0, .inr (some (5, 0, 0))), (4, .inl (.int x4))]) dX11_send_84 (by rw [hmL]; decide) rfl rfl ?_
  refine J_aload_n O.mo dX11_send_86 1 rfl ?_
  refine J_getF O.co (kd0 := 11) (k11_0 h0) (l11_0 h0) (C := RX11) (T := TX11) (N := 42) rfl (by decide) rfl in_X11 1 (by decide) (v := .inr (some (5, 0, 1))) rfl mw545 rfl dX11_send_87 ?_
  refine J_iload O.mo dX11_send_90 2 rfl ?_
  refine J_bipush O.mo (v := 52) dX11_send_92 (by decide) ?_
  refine J_iadd O.mo dX11_send_94 ?_
  refine J_iconst O.mo (v := 1) dX11_send_95 (by decide) ?_
  obtain ⟨hg14, h⟩ := gd_some h
  refine row_20 O (l11_1 h0) (k11_1 h0) (n11_1 h0) hg14 (x := 1) dX11_send_96 ?_
  refine nm_some (P := fun z => J X B (E, z) 97 [(5, .inl (.int xs0)), (0, .inr (some (5, 0, 0))), (4, .inl (.int x4))] []) h (fun κ15 h => ?_)
  refine J_aload_n O.mo dX11_send_97 1 rfl ?_
  refine J_getF O.co (kd0 := 11) (k11_0 h0) (l11_0 h0) (C := RX11) (T := TX11) (N := 42) rfl (by decide) rfl in_X11 1 (by decide) (v := .inr (some (5, 0, 1))) rfl mw545 rfl dX11_send_98 ?_
  refine J_iload O.mo dX11_send_101 2 rfl ?_
  refine J_bipush O.mo (v := 49) dX11_send_103 (by decide) ?_
  refine J_iadd O.mo dX11_send_105 ?_
  refine J_iconst O.mo (v := 0) dX11_send_106 (by decide) ?_
  obtain ⟨hg16, h⟩ := gd_some h
  refine row_20 O (l11_1 h0) (k11_1 h0) (n11_1 h0) hg16 (x := 0) dX11_send_107 ?_
  refine nm_some (P := fun z => J X B (E, z) 108 [(5, .inl (.int xs0)), (0, .inr (some (5, 0, 0))), (4, .inl (.int x4))] []) h (fun κ17 h => ?_)
  refine J_iload O.mo dX11_send_108 0 rfl ?_
  cases h
  exact hE _ _ dX11_send_110
set_option maxHeartbeats 4000000 in
set_option maxRecDepth 100000 in
theorem w_X11_send_b51 {l0 : Launch} (hfl : l0.stackTraces = false) {X : MX} {B : BX (EE × K)} {g : GP} {E : EE} {κ' : K} {rr : Int32} (O : CK l0 X B g cX11_send RX11 3 43) (hKP : KPok B E) (hmL : B.2.2.2.1 = 6) (hE : ∀ (pc : Nat) (lv : List (Nat × AV)), decode cX11_send pc = .ok (.ireturn, 1) → J X B (E, κ') pc lv [.inl (.int rr)]) (h0 : PC 11 E 5 0 0) : ∀ (κ : K) (x1 : Int32) (xs0 : Int32), f_X11_send_b51 E κ x1 xs0 = some (κ', rr) → J X B (E, κ) 51 [(0, .inr (some (5, 0, 0))), (1, .inl (.int x1))] [.inl (.int xs0), .inr (some (5, 0, 0))] := by
  intro κ x1 xs0 h
  unfold f_X11_send_b51 at h
  obtain ⟨κ7, r9, hq8, h⟩ := bd_some h
  refine J_callV O hKP (as := [.inl (.int xs0)]) (rest := []) (r := (some (.inl (.int r9)))) (c_X11_refused hfl h0 hq8) rfl (kd0 := 11) (k11_0 h0) (l11_0 h0) (T := TX11) (N := 42) rfl (by decide) mw605 mw606 mw607 mw517 mw608 pd_X11_refused rfl (by decide) rfl (Nat.le_of_ble_eq_true rfl) (sl_p (s11_0 h0) (sl_v sl_0)) st_0 dX11_send_51 ?_
  show J X B (E, κ7) 54 [(0, .inr (some (5, 0, 0))), (1, .inl (.int x1))] [.inl (.int r9)]
  refine J_if_eq O.mo (tgt := 59) dX11_send_54 (by decide) (fun hc10 => ?_) (fun hc10 => ?_)
  · replace h := (if_pos hc10).symm.trans h
    refine J_bipush O.mo (v := 55) dX11_send_59 (by decide) ?_
    refine J_iload_n O.mo dX11_send_61 1 rfl ?_
    refine J_imul O.mo dX11_send_62 ?_
    refine J_istore O.mo (lv' := [(0, .inr (some (5, 0, 0))), (1, .inl (.int x1))]) dX11_send_63 (by rw [hmL]; decide) rfl rfl ?_
    refine nm_some (P := fun z => J X B (E, κ7) 65 [(4, .inl (.int z)), (0, .inr (some (5, 0, 0))), (1, .inl (.int x1))] []) h (fun y11 h => ?_)
    refine J_aload_n O.mo dX11_send_65 1 rfl ?_
    refine J_getF O.co (kd0 := 11) (k11_0 h0) (l11_0 h0) (C := RX11) (T := TX11) (N := 42) rfl (by decide) rfl in_X11 1 (by decide) (v := .inr (some (5, 0, 1))) rfl mw545 rfl dX11_send_66 ?_
    refine J_iload O.mo dX11_send_69 0 rfl ?_
    refine J_bipush O.mo (v := 52) dX11_send_71 (by decide) ?_
    refine J_iadd O.mo dX11_send_73 ?_
    obtain ⟨hg12, h⟩ := gd_some h
    refine J_iald O.co (g := (kV κ7 5 0 1)) (ct_20n (l11_1 h0) (k11_1 h0) (n11_1 h0)) hg12 dX11_send_74 ?_
    refine J_iconst O.mo (v := 1) dX11_send_75 (by decide) ?_
    refine J_icmp_ne O.mo (tgt := 83) dX11_send_76 (by decide) (fun hc13 => ?_) (fun hc13 => ?_)
    · replace h := (if_neg hc13).symm.trans h
      refine J_iconst O.mo (v := 0) dX11_send_83 (by decide) ?_
      refine J_sub [1, 0] rfl ?_
      exact w_X11_send_b84 hfl O hKP hmL hE h0 _ _ _ h
    · replace h := (if_pos hc13).symm.trans h
      refine J_iconst O.mo (v := 1) dX11_send_79 (by decide) ?_
      refine J_goto O.mo (tgt := 84) dX11_send_80 (by decide) ?_
      refine J_sub [1, 0] rfl ?_
      exact w_X11_send_b84 hfl O hKP hmL hE h0 _ _ _ h
  · replace h := (if_neg hc10).symm.trans h
    refine J_iconst O.mo (v := 0) dX11_send_57 (by decide) ?_
    cases h
    exact hE _ _ dX11_send_58
set_option maxHeartbeats 4000000 in
set_option maxRecDepth 100000 in
theorem w_X11_send_b46 {l0 : Launch} (hfl : l0.stackTraces = false) {X : MX} {B : BX (EE × K)} {g : GP} {E : EE} {κ' : K} {rr : Int32} (O : CK l0 X B g cX11_send RX11 3 43) (hKP : KPok B E) (hmL : B.2.2.2.1 = 6) (hE : ∀ (pc : Nat) (lv : List (Nat × AV)), decode cX11_send pc = .ok (.ireturn, 1) → J X B (E, κ') pc lv [.inl (.int rr)]) (h0 : PC 11 E 5 0 0) : ∀ (κ : K) (x1 : Int32), f_X11_send_b46 E κ x1 = some (κ', rr) → J X B (E, κ) 46 [(0, .inr (some (5, 0, 0))), (1, .inl (.int x1))] [.inr (some (5, 0, 0))] := by
  intro κ x1 h
  unfold f_X11_send_b46 at h
  refine J_iconst O.mo (v := 2) dX11_send_46 (by decide) ?_
  refine J_goto O.mo (tgt := 51) dX11_send_47 (by decide) ?_
  exact w_X11_send_b51 hfl O hKP hmL hE h0 _ _ _ h
set_option maxHeartbeats 4000000 in
set_option maxRecDepth 100000 in
theorem w_X11_send_b26 {l0 : Launch} (hfl : l0.stackTraces = false) {X : MX} {B : BX (EE × K)} {g : GP} {E : EE} {κ' : K} {rr : Int32} (O : CK l0 X B g cX11_send RX11 3 43) (hKP : KPok B E) (hmL : B.2.2.2.1 = 6) (hE : ∀ (pc : Nat) (lv : List (Nat × AV)), decode cX11_send pc = .ok (.ireturn, 1) → J X B (E, κ') pc lv [.inl (.int rr)]) (h0 : PC 11 E 5 0 0) : ∀ (κ : K) (x1 : Int32) (x2 : Int32) (xs0 : Int32), f_X11_send_b26 E κ x1 x2 xs0 = some (κ', rr) → J X B (E, κ) 26 [(0, .inr (some (5, 0, 0))), (1, .inl (.int x1)), (2, .inl (.int x2))] [.inl (.int xs0)] := by
  intro κ x1 x2 xs0 h
  unfold f_X11_send_b26 at h
  refine J_istore_n O.mo (lv' := [(0, .inr (some (5, 0, 0))), (1, .inl (.int x1)), (2, .inl (.int x2))]) dX11_send_26 (by rw [hmL]; decide) rfl rfl ?_
  refine J_aload_n O.mo dX11_send_27 1 rfl ?_
  refine J_iload_n O.mo dX11_send_28 3 rfl ?_
  refine J_if_ne O.mo (tgt := 36) dX11_send_29 (by decide) (fun hc5 => ?_) (fun hc5 => ?_)
  · replace h := (if_neg hc5).symm.trans h
    refine J_iload_n O.mo dX11_send_36 0 rfl ?_
    refine J_iconst O.mo (v := 2) dX11_send_37 (by decide) ?_
    refine J_icmp_eq O.mo (tgt := 46) dX11_send_38 (by decide) (fun hc6 => ?_) (fun hc6 => ?_)
    · replace h := (if_pos hc6).symm.trans h
      refine J_sub [1, 2] rfl ?_
      exact w_X11_send_b46 hfl O hKP hmL hE h0 _ _ h
    · replace h := (if_neg hc6).symm.trans h
      refine J_iload_n O.mo dX11_send_41 0 rfl ?_
      refine J_iconst O.mo (v := 3) dX11_send_42 (by decide) ?_
      refine J_icmp_ne O.mo (tgt := 50) dX11_send_43 (by decide) (fun hc18 => ?_) (fun hc18 => ?_)
      · replace h := (if_neg hc18).symm.trans h
        refine J_iconst O.mo (v := 0) dX11_send_50 (by decide) ?_
        refine J_sub [1, 2] rfl ?_
        exact w_X11_send_b51 hfl O hKP hmL hE h0 _ _ _ h
      · replace h := (if_pos hc18).symm.trans h
        refine J_sub [1, 2] rfl ?_
        exact w_X11_send_b46 hfl O hKP hmL hE h0 _ _ h
  · replace h := (if_pos hc5).symm.trans h
    refine J_iconst O.mo (v := 1) dX11_send_32 (by decide) ?_
    refine J_goto O.mo (tgt := 51) dX11_send_33 (by decide) ?_
    refine J_sub [1, 2] rfl ?_
    exact w_X11_send_b51 hfl O hKP hmL hE h0 _ _ _ h
set_option maxHeartbeats 4000000 in
set_option maxRecDepth 100000 in
theorem w_X11_send_e {l0 : Launch} (hfl : l0.stackTraces = false) {X : MX} {B : BX (EE × K)} {g : GP} {E : EE} {κ' : K} {rr : Int32} (O : CK l0 X B g cX11_send RX11 3 43) (hKP : KPok B E) (hmL : B.2.2.2.1 = 6) (hE : ∀ (pc : Nat) (lv : List (Nat × AV)), decode cX11_send pc = .ok (.ireturn, 1) → J X B (E, κ') pc lv [.inl (.int rr)]) (h0 : PC 11 E 5 0 0) : ∀ (κ : K) (a1 : Int32), f_X11_send_e E κ a1 = some (κ', rr) → J X B (E, κ) 0 [(0, .inr (some (5, 0, 0))), (1, .inl (.int a1))] [] := by
  intro κ a1 h
  unfold f_X11_send_e at h
  refine J_aload_n O.mo dX11_send_0 0 rfl ?_
  refine J_iload_n O.mo dX11_send_1 1 rfl ?_
  obtain ⟨κ1, r3, hq2, h⟩ := bd_some h
  refine J_callV O hKP (as := [.inl (.int a1)]) (rest := []) (r := (some (.inl (.int r3)))) (c_X11_isGuest hfl h0 hq2) rfl (kd0 := 11) (k11_0 h0) (l11_0 h0) (T := TX11) (N := 42) rfl (by decide) mw611 mw612 mw613 mw517 mw614 pd_X11_isGuest rfl (by decide) rfl (Nat.le_of_ble_eq_true rfl) (sl_p (s11_0 h0) (sl_v sl_0)) st_0 dX11_send_2 ?_
  show J X B (E, κ1) 5 [(0, .inr (some (5, 0, 0))), (1, .inl (.int a1))] [.inl (.int r3)]
  refine J_istore_n O.mo (lv' := [(0, .inr (some (5, 0, 0))), (1, .inl (.int a1))]) dX11_send_5 (by rw [hmL]; decide) rfl rfl ?_
  refine J_iload_n O.mo dX11_send_6 0 rfl ?_
  refine J_if_eq O.mo (tgt := 25) dX11_send_7 (by decide) (fun hc4 => ?_) (fun hc4 => ?_)
  · replace h := (if_pos hc4).symm.trans h
    refine J_iconst O.mo (v := 0) dX11_send_25 (by decide) ?_
    refine J_sub [1, 2, 0] rfl ?_
    exact w_X11_send_b26 hfl O hKP hmL hE h0 _ _ _ _ h
  · replace h := (if_neg hc4).symm.trans h
    refine J_aload_n O.mo dX11_send_10 1 rfl ?_
    refine J_getF O.co (kd0 := 11) (k11_0 h0) (l11_0 h0) (C := RX11) (T := TX11) (N := 42) rfl (by decide) rfl in_X11 1 (by decide) (v := .inr (some (5, 0, 1))) rfl mw545 rfl dX11_send_11 ?_
    refine J_bipush O.mo (v := 55) dX11_send_14 (by decide) ?_
    refine J_iload_n O.mo dX11_send_16 2 rfl ?_
    refine J_imul O.mo dX11_send_17 ?_
    refine J_bipush O.mo (v := 49) dX11_send_18 (by decide) ?_
    refine J_iadd O.mo dX11_send_20 ?_
    obtain ⟨hg19, h⟩ := gd_some h
    refine J_iald O.co (g := (kV κ1 5 0 1)) (ct_20n (l11_1 h0) (k11_1 h0) (n11_1 h0)) hg19 dX11_send_21 ?_
    refine J_goto O.mo (tgt := 26) dX11_send_22 (by decide) ?_
    refine J_sub [1, 2, 0] rfl ?_
    exact w_X11_send_b26 hfl O hKP hmL hE h0 _ _ _ _ h
theorem c_X11_send {l : Launch} (hfl : l.stackTraces = false) {E : EE} {κ κ' : K} {a1 : Int32} (h0 : PC 11 E 5 0 0) {rr : Int32} (h : f_X11_send E κ a1 = some (κ', rr)) : Con l yX11_send cX11_send 6 (some .boolean) 3 43 [.inr (some (5, 0, 0)), .inl (.int a1)] (E, κ) (E, κ') (some (.inl (.int rr))) := by
  unfold f_X11_send at h
  obtain ⟨κ1, x1, q1, q2⟩ := bd_some h
  obtain ⟨hb, q3⟩ := gd_some q2
  cases q3
  exact Con_of hfl (by decide +kernel) (Nat.le_of_ble_eq_true rfl) rfl ⟨_, rfl, nar_b hb⟩ (fun X B g O hKP hmL hE => w_X11_send_e hfl O hKP hmL hE h0 _ _ q1)
def f_X11_tick_b57 (E : EE) (κ : K) : Option (K × Int32) := some (κ, kV κ 5 0 0 41)
def f_X11_tick_b42 (E : EE) : Nat → K → Int32 → Int32 → Option (K × Int32)
  | 0, _, _, _ => none
  | n + 1, κ, x1, x2 => if x1 ≤ x2 then f_X11_tick_b57 E κ else bd (f_X11_tickOnce E κ) fun κ11 _ => nm (x2 + 1) fun y14 => f_X11_tick_b42 E n κ11 x1 y14
def f_X11_tick_b32 (E : EE) (κ : K) (x1 : Int32) (xs0 : Int32) : Option (K × Int32) := bd (f_X11_refused E κ xs0) fun κ6 r8 => if r8 = 0 then f_X11_tick_b42 E FU κ6 x1 0 else some (κ6, 0)
def f_X11_tick (E : EE) (κ : K) (a1 : Int32) : Option (K × Int32) := bd (f_X11_in E κ a1 1 100) fun κ1 r3 => if r3 = 0 then f_X11_tick_b32 E κ1 a1 1 else if (kV κ1 5 0 0 41) + a1 ≤ 3000 then f_X11_tick_b32 E κ1 a1 0 else f_X11_tick_b32 E κ1 a1 2
set_option maxHeartbeats 4000000 in
set_option maxRecDepth 100000 in
theorem w_X11_tick_b57 {l0 : Launch} (hfl : l0.stackTraces = false) {X : MX} {B : BX (EE × K)} {g : GP} {E : EE} {κ' : K} {rr : Int32} (O : CK l0 X B g cX11_tick RX11 7 151) (hKP : KPok B E) (hmL : B.2.2.2.1 = 3) (hE : ∀ (pc : Nat) (lv : List (Nat × AV)), decode cX11_tick pc = .ok (.ireturn, 1) → J X B (E, κ') pc lv [.inl (.int rr)]) (h0 : PC 11 E 5 0 0) : ∀ (κ : K), f_X11_tick_b57 E κ = some (κ', rr) → J X B (E, κ) 57 [(0, .inr (some (5, 0, 0)))] [] := by
  intro κ h
  unfold f_X11_tick_b57 at h
  refine J_aload_n O.mo dX11_tick_57 0 rfl ?_
  refine J_getF O.co (kd0 := 11) (k11_0 h0) (l11_0 h0) (C := RX11) (T := TX11) (N := 42) rfl (by decide) rfl in_X11 41 (by decide) (v := .inl (.int (kV κ 5 0 0 41))) rfl mw519 rfl dX11_tick_58 ?_
  cases h
  exact hE _ _ dX11_tick_61
set_option maxHeartbeats 4000000 in
set_option maxRecDepth 100000 in
theorem w_X11_tick_b42 {l0 : Launch} (hfl : l0.stackTraces = false) {X : MX} {B : BX (EE × K)} {g : GP} {E : EE} {κ' : K} {rr : Int32} (O : CK l0 X B g cX11_tick RX11 7 151) (hKP : KPok B E) (hmL : B.2.2.2.1 = 3) (hE : ∀ (pc : Nat) (lv : List (Nat × AV)), decode cX11_tick pc = .ok (.ireturn, 1) → J X B (E, κ') pc lv [.inl (.int rr)]) (h0 : PC 11 E 5 0 0) : ∀ (n : Nat) (κ : K) (x1 : Int32) (x2 : Int32), f_X11_tick_b42 E n κ x1 x2 = some (κ', rr) → J X B (E, κ) 42 [(0, .inr (some (5, 0, 0))), (1, .inl (.int x1)), (2, .inl (.int x2))] [] := by
  intro n
  induction n with
  | zero => intro κ x1 x2 h; cases h
  | succ n ih =>
    intro κ x1 x2 h
    rw [f_X11_tick_b42] at h
    refine J_iload_n O.mo dX11_tick_42 2 rfl ?_
    refine J_iload_n O.mo dX11_tick_43 1 rfl ?_
    refine J_icmp_ge O.mo (tgt := 57) dX11_tick_44 (by decide) (fun hc10 => ?_) (fun hc10 => ?_)
    · replace h := (if_pos hc10).symm.trans h
      refine J_sub [0] rfl ?_
      exact w_X11_tick_b57 hfl O hKP hmL hE h0 _ h
    · replace h := (if_neg hc10).symm.trans h
      refine J_aload_n O.mo dX11_tick_47 0 rfl ?_
      obtain ⟨κ11, r13, hq12, h⟩ := bd_some h
      refine J_callV O hKP (as := []) (rest := []) (r := none) (c_X11_tickOnce hfl h0 hq12) rfl (kd0 := 11) (k11_0 h0) (l11_0 h0) (T := TX11) (N := 42) rfl (by decide) mw628 mw629 mw630 mw517 mw631 pd_X11_tickOnce rfl (by decide) rfl (Nat.le_of_ble_eq_true rfl) (sl_p (s11_0 h0) (sl_v (sl_v sl_0))) st_0 dX11_tick_48 ?_
      show J X B (E, κ11) 51 [(0, .inr (some (5, 0, 0))), (1, .inl (.int x1)), (2, .inl (.int x2))] []
      refine J_iinc O.mo (v := x2 + 1) (lv' := [(0, .inr (some (5, 0, 0))), (1, .inl (.int x1))]) dX11_tick_51 (by rw [hmL]; decide) 2 rfl (by rw [show Int32.ofInt (1) = (1 : Int32) from by decide]) rfl rfl ?_
      refine nm_some (P := fun z => J X B (E, κ11) 54 [(2, .inl (.int z)), (0, .inr (some (5, 0, 0))), (1, .inl (.int x1))] []) h (fun y14 h => ?_)
      refine J_goto O.mo (tgt := 42) dX11_tick_54 (by decide) ?_
      refine J_sub [1, 2, 0] rfl ?_
      exact ih _ _ _ h
set_option maxHeartbeats 4000000 in
set_option maxRecDepth 100000 in
theorem w_X11_tick_b32 {l0 : Launch} (hfl : l0.stackTraces = false) {X : MX} {B : BX (EE × K)} {g : GP} {E : EE} {κ' : K} {rr : Int32} (O : CK l0 X B g cX11_tick RX11 7 151) (hKP : KPok B E) (hmL : B.2.2.2.1 = 3) (hE : ∀ (pc : Nat) (lv : List (Nat × AV)), decode cX11_tick pc = .ok (.ireturn, 1) → J X B (E, κ') pc lv [.inl (.int rr)]) (h0 : PC 11 E 5 0 0) : ∀ (κ : K) (x1 : Int32) (xs0 : Int32), f_X11_tick_b32 E κ x1 xs0 = some (κ', rr) → J X B (E, κ) 32 [(0, .inr (some (5, 0, 0))), (1, .inl (.int x1))] [.inl (.int xs0), .inr (some (5, 0, 0))] := by
  intro κ x1 xs0 h
  unfold f_X11_tick_b32 at h
  obtain ⟨κ6, r8, hq7, h⟩ := bd_some h
  refine J_callV O hKP (as := [.inl (.int xs0)]) (rest := []) (r := (some (.inl (.int r8)))) (c_X11_refused hfl h0 hq7) rfl (kd0 := 11) (k11_0 h0) (l11_0 h0) (T := TX11) (N := 42) rfl (by decide) mw605 mw606 mw607 mw517 mw608 pd_X11_refused rfl (by decide) rfl (Nat.le_of_ble_eq_true rfl) (sl_p (s11_0 h0) (sl_v sl_0)) st_0 dX11_tick_32 ?_
  show J X B (E, κ6) 35 [(0, .inr (some (5, 0, 0))), (1, .inl (.int x1))] [.inl (.int r8)]
  refine J_if_eq O.mo (tgt := 40) dX11_tick_35 (by decide) (fun hc9 => ?_) (fun hc9 => ?_)
  · replace h := (if_pos hc9).symm.trans h
    refine J_iconst O.mo (v := 0) dX11_tick_40 (by decide) ?_
    refine J_istore_n O.mo (lv' := [(0, .inr (some (5, 0, 0))), (1, .inl (.int x1))]) dX11_tick_41 (by rw [hmL]; decide) rfl rfl ?_
    refine J_sub [1, 2, 0] rfl ?_
    exact w_X11_tick_b42 hfl O hKP hmL hE h0 FU _ _ _ h
  · replace h := (if_neg hc9).symm.trans h
    refine J_iconst O.mo (v := 0) dX11_tick_38 (by decide) ?_
    cases h
    exact hE _ _ dX11_tick_39
set_option maxHeartbeats 4000000 in
set_option maxRecDepth 100000 in
theorem w_X11_tick {l0 : Launch} (hfl : l0.stackTraces = false) {X : MX} {B : BX (EE × K)} {g : GP} {E : EE} {κ' : K} {rr : Int32} (O : CK l0 X B g cX11_tick RX11 7 151) (hKP : KPok B E) (hmL : B.2.2.2.1 = 3) (hE : ∀ (pc : Nat) (lv : List (Nat × AV)), decode cX11_tick pc = .ok (.ireturn, 1) → J X B (E, κ') pc lv [.inl (.int rr)]) (h0 : PC 11 E 5 0 0) : ∀ (κ : K) (a1 : Int32), f_X11_tick E κ a1 = some (κ', rr) → J X B (E, κ) 0 [(0, .inr (some (5, 0, 0))), (1, .inl (.int a1))] [] := by
  intro κ a1 h
  unfold f_X11_tick at h
  refine J_aload_n O.mo dX11_tick_0 0 rfl ?_
  refine J_iload_n O.mo dX11_tick_1 1 rfl ?_
  refine J_iconst O.mo (v := 1) dX11_tick_2 (by decide) ?_
  refine J_bipush O.mo (v := 100) dX11_tick_3 (by decide) ?_
  obtain ⟨κ1, r3, hq2, h⟩ := bd_some h
  refine J_callS O hKP (as := [.inl (.int a1), .inl (.int 1), .inl (.int 100)]) (rest := [.inr (some (5, 0, 0))]) (r := (some (.inl (.int r3)))) (c_X11_in hfl hq2) rfl mw515 mw516 mw517 mw518 pd_X11_in rfl (by decide) rfl (Nat.le_of_ble_eq_true rfl) (sl_p (s11_0 h0) (sl_v sl_0)) (st_p (s11_0 h0) st_0) dX11_tick_5 ?_
  show J X B (E, κ1) 8 [(0, .inr (some (5, 0, 0))), (1, .inl (.int a1))] [.inl (.int r3), .inr (some (5, 0, 0))]
  refine J_if_ne O.mo (tgt := 15) dX11_tick_8 (by decide) (fun hc4 => ?_) (fun hc4 => ?_)
  · replace h := (if_neg hc4).symm.trans h
    refine J_aload_n O.mo dX11_tick_15 0 rfl ?_
    refine J_getF O.co (kd0 := 11) (k11_0 h0) (l11_0 h0) (C := RX11) (T := TX11) (N := 42) rfl (by decide) rfl in_X11 41 (by decide) (v := .inl (.int (kV κ1 5 0 0 41))) rfl mw519 rfl dX11_tick_16 ?_
    refine J_iload_n O.mo dX11_tick_19 1 rfl ?_
    refine J_iadd O.mo dX11_tick_20 ?_
    refine J_sipush O.mo (v := 3000) dX11_tick_21 (by decide) ?_
    refine J_icmp_le O.mo (tgt := 31) dX11_tick_24 (by decide) (fun hc5 => ?_) (fun hc5 => ?_)
    · replace h := (if_pos hc5).symm.trans h
      refine J_iconst O.mo (v := 0) dX11_tick_31 (by decide) ?_
      exact w_X11_tick_b32 hfl O hKP hmL hE h0 _ _ _ h
    · replace h := (if_neg hc5).symm.trans h
      refine J_iconst O.mo (v := 2) dX11_tick_27 (by decide) ?_
      refine J_goto O.mo (tgt := 32) dX11_tick_28 (by decide) ?_
      exact w_X11_tick_b32 hfl O hKP hmL hE h0 _ _ _ h
  · replace h := (if_pos hc4).symm.trans h
    refine J_iconst O.mo (v := 1) dX11_tick_11 (by decide) ?_
    refine J_goto O.mo (tgt := 32) dX11_tick_12 (by decide) ?_
    exact w_X11_tick_b32 hfl O hKP hmL hE h0 _ _ _ h
theorem c_X11_tick {l : Launch} (hfl : l.stackTraces = false) {E : EE} {κ κ' : K} {a1 : Int32} (h0 : PC 11 E 5 0 0) {rr : Int32} (h : f_X11_tick E κ a1 = some (κ', rr)) : Con l yX11_tick cX11_tick 3 (some .int) 7 151 [.inr (some (5, 0, 0)), .inl (.int a1)] (E, κ) (E, κ') (some (.inl (.int rr))) := by
  exact Con_of hfl (by decide +kernel) (Nat.le_of_ble_eq_true rfl) rfl ⟨_, rfl, rfl⟩ (fun X B g O hKP hmL hE => w_X11_tick hfl O hKP hmL hE h0 _ _ h)
def f_X11_areLike_b73 (E : EE) (k5 : K → Int32 → Int32 → Int32 → Int32 → Option (K × Int32)) (κ : K) (x1 : Int32) (x2 : Int32) (x4 : Int32) (xs0 : Int32) : Option (K × Int32) := nm (x4 + 1) fun y3 => k5 κ x1 x2 xs0 y3
def f_X11_areLike_b72 (E : EE) (k5 : K → Int32 → Int32 → Int32 → Int32 → Option (K × Int32)) (κ : K) (x1 : Int32) (x2 : Int32) (x4 : Int32) : Option (K × Int32) := f_X11_areLike_b73 E k5 κ x1 x2 x4 0
def f_X11_areLike_b5 (E : EE) : Nat → K → Int32 → Int32 → Int32 → Int32 → Option (K × Int32)
  | 0, _, _, _, _, _ => none
  | n + 1, κ, x1, x2, x3, x4 => if 4 ≤ x4 then some (κ, x3) else if x3 = 0 then f_X11_areLike_b72 E (f_X11_areLike_b5 E n) κ x1 x2 x4 else gd (¬ (((((55 * (x1 / 8)) + 17) + (4 * (x1 - x1 / 8 * 8))) + x4) < 0 ∨ 275 ≤ ((((55 * (x1 / 8)) + 17) + (4 * (x1 - x1 / 8 * 8))) + x4).toNatClampNeg)) (gd (¬ (((((55 * (x2 / 8)) + 17) + (4 * (x2 - x2 / 8 * 8))) + x4) < 0 ∨ 275 ≤ ((((55 * (x2 / 8)) + 17) + (4 * (x2 - x2 / 8 * 8))) + x4).toNatClampNeg)) (if (kV κ 5 0 1) ((((55 * (x1 / 8)) + 17) + (4 * (x1 - x1 / 8 * 8))) + x4).toNatClampNeg = (kV κ 5 0 1) ((((55 * (x2 / 8)) + 17) + (4 * (x2 - x2 / 8 * 8))) + x4).toNatClampNeg then f_X11_areLike_b73 E (f_X11_areLike_b5 E n) κ x1 x2 x4 1 else f_X11_areLike_b72 E (f_X11_areLike_b5 E n) κ x1 x2 x4))
def f_X11_areLike_e (E : EE) (κ : K) (a1 : Int32) (a2 : Int32) : Option (K × Int32) := f_X11_areLike_b5 E FU κ a1 a2 1 0
def f_X11_areLike (E : EE) (κ : K) (a1 : Int32) (a2 : Int32) : Option (K × Int32) := bd (f_X11_areLike_e E κ a1 a2) fun κ x => gd (x = 0 ∨ x = 1) (some (κ, x))
set_option maxHeartbeats 4000000 in
set_option maxRecDepth 100000 in
theorem w_X11_areLike_b73 {l0 : Launch} (hfl : l0.stackTraces = false) {X : MX} {B : BX (EE × K)} {g : GP} {E : EE} {κ' : K} {rr : Int32} (O : CK l0 X B g cX11_areLike RX11 1 0) (hKP : KPok B E) (hmL : B.2.2.2.1 = 5) (hE : ∀ (pc : Nat) (lv : List (Nat × AV)), decode cX11_areLike pc = .ok (.ireturn, 1) → J X B (E, κ') pc lv [.inl (.int rr)]) (h0 : PC 11 E 5 0 0) {k5 : K → Int32 → Int32 → Int32 → Int32 → Option (K × Int32)} (hk5 : ∀ (κ : K) (x1 : Int32) (x2 : Int32) (x3 : Int32) (x4 : Int32), k5 κ x1 x2 x3 x4 = some (κ', rr) → J X B (E, κ) 5 [(0, .inr (some (5, 0, 0))), (1, .inl (.int x1)), (2, .inl (.int x2)), (3, .inl (.int x3)), (4, .inl (.int x4))] []) : ∀ (κ : K) (x1 : Int32) (x2 : Int32) (x4 : Int32) (xs0 : Int32), f_X11_areLike_b73 E k5 κ x1 x2 x4 xs0 = some (κ', rr) → J X B (E, κ) 73 [(0, .inr (some (5, 0, 0))), (1, .inl (.int x1)), (2, .inl (.int x2)), (4, .inl (.int x4))] [.inl (.int xs0)] := by
  intro κ x1 x2 x4 xs0 h
  unfold f_X11_areLike_b73 at h
  refine J_istore_n O.mo (lv' := [(0, .inr (some (5, 0, 0))), (1, .inl (.int x1)), (2, .inl (.int x2)), (4, .inl (.int x4))]) dX11_areLike_73 (by rw [hmL]; decide) rfl rfl ?_
  refine J_iinc O.mo (v := x4 + 1) (lv' := [(3, .inl (.int xs0)), (0, .inr (some (5, 0, 0))), (1, .inl (.int x1)), (2, .inl (.int x2))]) dX11_areLike_74 (by rw [hmL]; decide) 4 rfl (by rw [show Int32.ofInt (1) = (1 : Int32) from by decide]) rfl rfl ?_
  refine nm_some (P := fun z => J X B (E, κ) 77 [(4, .inl (.int z)), (3, .inl (.int xs0)), (0, .inr (some (5, 0, 0))), (1, .inl (.int x1)), (2, .inl (.int x2))] []) h (fun y3 h => ?_)
  refine J_goto O.mo (tgt := 5) dX11_areLike_77 (by decide) ?_
  refine J_sub [2, 3, 4, 1, 0] rfl ?_
  exact hk5 _ _ _ _ _ h
set_option maxHeartbeats 4000000 in
set_option maxRecDepth 100000 in
theorem w_X11_areLike_b72 {l0 : Launch} (hfl : l0.stackTraces = false) {X : MX} {B : BX (EE × K)} {g : GP} {E : EE} {κ' : K} {rr : Int32} (O : CK l0 X B g cX11_areLike RX11 1 0) (hKP : KPok B E) (hmL : B.2.2.2.1 = 5) (hE : ∀ (pc : Nat) (lv : List (Nat × AV)), decode cX11_areLike pc = .ok (.ireturn, 1) → J X B (E, κ') pc lv [.inl (.int rr)]) (h0 : PC 11 E 5 0 0) {k5 : K → Int32 → Int32 → Int32 → Int32 → Option (K × Int32)} (hk5 : ∀ (κ : K) (x1 : Int32) (x2 : Int32) (x3 : Int32) (x4 : Int32), k5 κ x1 x2 x3 x4 = some (κ', rr) → J X B (E, κ) 5 [(0, .inr (some (5, 0, 0))), (1, .inl (.int x1)), (2, .inl (.int x2)), (3, .inl (.int x3)), (4, .inl (.int x4))] []) : ∀ (κ : K) (x1 : Int32) (x2 : Int32) (x4 : Int32), f_X11_areLike_b72 E k5 κ x1 x2 x4 = some (κ', rr) → J X B (E, κ) 72 [(0, .inr (some (5, 0, 0))), (1, .inl (.int x1)), (2, .inl (.int x2)), (4, .inl (.int x4))] [] := by
  intro κ x1 x2 x4 h
  unfold f_X11_areLike_b72 at h
  refine J_iconst O.mo (v := 0) dX11_areLike_72 (by decide) ?_
  exact w_X11_areLike_b73 hfl O hKP hmL hE h0 hk5 _ _ _ _ _ h
set_option maxHeartbeats 4000000 in
set_option maxRecDepth 100000 in
theorem w_X11_areLike_b5 {l0 : Launch} (hfl : l0.stackTraces = false) {X : MX} {B : BX (EE × K)} {g : GP} {E : EE} {κ' : K} {rr : Int32} (O : CK l0 X B g cX11_areLike RX11 1 0) (hKP : KPok B E) (hmL : B.2.2.2.1 = 5) (hE : ∀ (pc : Nat) (lv : List (Nat × AV)), decode cX11_areLike pc = .ok (.ireturn, 1) → J X B (E, κ') pc lv [.inl (.int rr)]) (h0 : PC 11 E 5 0 0) : ∀ (n : Nat) (κ : K) (x1 : Int32) (x2 : Int32) (x3 : Int32) (x4 : Int32), f_X11_areLike_b5 E n κ x1 x2 x3 x4 = some (κ', rr) → J X B (E, κ) 5 [(0, .inr (some (5, 0, 0))), (1, .inl (.int x1)), (2, .inl (.int x2)), (3, .inl (.int x3)), (4, .inl (.int x4))] [] := by
  intro n
  induction n with
  | zero => intro κ x1 x2 x3 x4 h; cases h
  | succ n ih =>
    intro κ x1 x2 x3 x4 h
    rw [f_X11_areLike_b5] at h
    refine J_iload O.mo dX11_areLike_5 4 rfl ?_
    refine J_iconst O.mo (v := 4) dX11_areLike_7 (by decide) ?_
    refine J_icmp_ge O.mo (tgt := 80) dX11_areLike_8 (by decide) (fun hc1 => ?_) (fun hc1 => ?_)
    · replace h := (if_pos hc1).symm.trans h
      refine J_iload_n O.mo dX11_areLike_80 3 rfl ?_
      cases h
      exact hE _ _ dX11_areLike_81
    · replace h := (if_neg hc1).symm.trans h
      refine J_iload_n O.mo dX11_areLike_11 3 rfl ?_
      refine J_if_eq O.mo (tgt := 72) dX11_areLike_12 (by decide) (fun hc2 => ?_) (fun hc2 => ?_)
      · replace h := (if_pos hc2).symm.trans h
        refine J_sub [0, 1, 2, 4] rfl ?_
        exact w_X11_areLike_b72 hfl O hKP hmL hE h0 ih _ _ _ _ h
      · replace h := (if_neg hc2).symm.trans h
        refine J_aload_n O.mo dX11_areLike_15 0 rfl ?_
        refine J_getF O.co (kd0 := 11) (k11_0 h0) (l11_0 h0) (C := RX11) (T := TX11) (N := 42) rfl (by decide) rfl in_X11 1 (by decide) (v := .inr (some (5, 0, 1))) rfl mw545 rfl dX11_areLike_16 ?_
        refine J_bipush O.mo (v := 55) dX11_areLike_19 (by decide) ?_
        refine J_iload_n O.mo dX11_areLike_21 1 rfl ?_
        refine J_bipush O.mo (v := 8) dX11_areLike_22 (by decide) ?_
        refine J_idiv O.mo dX11_areLike_24 (by decide) ?_
        refine J_imul O.mo dX11_areLike_25 ?_
        refine J_bipush O.mo (v := 17) dX11_areLike_26 (by decide) ?_
        refine J_iadd O.mo dX11_areLike_28 ?_
        refine J_iconst O.mo (v := 4) dX11_areLike_29 (by decide) ?_
        refine J_iload_n O.mo dX11_areLike_30 1 rfl ?_
        refine J_bipush O.mo (v := 8) dX11_areLike_31 (by decide) ?_
        refine J_irem O.mo dX11_areLike_33 (by decide) ?_
        refine J_imul O.mo dX11_areLike_34 ?_
        refine J_iadd O.mo dX11_areLike_35 ?_
        refine J_iload O.mo dX11_areLike_36 4 rfl ?_
        refine J_iadd O.mo dX11_areLike_38 ?_
        obtain ⟨hg4, h⟩ := gd_some h
        refine J_iald O.co (g := (kV κ 5 0 1)) (ct_20n (l11_1 h0) (k11_1 h0) (n11_1 h0)) hg4 dX11_areLike_39 ?_
        refine J_aload_n O.mo dX11_areLike_40 0 rfl ?_
        refine J_getF O.co (kd0 := 11) (k11_0 h0) (l11_0 h0) (C := RX11) (T := TX11) (N := 42) rfl (by decide) rfl in_X11 1 (by decide) (v := .inr (some (5, 0, 1))) rfl mw545 rfl dX11_areLike_41 ?_
        refine J_bipush O.mo (v := 55) dX11_areLike_44 (by decide) ?_
        refine J_iload_n O.mo dX11_areLike_46 2 rfl ?_
        refine J_bipush O.mo (v := 8) dX11_areLike_47 (by decide) ?_
        refine J_idiv O.mo dX11_areLike_49 (by decide) ?_
        refine J_imul O.mo dX11_areLike_50 ?_
        refine J_bipush O.mo (v := 17) dX11_areLike_51 (by decide) ?_
        refine J_iadd O.mo dX11_areLike_53 ?_
        refine J_iconst O.mo (v := 4) dX11_areLike_54 (by decide) ?_
        refine J_iload_n O.mo dX11_areLike_55 2 rfl ?_
        refine J_bipush O.mo (v := 8) dX11_areLike_56 (by decide) ?_
        refine J_irem O.mo dX11_areLike_58 (by decide) ?_
        refine J_imul O.mo dX11_areLike_59 ?_
        refine J_iadd O.mo dX11_areLike_60 ?_
        refine J_iload O.mo dX11_areLike_61 4 rfl ?_
        refine J_iadd O.mo dX11_areLike_63 ?_
        obtain ⟨hg5, h⟩ := gd_some h
        refine J_iald O.co (g := (kV κ 5 0 1)) (ct_20n (l11_1 h0) (k11_1 h0) (n11_1 h0)) hg5 dX11_areLike_64 ?_
        refine J_icmp_ne O.mo (tgt := 72) dX11_areLike_65 (by decide) (fun hc6 => ?_) (fun hc6 => ?_)
        · replace h := (if_neg hc6).symm.trans h
          refine J_sub [0, 1, 2, 4] rfl ?_
          exact w_X11_areLike_b72 hfl O hKP hmL hE h0 ih _ _ _ _ h
        · replace h := (if_pos hc6).symm.trans h
          refine J_iconst O.mo (v := 1) dX11_areLike_68 (by decide) ?_
          refine J_goto O.mo (tgt := 73) dX11_areLike_69 (by decide) ?_
          refine J_sub [0, 1, 2, 4] rfl ?_
          exact w_X11_areLike_b73 hfl O hKP hmL hE h0 ih _ _ _ _ _ h
set_option maxHeartbeats 4000000 in
set_option maxRecDepth 100000 in
theorem w_X11_areLike_e {l0 : Launch} (hfl : l0.stackTraces = false) {X : MX} {B : BX (EE × K)} {g : GP} {E : EE} {κ' : K} {rr : Int32} (O : CK l0 X B g cX11_areLike RX11 1 0) (hKP : KPok B E) (hmL : B.2.2.2.1 = 5) (hE : ∀ (pc : Nat) (lv : List (Nat × AV)), decode cX11_areLike pc = .ok (.ireturn, 1) → J X B (E, κ') pc lv [.inl (.int rr)]) (h0 : PC 11 E 5 0 0) : ∀ (κ : K) (a1 : Int32) (a2 : Int32), f_X11_areLike_e E κ a1 a2 = some (κ', rr) → J X B (E, κ) 0 [(0, .inr (some (5, 0, 0))), (1, .inl (.int a1)), (2, .inl (.int a2))] [] := by
  intro κ a1 a2 h
  unfold f_X11_areLike_e at h
  refine J_iconst O.mo (v := 1) dX11_areLike_0 (by decide) ?_
  refine J_istore_n O.mo (lv' := [(0, .inr (some (5, 0, 0))), (1, .inl (.int a1)), (2, .inl (.int a2))]) dX11_areLike_1 (by rw [hmL]; decide) rfl rfl ?_
  refine J_iconst O.mo (v := 0) dX11_areLike_2 (by decide) ?_
  refine J_istore O.mo (lv' := [(3, .inl (.int 1)), (0, .inr (some (5, 0, 0))), (1, .inl (.int a1)), (2, .inl (.int a2))]) dX11_areLike_3 (by rw [hmL]; decide) rfl rfl ?_
  refine J_sub [2, 3, 4, 1, 0] rfl ?_
  exact w_X11_areLike_b5 hfl O hKP hmL hE h0 FU _ _ _ _ _ h
theorem c_X11_areLike {l : Launch} (hfl : l.stackTraces = false) {E : EE} {κ κ' : K} {a1 : Int32} {a2 : Int32} (h0 : PC 11 E 5 0 0) {rr : Int32} (h : f_X11_areLike E κ a1 a2 = some (κ', rr)) : Con l yX11_areLike cX11_areLike 5 (some .boolean) 1 0 [.inr (some (5, 0, 0)), .inl (.int a1), .inl (.int a2)] (E, κ) (E, κ') (some (.inl (.int rr))) := by
  unfold f_X11_areLike at h
  obtain ⟨κ1, x1, q1, q2⟩ := bd_some h
  obtain ⟨hb, q3⟩ := gd_some q2
  cases q3
  exact Con_of hfl (by decide +kernel) (Nat.le_of_ble_eq_true rfl) rfl ⟨_, rfl, nar_b hb⟩ (fun X B g O hKP hmL hE => w_X11_areLike_e hfl O hKP hmL hE h0 _ _ _ q1)
def f_X11_canShare_e (E : EE) (κ : K) (a1 : Int32) : Option (K × Int32) := if a1 = (-1) then some (κ, 0) else gd (¬ ((a1 / 8) < 0 ∨ 5 ≤ (a1 / 8).toNatClampNeg)) (if (kV κ 5 0 17) (a1 / 8).toNatClampNeg = 0 then some (κ, 1) else some (κ, 0))
def f_X11_canShare (E : EE) (κ : K) (a1 : Int32) : Option (K × Int32) := bd (f_X11_canShare_e E κ a1) fun κ x => gd (x = 0 ∨ x = 1) (some (κ, x))
set_option maxHeartbeats 4000000 in
set_option maxRecDepth 100000 in
theorem w_X11_canShare_e {l0 : Launch} (hfl : l0.stackTraces = false) {X : MX} {B : BX (EE × K)} {g : GP} {E : EE} {κ' : K} {rr : Int32} (O : CK l0 X B g cX11_canShare RX11 1 0) (hKP : KPok B E) (hmL : B.2.2.2.1 = 2) (hE : ∀ (pc : Nat) (lv : List (Nat × AV)), decode cX11_canShare pc = .ok (.ireturn, 1) → J X B (E, κ') pc lv [.inl (.int rr)]) (h0 : PC 11 E 5 0 0) : ∀ (κ : K) (a1 : Int32), f_X11_canShare_e E κ a1 = some (κ', rr) → J X B (E, κ) 0 [(0, .inr (some (5, 0, 0))), (1, .inl (.int a1))] [] := by
  intro κ a1 h
  unfold f_X11_canShare_e at h
  refine J_iload_n O.mo dX11_canShare_0 1 rfl ?_
  refine J_iconst O.mo (v := (-1)) dX11_canShare_1 (by decide) ?_
  refine J_icmp_eq O.mo (tgt := 21) dX11_canShare_2 (by decide) (fun hc1 => ?_) (fun hc1 => ?_)
  · replace h := (if_pos hc1).symm.trans h
    refine J_iconst O.mo (v := 0) dX11_canShare_21 (by decide) ?_
    cases h
    exact hE _ _ dX11_canShare_22
  · replace h := (if_neg hc1).symm.trans h
    refine J_aload_n O.mo dX11_canShare_5 0 rfl ?_
    refine J_getF O.co (kd0 := 11) (k11_0 h0) (l11_0 h0) (C := RX11) (T := TX11) (N := 42) rfl (by decide) rfl in_X11 17 (by decide) (v := .inr (some (5, 0, 17))) rfl mw609 rfl dX11_canShare_6 ?_
    refine J_iload_n O.mo dX11_canShare_9 1 rfl ?_
    refine J_bipush O.mo (v := 8) dX11_canShare_10 (by decide) ?_
    refine J_idiv O.mo dX11_canShare_12 (by decide) ?_
    obtain ⟨hg2, h⟩ := gd_some h
    refine J_bald O.co (g := (kV κ 5 0 17)) (ct_22n (l11_17 h0) (k11_17 h0) (n11_17 h0)) hg2 dX11_canShare_13 ?_
    refine J_if_ne O.mo (tgt := 21) dX11_canShare_14 (by decide) (fun hc3 => ?_) (fun hc3 => ?_)
    · replace h := (if_neg hc3).symm.trans h
      refine J_iconst O.mo (v := 0) dX11_canShare_21 (by decide) ?_
      cases h
      exact hE _ _ dX11_canShare_22
    · replace h := (if_pos hc3).symm.trans h
      refine J_iconst O.mo (v := 1) dX11_canShare_17 (by decide) ?_
      refine J_goto O.mo (tgt := 22) dX11_canShare_18 (by decide) ?_
      cases h
      exact hE _ _ dX11_canShare_22
theorem c_X11_canShare {l : Launch} (hfl : l.stackTraces = false) {E : EE} {κ κ' : K} {a1 : Int32} (h0 : PC 11 E 5 0 0) {rr : Int32} (h : f_X11_canShare E κ a1 = some (κ', rr)) : Con l yX11_canShare cX11_canShare 2 (some .boolean) 1 0 [.inr (some (5, 0, 0)), .inl (.int a1)] (E, κ) (E, κ') (some (.inl (.int rr))) := by
  unfold f_X11_canShare at h
  obtain ⟨κ1, x1, q1, q2⟩ := bd_some h
  obtain ⟨hb, q3⟩ := gd_some q2
  cases q3
  exact Con_of hfl (by decide +kernel) (Nat.le_of_ble_eq_true rfl) rfl ⟨_, rfl, nar_b hb⟩ (fun X B g O hKP hmL hE => w_X11_canShare_e hfl O hKP hmL hE h0 _ _ q1)
def f_X11_share_b222 (E : EE) (k27 : K → Int32 → Int32 → Int32 → Option (K × Int32)) (κ : K) (x1 : Int32) (x2 : Int32) (x3 : Int32) : Option (K × Int32) := nm (x3 + 1) fun y15 => k27 κ x1 x2 y15
def f_X11_share_b216 (E : EE) (k27 : K → Int32 → Int32 → Int32 → Option (K × Int32)) (k46 : K → Int32 → Int32 → Int32 → Int32 → Int32 → Option (K × Int32)) (κ : K) (x1 : Int32) (x2 : Int32) (x3 : Int32) (x4 : Int32) (x5 : Int32) : Option (K × Int32) := nm (x5 + 1) fun y27 => k46 κ x1 x2 x3 x4 y27
def f_X11_share_b212 (E : EE) (k27 : K → Int32 → Int32 → Int32 → Option (K × Int32)) (k46 : K → Int32 → Int32 → Int32 → Int32 → Int32 → Option (K × Int32)) (κ : K) (x1 : Int32) (x2 : Int32) (x3 : Int32) (x4 : Int32) (x5 : Int32) (xs0 : Int32) (xs1 : Int32) : Option (K × Int32) := gd (¬ (xs1 < 0 ∨ 32 ≤ xs1.toNatClampNeg)) (nm (setV κ 5 0 29 xs1.toNatClampNeg xs0) fun κ39 => nm (x2 + 1) fun y40 => f_X11_share_b216 E k27 k46 κ39 x1 y40 x3 x4 x5)
def f_X11_share_b156 (E : EE) (k27 : K → Int32 → Int32 → Int32 → Option (K × Int32)) (k46 : K → Int32 → Int32 → Int32 → Int32 → Int32 → Option (K × Int32)) (κ : K) (x1 : Int32) (x2 : Int32) (x3 : Int32) (x4 : Int32) (x5 : Int32) : Option (K × Int32) := gd (¬ (((16 * x1) + x5) < 0 ∨ 32 ≤ ((16 * x1) + x5).toNatClampNeg)) (nm ((kV κ 5 0 29) ((16 * x1) + x5).toNatClampNeg) fun y34 => gd (¬ (((16 * x1) + x3) < 0 ∨ 32 ≤ ((16 * x1) + x3).toNatClampNeg)) (if y34 ≤ (kV κ 5 0 29) ((16 * x1) + x3).toNatClampNeg then gd (¬ (((16 * x1) + x3) < 0 ∨ 32 ≤ ((16 * x1) + x3).toNatClampNeg)) (f_X11_share_b212 E k27 k46 κ x1 x2 x3 x4 x5 ((kV κ 5 0 29) ((16 * x1) + x3).toNatClampNeg) ((16 * x1) + x3)) else f_X11_share_b212 E k27 k46 κ x1 x2 x3 x4 x5 y34 ((16 * x1) + x3)))
def f_X11_share_b149 (E : EE) (k27 : K → Int32 → Int32 → Int32 → Option (K × Int32)) (k46 : K → Int32 → Int32 → Int32 → Int32 → Int32 → Option (K × Int32)) (k94 : K → Int32 → Int32 → Int32 → Int32 → Int32 → Int32 → Option (K × Int32)) (κ : K) (x1 : Int32) (x2 : Int32) (x3 : Int32) (x4 : Int32) (x5 : Int32) (x7 : Int32) (xs0 : Int32) (xs1 : Int32) : Option (K × Int32) := gd (¬ (xs1 < 0 ∨ 40 ≤ xs1.toNatClampNeg)) (nm (setV κ 5 0 28 xs1.toNatClampNeg xs0) fun κ45 => nm (x7 + 1) fun y46 => k94 κ45 x1 x2 x3 x4 x5 y46)
def f_X11_share_b142 (E : EE) (k27 : K → Int32 → Int32 → Int32 → Option (K × Int32)) (k46 : K → Int32 → Int32 → Int32 → Int32 → Int32 → Option (K × Int32)) (k94 : K → Int32 → Int32 → Int32 → Int32 → Int32 → Int32 → Option (K × Int32)) (κ : K) (x1 : Int32) (x2 : Int32) (x3 : Int32) (x4 : Int32) (x5 : Int32) (x7 : Int32) (xs0 : Int32) : Option (K × Int32) := gd (¬ (x7 < 0 ∨ 40 ≤ x7.toNatClampNeg)) (f_X11_share_b149 E k27 k46 k94 κ x1 x2 x3 x4 x5 x7 ((kV κ 5 0 28) x7.toNatClampNeg) xs0)
def f_X11_share_b94 (E : EE) (k27 : K → Int32 → Int32 → Int32 → Option (K × Int32)) (k46 : K → Int32 → Int32 → Int32 → Int32 → Int32 → Option (K × Int32)) : Nat → K → Int32 → Int32 → Int32 → Int32 → Int32 → Int32 → Option (K × Int32)
  | 0, _, _, _, _, _, _, _ => none
  | n + 1, κ, x1, x2, x3, x4, x5, x7 => if 8 * (kV κ 5 0 0 26) ≤ x7 then f_X11_share_b156 E k27 k46 κ x1 x2 x3 x4 x5 else gd (¬ ((x7 / 8) < 0 ∨ 5 ≤ (x7 / 8).toNatClampNeg)) (if (kV κ 5 0 15) (x7 / 8).toNatClampNeg = x1 then gd (¬ (x7 < 0 ∨ 40 ≤ x7.toNatClampNeg)) (if (kV κ 5 0 28) x7.toNatClampNeg = x5 then f_X11_share_b149 E k27 k46 (f_X11_share_b94 E k27 k46 n) κ x1 x2 x3 x4 x5 x7 x3 x7 else f_X11_share_b142 E k27 k46 (f_X11_share_b94 E k27 k46 n) κ x1 x2 x3 x4 x5 x7 x7) else f_X11_share_b142 E k27 k46 (f_X11_share_b94 E k27 k46 n) κ x1 x2 x3 x4 x5 x7 x7)
def f_X11_share_b46 (E : EE) (k27 : K → Int32 → Int32 → Int32 → Option (K × Int32)) : Nat → K → Int32 → Int32 → Int32 → Int32 → Int32 → Option (K × Int32)
  | 0, _, _, _, _, _, _ => none
  | n + 1, κ, x1, x2, x3, x4, x5 => if 16 ≤ x5 then f_X11_share_b222 E k27 κ x1 x2 x3 else bd (f_X11_canShare E κ x4) fun κ16 r18 => if r18 = 0 then f_X11_share_b222 E k27 κ16 x1 x2 x3 else bd (f_X11_pageIn E κ16 x1 x5) fun κ20 r22 => bd (f_X11_canShare E κ20 r22) fun κ23 r25 => if r25 = 0 then f_X11_share_b216 E k27 (f_X11_share_b46 E k27 n) κ23 x1 x2 x3 x4 x5 else bd (f_X11_areLike E κ23 x4 r22) fun κ28 r30 => if r30 = 0 then f_X11_share_b216 E k27 (f_X11_share_b46 E k27 n) κ28 x1 x2 x3 x4 x5 else f_X11_share_b94 E k27 (f_X11_share_b46 E k27 n) FU κ28 x1 x2 x3 x4 x5 0
def f_X11_share_b27 (E : EE) : Nat → K → Int32 → Int32 → Int32 → Option (K × Int32)
  | 0, _, _, _, _ => none
  | n + 1, κ, x1, x2, x3 => if 16 ≤ x3 then some (κ, x2) else bd (f_X11_pageIn E κ x1 x3) fun κ10 r12 => nm (x3 + 1) fun y13 => f_X11_share_b46 E (f_X11_share_b27 E n) FU κ10 x1 x2 x3 r12 y13
def f_X11_share_b15 (E : EE) (κ : K) (x1 : Int32) (xs0 : Int32) : Option (K × Int32) := bd (f_X11_refused E κ xs0) fun κ5 r7 => if r7 = 0 then f_X11_share_b27 E FU κ5 x1 0 0 else some (κ5, 0)
def f_X11_share (E : EE) (κ : K) (a1 : Int32) : Option (K × Int32) := bd (f_X11_in E κ a1 0 1) fun κ1 r3 => if r3 = 0 then f_X11_share_b15 E κ1 a1 1 else f_X11_share_b15 E κ1 a1 0
set_option maxHeartbeats 4000000 in
set_option maxRecDepth 100000 in
theorem w_X11_share_b222 {l0 : Launch} (hfl : l0.stackTraces = false) {X : MX} {B : BX (EE × K)} {g : GP} {E : EE} {κ' : K} {rr : Int32} (O : CK l0 X B g cX11_share RX11 2 24) (hKP : KPok B E) (hmL : B.2.2.2.1 = 8) (hE : ∀ (pc : Nat) (lv : List (Nat × AV)), decode cX11_share pc = .ok (.ireturn, 1) → J X B (E, κ') pc lv [.inl (.int rr)]) (h0 : PC 11 E 5 0 0) {k27 : K → Int32 → Int32 → Int32 → Option (K × Int32)} (hk27 : ∀ (κ : K) (x1 : Int32) (x2 : Int32) (x3 : Int32), k27 κ x1 x2 x3 = some (κ', rr) → J X B (E, κ) 27 [(0, .inr (some (5, 0, 0))), (1, .inl (.int x1)), (2, .inl (.int x2)), (3, .inl (.int x3))] []) : ∀ (κ : K) (x1 : Int32) (x2 : Int32) (x3 : Int32), f_X11_share_b222 E k27 κ x1 x2 x3 = some (κ', rr) → J X B (E, κ) 222 [(0, .inr (some (5, 0, 0))), (1, .inl (.int x1)), (2, .inl (.int x2)), (3, .inl (.int x3))] [] := by
  intro κ x1 x2 x3 h
  unfold f_X11_share_b222 at h
  refine J_iinc O.mo (v := x3 + 1) (lv' := [(0, .inr (some (5, 0, 0))), (1, .inl (.int x1)), (2, .inl (.int x2))]) dX11_share_222 (by rw [hmL]; decide) 3 rfl (by rw [show Int32.ofInt (1) = (1 : Int32) from by decide]) rfl rfl ?_
  refine nm_some (P := fun z => J X B (E, κ) 225 [(3, .inl (.int z)), (0, .inr (some (5, 0, 0))), (1, .inl (.int x1)), (2, .inl (.int x2))] []) h (fun y15 h => ?_)
  refine J_goto O.mo (tgt := 27) dX11_share_225 (by decide) ?_
  refine J_sub [1, 2, 3, 0] rfl ?_
  exact hk27 _ _ _ _ h
set_option maxHeartbeats 4000000 in
set_option maxRecDepth 100000 in
theorem w_X11_share_b216 {l0 : Launch} (hfl : l0.stackTraces = false) {X : MX} {B : BX (EE × K)} {g : GP} {E : EE} {κ' : K} {rr : Int32} (O : CK l0 X B g cX11_share RX11 2 24) (hKP : KPok B E) (hmL : B.2.2.2.1 = 8) (hE : ∀ (pc : Nat) (lv : List (Nat × AV)), decode cX11_share pc = .ok (.ireturn, 1) → J X B (E, κ') pc lv [.inl (.int rr)]) (h0 : PC 11 E 5 0 0) {k27 : K → Int32 → Int32 → Int32 → Option (K × Int32)} {k46 : K → Int32 → Int32 → Int32 → Int32 → Int32 → Option (K × Int32)} (hk27 : ∀ (κ : K) (x1 : Int32) (x2 : Int32) (x3 : Int32), k27 κ x1 x2 x3 = some (κ', rr) → J X B (E, κ) 27 [(0, .inr (some (5, 0, 0))), (1, .inl (.int x1)), (2, .inl (.int x2)), (3, .inl (.int x3))] []) (hk46 : ∀ (κ : K) (x1 : Int32) (x2 : Int32) (x3 : Int32) (x4 : Int32) (x5 : Int32), k46 κ x1 x2 x3 x4 x5 = some (κ', rr) → J X B (E, κ) 46 [(0, .inr (some (5, 0, 0))), (1, .inl (.int x1)), (2, .inl (.int x2)), (3, .inl (.int x3)), (4, .inl (.int x4)), (5, .inl (.int x5))] []) : ∀ (κ : K) (x1 : Int32) (x2 : Int32) (x3 : Int32) (x4 : Int32) (x5 : Int32), f_X11_share_b216 E k27 k46 κ x1 x2 x3 x4 x5 = some (κ', rr) → J X B (E, κ) 216 [(0, .inr (some (5, 0, 0))), (1, .inl (.int x1)), (2, .inl (.int x2)), (3, .inl (.int x3)), (4, .inl (.int x4)), (5, .inl (.int x5))] [] := by
  intro κ x1 x2 x3 x4 x5 h
  unfold f_X11_share_b216 at h
  refine J_iinc O.mo (v := x5 + 1) (lv' := [(0, .inr (some (5, 0, 0))), (1, .inl (.int x1)), (2, .inl (.int x2)), (3, .inl (.int x3)), (4, .inl (.int x4))]) dX11_share_216 (by rw [hmL]; decide) 5 rfl (by rw [show Int32.ofInt (1) = (1 : Int32) from by decide]) rfl rfl ?_
  refine nm_some (P := fun z => J X B (E, κ) 219 [(5, .inl (.int z)), (0, .inr (some (5, 0, 0))), (1, .inl (.int x1)), (2, .inl (.int x2)), (3, .inl (.int x3)), (4, .inl (.int x4))] []) h (fun y27 h => ?_)
  refine J_goto O.mo (tgt := 46) dX11_share_219 (by decide) ?_
  refine J_sub [1, 2, 3, 4, 5, 0] rfl ?_
  exact hk46 _ _ _ _ _ _ h
set_option maxHeartbeats 4000000 in
set_option maxRecDepth 100000 in
theorem w_X11_share_b212 {l0 : Launch} (hfl : l0.stackTraces = false) {X : MX} {B : BX (EE × K)} {g : GP} {E : EE} {κ' : K} {rr : Int32} (O : CK l0 X B g cX11_share RX11 2 24) (hKP : KPok B E) (hmL : B.2.2.2.1 = 8) (hE : ∀ (pc : Nat) (lv : List (Nat × AV)), decode cX11_share pc = .ok (.ireturn, 1) → J X B (E, κ') pc lv [.inl (.int rr)]) (h0 : PC 11 E 5 0 0) {k27 : K → Int32 → Int32 → Int32 → Option (K × Int32)} {k46 : K → Int32 → Int32 → Int32 → Int32 → Int32 → Option (K × Int32)} (hk27 : ∀ (κ : K) (x1 : Int32) (x2 : Int32) (x3 : Int32), k27 κ x1 x2 x3 = some (κ', rr) → J X B (E, κ) 27 [(0, .inr (some (5, 0, 0))), (1, .inl (.int x1)), (2, .inl (.int x2)), (3, .inl (.int x3))] []) (hk46 : ∀ (κ : K) (x1 : Int32) (x2 : Int32) (x3 : Int32) (x4 : Int32) (x5 : Int32), k46 κ x1 x2 x3 x4 x5 = some (κ', rr) → J X B (E, κ) 46 [(0, .inr (some (5, 0, 0))), (1, .inl (.int x1)), (2, .inl (.int x2)), (3, .inl (.int x3)), (4, .inl (.int x4)), (5, .inl (.int x5))] []) : ∀ (κ : K) (x1 : Int32) (x2 : Int32) (x3 : Int32) (x4 : Int32) (x5 : Int32) (xs0 : Int32) (xs1 : Int32), f_X11_share_b212 E k27 k46 κ x1 x2 x3 x4 x5 xs0 xs1 = some (κ', rr) → J X B (E, κ) 212 [(0, .inr (some (5, 0, 0))), (1, .inl (.int x1)), (2, .inl (.int x2)), (3, .inl (.int x3)), (4, .inl (.int x4)), (5, .inl (.int x5))] [.inl (.int xs0), .inl (.int xs1), .inr (some (5, 0, 29))] := by
  intro κ x1 x2 x3 x4 x5 xs0 xs1 h
  unfold f_X11_share_b212 at h
  obtain ⟨hg38, h⟩ := gd_some h
  refine row_20 O (l11_29 h0) (k11_29 h0) (n11_29 h0) hg38 (x := xs0) dX11_share_212 ?_
  refine nm_some (P := fun z => J X B (E, z) 213 [(0, .inr (some (5, 0, 0))), (1, .inl (.int x1)), (2, .inl (.int x2)), (3, .inl (.int x3)), (4, .inl (.int x4)), (5, .inl (.int x5))] []) h (fun κ39 h => ?_)
  refine J_iinc O.mo (v := x2 + 1) (lv' := [(0, .inr (some (5, 0, 0))), (1, .inl (.int x1)), (3, .inl (.int x3)), (4, .inl (.int x4)), (5, .inl (.int x5))]) dX11_share_213 (by rw [hmL]; decide) 2 rfl (by rw [show Int32.ofInt (1) = (1 : Int32) from by decide]) rfl rfl ?_
  refine nm_some (P := fun z => J X B (E, κ39) 216 [(2, .inl (.int z)), (0, .inr (some (5, 0, 0))), (1, .inl (.int x1)), (3, .inl (.int x3)), (4, .inl (.int x4)), (5, .inl (.int x5))] []) h (fun y40 h => ?_)
  refine J_sub [1, 2, 0, 3, 4, 5] rfl ?_
  exact w_X11_share_b216 hfl O hKP hmL hE h0 hk27 hk46 _ _ _ _ _ _ h
set_option maxHeartbeats 4000000 in
set_option maxRecDepth 100000 in
theorem w_X11_share_b156 {l0 : Launch} (hfl : l0.stackTraces = false) {X : MX} {B : BX (EE × K)} {g : GP} {E : EE} {κ' : K} {rr : Int32} (O : CK l0 X B g cX11_share RX11 2 24) (hKP : KPok B E) (hmL : B.2.2.2.1 = 8) (hE : ∀ (pc : Nat) (lv : List (Nat × AV)), decode cX11_share pc = .ok (.ireturn, 1) → J X B (E, κ') pc lv [.inl (.int rr)]) (h0 : PC 11 E 5 0 0) {k27 : K → Int32 → Int32 → Int32 → Option (K × Int32)} {k46 : K → Int32 → Int32 → Int32 → Int32 → Int32 → Option (K × Int32)} (hk27 : ∀ (κ : K) (x1 : Int32) (x2 : Int32) (x3 : Int32), k27 κ x1 x2 x3 = some (κ', rr) → J X B (E, κ) 27 [(0, .inr (some (5, 0, 0))), (1, .inl (.int x1)), (2, .inl (.int x2)), (3, .inl (.int x3))] []) (hk46 : ∀ (κ : K) (x1 : Int32) (x2 : Int32) (x3 : Int32) (x4 : Int32) (x5 : Int32), k46 κ x1 x2 x3 x4 x5 = some (κ', rr) → J X B (E, κ) 46 [(0, .inr (some (5, 0, 0))), (1, .inl (.int x1)), (2, .inl (.int x2)), (3, .inl (.int x3)), (4, .inl (.int x4)), (5, .inl (.int x5))] []) : ∀ (κ : K) (x1 : Int32) (x2 : Int32) (x3 : Int32) (x4 : Int32) (x5 : Int32), f_X11_share_b156 E k27 k46 κ x1 x2 x3 x4 x5 = some (κ', rr) → J X B (E, κ) 156 [(0, .inr (some (5, 0, 0))), (1, .inl (.int x1)), (2, .inl (.int x2)), (3, .inl (.int x3)), (4, .inl (.int x4)), (5, .inl (.int x5))] [] := by
  intro κ x1 x2 x3 x4 x5 h
  unfold f_X11_share_b156 at h
  refine J_aload_n O.mo dX11_share_156 0 rfl ?_
  refine J_getF O.co (kd0 := 11) (k11_0 h0) (l11_0 h0) (C := RX11) (T := TX11) (N := 42) rfl (by decide) rfl in_X11 29 (by decide) (v := .inr (some (5, 0, 29))) rfl mw533 rfl dX11_share_157 ?_
  refine J_bipush O.mo (v := 16) dX11_share_160 (by decide) ?_
  refine J_iload_n O.mo dX11_share_162 1 rfl ?_
  refine J_imul O.mo dX11_share_163 ?_
  refine J_iload O.mo dX11_share_164 5 rfl ?_
  refine J_iadd O.mo dX11_share_166 ?_
  obtain ⟨hg33, h⟩ := gd_some h
  refine J_iald O.co (g := (kV κ 5 0 29)) (ct_20n (l11_29 h0) (k11_29 h0) (n11_29 h0)) hg33 dX11_share_167 ?_
  refine J_istore O.mo (lv' := [(0, .inr (some (5, 0, 0))), (1, .inl (.int x1)), (2, .inl (.int x2)), (3, .inl (.int x3)), (4, .inl (.int x4)), (5, .inl (.int x5))]) dX11_share_168 (by rw [hmL]; decide) rfl rfl ?_
  refine nm_some (P := fun z => J X B (E, κ) 170 [(7, .inl (.int z)), (0, .inr (some (5, 0, 0))), (1, .inl (.int x1)), (2, .inl (.int x2)), (3, .inl (.int x3)), (4, .inl (.int x4)), (5, .inl (.int x5))] []) h (fun y34 h => ?_)
  refine J_aload_n O.mo dX11_share_170 1 rfl ?_
  refine J_getF O.co (kd0 := 11) (k11_0 h0) (l11_0 h0) (C := RX11) (T := TX11) (N := 42) rfl (by decide) rfl in_X11 29 (by decide) (v := .inr (some (5, 0, 29))) rfl mw533 rfl dX11_share_171 ?_
  refine J_bipush O.mo (v := 16) dX11_share_174 (by decide) ?_
  refine J_iload_n O.mo dX11_share_176 2 rfl ?_
  refine J_imul O.mo dX11_share_177 ?_
  refine J_iload_n O.mo dX11_share_178 4 rfl ?_
  refine J_iadd O.mo dX11_share_179 ?_
  refine J_iload O.mo dX11_share_180 0 rfl ?_
  refine J_aload_n O.mo dX11_share_182 1 rfl ?_
  refine J_getF O.co (kd0 := 11) (k11_0 h0) (l11_0 h0) (C := RX11) (T := TX11) (N := 42) rfl (by decide) rfl in_X11 29 (by decide) (v := .inr (some (5, 0, 29))) rfl mw533 rfl dX11_share_183 ?_
  refine J_bipush O.mo (v := 16) dX11_share_186 (by decide) ?_
  refine J_iload_n O.mo dX11_share_188 2 rfl ?_
  refine J_imul O.mo dX11_share_189 ?_
  refine J_iload_n O.mo dX11_share_190 4 rfl ?_
  refine J_iadd O.mo dX11_share_191 ?_
  obtain ⟨hg35, h⟩ := gd_some h
  refine J_iald O.co (g := (kV κ 5 0 29)) (ct_20n (l11_29 h0) (k11_29 h0) (n11_29 h0)) hg35 dX11_share_192 ?_
  refine J_icmp_le O.mo (tgt := 201) dX11_share_193 (by decide) (fun hc36 => ?_) (fun hc36 => ?_)
  · replace h := (if_pos hc36).symm.trans h
    refine J_aload_n O.mo dX11_share_201 1 rfl ?_
    refine J_getF O.co (kd0 := 11) (k11_0 h0) (l11_0 h0) (C := RX11) (T := TX11) (N := 42) rfl (by decide) rfl in_X11 29 (by decide) (v := .inr (some (5, 0, 29))) rfl mw533 rfl dX11_share_202 ?_
    refine J_bipush O.mo (v := 16) dX11_share_205 (by decide) ?_
    refine J_iload_n O.mo dX11_share_207 2 rfl ?_
    refine J_imul O.mo dX11_share_208 ?_
    refine J_iload_n O.mo dX11_share_209 4 rfl ?_
    refine J_iadd O.mo dX11_share_210 ?_
    obtain ⟨hg37, h⟩ := gd_some h
    refine J_iald O.co (g := (kV κ 5 0 29)) (ct_20n (l11_29 h0) (k11_29 h0) (n11_29 h0)) hg37 dX11_share_211 ?_
    refine J_sub [1, 2, 3, 4, 5, 6] rfl ?_
    exact w_X11_share_b212 hfl O hKP hmL hE h0 hk27 hk46 _ _ _ _ _ _ _ _ h
  · replace h := (if_neg hc36).symm.trans h
    refine J_iload O.mo dX11_share_196 0 rfl ?_
    refine J_goto O.mo (tgt := 212) dX11_share_198 (by decide) ?_
    refine J_sub [1, 2, 3, 4, 5, 6] rfl ?_
    exact w_X11_share_b212 hfl O hKP hmL hE h0 hk27 hk46 _ _ _ _ _ _ _ _ h
set_option maxHeartbeats 4000000 in
set_option maxRecDepth 100000 in
theorem w_X11_share_b149 {l0 : Launch} (hfl : l0.stackTraces = false) {X : MX} {B : BX (EE × K)} {g : GP} {E : EE} {κ' : K} {rr : Int32} (O : CK l0 X B g cX11_share RX11 2 24) (hKP : KPok B E) (hmL : B.2.2.2.1 = 8) (hE : ∀ (pc : Nat) (lv : List (Nat × AV)), decode cX11_share pc = .ok (.ireturn, 1) → J X B (E, κ') pc lv [.inl (.int rr)]) (h0 : PC 11 E 5 0 0) {k27 : K → Int32 → Int32 → Int32 → Option (K × Int32)} {k46 : K → Int32 → Int32 → Int32 → Int32 → Int32 → Option (K × Int32)} {k94 : K → Int32 → Int32 → Int32 → Int32 → Int32 → Int32 → Option (K × Int32)} (hk27 : ∀ (κ : K) (x1 : Int32) (x2 : Int32) (x3 : Int32), k27 κ x1 x2 x3 = some (κ', rr) → J X B (E, κ) 27 [(0, .inr (some (5, 0, 0))), (1, .inl (.int x1)), (2, .inl (.int x2)), (3, .inl (.int x3))] []) (hk46 : ∀ (κ : K) (x1 : Int32) (x2 : Int32) (x3 : Int32) (x4 : Int32) (x5 : Int32), k46 κ x1 x2 x3 x4 x5 = some (κ', rr) → J X B (E, κ) 46 [(0, .inr (some (5, 0, 0))), (1, .inl (.int x1)), (2, .inl (.int x2)), (3, .inl (.int x3)), (4, .inl (.int x4)), (5, .inl (.int x5))] []) (hk94 : ∀ (κ : K) (x1 : Int32) (x2 : Int32) (x3 : Int32) (x4 : Int32) (x5 : Int32) (x7 : Int32), k94 κ x1 x2 x3 x4 x5 x7 = some (κ', rr) → J X B (E, κ) 94 [(0, .inr (some (5, 0, 0))), (1, .inl (.int x1)), (2, .inl (.int x2)), (3, .inl (.int x3)), (4, .inl (.int x4)), (5, .inl (.int x5)), (7, .inl (.int x7))] []) : ∀ (κ : K) (x1 : Int32) (x2 : Int32) (x3 : Int32) (x4 : Int32) (x5 : Int32) (x7 : Int32) (xs0 : Int32) (xs1 : Int32), f_X11_share_b149 E k27 k46 k94 κ x1 x2 x3 x4 x5 x7 xs0 xs1 = some (κ', rr) → J X B (E, κ) 149 [(0, .inr (some (5, 0, 0))), (1, .inl (.int x1)), (2, .inl (.int x2)), (3, .inl (.int x3)), (4, .inl (.int x4)), (5, .inl (.int x5)), (7, .inl (.int x7))] [.inl (.int xs0), .inl (.int xs1), .inr (some (5, 0, 28))] := by
  intro κ x1 x2 x3 x4 x5 x7 xs0 xs1 h
  unfold f_X11_share_b149 at h
  obtain ⟨hg44, h⟩ := gd_some h
  refine row_20 O (l11_28 h0) (k11_28 h0) (n11_28 h0) hg44 (x := xs0) dX11_share_149 ?_
  refine nm_some (P := fun z => J X B (E, z) 150 [(0, .inr (some (5, 0, 0))), (1, .inl (.int x1)), (2, .inl (.int x2)), (3, .inl (.int x3)), (4, .inl (.int x4)), (5, .inl (.int x5)), (7, .inl (.int x7))] []) h (fun κ45 h => ?_)
  refine J_iinc O.mo (v := x7 + 1) (lv' := [(0, .inr (some (5, 0, 0))), (1, .inl (.int x1)), (2, .inl (.int x2)), (3, .inl (.int x3)), (4, .inl (.int x4)), (5, .inl (.int x5))]) dX11_share_150 (by rw [hmL]; decide) 6 rfl (by rw [show Int32.ofInt (1) = (1 : Int32) from by decide]) rfl rfl ?_
  refine nm_some (P := fun z => J X B (E, κ45) 153 [(7, .inl (.int z)), (0, .inr (some (5, 0, 0))), (1, .inl (.int x1)), (2, .inl (.int x2)), (3, .inl (.int x3)), (4, .inl (.int x4)), (5, .inl (.int x5))] []) h (fun y46 h => ?_)
  refine J_goto O.mo (tgt := 94) dX11_share_153 (by decide) ?_
  refine J_sub [1, 2, 3, 4, 5, 6, 0] rfl ?_
  exact hk94 _ _ _ _ _ _ _ h
set_option maxHeartbeats 4000000 in
set_option maxRecDepth 100000 in
theorem w_X11_share_b142 {l0 : Launch} (hfl : l0.stackTraces = false) {X : MX} {B : BX (EE × K)} {g : GP} {E : EE} {κ' : K} {rr : Int32} (O : CK l0 X B g cX11_share RX11 2 24) (hKP : KPok B E) (hmL : B.2.2.2.1 = 8) (hE : ∀ (pc : Nat) (lv : List (Nat × AV)), decode cX11_share pc = .ok (.ireturn, 1) → J X B (E, κ') pc lv [.inl (.int rr)]) (h0 : PC 11 E 5 0 0) {k27 : K → Int32 → Int32 → Int32 → Option (K × Int32)} {k46 : K → Int32 → Int32 → Int32 → Int32 → Int32 → Option (K × Int32)} {k94 : K → Int32 → Int32 → Int32 → Int32 → Int32 → Int32 → Option (K × Int32)} (hk27 : ∀ (κ : K) (x1 : Int32) (x2 : Int32) (x3 : Int32), k27 κ x1 x2 x3 = some (κ', rr) → J X B (E, κ) 27 [(0, .inr (some (5, 0, 0))), (1, .inl (.int x1)), (2, .inl (.int x2)), (3, .inl (.int x3))] []) (hk46 : ∀ (κ : K) (x1 : Int32) (x2 : Int32) (x3 : Int32) (x4 : Int32) (x5 : Int32), k46 κ x1 x2 x3 x4 x5 = some (κ', rr) → J X B (E, κ) 46 [(0, .inr (some (5, 0, 0))), (1, .inl (.int x1)), (2, .inl (.int x2)), (3, .inl (.int x3)), (4, .inl (.int x4)), (5, .inl (.int x5))] []) (hk94 : ∀ (κ : K) (x1 : Int32) (x2 : Int32) (x3 : Int32) (x4 : Int32) (x5 : Int32) (x7 : Int32), k94 κ x1 x2 x3 x4 x5 x7 = some (κ', rr) → J X B (E, κ) 94 [(0, .inr (some (5, 0, 0))), (1, .inl (.int x1)), (2, .inl (.int x2)), (3, .inl (.int x3)), (4, .inl (.int x4)), (5, .inl (.int x5)), (7, .inl (.int x7))] []) : ∀ (κ : K) (x1 : Int32) (x2 : Int32) (x3 : Int32) (x4 : Int32) (x5 : Int32) (x7 : Int32) (xs0 : Int32), f_X11_share_b142 E k27 k46 k94 κ x1 x2 x3 x4 x5 x7 xs0 = some (κ', rr) → J X B (E, κ) 142 [(0, .inr (some (5, 0, 0))), (1, .inl (.int x1)), (2, .inl (.int x2)), (3, .inl (.int x3)), (4, .inl (.int x4)), (5, .inl (.int x5)), (7, .inl (.int x7))] [.inl (.int xs0), .inr (some (5, 0, 28))] := by
  intro κ x1 x2 x3 x4 x5 x7 xs0 h
  unfold f_X11_share_b142 at h
  refine J_aload_n O.mo dX11_share_142 0 rfl ?_
  refine J_getF O.co (kd0 := 11) (k11_0 h0) (l11_0 h0) (C := RX11) (T := TX11) (N := 42) rfl (by decide) rfl in_X11 28 (by decide) (v := .inr (some (5, 0, 28))) rfl mw527 rfl dX11_share_143 ?_
  refine J_iload O.mo dX11_share_146 6 rfl ?_
  obtain ⟨hg43, h⟩ := gd_some h
  refine J_iald O.co (g := (kV κ 5 0 28)) (ct_20n (l11_28 h0) (k11_28 h0) (n11_28 h0)) hg43 dX11_share_148 ?_
  exact w_X11_share_b149 hfl O hKP hmL hE h0 hk27 hk46 hk94 _ _ _ _ _ _ _ _ _ h
set_option maxHeartbeats 4000000 in
set_option maxRecDepth 100000 in
theorem w_X11_share_b94 {l0 : Launch} (hfl : l0.stackTraces = false) {X : MX} {B : BX (EE × K)} {g : GP} {E : EE} {κ' : K} {rr : Int32} (O : CK l0 X B g cX11_share RX11 2 24) (hKP : KPok B E) (hmL : B.2.2.2.1 = 8) (hE : ∀ (pc : Nat) (lv : List (Nat × AV)), decode cX11_share pc = .ok (.ireturn, 1) → J X B (E, κ') pc lv [.inl (.int rr)]) (h0 : PC 11 E 5 0 0) {k27 : K → Int32 → Int32 → Int32 → Option (K × Int32)} {k46 : K → Int32 → Int32 → Int32 → Int32 → Int32 → Option (K × Int32)} (hk27 : ∀ (κ : K) (x1 : Int32) (x2 : Int32) (x3 : Int32), k27 κ x1 x2 x3 = some (κ', rr) → J X B (E, κ) 27 [(0, .inr (some (5, 0, 0))), (1, .inl (.int x1)), (2, .inl (.int x2)), (3, .inl (.int x3))] []) (hk46 : ∀ (κ : K) (x1 : Int32) (x2 : Int32) (x3 : Int32) (x4 : Int32) (x5 : Int32), k46 κ x1 x2 x3 x4 x5 = some (κ', rr) → J X B (E, κ) 46 [(0, .inr (some (5, 0, 0))), (1, .inl (.int x1)), (2, .inl (.int x2)), (3, .inl (.int x3)), (4, .inl (.int x4)), (5, .inl (.int x5))] []) : ∀ (n : Nat) (κ : K) (x1 : Int32) (x2 : Int32) (x3 : Int32) (x4 : Int32) (x5 : Int32) (x7 : Int32), f_X11_share_b94 E k27 k46 n κ x1 x2 x3 x4 x5 x7 = some (κ', rr) → J X B (E, κ) 94 [(0, .inr (some (5, 0, 0))), (1, .inl (.int x1)), (2, .inl (.int x2)), (3, .inl (.int x3)), (4, .inl (.int x4)), (5, .inl (.int x5)), (7, .inl (.int x7))] [] := by
  intro n
  induction n with
  | zero => intro κ x1 x2 x3 x4 x5 x7 h; cases h
  | succ n ih =>
    intro κ x1 x2 x3 x4 x5 x7 h
    rw [f_X11_share_b94] at h
    refine J_iload O.mo dX11_share_94 6 rfl ?_
    refine J_bipush O.mo (v := 8) dX11_share_96 (by decide) ?_
    refine J_aload_n O.mo dX11_share_98 0 rfl ?_
    refine J_getF O.co (kd0 := 11) (k11_0 h0) (l11_0 h0) (C := RX11) (T := TX11) (N := 42) rfl (by decide) rfl in_X11 26 (by decide) (v := .inl (.int (kV κ 5 0 0 26))) rfl mw514 rfl dX11_share_99 ?_
    refine J_imul O.mo dX11_share_102 ?_
    refine J_icmp_ge O.mo (tgt := 156) dX11_share_103 (by decide) (fun hc32 => ?_) (fun hc32 => ?_)
    · replace h := (if_pos hc32).symm.trans h
      refine J_sub [0, 1, 2, 3, 4, 5] rfl ?_
      exact w_X11_share_b156 hfl O hKP hmL hE h0 hk27 hk46 _ _ _ _ _ _ h
    · replace h := (if_neg hc32).symm.trans h
      refine J_aload_n O.mo dX11_share_106 0 rfl ?_
      refine J_getF O.co (kd0 := 11) (k11_0 h0) (l11_0 h0) (C := RX11) (T := TX11) (N := 42) rfl (by decide) rfl in_X11 28 (by decide) (v := .inr (some (5, 0, 28))) rfl mw527 rfl dX11_share_107 ?_
      refine J_iload O.mo dX11_share_110 6 rfl ?_
      refine J_aload_n O.mo dX11_share_112 0 rfl ?_
      refine J_getF O.co (kd0 := 11) (k11_0 h0) (l11_0 h0) (C := RX11) (T := TX11) (N := 42) rfl (by decide) rfl in_X11 15 (by decide) (v := .inr (some (5, 0, 15))) rfl mw526 rfl dX11_share_113 ?_
      refine J_iload O.mo dX11_share_116 6 rfl ?_
      refine J_bipush O.mo (v := 8) dX11_share_118 (by decide) ?_
      refine J_idiv O.mo dX11_share_120 (by decide) ?_
      obtain ⟨hg41, h⟩ := gd_some h
      refine J_iald O.co (g := (kV κ 5 0 15)) (ct_20n (l11_15 h0) (k11_15 h0) (n11_15 h0)) hg41 dX11_share_121 ?_
      refine J_iload_n O.mo dX11_share_122 1 rfl ?_
      refine J_icmp_ne O.mo (tgt := 142) dX11_share_123 (by decide) (fun hc42 => ?_) (fun hc42 => ?_)
      · replace h := (if_neg hc42).symm.trans h
        exact w_X11_share_b142 hfl O hKP hmL hE h0 hk27 hk46 ih _ _ _ _ _ _ _ _ h
      · replace h := (if_pos hc42).symm.trans h
        refine J_aload_n O.mo dX11_share_126 0 rfl ?_
        refine J_getF O.co (kd0 := 11) (k11_0 h0) (l11_0 h0) (C := RX11) (T := TX11) (N := 42) rfl (by decide) rfl in_X11 28 (by decide) (v := .inr (some (5, 0, 28))) rfl mw527 rfl dX11_share_127 ?_
        refine J_iload O.mo dX11_share_130 6 rfl ?_
        obtain ⟨hg47, h⟩ := gd_some h
        refine J_iald O.co (g := (kV κ 5 0 28)) (ct_20n (l11_28 h0) (k11_28 h0) (n11_28 h0)) hg47 dX11_share_132 ?_
        refine J_iload O.mo dX11_share_133 5 rfl ?_
        refine J_icmp_ne O.mo (tgt := 142) dX11_share_135 (by decide) (fun hc48 => ?_) (fun hc48 => ?_)
        · replace h := (if_neg hc48).symm.trans h
          exact w_X11_share_b142 hfl O hKP hmL hE h0 hk27 hk46 ih _ _ _ _ _ _ _ _ h
        · replace h := (if_pos hc48).symm.trans h
          refine J_iload_n O.mo dX11_share_138 3 rfl ?_
          refine J_goto O.mo (tgt := 149) dX11_share_139 (by decide) ?_
          exact w_X11_share_b149 hfl O hKP hmL hE h0 hk27 hk46 ih _ _ _ _ _ _ _ _ _ h
set_option maxHeartbeats 4000000 in
set_option maxRecDepth 100000 in
theorem w_X11_share_b46 {l0 : Launch} (hfl : l0.stackTraces = false) {X : MX} {B : BX (EE × K)} {g : GP} {E : EE} {κ' : K} {rr : Int32} (O : CK l0 X B g cX11_share RX11 2 24) (hKP : KPok B E) (hmL : B.2.2.2.1 = 8) (hE : ∀ (pc : Nat) (lv : List (Nat × AV)), decode cX11_share pc = .ok (.ireturn, 1) → J X B (E, κ') pc lv [.inl (.int rr)]) (h0 : PC 11 E 5 0 0) {k27 : K → Int32 → Int32 → Int32 → Option (K × Int32)} (hk27 : ∀ (κ : K) (x1 : Int32) (x2 : Int32) (x3 : Int32), k27 κ x1 x2 x3 = some (κ', rr) → J X B (E, κ) 27 [(0, .inr (some (5, 0, 0))), (1, .inl (.int x1)), (2, .inl (.int x2)), (3, .inl (.int x3))] []) : ∀ (n : Nat) (κ : K) (x1 : Int32) (x2 : Int32) (x3 : Int32) (x4 : Int32) (x5 : Int32), f_X11_share_b46 E k27 n κ x1 x2 x3 x4 x5 = some (κ', rr) → J X B (E, κ) 46 [(0, .inr (some (5, 0, 0))), (1, .inl (.int x1)), (2, .inl (.int x2)), (3, .inl (.int x3)), (4, .inl (.int x4)), (5, .inl (.int x5))] [] := by
  intro n
  induction n with
  | zero => intro κ x1 x2 x3 x4 x5 h; cases h
  | succ n ih =>
    intro κ x1 x2 x3 x4 x5 h
    rw [f_X11_share_b46] at h
    refine J_iload O.mo dX11_share_46 5 rfl ?_
    refine J_bipush O.mo (v := 16) dX11_share_48 (by decide) ?_
    refine J_icmp_ge O.mo (tgt := 222) dX11_share_50 (by decide) (fun hc14 => ?_) (fun hc14 => ?_)
    · replace h := (if_pos hc14).symm.trans h
      refine J_sub [0, 1, 2, 3] rfl ?_
      exact w_X11_share_b222 hfl O hKP hmL hE h0 hk27 _ _ _ _ h
    · replace h := (if_neg hc14).symm.trans h
      refine J_aload_n O.mo dX11_share_53 0 rfl ?_
      refine J_iload O.mo dX11_share_54 4 rfl ?_
      obtain ⟨κ16, r18, hq17, h⟩ := bd_some h
      refine J_callV O hKP (as := [.inl (.int x4)]) (rest := []) (r := (some (.inl (.int r18)))) (c_X11_canShare hfl h0 hq17) rfl (kd0 := 11) (k11_0 h0) (l11_0 h0) (T := TX11) (N := 42) rfl (by decide) mw632 mw633 mw634 mw517 mw635 pd_X11_canShare rfl (by decide) rfl (Nat.le_of_ble_eq_true rfl) (sl_p (s11_0 h0) (sl_v (sl_v (sl_v (sl_v (sl_v sl_0)))))) st_0 dX11_share_56 ?_
      show J X B (E, κ16) 59 [(0, .inr (some (5, 0, 0))), (1, .inl (.int x1)), (2, .inl (.int x2)), (3, .inl (.int x3)), (4, .inl (.int x4)), (5, .inl (.int x5))] [.inl (.int r18)]
      refine J_if_eq O.mo (tgt := 222) dX11_share_59 (by decide) (fun hc19 => ?_) (fun hc19 => ?_)
      · replace h := (if_pos hc19).symm.trans h
        refine J_sub [0, 1, 2, 3] rfl ?_
        exact w_X11_share_b222 hfl O hKP hmL hE h0 hk27 _ _ _ _ h
      · replace h := (if_neg hc19).symm.trans h
        refine J_aload_n O.mo dX11_share_62 0 rfl ?_
        refine J_iload_n O.mo dX11_share_63 1 rfl ?_
        refine J_iload O.mo dX11_share_64 5 rfl ?_
        obtain ⟨κ20, r22, hq21, h⟩ := bd_some h
        refine J_callV O hKP (as := [.inl (.int x1), .inl (.int x5)]) (rest := []) (r := (some (.inl (.int r22)))) (c_X11_pageIn hfl h0 hq21) rfl (kd0 := 11) (k11_0 h0) (l11_0 h0) (T := TX11) (N := 42) rfl (by decide) mw529 mw530 mw531 mw517 mw532 pd_X11_pageIn rfl (by decide) rfl (Nat.le_of_ble_eq_true rfl) (sl_p (s11_0 h0) (sl_v (sl_v (sl_v (sl_v (sl_v sl_0)))))) st_0 dX11_share_66 ?_
        show J X B (E, κ20) 69 [(0, .inr (some (5, 0, 0))), (1, .inl (.int x1)), (2, .inl (.int x2)), (3, .inl (.int x3)), (4, .inl (.int x4)), (5, .inl (.int x5))] [.inl (.int r22)]
        refine J_istore O.mo (lv' := [(0, .inr (some (5, 0, 0))), (1, .inl (.int x1)), (2, .inl (.int x2)), (3, .inl (.int x3)), (4, .inl (.int x4)), (5, .inl (.int x5))]) dX11_share_69 (by rw [hmL]; decide) rfl rfl ?_
        refine J_aload_n O.mo dX11_share_71 1 rfl ?_
        refine J_iload O.mo dX11_share_72 0 rfl ?_
        obtain ⟨κ23, r25, hq24, h⟩ := bd_some h
        refine J_callV O hKP (as := [.inl (.int r22)]) (rest := []) (r := (some (.inl (.int r25)))) (c_X11_canShare hfl h0 hq24) rfl (kd0 := 11) (k11_0 h0) (l11_0 h0) (T := TX11) (N := 42) rfl (by decide) mw632 mw633 mw634 mw517 mw635 pd_X11_canShare rfl (by decide) rfl (Nat.le_of_ble_eq_true rfl) (sl_v (sl_p (s11_0 h0) (sl_v (sl_v (sl_v (sl_v (sl_v sl_0))))))) st_0 dX11_share_74 ?_
        show J X B (E, κ23) 77 [(6, .inl (.int r22)), (0, .inr (some (5, 0, 0))), (1, .inl (.int x1)), (2, .inl (.int x2)), (3, .inl (.int x3)), (4, .inl (.int x4)), (5, .inl (.int x5))] [.inl (.int r25)]
        refine J_if_eq O.mo (tgt := 216) dX11_share_77 (by decide) (fun hc26 => ?_) (fun hc26 => ?_)
        · replace h := (if_pos hc26).symm.trans h
          refine J_sub [1, 2, 3, 4, 5, 6] rfl ?_
          exact w_X11_share_b216 hfl O hKP hmL hE h0 hk27 ih _ _ _ _ _ _ h
        · replace h := (if_neg hc26).symm.trans h
          refine J_aload_n O.mo dX11_share_80 1 rfl ?_
          refine J_iload O.mo dX11_share_81 5 rfl ?_
          refine J_iload O.mo dX11_share_83 0 rfl ?_
          refine J_sub [1, 2, 3, 4, 5, 6] rfl ?_
          obtain ⟨κ28, r30, hq29, h⟩ := bd_some h
          refine J_callV O hKP (as := [.inl (.int x4), .inl (.int r22)]) (rest := []) (r := (some (.inl (.int r30)))) (c_X11_areLike hfl h0 hq29) rfl (kd0 := 11) (k11_0 h0) (l11_0 h0) (T := TX11) (N := 42) rfl (by decide) mw636 mw637 mw638 mw517 mw639 pd_X11_areLike rfl (by decide) rfl (Nat.le_of_ble_eq_true rfl) (sl_p (s11_0 h0) (sl_v (sl_v (sl_v (sl_v (sl_v sl_0)))))) st_0 dX11_share_85 ?_
          show J X B (E, κ28) 88 [(0, .inr (some (5, 0, 0))), (1, .inl (.int x1)), (2, .inl (.int x2)), (3, .inl (.int x3)), (4, .inl (.int x4)), (5, .inl (.int x5))] [.inl (.int r30)]
          refine J_if_eq O.mo (tgt := 216) dX11_share_88 (by decide) (fun hc31 => ?_) (fun hc31 => ?_)
          · replace h := (if_pos hc31).symm.trans h
            exact w_X11_share_b216 hfl O hKP hmL hE h0 hk27 ih _ _ _ _ _ _ h
          · replace h := (if_neg hc31).symm.trans h
            refine J_iconst O.mo (v := 0) dX11_share_91 (by decide) ?_
            refine J_istore O.mo (lv' := [(0, .inr (some (5, 0, 0))), (1, .inl (.int x1)), (2, .inl (.int x2)), (3, .inl (.int x3)), (4, .inl (.int x4)), (5, .inl (.int x5))]) dX11_share_92 (by rw [hmL]; decide) rfl rfl ?_
            refine J_sub [1, 2, 3, 4, 5, 6, 0] rfl ?_
            exact w_X11_share_b94 hfl O hKP hmL hE h0 hk27 ih FU _ _ _ _ _ _ _ h
set_option maxHeartbeats 4000000 in
set_option maxRecDepth 100000 in
theorem w_X11_share_b27 {l0 : Launch} (hfl : l0.stackTraces = false) {X : MX} {B : BX (EE × K)} {g : GP} {E : EE} {κ' : K} {rr : Int32} (O : CK l0 X B g cX11_share RX11 2 24) (hKP : KPok B E) (hmL : B.2.2.2.1 = 8) (hE : ∀ (pc : Nat) (lv : List (Nat × AV)), decode cX11_share pc = .ok (.ireturn, 1) → J X B (E, κ') pc lv [.inl (.int rr)]) (h0 : PC 11 E 5 0 0) : ∀ (n : Nat) (κ : K) (x1 : Int32) (x2 : Int32) (x3 : Int32), f_X11_share_b27 E n κ x1 x2 x3 = some (κ', rr) → J X B (E, κ) 27 [(0, .inr (some (5, 0, 0))), (1, .inl (.int x1)), (2, .inl (.int x2)), (3, .inl (.int x3))] [] := by
  intro n
  induction n with
  | zero => intro κ x1 x2 x3 h; cases h
  | succ n ih =>
    intro κ x1 x2 x3 h
    rw [f_X11_share_b27] at h
    refine J_iload_n O.mo dX11_share_27 3 rfl ?_
    refine J_bipush O.mo (v := 16) dX11_share_28 (by decide) ?_
    refine J_icmp_ge O.mo (tgt := 228) dX11_share_30 (by decide) (fun hc9 => ?_) (fun hc9 => ?_)
    · replace h := (if_pos hc9).symm.trans h
      refine J_iload_n O.mo dX11_share_228 2 rfl ?_
      cases h
      exact hE _ _ dX11_share_229
    · replace h := (if_neg hc9).symm.trans h
      refine J_aload_n O.mo dX11_share_33 0 rfl ?_
      refine J_iload_n O.mo dX11_share_34 1 rfl ?_
      refine J_iload_n O.mo dX11_share_35 3 rfl ?_
      obtain ⟨κ10, r12, hq11, h⟩ := bd_some h
      refine J_callV O hKP (as := [.inl (.int x1), .inl (.int x3)]) (rest := []) (r := (some (.inl (.int r12)))) (c_X11_pageIn hfl h0 hq11) rfl (kd0 := 11) (k11_0 h0) (l11_0 h0) (T := TX11) (N := 42) rfl (by decide) mw529 mw530 mw531 mw517 mw532 pd_X11_pageIn rfl (by decide) rfl (Nat.le_of_ble_eq_true rfl) (sl_p (s11_0 h0) (sl_v (sl_v (sl_v sl_0)))) st_0 dX11_share_36 ?_
      show J X B (E, κ10) 39 [(0, .inr (some (5, 0, 0))), (1, .inl (.int x1)), (2, .inl (.int x2)), (3, .inl (.int x3))] [.inl (.int r12)]
      refine J_istore O.mo (lv' := [(0, .inr (some (5, 0, 0))), (1, .inl (.int x1)), (2, .inl (.int x2)), (3, .inl (.int x3))]) dX11_share_39 (by rw [hmL]; decide) rfl rfl ?_
      refine J_iload_n O.mo dX11_share_41 4 rfl ?_
      refine J_iconst O.mo (v := 1) dX11_share_42 (by decide) ?_
      refine J_iadd O.mo dX11_share_43 ?_
      refine J_istore O.mo (lv' := [(4, .inl (.int r12)), (0, .inr (some (5, 0, 0))), (1, .inl (.int x1)), (2, .inl (.int x2)), (3, .inl (.int x3))]) dX11_share_44 (by rw [hmL]; decide) rfl rfl ?_
      refine nm_some (P := fun z => J X B (E, κ10) 46 [(5, .inl (.int z)), (4, .inl (.int r12)), (0, .inr (some (5, 0, 0))), (1, .inl (.int x1)), (2, .inl (.int x2)), (3, .inl (.int x3))] []) h (fun y13 h => ?_)
      refine J_sub [2, 3, 4, 5, 1, 0] rfl ?_
      exact w_X11_share_b46 hfl O hKP hmL hE h0 ih FU _ _ _ _ _ _ h
set_option maxHeartbeats 4000000 in
set_option maxRecDepth 100000 in
theorem w_X11_share_b15 {l0 : Launch} (hfl : l0.stackTraces = false) {X : MX} {B : BX (EE × K)} {g : GP} {E : EE} {κ' : K} {rr : Int32} (O : CK l0 X B g cX11_share RX11 2 24) (hKP : KPok B E) (hmL : B.2.2.2.1 = 8) (hE : ∀ (pc : Nat) (lv : List (Nat × AV)), decode cX11_share pc = .ok (.ireturn, 1) → J X B (E, κ') pc lv [.inl (.int rr)]) (h0 : PC 11 E 5 0 0) : ∀ (κ : K) (x1 : Int32) (xs0 : Int32), f_X11_share_b15 E κ x1 xs0 = some (κ', rr) → J X B (E, κ) 15 [(0, .inr (some (5, 0, 0))), (1, .inl (.int x1))] [.inl (.int xs0), .inr (some (5, 0, 0))] := by
  intro κ x1 xs0 h
  unfold f_X11_share_b15 at h
  obtain ⟨κ5, r7, hq6, h⟩ := bd_some h
  refine J_callV O hKP (as := [.inl (.int xs0)]) (rest := []) (r := (some (.inl (.int r7)))) (c_X11_refused hfl h0 hq6) rfl (kd0 := 11) (k11_0 h0) (l11_0 h0) (T := TX11) (N := 42) rfl (by decide) mw605 mw606 mw607 mw517 mw608 pd_X11_refused rfl (by decide) rfl (Nat.le_of_ble_eq_true rfl) (sl_p (s11_0 h0) (sl_v sl_0)) st_0 dX11_share_15 ?_
  show J X B (E, κ5) 18 [(0, .inr (some (5, 0, 0))), (1, .inl (.int x1))] [.inl (.int r7)]
  refine J_if_eq O.mo (tgt := 23) dX11_share_18 (by decide) (fun hc8 => ?_) (fun hc8 => ?_)
  · replace h := (if_pos hc8).symm.trans h
    refine J_iconst O.mo (v := 0) dX11_share_23 (by decide) ?_
    refine J_istore_n O.mo (lv' := [(0, .inr (some (5, 0, 0))), (1, .inl (.int x1))]) dX11_share_24 (by rw [hmL]; decide) rfl rfl ?_
    refine J_iconst O.mo (v := 0) dX11_share_25 (by decide) ?_
    refine J_istore_n O.mo (lv' := [(2, .inl (.int 0)), (0, .inr (some (5, 0, 0))), (1, .inl (.int x1))]) dX11_share_26 (by rw [hmL]; decide) rfl rfl ?_
    refine J_sub [2, 3, 1, 0] rfl ?_
    exact w_X11_share_b27 hfl O hKP hmL hE h0 FU _ _ _ _ h
  · replace h := (if_neg hc8).symm.trans h
    refine J_iconst O.mo (v := 0) dX11_share_21 (by decide) ?_
    cases h
    exact hE _ _ dX11_share_22
set_option maxHeartbeats 4000000 in
set_option maxRecDepth 100000 in
theorem w_X11_share {l0 : Launch} (hfl : l0.stackTraces = false) {X : MX} {B : BX (EE × K)} {g : GP} {E : EE} {κ' : K} {rr : Int32} (O : CK l0 X B g cX11_share RX11 2 24) (hKP : KPok B E) (hmL : B.2.2.2.1 = 8) (hE : ∀ (pc : Nat) (lv : List (Nat × AV)), decode cX11_share pc = .ok (.ireturn, 1) → J X B (E, κ') pc lv [.inl (.int rr)]) (h0 : PC 11 E 5 0 0) : ∀ (κ : K) (a1 : Int32), f_X11_share E κ a1 = some (κ', rr) → J X B (E, κ) 0 [(0, .inr (some (5, 0, 0))), (1, .inl (.int a1))] [] := by
  intro κ a1 h
  unfold f_X11_share at h
  refine J_aload_n O.mo dX11_share_0 0 rfl ?_
  refine J_iload_n O.mo dX11_share_1 1 rfl ?_
  refine J_iconst O.mo (v := 0) dX11_share_2 (by decide) ?_
  refine J_iconst O.mo (v := 1) dX11_share_3 (by decide) ?_
  obtain ⟨κ1, r3, hq2, h⟩ := bd_some h
  refine J_callS O hKP (as := [.inl (.int a1), .inl (.int 0), .inl (.int 1)]) (rest := [.inr (some (5, 0, 0))]) (r := (some (.inl (.int r3)))) (c_X11_in hfl hq2) rfl mw515 mw516 mw517 mw518 pd_X11_in rfl (by decide) rfl (Nat.le_of_ble_eq_true rfl) (sl_p (s11_0 h0) (sl_v sl_0)) (st_p (s11_0 h0) st_0) dX11_share_4 ?_
  show J X B (E, κ1) 7 [(0, .inr (some (5, 0, 0))), (1, .inl (.int a1))] [.inl (.int r3), .inr (some (5, 0, 0))]
  refine J_if_eq O.mo (tgt := 14) dX11_share_7 (by decide) (fun hc4 => ?_) (fun hc4 => ?_)
  · replace h := (if_pos hc4).symm.trans h
    refine J_iconst O.mo (v := 1) dX11_share_14 (by decide) ?_
    exact w_X11_share_b15 hfl O hKP hmL hE h0 _ _ _ h
  · replace h := (if_neg hc4).symm.trans h
    refine J_iconst O.mo (v := 0) dX11_share_10 (by decide) ?_
    refine J_goto O.mo (tgt := 15) dX11_share_11 (by decide) ?_
    exact w_X11_share_b15 hfl O hKP hmL hE h0 _ _ _ h
theorem c_X11_share {l : Launch} (hfl : l.stackTraces = false) {E : EE} {κ κ' : K} {a1 : Int32} (h0 : PC 11 E 5 0 0) {rr : Int32} (h : f_X11_share E κ a1 = some (κ', rr)) : Con l yX11_share cX11_share 8 (some .int) 2 24 [.inr (some (5, 0, 0)), .inl (.int a1)] (E, κ) (E, κ') (some (.inl (.int rr))) := by
  exact Con_of hfl (by decide +kernel) (Nat.le_of_ble_eq_true rfl) rfl ⟨_, rfl, rfl⟩ (fun X B g O hKP hmL hE => w_X11_share hfl O hKP hmL hE h0 _ _ h)
def f_X11_bits_b4 (E : EE) : Nat → K → Int32 → Int32 → Int32 → Option (K × Int32)
  | 0, _, _, _, _ => none
  | n + 1, κ, x0, x1, x2 => if 8 ≤ x2 then some (κ, x1) else nm (x1 + ((x0 >>> (x2 &&& 31)) &&& 1)) fun y2 => nm (x2 + 1) fun y3 => f_X11_bits_b4 E n κ x0 y2 y3
def f_X11_bits (E : EE) (κ : K) (a0 : Int32) : Option (K × Int32) := f_X11_bits_b4 E FU κ a0 0 0
set_option maxHeartbeats 4000000 in
set_option maxRecDepth 100000 in
theorem w_X11_bits_b4 {l0 : Launch} (hfl : l0.stackTraces = false) {X : MX} {B : BX (EE × K)} {g : GP} {E : EE} {κ' : K} {rr : Int32} (O : CK l0 X B g cX11_bits RX11 1 0) (hKP : KPok B E) (hmL : B.2.2.2.1 = 3) (hE : ∀ (pc : Nat) (lv : List (Nat × AV)), decode cX11_bits pc = .ok (.ireturn, 1) → J X B (E, κ') pc lv [.inl (.int rr)]) : ∀ (n : Nat) (κ : K) (x0 : Int32) (x1 : Int32) (x2 : Int32), f_X11_bits_b4 E n κ x0 x1 x2 = some (κ', rr) → J X B (E, κ) 4 [(0, .inl (.int x0)), (1, .inl (.int x1)), (2, .inl (.int x2))] [] := by
  intro n
  induction n with
  | zero => intro κ x0 x1 x2 h; cases h
  | succ n ih =>
    intro κ x0 x1 x2 h
    rw [f_X11_bits_b4] at h
    refine J_iload_n O.mo dX11_bits_4 2 rfl ?_
    refine J_bipush O.mo (v := 8) dX11_bits_5 (by decide) ?_
    refine J_icmp_ge O.mo (tgt := 24) dX11_bits_7 (by decide) (fun hc1 => ?_) (fun hc1 => ?_)
    · replace h := (if_pos hc1).symm.trans h
      refine J_iload_n O.mo dX11_bits_24 1 rfl ?_
      cases h
      exact hE _ _ dX11_bits_25
    · replace h := (if_neg hc1).symm.trans h
      refine J_iload_n O.mo dX11_bits_10 1 rfl ?_
      refine J_iload_n O.mo dX11_bits_11 0 rfl ?_
      refine J_iload_n O.mo dX11_bits_12 2 rfl ?_
      refine J_ishr O.mo dX11_bits_13 ?_
      refine J_iconst O.mo (v := 1) dX11_bits_14 (by decide) ?_
      refine J_iand O.mo dX11_bits_15 ?_
      refine J_iadd O.mo dX11_bits_16 ?_
      refine J_istore_n O.mo (lv' := [(0, .inl (.int x0)), (2, .inl (.int x2))]) dX11_bits_17 (by rw [hmL]; decide) rfl rfl ?_
      refine nm_some (P := fun z => J X B (E, κ) 18 [(1, .inl (.int z)), (0, .inl (.int x0)), (2, .inl (.int x2))] []) h (fun y2 h => ?_)
      refine J_iinc O.mo (v := x2 + 1) (lv' := [(1, .inl (.int y2)), (0, .inl (.int x0))]) dX11_bits_18 (by rw [hmL]; decide) 2 rfl (by rw [show Int32.ofInt (1) = (1 : Int32) from by decide]) rfl rfl ?_
      refine nm_some (P := fun z => J X B (E, κ) 21 [(2, .inl (.int z)), (1, .inl (.int y2)), (0, .inl (.int x0))] []) h (fun y3 h => ?_)
      refine J_goto O.mo (tgt := 4) dX11_bits_21 (by decide) ?_
      refine J_sub [2, 1, 0] rfl ?_
      exact ih _ _ _ _ h
set_option maxHeartbeats 4000000 in
set_option maxRecDepth 100000 in
theorem w_X11_bits {l0 : Launch} (hfl : l0.stackTraces = false) {X : MX} {B : BX (EE × K)} {g : GP} {E : EE} {κ' : K} {rr : Int32} (O : CK l0 X B g cX11_bits RX11 1 0) (hKP : KPok B E) (hmL : B.2.2.2.1 = 3) (hE : ∀ (pc : Nat) (lv : List (Nat × AV)), decode cX11_bits pc = .ok (.ireturn, 1) → J X B (E, κ') pc lv [.inl (.int rr)]) : ∀ (κ : K) (a0 : Int32), f_X11_bits E κ a0 = some (κ', rr) → J X B (E, κ) 0 [(0, .inl (.int a0))] [] := by
  intro κ a0 h
  unfold f_X11_bits at h
  refine J_iconst O.mo (v := 0) dX11_bits_0 (by decide) ?_
  refine J_istore_n O.mo (lv' := [(0, .inl (.int a0))]) dX11_bits_1 (by rw [hmL]; decide) rfl rfl ?_
  refine J_iconst O.mo (v := 0) dX11_bits_2 (by decide) ?_
  refine J_istore_n O.mo (lv' := [(1, .inl (.int 0)), (0, .inl (.int a0))]) dX11_bits_3 (by rw [hmL]; decide) rfl rfl ?_
  refine J_sub [2, 1, 0] rfl ?_
  exact w_X11_bits_b4 hfl O hKP hmL hE FU _ _ _ _ h
theorem c_X11_bits {l : Launch} (hfl : l.stackTraces = false) {E : EE} {κ κ' : K} {a0 : Int32} {rr : Int32} (h : f_X11_bits E κ a0 = some (κ', rr)) : Con l yX11_bits cX11_bits 3 (some .int) 1 0 [.inl (.int a0)] (E, κ) (E, κ') (some (.inl (.int rr))) := by
  exact Con_of hfl (by decide +kernel) (Nat.le_of_ble_eq_true rfl) rfl ⟨_, rfl, rfl⟩ (fun X B g O hKP hmL hE => w_X11_bits hfl O hKP hmL hE _ _ h)
def f_X11_move_b145 (E : EE) (κ : K) (x1 : Int32) : Option (K × Int32) := gd (¬ (x1 < 0 ∨ 5 ≤ x1.toNatClampNeg)) (bd (f_X11_bits E κ ((kV κ 5 0 31) x1.toNatClampNeg)) fun κ17 r19 => some (κ17, r19))
def f_X11_move_b137 (E : EE) (k100 : K → Int32 → Int32 → Option (K × Int32)) (κ : K) (x1 : Int32) (x4 : Int32) (xs0 : Int32) (xs1 : Int32) (xs2 : Int32) : Option (K × Int32) := gd (¬ (xs2 < 0 ∨ 5 ≤ xs2.toNatClampNeg)) (nm (setV κ 5 0 31 xs2.toNatClampNeg (xs1 ||| xs0)) fun κ24 => nm (x4 + 1) fun y25 => k100 κ24 x1 y25)
def f_X11_move_b100 (E : EE) : Nat → K → Int32 → Int32 → Option (K × Int32)
  | 0, _, _, _ => none
  | n + 1, κ, x1, x4 => if 8 ≤ x4 then f_X11_move_b145 E κ x1 else gd (¬ (x1 < 0 ∨ 5 ≤ x1.toNatClampNeg)) (gd (¬ (((8 * x1) + x4) < 0 ∨ 40 ≤ ((8 * x1) + x4).toNatClampNeg)) (if (kV κ 5 0 27) ((8 * x1) + x4).toNatClampNeg = 0 then f_X11_move_b137 E (f_X11_move_b100 E n) κ x1 x4 0 ((kV κ 5 0 31) x1.toNatClampNeg) x1 else f_X11_move_b137 E (f_X11_move_b100 E n) κ x1 x4 (1 <<< (x4 &&& 31)) ((kV κ 5 0 31) x1.toNatClampNeg) x1))
def f_X11_move_b75 (E : EE) (κ : K) (x1 : Int32) (xs0 : Int32) : Option (K × Int32) := bd (f_X11_refused E κ xs0) fun κ7 r9 => if r9 = 0 then gd (¬ (x1 < 0 ∨ 5 ≤ x1.toNatClampNeg)) (nm (setV κ7 5 0 30 x1.toNatClampNeg 1) fun κ12 => gd (¬ (x1 < 0 ∨ 5 ≤ x1.toNatClampNeg)) (nm (setV κ12 5 0 31 x1.toNatClampNeg 0) fun κ14 => f_X11_move_b100 E FU κ14 x1 0)) else some (κ7, 0)
def f_X11_move_b56 (E : EE) (κ : K) (x1 : Int32) (x2 : Int32) (xs0 : Int32) : Option (K × Int32) := if x2 = 0 then f_X11_move_b75 E κ x1 1 else if xs0 = 0 then f_X11_move_b75 E κ x1 2 else f_X11_move_b75 E κ x1 0
def f_X11_move_b55 (E : EE) (κ : K) (x1 : Int32) (x2 : Int32) : Option (K × Int32) := f_X11_move_b56 E κ x1 x2 0
def f_X11_move (E : EE) (κ : K) (a1 : Int32) : Option (K × Int32) := bd (f_X11_isGuest E κ a1) fun κ1 r3 => if r3 = 0 then f_X11_move_b55 E κ1 a1 r3 else gd (¬ (a1 < 0 ∨ 5 ≤ a1.toNatClampNeg)) (if (kV κ1 5 0 30) a1.toNatClampNeg = 0 then gd (¬ (((55 * a1) + 49) < 0 ∨ 275 ≤ ((55 * a1) + 49).toNatClampNeg)) (if (kV κ1 5 0 1) ((55 * a1) + 49).toNatClampNeg = 3 then f_X11_move_b55 E κ1 a1 r3 else gd (¬ (a1 < 0 ∨ 5 ≤ a1.toNatClampNeg)) (gd (¬ ((1 - ((kV κ1 5 0 15) a1.toNatClampNeg)) < 0 ∨ 2 ≤ (1 - ((kV κ1 5 0 15) a1.toNatClampNeg)).toNatClampNeg)) (if (kV κ1 5 0 38) (1 - ((kV κ1 5 0 15) a1.toNatClampNeg)).toNatClampNeg = 0 then f_X11_move_b56 E κ1 a1 r3 1 else f_X11_move_b55 E κ1 a1 r3))) else f_X11_move_b55 E κ1 a1 r3)
set_option maxHeartbeats 4000000 in
set_option maxRecDepth 100000 in
theorem w_X11_move_b145 {l0 : Launch} (hfl : l0.stackTraces = false) {X : MX} {B : BX (EE × K)} {g : GP} {E : EE} {κ' : K} {rr : Int32} (O : CK l0 X B g cX11_move RX11 3 43) (hKP : KPok B E) (hmL : B.2.2.2.1 = 5) (hE : ∀ (pc : Nat) (lv : List (Nat × AV)), decode cX11_move pc = .ok (.ireturn, 1) → J X B (E, κ') pc lv [.inl (.int rr)]) (h0 : PC 11 E 5 0 0) : ∀ (κ : K) (x1 : Int32), f_X11_move_b145 E κ x1 = some (κ', rr) → J X B (E, κ) 145 [(0, .inr (some (5, 0, 0))), (1, .inl (.int x1))] [] := by
  intro κ x1 h
  unfold f_X11_move_b145 at h
  refine J_aload_n O.mo dX11_move_145 0 rfl ?_
  refine J_getF O.co (kd0 := 11) (k11_0 h0) (l11_0 h0) (C := RX11) (T := TX11) (N := 42) rfl (by decide) rfl in_X11 31 (by decide) (v := .inr (some (5, 0, 31))) rfl mw534 rfl dX11_move_146 ?_
  refine J_iload_n O.mo dX11_move_149 1 rfl ?_
  obtain ⟨hg16, h⟩ := gd_some h
  refine J_iald O.co (g := (kV κ 5 0 31)) (ct_20n (l11_31 h0) (k11_31 h0) (n11_31 h0)) hg16 dX11_move_150 ?_
  refine J_sub [] rfl ?_
  obtain ⟨κ17, r19, hq18, h⟩ := bd_some h
  refine J_callS O hKP (as := [.inl (.int ((kV κ 5 0 31) x1.toNatClampNeg))]) (rest := []) (r := (some (.inl (.int r19)))) (c_X11_bits hfl hq18) rfl mw640 mw641 mw517 mw642 pd_X11_bits rfl (by decide) rfl (Nat.le_of_ble_eq_true rfl) sl_0 st_0 dX11_move_151 ?_
  show J X B (E, κ17) 154 [] [.inl (.int r19)]
  cases h
  exact hE _ _ dX11_move_154
set_option maxHeartbeats 4000000 in
set_option maxRecDepth 100000 in
theorem w_X11_move_b137 {l0 : Launch} (hfl : l0.stackTraces = false) {X : MX} {B : BX (EE × K)} {g : GP} {E : EE} {κ' : K} {rr : Int32} (O : CK l0 X B g cX11_move RX11 3 43) (hKP : KPok B E) (hmL : B.2.2.2.1 = 5) (hE : ∀ (pc : Nat) (lv : List (Nat × AV)), decode cX11_move pc = .ok (.ireturn, 1) → J X B (E, κ') pc lv [.inl (.int rr)]) (h0 : PC 11 E 5 0 0) {k100 : K → Int32 → Int32 → Option (K × Int32)} (hk100 : ∀ (κ : K) (x1 : Int32) (x4 : Int32), k100 κ x1 x4 = some (κ', rr) → J X B (E, κ) 100 [(0, .inr (some (5, 0, 0))), (1, .inl (.int x1)), (4, .inl (.int x4))] []) : ∀ (κ : K) (x1 : Int32) (x4 : Int32) (xs0 : Int32) (xs1 : Int32) (xs2 : Int32), f_X11_move_b137 E k100 κ x1 x4 xs0 xs1 xs2 = some (κ', rr) → J X B (E, κ) 137 [(0, .inr (some (5, 0, 0))), (1, .inl (.int x1)), (4, .inl (.int x4))] [.inl (.int xs0), .inl (.int xs1), .inl (.int xs2), .inr (some (5, 0, 31))] := by
  intro κ x1 x4 xs0 xs1 xs2 h
  unfold f_X11_move_b137 at h
  refine J_ior O.mo dX11_move_137 ?_
  obtain ⟨hg23, h⟩ := gd_some h
  refine row_20 O (l11_31 h0) (k11_31 h0) (n11_31 h0) hg23 (x := (xs1 ||| xs0)) dX11_move_138 ?_
  refine nm_some (P := fun z => J X B (E, z) 139 [(0, .inr (some (5, 0, 0))), (1, .inl (.int x1)), (4, .inl (.int x4))] []) h (fun κ24 h => ?_)
  refine J_iinc O.mo (v := x4 + 1) (lv' := [(0, .inr (some (5, 0, 0))), (1, .inl (.int x1))]) dX11_move_139 (by rw [hmL]; decide) 2 rfl (by rw [show Int32.ofInt (1) = (1 : Int32) from by decide]) rfl rfl ?_
  refine nm_some (P := fun z => J X B (E, κ24) 142 [(4, .inl (.int z)), (0, .inr (some (5, 0, 0))), (1, .inl (.int x1))] []) h (fun y25 h => ?_)
  refine J_goto O.mo (tgt := 100) dX11_move_142 (by decide) ?_
  refine J_sub [1, 2, 0] rfl ?_
  exact hk100 _ _ _ h
set_option maxHeartbeats 4000000 in
set_option maxRecDepth 100000 in
theorem w_X11_move_b100 {l0 : Launch} (hfl : l0.stackTraces = false) {X : MX} {B : BX (EE × K)} {g : GP} {E : EE} {κ' : K} {rr : Int32} (O : CK l0 X B g cX11_move RX11 3 43) (hKP : KPok B E) (hmL : B.2.2.2.1 = 5) (hE : ∀ (pc : Nat) (lv : List (Nat × AV)), decode cX11_move pc = .ok (.ireturn, 1) → J X B (E, κ') pc lv [.inl (.int rr)]) (h0 : PC 11 E 5 0 0) : ∀ (n : Nat) (κ : K) (x1 : Int32) (x4 : Int32), f_X11_move_b100 E n κ x1 x4 = some (κ', rr) → J X B (E, κ) 100 [(0, .inr (some (5, 0, 0))), (1, .inl (.int x1)), (4, .inl (.int x4))] [] := by
  intro n
  induction n with
  | zero => intro κ x1 x4 h; cases h
  | succ n ih =>
    intro κ x1 x4 h
    rw [f_X11_move_b100] at h
    refine J_iload O.mo dX11_move_100 2 rfl ?_
    refine J_bipush O.mo (v := 8) dX11_move_102 (by decide) ?_
    refine J_icmp_ge O.mo (tgt := 145) dX11_move_104 (by decide) (fun hc15 => ?_) (fun hc15 => ?_)
    · replace h := (if_pos hc15).symm.trans h
      refine J_sub [0, 1] rfl ?_
      exact w_X11_move_b145 hfl O hKP hmL hE h0 _ _ h
    · replace h := (if_neg hc15).symm.trans h
      refine J_aload_n O.mo dX11_move_107 0 rfl ?_
      refine J_getF O.co (kd0 := 11) (k11_0 h0) (l11_0 h0) (C := RX11) (T := TX11) (N := 42) rfl (by decide) rfl in_X11 31 (by decide) (v := .inr (some (5, 0, 31))) rfl mw534 rfl dX11_move_108 ?_
      refine J_iload_n O.mo dX11_move_111 1 rfl ?_
      refine J_dup2 O.mo dX11_move_112 rfl rfl ?_
      obtain ⟨hg20, h⟩ := gd_some h
      refine J_iald O.co (g := (kV κ 5 0 31)) (ct_20n (l11_31 h0) (k11_31 h0) (n11_31 h0)) hg20 dX11_move_113 ?_
      refine J_aload_n O.mo dX11_move_114 0 rfl ?_
      refine J_getF O.co (kd0 := 11) (k11_0 h0) (l11_0 h0) (C := RX11) (T := TX11) (N := 42) rfl (by decide) rfl in_X11 27 (by decide) (v := .inr (some (5, 0, 27))) rfl mw528 rfl dX11_move_115 ?_
      refine J_bipush O.mo (v := 8) dX11_move_118 (by decide) ?_
      refine J_iload_n O.mo dX11_move_120 1 rfl ?_
      refine J_imul O.mo dX11_move_121 ?_
      refine J_iload O.mo dX11_move_122 2 rfl ?_
      refine J_iadd O.mo dX11_move_124 ?_
      obtain ⟨hg21, h⟩ := gd_some h
      refine J_iald O.co (g := (kV κ 5 0 27)) (ct_20n (l11_27 h0) (k11_27 h0) (n11_27 h0)) hg21 dX11_move_125 ?_
      refine J_if_eq O.mo (tgt := 136) dX11_move_126 (by decide) (fun hc22 => ?_) (fun hc22 => ?_)
      · replace h := (if_pos hc22).symm.trans h
        refine J_iconst O.mo (v := 0) dX11_move_136 (by decide) ?_
        exact w_X11_move_b137 hfl O hKP hmL hE h0 ih _ _ _ _ _ _ h
      · replace h := (if_neg hc22).symm.trans h
        refine J_iconst O.mo (v := 1) dX11_move_129 (by decide) ?_
        refine J_iload O.mo dX11_move_130 2 rfl ?_
        refine J_ishl O.mo dX11_move_132 ?_
        refine J_goto O.mo (tgt := 137) dX11_move_133 (by decide) ?_
        exact w_X11_move_b137 hfl O hKP hmL hE h0 ih _ _ _ _ _ _ h
set_option maxHeartbeats 4000000 in
set_option maxRecDepth 100000 in
theorem w_X11_move_b75 {l0 : Launch} (hfl : l0.stackTraces = false) {X : MX} {B : BX (EE × K)} {g : GP} {E : EE} {κ' : K} {rr : Int32} (O : CK l0 X B g cX11_move RX11 3 43) (hKP : KPok B E) (hmL : B.2.2.2.1 = 5) (hE : ∀ (pc : Nat) (lv : List (Nat × AV)), decode cX11_move pc = .ok (.ireturn, 1) → J X B (E, κ') pc lv [.inl (.int rr)]) (h0 : PC 11 E 5 0 0) : ∀ (κ : K) (x1 : Int32) (xs0 : Int32), f_X11_move_b75 E κ x1 xs0 = some (κ', rr) → J X B (E, κ) 75 [(0, .inr (some (5, 0, 0))), (1, .inl (.int x1))] [.inl (.int xs0), .inr (some (5, 0, 0))] := by
  intro κ x1 xs0 h
  unfold f_X11_move_b75 at h
  obtain ⟨κ7, r9, hq8, h⟩ := bd_some h
  refine J_callV O hKP (as := [.inl (.int xs0)]) (rest := []) (r := (some (.inl (.int r9)))) (c_X11_refused hfl h0 hq8) rfl (kd0 := 11) (k11_0 h0) (l11_0 h0) (T := TX11) (N := 42) rfl (by decide) mw605 mw606 mw607 mw517 mw608 pd_X11_refused rfl (by decide) rfl (Nat.le_of_ble_eq_true rfl) (sl_p (s11_0 h0) (sl_v sl_0)) st_0 dX11_move_75 ?_
  show J X B (E, κ7) 78 [(0, .inr (some (5, 0, 0))), (1, .inl (.int x1))] [.inl (.int r9)]
  refine J_if_eq O.mo (tgt := 83) dX11_move_78 (by decide) (fun hc10 => ?_) (fun hc10 => ?_)
  · replace h := (if_pos hc10).symm.trans h
    refine J_aload_n O.mo dX11_move_83 0 rfl ?_
    refine J_getF O.co (kd0 := 11) (k11_0 h0) (l11_0 h0) (C := RX11) (T := TX11) (N := 42) rfl (by decide) rfl in_X11 30 (by decide) (v := .inr (some (5, 0, 30))) rfl mw535 rfl dX11_move_84 ?_
    refine J_iload_n O.mo dX11_move_87 1 rfl ?_
    refine J_iconst O.mo (v := 1) dX11_move_88 (by decide) ?_
    obtain ⟨hg11, h⟩ := gd_some h
    refine row_22 O (l11_30 h0) (k11_30 h0) (n11_30 h0) hg11 (x := 1) (Or.inr rfl) dX11_move_89 ?_
    refine nm_some (P := fun z => J X B (E, z) 90 [(0, .inr (some (5, 0, 0))), (1, .inl (.int x1))] []) h (fun κ12 h => ?_)
    refine J_aload_n O.mo dX11_move_90 0 rfl ?_
    refine J_getF O.co (kd0 := 11) (k11_0 h0) (l11_0 h0) (C := RX11) (T := TX11) (N := 42) rfl (by decide) rfl in_X11 31 (by decide) (v := .inr (some (5, 0, 31))) rfl mw534 rfl dX11_move_91 ?_
    refine J_iload_n O.mo dX11_move_94 1 rfl ?_
    refine J_iconst O.mo (v := 0) dX11_move_95 (by decide) ?_
    obtain ⟨hg13, h⟩ := gd_some h
    refine row_20 O (l11_31 h0) (k11_31 h0) (n11_31 h0) hg13 (x := 0) dX11_move_96 ?_
    refine nm_some (P := fun z => J X B (E, z) 97 [(0, .inr (some (5, 0, 0))), (1, .inl (.int x1))] []) h (fun κ14 h => ?_)
    refine J_iconst O.mo (v := 0) dX11_move_97 (by decide) ?_
    refine J_istore O.mo (lv' := [(0, .inr (some (5, 0, 0))), (1, .inl (.int x1))]) dX11_move_98 (by rw [hmL]; decide) rfl rfl ?_
    refine J_sub [1, 2, 0] rfl ?_
    exact w_X11_move_b100 hfl O hKP hmL hE h0 FU _ _ _ h
  · replace h := (if_neg hc10).symm.trans h
    refine J_iconst O.mo (v := 0) dX11_move_81 (by decide) ?_
    cases h
    exact hE _ _ dX11_move_82
set_option maxHeartbeats 4000000 in
set_option maxRecDepth 100000 in
theorem w_X11_move_b56 {l0 : Launch} (hfl : l0.stackTraces = false) {X : MX} {B : BX (EE × K)} {g : GP} {E : EE} {κ' : K} {rr : Int32} (O : CK l0 X B g cX11_move RX11 3 43) (hKP : KPok B E) (hmL : B.2.2.2.1 = 5) (hE : ∀ (pc : Nat) (lv : List (Nat × AV)), decode cX11_move pc = .ok (.ireturn, 1) → J X B (E, κ') pc lv [.inl (.int rr)]) (h0 : PC 11 E 5 0 0) : ∀ (κ : K) (x1 : Int32) (x2 : Int32) (xs0 : Int32), f_X11_move_b56 E κ x1 x2 xs0 = some (κ', rr) → J X B (E, κ) 56 [(0, .inr (some (5, 0, 0))), (1, .inl (.int x1)), (2, .inl (.int x2))] [.inl (.int xs0)] := by
  intro κ x1 x2 xs0 h
  unfold f_X11_move_b56 at h
  refine J_istore_n O.mo (lv' := [(0, .inr (some (5, 0, 0))), (1, .inl (.int x1)), (2, .inl (.int x2))]) dX11_move_56 (by rw [hmL]; decide) rfl rfl ?_
  refine J_aload_n O.mo dX11_move_57 1 rfl ?_
  refine J_iload_n O.mo dX11_move_58 3 rfl ?_
  refine J_if_ne O.mo (tgt := 66) dX11_move_59 (by decide) (fun hc5 => ?_) (fun hc5 => ?_)
  · replace h := (if_neg hc5).symm.trans h
    refine J_iload_n O.mo dX11_move_66 0 rfl ?_
    refine J_if_eq O.mo (tgt := 74) dX11_move_67 (by decide) (fun hc6 => ?_) (fun hc6 => ?_)
    · replace h := (if_pos hc6).symm.trans h
      refine J_iconst O.mo (v := 2) dX11_move_74 (by decide) ?_
      refine J_sub [1, 2] rfl ?_
      exact w_X11_move_b75 hfl O hKP hmL hE h0 _ _ _ h
    · replace h := (if_neg hc6).symm.trans h
      refine J_iconst O.mo (v := 0) dX11_move_70 (by decide) ?_
      refine J_goto O.mo (tgt := 75) dX11_move_71 (by decide) ?_
      refine J_sub [1, 2] rfl ?_
      exact w_X11_move_b75 hfl O hKP hmL hE h0 _ _ _ h
  · replace h := (if_pos hc5).symm.trans h
    refine J_iconst O.mo (v := 1) dX11_move_62 (by decide) ?_
    refine J_goto O.mo (tgt := 75) dX11_move_63 (by decide) ?_
    refine J_sub [1, 2] rfl ?_
    exact w_X11_move_b75 hfl O hKP hmL hE h0 _ _ _ h
set_option maxHeartbeats 4000000 in
set_option maxRecDepth 100000 in
theorem w_X11_move_b55 {l0 : Launch} (hfl : l0.stackTraces = false) {X : MX} {B : BX (EE × K)} {g : GP} {E : EE} {κ' : K} {rr : Int32} (O : CK l0 X B g cX11_move RX11 3 43) (hKP : KPok B E) (hmL : B.2.2.2.1 = 5) (hE : ∀ (pc : Nat) (lv : List (Nat × AV)), decode cX11_move pc = .ok (.ireturn, 1) → J X B (E, κ') pc lv [.inl (.int rr)]) (h0 : PC 11 E 5 0 0) : ∀ (κ : K) (x1 : Int32) (x2 : Int32), f_X11_move_b55 E κ x1 x2 = some (κ', rr) → J X B (E, κ) 55 [(0, .inr (some (5, 0, 0))), (1, .inl (.int x1)), (2, .inl (.int x2))] [] := by
  intro κ x1 x2 h
  unfold f_X11_move_b55 at h
  refine J_iconst O.mo (v := 0) dX11_move_55 (by decide) ?_
  exact w_X11_move_b56 hfl O hKP hmL hE h0 _ _ _ _ h
set_option maxHeartbeats 4000000 in
set_option maxRecDepth 100000 in
theorem w_X11_move {l0 : Launch} (hfl : l0.stackTraces = false) {X : MX} {B : BX (EE × K)} {g : GP} {E : EE} {κ' : K} {rr : Int32} (O : CK l0 X B g cX11_move RX11 3 43) (hKP : KPok B E) (hmL : B.2.2.2.1 = 5) (hE : ∀ (pc : Nat) (lv : List (Nat × AV)), decode cX11_move pc = .ok (.ireturn, 1) → J X B (E, κ') pc lv [.inl (.int rr)]) (h0 : PC 11 E 5 0 0) : ∀ (κ : K) (a1 : Int32), f_X11_move E κ a1 = some (κ', rr) → J X B (E, κ) 0 [(0, .inr (some (5, 0, 0))), (1, .inl (.int a1))] [] := by
  intro κ a1 h
  unfold f_X11_move at h
  refine J_aload_n O.mo dX11_move_0 0 rfl ?_
  refine J_iload_n O.mo dX11_move_1 1 rfl ?_
  obtain ⟨κ1, r3, hq2, h⟩ := bd_some h
  refine J_callV O hKP (as := [.inl (.int a1)]) (rest := []) (r := (some (.inl (.int r3)))) (c_X11_isGuest hfl h0 hq2) rfl (kd0 := 11) (k11_0 h0) (l11_0 h0) (T := TX11) (N := 42) rfl (by decide) mw611 mw612 mw613 mw517 mw614 pd_X11_isGuest rfl (by decide) rfl (Nat.le_of_ble_eq_true rfl) (sl_p (s11_0 h0) (sl_v sl_0)) st_0 dX11_move_2 ?_
  show J X B (E, κ1) 5 [(0, .inr (some (5, 0, 0))), (1, .inl (.int a1))] [.inl (.int r3)]
  refine J_istore_n O.mo (lv' := [(0, .inr (some (5, 0, 0))), (1, .inl (.int a1))]) dX11_move_5 (by rw [hmL]; decide) rfl rfl ?_
  refine J_iload_n O.mo dX11_move_6 0 rfl ?_
  refine J_if_eq O.mo (tgt := 55) dX11_move_7 (by decide) (fun hc4 => ?_) (fun hc4 => ?_)
  · replace h := (if_pos hc4).symm.trans h
    refine J_sub [1, 2, 0] rfl ?_
    exact w_X11_move_b55 hfl O hKP hmL hE h0 _ _ _ h
  · replace h := (if_neg hc4).symm.trans h
    refine J_aload_n O.mo dX11_move_10 1 rfl ?_
    refine J_getF O.co (kd0 := 11) (k11_0 h0) (l11_0 h0) (C := RX11) (T := TX11) (N := 42) rfl (by decide) rfl in_X11 30 (by decide) (v := .inr (some (5, 0, 30))) rfl mw535 rfl dX11_move_11 ?_
    refine J_iload_n O.mo dX11_move_14 2 rfl ?_
    obtain ⟨hg26, h⟩ := gd_some h
    refine J_bald O.co (g := (kV κ1 5 0 30)) (ct_22n (l11_30 h0) (k11_30 h0) (n11_30 h0)) hg26 dX11_move_15 ?_
    refine J_if_ne O.mo (tgt := 55) dX11_move_16 (by decide) (fun hc27 => ?_) (fun hc27 => ?_)
    · replace h := (if_neg hc27).symm.trans h
      refine J_sub [1, 2, 0] rfl ?_
      exact w_X11_move_b55 hfl O hKP hmL hE h0 _ _ _ h
    · replace h := (if_pos hc27).symm.trans h
      refine J_aload_n O.mo dX11_move_19 1 rfl ?_
      refine J_getF O.co (kd0 := 11) (k11_0 h0) (l11_0 h0) (C := RX11) (T := TX11) (N := 42) rfl (by decide) rfl in_X11 1 (by decide) (v := .inr (some (5, 0, 1))) rfl mw545 rfl dX11_move_20 ?_
      refine J_bipush O.mo (v := 55) dX11_move_23 (by decide) ?_
      refine J_iload_n O.mo dX11_move_25 2 rfl ?_
      refine J_imul O.mo dX11_move_26 ?_
      refine J_bipush O.mo (v := 49) dX11_move_27 (by decide) ?_
      refine J_iadd O.mo dX11_move_29 ?_
      obtain ⟨hg28, h⟩ := gd_some h
      refine J_iald O.co (g := (kV κ1 5 0 1)) (ct_20n (l11_1 h0) (k11_1 h0) (n11_1 h0)) hg28 dX11_move_30 ?_
      refine J_iconst O.mo (v := 3) dX11_move_31 (by decide) ?_
      refine J_icmp_eq O.mo (tgt := 55) dX11_move_32 (by decide) (fun hc29 => ?_) (fun hc29 => ?_)
      · replace h := (if_pos hc29).symm.trans h
        refine J_sub [1, 2, 0] rfl ?_
        exact w_X11_move_b55 hfl O hKP hmL hE h0 _ _ _ h
      · replace h := (if_neg hc29).symm.trans h
        refine J_aload_n O.mo dX11_move_35 1 rfl ?_
        refine J_getF O.co (kd0 := 11) (k11_0 h0) (l11_0 h0) (C := RX11) (T := TX11) (N := 42) rfl (by decide) rfl in_X11 38 (by decide) (v := .inr (some (5, 0, 38))) rfl mw595 rfl dX11_move_36 ?_
        refine J_iconst O.mo (v := 1) dX11_move_39 (by decide) ?_
        refine J_aload_n O.mo dX11_move_40 1 rfl ?_
        refine J_getF O.co (kd0 := 11) (k11_0 h0) (l11_0 h0) (C := RX11) (T := TX11) (N := 42) rfl (by decide) rfl in_X11 15 (by decide) (v := .inr (some (5, 0, 15))) rfl mw526 rfl dX11_move_41 ?_
        refine J_iload_n O.mo dX11_move_44 2 rfl ?_
        obtain ⟨hg30, h⟩ := gd_some h
        refine J_iald O.co (g := (kV κ1 5 0 15)) (ct_20n (l11_15 h0) (k11_15 h0) (n11_15 h0)) hg30 dX11_move_45 ?_
        refine J_isub O.mo dX11_move_46 ?_
        obtain ⟨hg31, h⟩ := gd_some h
        refine J_bald O.co (g := (kV κ1 5 0 38)) (ct_22n (l11_38 h0) (k11_38 h0) (n11_38 h0)) hg31 dX11_move_47 ?_
        refine J_if_ne O.mo (tgt := 55) dX11_move_48 (by decide) (fun hc32 => ?_) (fun hc32 => ?_)
        · replace h := (if_neg hc32).symm.trans h
          refine J_sub [1, 2, 0] rfl ?_
          exact w_X11_move_b55 hfl O hKP hmL hE h0 _ _ _ h
        · replace h := (if_pos hc32).symm.trans h
          refine J_iconst O.mo (v := 1) dX11_move_51 (by decide) ?_
          refine J_goto O.mo (tgt := 56) dX11_move_52 (by decide) ?_
          refine J_sub [1, 2, 0] rfl ?_
          exact w_X11_move_b56 hfl O hKP hmL hE h0 _ _ _ _ h
theorem c_X11_move {l : Launch} (hfl : l.stackTraces = false) {E : EE} {κ κ' : K} {a1 : Int32} (h0 : PC 11 E 5 0 0) {rr : Int32} (h : f_X11_move E κ a1 = some (κ', rr)) : Con l yX11_move cX11_move 5 (some .int) 3 43 [.inr (some (5, 0, 0)), .inl (.int a1)] (E, κ) (E, κ') (some (.inl (.int rr))) := by
  exact Con_of hfl (by decide +kernel) (Nat.le_of_ble_eq_true rfl) rfl ⟨_, rfl, rfl⟩ (fun X B g O hKP hmL hE => w_X11_move hfl O hKP hmL hE h0 _ _ h)
def f_X11_round_b112 (E : EE) (κ : K) (x1 : Int32) : Option (K × Int32) := gd (¬ (x1 < 0 ∨ 5 ≤ x1.toNatClampNeg)) (bd (f_X11_bits E κ ((kV κ 5 0 31) x1.toNatClampNeg)) fun κ17 r19 => some (κ17, r19))
def f_X11_round_b106 (E : EE) (k54 : K → Int32 → Int32 → Int32 → Option (K × Int32)) (κ : K) (x1 : Int32) (x3 : Int32) (x4 : Int32) : Option (K × Int32) := nm (x4 + 1) fun y23 => k54 κ x1 x3 y23
def f_X11_round_b54 (E : EE) : Nat → K → Int32 → Int32 → Int32 → Option (K × Int32)
  | 0, _, _, _, _ => none
  | n + 1, κ, x1, x3, x4 => if 8 ≤ x4 then f_X11_round_b112 E κ x1 else if x3 ≤ 0 then f_X11_round_b112 E κ x1 else gd (¬ (x1 < 0 ∨ 5 ≤ x1.toNatClampNeg)) (if (((kV κ 5 0 31) x1.toNatClampNeg) >>> (x4 &&& 31)) &&& 1 = 1 then gd (¬ (x1 < 0 ∨ 5 ≤ x1.toNatClampNeg)) (gd (¬ (x1 < 0 ∨ 5 ≤ x1.toNatClampNeg)) (nm (setV κ 5 0 31 x1.toNatClampNeg (((kV κ 5 0 31) x1.toNatClampNeg) ^^^ (1 <<< (x4 &&& 31)))) fun κ26 => gd (¬ (x1 < 0 ∨ 5 ≤ x1.toNatClampNeg)) (gd (¬ (x1 < 0 ∨ 5 ≤ x1.toNatClampNeg)) (nm (setV κ26 5 0 32 x1.toNatClampNeg (((kV κ26 5 0 32) x1.toNatClampNeg) + 1)) fun κ29 => nm (x3 + (-1)) fun y30 => f_X11_round_b106 E (f_X11_round_b54 E n) κ29 x1 y30 x4)))) else f_X11_round_b106 E (f_X11_round_b54 E n) κ x1 x3 x4)
def f_X11_round_b41 (E : EE) (κ : K) (x1 : Int32) (x2 : Int32) (xs0 : Int32) : Option (K × Int32) := bd (f_X11_refused E κ xs0) fun κ11 r13 => if r13 = 0 then f_X11_round_b54 E FU κ11 x1 x2 0 else some (κ11, 0)
def f_X11_round (E : EE) (κ : K) (a1 : Int32) (a2 : Int32) : Option (K × Int32) := bd (f_X11_isGuest E κ a1) fun κ1 r3 => if r3 = 0 then f_X11_round_b41 E κ1 a1 a2 1 else bd (f_X11_in E κ1 a2 1 8) fun κ5 r7 => if r7 = 0 then f_X11_round_b41 E κ5 a1 a2 2 else gd (¬ (a1 < 0 ∨ 5 ≤ a1.toNatClampNeg)) (if (kV κ5 5 0 30) a1.toNatClampNeg = 0 then f_X11_round_b41 E κ5 a1 a2 3 else f_X11_round_b41 E κ5 a1 a2 0)
set_option maxHeartbeats 4000000 in
set_option maxRecDepth 100000 in
theorem w_X11_round_b112 {l0 : Launch} (hfl : l0.stackTraces = false) {X : MX} {B : BX (EE × K)} {g : GP} {E : EE} {κ' : K} {rr : Int32} (O : CK l0 X B g cX11_round RX11 3 43) (hKP : KPok B E) (hmL : B.2.2.2.1 = 5) (hE : ∀ (pc : Nat) (lv : List (Nat × AV)), decode cX11_round pc = .ok (.ireturn, 1) → J X B (E, κ') pc lv [.inl (.int rr)]) (h0 : PC 11 E 5 0 0) : ∀ (κ : K) (x1 : Int32), f_X11_round_b112 E κ x1 = some (κ', rr) → J X B (E, κ) 112 [(0, .inr (some (5, 0, 0))), (1, .inl (.int x1))] [] := by
  intro κ x1 h
  unfold f_X11_round_b112 at h
  refine J_aload_n O.mo dX11_round_112 0 rfl ?_
  refine J_getF O.co (kd0 := 11) (k11_0 h0) (l11_0 h0) (C := RX11) (T := TX11) (N := 42) rfl (by decide) rfl in_X11 31 (by decide) (v := .inr (some (5, 0, 31))) rfl mw534 rfl dX11_round_113 ?_
  refine J_iload_n O.mo dX11_round_116 1 rfl ?_
  obtain ⟨hg16, h⟩ := gd_some h
  refine J_iald O.co (g := (kV κ 5 0 31)) (ct_20n (l11_31 h0) (k11_31 h0) (n11_31 h0)) hg16 dX11_round_117 ?_
  refine J_sub [] rfl ?_
  obtain ⟨κ17, r19, hq18, h⟩ := bd_some h
  refine J_callS O hKP (as := [.inl (.int ((kV κ 5 0 31) x1.toNatClampNeg))]) (rest := []) (r := (some (.inl (.int r19)))) (c_X11_bits hfl hq18) rfl mw640 mw641 mw517 mw642 pd_X11_bits rfl (by decide) rfl (Nat.le_of_ble_eq_true rfl) sl_0 st_0 dX11_round_118 ?_
  show J X B (E, κ17) 121 [] [.inl (.int r19)]
  cases h
  exact hE _ _ dX11_round_121
set_option maxHeartbeats 4000000 in
set_option maxRecDepth 100000 in
theorem w_X11_round_b106 {l0 : Launch} (hfl : l0.stackTraces = false) {X : MX} {B : BX (EE × K)} {g : GP} {E : EE} {κ' : K} {rr : Int32} (O : CK l0 X B g cX11_round RX11 3 43) (hKP : KPok B E) (hmL : B.2.2.2.1 = 5) (hE : ∀ (pc : Nat) (lv : List (Nat × AV)), decode cX11_round pc = .ok (.ireturn, 1) → J X B (E, κ') pc lv [.inl (.int rr)]) (h0 : PC 11 E 5 0 0) {k54 : K → Int32 → Int32 → Int32 → Option (K × Int32)} (hk54 : ∀ (κ : K) (x1 : Int32) (x3 : Int32) (x4 : Int32), k54 κ x1 x3 x4 = some (κ', rr) → J X B (E, κ) 54 [(0, .inr (some (5, 0, 0))), (1, .inl (.int x1)), (3, .inl (.int x3)), (4, .inl (.int x4))] []) : ∀ (κ : K) (x1 : Int32) (x3 : Int32) (x4 : Int32), f_X11_round_b106 E k54 κ x1 x3 x4 = some (κ', rr) → J X B (E, κ) 106 [(0, .inr (some (5, 0, 0))), (1, .inl (.int x1)), (3, .inl (.int x3)), (4, .inl (.int x4))] [] := by
  intro κ x1 x3 x4 h
  unfold f_X11_round_b106 at h
  refine J_iinc O.mo (v := x4 + 1) (lv' := [(0, .inr (some (5, 0, 0))), (1, .inl (.int x1)), (3, .inl (.int x3))]) dX11_round_106 (by rw [hmL]; decide) 3 rfl (by rw [show Int32.ofInt (1) = (1 : Int32) from by decide]) rfl rfl ?_
  refine nm_some (P := fun z => J X B (E, κ) 109 [(4, .inl (.int z)), (0, .inr (some (5, 0, 0))), (1, .inl (.int x1)), (3, .inl (.int x3))] []) h (fun y23 h => ?_)
  refine J_goto O.mo (tgt := 54) dX11_round_109 (by decide) ?_
  refine J_sub [1, 2, 3, 0] rfl ?_
  exact hk54 _ _ _ _ h
set_option maxHeartbeats 4000000 in
set_option maxRecDepth 100000 in
theorem w_X11_round_b54 {l0 : Launch} (hfl : l0.stackTraces = false) {X : MX} {B : BX (EE × K)} {g : GP} {E : EE} {κ' : K} {rr : Int32} (O : CK l0 X B g cX11_round RX11 3 43) (hKP : KPok B E) (hmL : B.2.2.2.1 = 5) (hE : ∀ (pc : Nat) (lv : List (Nat × AV)), decode cX11_round pc = .ok (.ireturn, 1) → J X B (E, κ') pc lv [.inl (.int rr)]) (h0 : PC 11 E 5 0 0) : ∀ (n : Nat) (κ : K) (x1 : Int32) (x3 : Int32) (x4 : Int32), f_X11_round_b54 E n κ x1 x3 x4 = some (κ', rr) → J X B (E, κ) 54 [(0, .inr (some (5, 0, 0))), (1, .inl (.int x1)), (3, .inl (.int x3)), (4, .inl (.int x4))] [] := by
  intro n
  induction n with
  | zero => intro κ x1 x3 x4 h; cases h
  | succ n ih =>
    intro κ x1 x3 x4 h
    rw [f_X11_round_b54] at h
    refine J_iload O.mo dX11_round_54 3 rfl ?_
    refine J_bipush O.mo (v := 8) dX11_round_56 (by decide) ?_
    refine J_icmp_ge O.mo (tgt := 112) dX11_round_58 (by decide) (fun hc15 => ?_) (fun hc15 => ?_)
    · replace h := (if_pos hc15).symm.trans h
      refine J_sub [0, 1] rfl ?_
      exact w_X11_round_b112 hfl O hKP hmL hE h0 _ _ h
    · replace h := (if_neg hc15).symm.trans h
      refine J_iload_n O.mo dX11_round_61 2 rfl ?_
      refine J_if_le O.mo (tgt := 112) dX11_round_62 (by decide) (fun hc20 => ?_) (fun hc20 => ?_)
      · replace h := (if_pos hc20).symm.trans h
        refine J_sub [0, 1] rfl ?_
        exact w_X11_round_b112 hfl O hKP hmL hE h0 _ _ h
      · replace h := (if_neg hc20).symm.trans h
        refine J_aload_n O.mo dX11_round_65 0 rfl ?_
        refine J_getF O.co (kd0 := 11) (k11_0 h0) (l11_0 h0) (C := RX11) (T := TX11) (N := 42) rfl (by decide) rfl in_X11 31 (by decide) (v := .inr (some (5, 0, 31))) rfl mw534 rfl dX11_round_66 ?_
        refine J_iload_n O.mo dX11_round_69 1 rfl ?_
        obtain ⟨hg21, h⟩ := gd_some h
        refine J_iald O.co (g := (kV κ 5 0 31)) (ct_20n (l11_31 h0) (k11_31 h0) (n11_31 h0)) hg21 dX11_round_70 ?_
        refine J_iload O.mo dX11_round_71 3 rfl ?_
        refine J_ishr O.mo dX11_round_73 ?_
        refine J_iconst O.mo (v := 1) dX11_round_74 (by decide) ?_
        refine J_iand O.mo dX11_round_75 ?_
        refine J_iconst O.mo (v := 1) dX11_round_76 (by decide) ?_
        refine J_icmp_ne O.mo (tgt := 106) dX11_round_77 (by decide) (fun hc22 => ?_) (fun hc22 => ?_)
        · replace h := (if_neg hc22).symm.trans h
          exact w_X11_round_b106 hfl O hKP hmL hE h0 ih _ _ _ _ h
        · replace h := (if_pos hc22).symm.trans h
          refine J_aload_n O.mo dX11_round_80 0 rfl ?_
          refine J_getF O.co (kd0 := 11) (k11_0 h0) (l11_0 h0) (C := RX11) (T := TX11) (N := 42) rfl (by decide) rfl in_X11 31 (by decide) (v := .inr (some (5, 0, 31))) rfl mw534 rfl dX11_round_81 ?_
          refine J_iload_n O.mo dX11_round_84 1 rfl ?_
          refine J_dup2 O.mo dX11_round_85 rfl rfl ?_
          obtain ⟨hg24, h⟩ := gd_some h
          refine J_iald O.co (g := (kV κ 5 0 31)) (ct_20n (l11_31 h0) (k11_31 h0) (n11_31 h0)) hg24 dX11_round_86 ?_
          refine J_iconst O.mo (v := 1) dX11_round_87 (by decide) ?_
          refine J_iload O.mo dX11_round_88 3 rfl ?_
          refine J_ishl O.mo dX11_round_90 ?_
          refine J_ixor O.mo dX11_round_91 ?_
          obtain ⟨hg25, h⟩ := gd_some h
          refine row_20 O (l11_31 h0) (k11_31 h0) (n11_31 h0) hg25 (x := (((kV κ 5 0 31) x1.toNatClampNeg) ^^^ (1 <<< (x4 &&& 31)))) dX11_round_92 ?_
          refine nm_some (P := fun z => J X B (E, z) 93 [(0, .inr (some (5, 0, 0))), (1, .inl (.int x1)), (3, .inl (.int x3)), (4, .inl (.int x4))] []) h (fun κ26 h => ?_)
          refine J_aload_n O.mo dX11_round_93 0 rfl ?_
          refine J_getF O.co (kd0 := 11) (k11_0 h0) (l11_0 h0) (C := RX11) (T := TX11) (N := 42) rfl (by decide) rfl in_X11 32 (by decide) (v := .inr (some (5, 0, 32))) rfl mw643 rfl dX11_round_94 ?_
          refine J_iload_n O.mo dX11_round_97 1 rfl ?_
          refine J_dup2 O.mo dX11_round_98 rfl rfl ?_
          obtain ⟨hg27, h⟩ := gd_some h
          refine J_iald O.co (g := (kV κ26 5 0 32)) (ct_20n (l11_32 h0) (k11_32 h0) (n11_32 h0)) hg27 dX11_round_99 ?_
          refine J_iconst O.mo (v := 1) dX11_round_100 (by decide) ?_
          refine J_iadd O.mo dX11_round_101 ?_
          obtain ⟨hg28, h⟩ := gd_some h
          refine row_20 O (l11_32 h0) (k11_32 h0) (n11_32 h0) hg28 (x := (((kV κ26 5 0 32) x1.toNatClampNeg) + 1)) dX11_round_102 ?_
          refine nm_some (P := fun z => J X B (E, z) 103 [(0, .inr (some (5, 0, 0))), (1, .inl (.int x1)), (3, .inl (.int x3)), (4, .inl (.int x4))] []) h (fun κ29 h => ?_)
          refine J_iinc O.mo (v := x3 + (-1)) (lv' := [(0, .inr (some (5, 0, 0))), (1, .inl (.int x1)), (4, .inl (.int x4))]) dX11_round_103 (by rw [hmL]; decide) 2 rfl (by rw [show Int32.ofInt (-1) = ((-1) : Int32) from by decide]) rfl rfl ?_
          refine nm_some (P := fun z => J X B (E, κ29) 106 [(3, .inl (.int z)), (0, .inr (some (5, 0, 0))), (1, .inl (.int x1)), (4, .inl (.int x4))] []) h (fun y30 h => ?_)
          refine J_sub [1, 2, 0, 3] rfl ?_
          exact w_X11_round_b106 hfl O hKP hmL hE h0 ih _ _ _ _ h
set_option maxHeartbeats 4000000 in
set_option maxRecDepth 100000 in
theorem w_X11_round_b41 {l0 : Launch} (hfl : l0.stackTraces = false) {X : MX} {B : BX (EE × K)} {g : GP} {E : EE} {κ' : K} {rr : Int32} (O : CK l0 X B g cX11_round RX11 3 43) (hKP : KPok B E) (hmL : B.2.2.2.1 = 5) (hE : ∀ (pc : Nat) (lv : List (Nat × AV)), decode cX11_round pc = .ok (.ireturn, 1) → J X B (E, κ') pc lv [.inl (.int rr)]) (h0 : PC 11 E 5 0 0) : ∀ (κ : K) (x1 : Int32) (x2 : Int32) (xs0 : Int32), f_X11_round_b41 E κ x1 x2 xs0 = some (κ', rr) → J X B (E, κ) 41 [(0, .inr (some (5, 0, 0))), (1, .inl (.int x1)), (2, .inl (.int x2))] [.inl (.int xs0), .inr (some (5, 0, 0))] := by
  intro κ x1 x2 xs0 h
  unfold f_X11_round_b41 at h
  obtain ⟨κ11, r13, hq12, h⟩ := bd_some h
  refine J_callV O hKP (as := [.inl (.int xs0)]) (rest := []) (r := (some (.inl (.int r13)))) (c_X11_refused hfl h0 hq12) rfl (kd0 := 11) (k11_0 h0) (l11_0 h0) (T := TX11) (N := 42) rfl (by decide) mw605 mw606 mw607 mw517 mw608 pd_X11_refused rfl (by decide) rfl (Nat.le_of_ble_eq_true rfl) (sl_p (s11_0 h0) (sl_v (sl_v sl_0))) st_0 dX11_round_41 ?_
  show J X B (E, κ11) 44 [(0, .inr (some (5, 0, 0))), (1, .inl (.int x1)), (2, .inl (.int x2))] [.inl (.int r13)]
  refine J_if_eq O.mo (tgt := 49) dX11_round_44 (by decide) (fun hc14 => ?_) (fun hc14 => ?_)
  · replace h := (if_pos hc14).symm.trans h
    refine J_iload_n O.mo dX11_round_49 2 rfl ?_
    refine J_istore_n O.mo (lv' := [(0, .inr (some (5, 0, 0))), (1, .inl (.int x1)), (2, .inl (.int x2))]) dX11_round_50 (by rw [hmL]; decide) rfl rfl ?_
    refine J_iconst O.mo (v := 0) dX11_round_51 (by decide) ?_
    refine J_istore O.mo (lv' := [(3, .inl (.int x2)), (0, .inr (some (5, 0, 0))), (1, .inl (.int x1)), (2, .inl (.int x2))]) dX11_round_52 (by rw [hmL]; decide) rfl rfl ?_
    refine J_sub [2, 3, 1, 0] rfl ?_
    exact w_X11_round_b54 hfl O hKP hmL hE h0 FU _ _ _ _ h
  · replace h := (if_neg hc14).symm.trans h
    refine J_iconst O.mo (v := 0) dX11_round_47 (by decide) ?_
    cases h
    exact hE _ _ dX11_round_48
set_option maxHeartbeats 4000000 in
set_option maxRecDepth 100000 in
theorem w_X11_round {l0 : Launch} (hfl : l0.stackTraces = false) {X : MX} {B : BX (EE × K)} {g : GP} {E : EE} {κ' : K} {rr : Int32} (O : CK l0 X B g cX11_round RX11 3 43) (hKP : KPok B E) (hmL : B.2.2.2.1 = 5) (hE : ∀ (pc : Nat) (lv : List (Nat × AV)), decode cX11_round pc = .ok (.ireturn, 1) → J X B (E, κ') pc lv [.inl (.int rr)]) (h0 : PC 11 E 5 0 0) : ∀ (κ : K) (a1 : Int32) (a2 : Int32), f_X11_round E κ a1 a2 = some (κ', rr) → J X B (E, κ) 0 [(0, .inr (some (5, 0, 0))), (1, .inl (.int a1)), (2, .inl (.int a2))] [] := by
  intro κ a1 a2 h
  unfold f_X11_round at h
  refine J_aload_n O.mo dX11_round_0 0 rfl ?_
  refine J_aload_n O.mo dX11_round_1 0 rfl ?_
  refine J_iload_n O.mo dX11_round_2 1 rfl ?_
  obtain ⟨κ1, r3, hq2, h⟩ := bd_some h
  refine J_callV O hKP (as := [.inl (.int a1)]) (rest := [.inr (some (5, 0, 0))]) (r := (some (.inl (.int r3)))) (c_X11_isGuest hfl h0 hq2) rfl (kd0 := 11) (k11_0 h0) (l11_0 h0) (T := TX11) (N := 42) rfl (by decide) mw611 mw612 mw613 mw517 mw614 pd_X11_isGuest rfl (by decide) rfl (Nat.le_of_ble_eq_true rfl) (sl_p (s11_0 h0) (sl_v (sl_v sl_0))) (st_p (s11_0 h0) st_0) dX11_round_3 ?_
  show J X B (E, κ1) 6 [(0, .inr (some (5, 0, 0))), (1, .inl (.int a1)), (2, .inl (.int a2))] [.inl (.int r3), .inr (some (5, 0, 0))]
  refine J_if_ne O.mo (tgt := 13) dX11_round_6 (by decide) (fun hc4 => ?_) (fun hc4 => ?_)
  · replace h := (if_neg hc4).symm.trans h
    refine J_iload_n O.mo dX11_round_13 2 rfl ?_
    refine J_iconst O.mo (v := 1) dX11_round_14 (by decide) ?_
    refine J_bipush O.mo (v := 8) dX11_round_15 (by decide) ?_
    obtain ⟨κ5, r7, hq6, h⟩ := bd_some h
    refine J_callS O hKP (as := [.inl (.int a2), .inl (.int 1), .inl (.int 8)]) (rest := [.inr (some (5, 0, 0))]) (r := (some (.inl (.int r7)))) (c_X11_in hfl hq6) rfl mw515 mw516 mw517 mw518 pd_X11_in rfl (by decide) rfl (Nat.le_of_ble_eq_true rfl) (sl_p (s11_0 h0) (sl_v (sl_v sl_0))) (st_p (s11_0 h0) st_0) dX11_round_17 ?_
    show J X B (E, κ5) 20 [(0, .inr (some (5, 0, 0))), (1, .inl (.int a1)), (2, .inl (.int a2))] [.inl (.int r7), .inr (some (5, 0, 0))]
    refine J_if_ne O.mo (tgt := 27) dX11_round_20 (by decide) (fun hc8 => ?_) (fun hc8 => ?_)
    · replace h := (if_neg hc8).symm.trans h
      refine J_aload_n O.mo dX11_round_27 0 rfl ?_
      refine J_getF O.co (kd0 := 11) (k11_0 h0) (l11_0 h0) (C := RX11) (T := TX11) (N := 42) rfl (by decide) rfl in_X11 30 (by decide) (v := .inr (some (5, 0, 30))) rfl mw535 rfl dX11_round_28 ?_
      refine J_iload_n O.mo dX11_round_31 1 rfl ?_
      obtain ⟨hg9, h⟩ := gd_some h
      refine J_bald O.co (g := (kV κ5 5 0 30)) (ct_22n (l11_30 h0) (k11_30 h0) (n11_30 h0)) hg9 dX11_round_32 ?_
      refine J_if_ne O.mo (tgt := 40) dX11_round_33 (by decide) (fun hc10 => ?_) (fun hc10 => ?_)
      · replace h := (if_neg hc10).symm.trans h
        refine J_iconst O.mo (v := 0) dX11_round_40 (by decide) ?_
        exact w_X11_round_b41 hfl O hKP hmL hE h0 _ _ _ _ h
      · replace h := (if_pos hc10).symm.trans h
        refine J_iconst O.mo (v := 3) dX11_round_36 (by decide) ?_
        refine J_goto O.mo (tgt := 41) dX11_round_37 (by decide) ?_
        exact w_X11_round_b41 hfl O hKP hmL hE h0 _ _ _ _ h
    · replace h := (if_pos hc8).symm.trans h
      refine J_iconst O.mo (v := 2) dX11_round_23 (by decide) ?_
      refine J_goto O.mo (tgt := 41) dX11_round_24 (by decide) ?_
      exact w_X11_round_b41 hfl O hKP hmL hE h0 _ _ _ _ h
  · replace h := (if_pos hc4).symm.trans h
    refine J_iconst O.mo (v := 1) dX11_round_9 (by decide) ?_
    refine J_goto O.mo (tgt := 41) dX11_round_10 (by decide) ?_
    exact w_X11_round_b41 hfl O hKP hmL hE h0 _ _ _ _ h
theorem c_X11_round {l : Launch} (hfl : l.stackTraces = false) {E : EE} {κ κ' : K} {a1 : Int32} {a2 : Int32} (h0 : PC 11 E 5 0 0) {rr : Int32} (h : f_X11_round E κ a1 a2 = some (κ', rr)) : Con l yX11_round cX11_round 5 (some .int) 3 43 [.inr (some (5, 0, 0)), .inl (.int a1), .inl (.int a2)] (E, κ) (E, κ') (some (.inl (.int rr))) := by
  exact Con_of hfl (by decide +kernel) (Nat.le_of_ble_eq_true rfl) rfl ⟨_, rfl, rfl⟩ (fun X B g O hKP hmL hE => w_X11_round hfl O hKP hmL hE h0 _ _ _ h)
def f_X11_swapAll_b41 (E : EE) (k5 : K → Int32 → Int32 → Option (K × Unit)) (κ : K) (x1 : Int32) (x2 : Int32) (xs0 : Int32) (xs1 : Int32) : Option (K × Unit) := gd (¬ (xs1 < 0 ∨ 40 ≤ xs1.toNatClampNeg)) (nm (setV κ 5 0 27 xs1.toNatClampNeg xs0) fun κ7 => gd (¬ (x2 < 0 ∨ 40 ≤ x2.toNatClampNeg)) (nm (setV κ7 5 0 28 x2.toNatClampNeg ((-1))) fun κ9 => nm (x2 + 1) fun y10 => k5 κ9 x1 y10))
def f_X11_swapAll_b5 (E : EE) : Nat → K → Int32 → Int32 → Option (K × Unit)
  | 0, _, _, _ => none
  | n + 1, κ, x1, x2 => if (8 * x1) + 8 ≤ x2 then some (κ, ()) else gd (¬ (x2 < 0 ∨ 40 ≤ x2.toNatClampNeg)) (if (kV κ 5 0 27) x2.toNatClampNeg = 1 then f_X11_swapAll_b41 E (f_X11_swapAll_b5 E n) κ x1 x2 2 x2 else gd (¬ (x2 < 0 ∨ 40 ≤ x2.toNatClampNeg)) (f_X11_swapAll_b41 E (f_X11_swapAll_b5 E n) κ x1 x2 ((kV κ 5 0 27) x2.toNatClampNeg) x2))
def f_X11_swapAll (E : EE) (κ : K) (a1 : Int32) : Option (K × Unit) := nm (8 * a1) fun y1 => f_X11_swapAll_b5 E FU κ a1 y1
set_option maxHeartbeats 4000000 in
set_option maxRecDepth 100000 in
theorem w_X11_swapAll_b41 {l0 : Launch} (hfl : l0.stackTraces = false) {X : MX} {B : BX (EE × K)} {g : GP} {E : EE} {κ' : K} {rr : Unit} (O : CK l0 X B g cX11_swapAll RX11 1 0) (hKP : KPok B E) (hmL : B.2.2.2.1 = 3) (hE : ∀ (pc : Nat) (lv : List (Nat × AV)), decode cX11_swapAll pc = .ok (.return_, 1) → J X B (E, κ') pc lv []) (h0 : PC 11 E 5 0 0) {k5 : K → Int32 → Int32 → Option (K × Unit)} (hk5 : ∀ (κ : K) (x1 : Int32) (x2 : Int32), k5 κ x1 x2 = some (κ', rr) → J X B (E, κ) 5 [(0, .inr (some (5, 0, 0))), (1, .inl (.int x1)), (2, .inl (.int x2))] []) : ∀ (κ : K) (x1 : Int32) (x2 : Int32) (xs0 : Int32) (xs1 : Int32), f_X11_swapAll_b41 E k5 κ x1 x2 xs0 xs1 = some (κ', rr) → J X B (E, κ) 41 [(0, .inr (some (5, 0, 0))), (1, .inl (.int x1)), (2, .inl (.int x2))] [.inl (.int xs0), .inl (.int xs1), .inr (some (5, 0, 27))] := by
  intro κ x1 x2 xs0 xs1 h
  unfold f_X11_swapAll_b41 at h
  obtain ⟨hg6, h⟩ := gd_some h
  refine row_20 O (l11_27 h0) (k11_27 h0) (n11_27 h0) hg6 (x := xs0) dX11_swapAll_41 ?_
  refine nm_some (P := fun z => J X B (E, z) 42 [(0, .inr (some (5, 0, 0))), (1, .inl (.int x1)), (2, .inl (.int x2))] []) h (fun κ7 h => ?_)
  refine J_aload_n O.mo dX11_swapAll_42 0 rfl ?_
  refine J_getF O.co (kd0 := 11) (k11_0 h0) (l11_0 h0) (C := RX11) (T := TX11) (N := 42) rfl (by decide) rfl in_X11 28 (by decide) (v := .inr (some (5, 0, 28))) rfl mw527 rfl dX11_swapAll_43 ?_
  refine J_iload_n O.mo dX11_swapAll_46 2 rfl ?_
  refine J_iconst O.mo (v := (-1)) dX11_swapAll_47 (by decide) ?_
  obtain ⟨hg8, h⟩ := gd_some h
  refine row_20 O (l11_28 h0) (k11_28 h0) (n11_28 h0) hg8 (x := ((-1))) dX11_swapAll_48 ?_
  refine nm_some (P := fun z => J X B (E, z) 49 [(0, .inr (some (5, 0, 0))), (1, .inl (.int x1)), (2, .inl (.int x2))] []) h (fun κ9 h => ?_)
  refine J_iinc O.mo (v := x2 + 1) (lv' := [(0, .inr (some (5, 0, 0))), (1, .inl (.int x1))]) dX11_swapAll_49 (by rw [hmL]; decide) 2 rfl (by rw [show Int32.ofInt (1) = (1 : Int32) from by decide]) rfl rfl ?_
  refine nm_some (P := fun z => J X B (E, κ9) 52 [(2, .inl (.int z)), (0, .inr (some (5, 0, 0))), (1, .inl (.int x1))] []) h (fun y10 h => ?_)
  refine J_goto O.mo (tgt := 5) dX11_swapAll_52 (by decide) ?_
  refine J_sub [1, 2, 0] rfl ?_
  exact hk5 _ _ _ h
set_option maxHeartbeats 4000000 in
set_option maxRecDepth 100000 in
theorem w_X11_swapAll_b5 {l0 : Launch} (hfl : l0.stackTraces = false) {X : MX} {B : BX (EE × K)} {g : GP} {E : EE} {κ' : K} {rr : Unit} (O : CK l0 X B g cX11_swapAll RX11 1 0) (hKP : KPok B E) (hmL : B.2.2.2.1 = 3) (hE : ∀ (pc : Nat) (lv : List (Nat × AV)), decode cX11_swapAll pc = .ok (.return_, 1) → J X B (E, κ') pc lv []) (h0 : PC 11 E 5 0 0) : ∀ (n : Nat) (κ : K) (x1 : Int32) (x2 : Int32), f_X11_swapAll_b5 E n κ x1 x2 = some (κ', rr) → J X B (E, κ) 5 [(0, .inr (some (5, 0, 0))), (1, .inl (.int x1)), (2, .inl (.int x2))] [] := by
  intro n
  induction n with
  | zero => intro κ x1 x2 h; cases h
  | succ n ih =>
    intro κ x1 x2 h
    rw [f_X11_swapAll_b5] at h
    refine J_iload_n O.mo dX11_swapAll_5 2 rfl ?_
    refine J_bipush O.mo (v := 8) dX11_swapAll_6 (by decide) ?_
    refine J_iload_n O.mo dX11_swapAll_8 1 rfl ?_
    refine J_imul O.mo dX11_swapAll_9 ?_
    refine J_bipush O.mo (v := 8) dX11_swapAll_10 (by decide) ?_
    refine J_iadd O.mo dX11_swapAll_12 ?_
    refine J_icmp_ge O.mo (tgt := 55) dX11_swapAll_13 (by decide) (fun hc2 => ?_) (fun hc2 => ?_)
    · replace h := (if_pos hc2).symm.trans h
      cases h
      exact hE _ _ dX11_swapAll_55
    · replace h := (if_neg hc2).symm.trans h
      refine J_aload_n O.mo dX11_swapAll_16 0 rfl ?_
      refine J_getF O.co (kd0 := 11) (k11_0 h0) (l11_0 h0) (C := RX11) (T := TX11) (N := 42) rfl (by decide) rfl in_X11 27 (by decide) (v := .inr (some (5, 0, 27))) rfl mw528 rfl dX11_swapAll_17 ?_
      refine J_iload_n O.mo dX11_swapAll_20 2 rfl ?_
      refine J_aload_n O.mo dX11_swapAll_21 0 rfl ?_
      refine J_getF O.co (kd0 := 11) (k11_0 h0) (l11_0 h0) (C := RX11) (T := TX11) (N := 42) rfl (by decide) rfl in_X11 27 (by decide) (v := .inr (some (5, 0, 27))) rfl mw528 rfl dX11_swapAll_22 ?_
      refine J_iload_n O.mo dX11_swapAll_25 2 rfl ?_
      obtain ⟨hg3, h⟩ := gd_some h
      refine J_iald O.co (g := (kV κ 5 0 27)) (ct_20n (l11_27 h0) (k11_27 h0) (n11_27 h0)) hg3 dX11_swapAll_26 ?_
      refine J_iconst O.mo (v := 1) dX11_swapAll_27 (by decide) ?_
      refine J_icmp_ne O.mo (tgt := 35) dX11_swapAll_28 (by decide) (fun hc4 => ?_) (fun hc4 => ?_)
      · replace h := (if_neg hc4).symm.trans h
        refine J_aload_n O.mo dX11_swapAll_35 0 rfl ?_
        refine J_getF O.co (kd0 := 11) (k11_0 h0) (l11_0 h0) (C := RX11) (T := TX11) (N := 42) rfl (by decide) rfl in_X11 27 (by decide) (v := .inr (some (5, 0, 27))) rfl mw528 rfl dX11_swapAll_36 ?_
        refine J_iload_n O.mo dX11_swapAll_39 2 rfl ?_
        obtain ⟨hg5, h⟩ := gd_some h
        refine J_iald O.co (g := (kV κ 5 0 27)) (ct_20n (l11_27 h0) (k11_27 h0) (n11_27 h0)) hg5 dX11_swapAll_40 ?_
        exact w_X11_swapAll_b41 hfl O hKP hmL hE h0 ih _ _ _ _ _ h
      · replace h := (if_pos hc4).symm.trans h
        refine J_iconst O.mo (v := 2) dX11_swapAll_31 (by decide) ?_
        refine J_goto O.mo (tgt := 41) dX11_swapAll_32 (by decide) ?_
        exact w_X11_swapAll_b41 hfl O hKP hmL hE h0 ih _ _ _ _ _ h
set_option maxHeartbeats 4000000 in
set_option maxRecDepth 100000 in
theorem w_X11_swapAll {l0 : Launch} (hfl : l0.stackTraces = false) {X : MX} {B : BX (EE × K)} {g : GP} {E : EE} {κ' : K} {rr : Unit} (O : CK l0 X B g cX11_swapAll RX11 1 0) (hKP : KPok B E) (hmL : B.2.2.2.1 = 3) (hE : ∀ (pc : Nat) (lv : List (Nat × AV)), decode cX11_swapAll pc = .ok (.return_, 1) → J X B (E, κ') pc lv []) (h0 : PC 11 E 5 0 0) : ∀ (κ : K) (a1 : Int32), f_X11_swapAll E κ a1 = some (κ', rr) → J X B (E, κ) 0 [(0, .inr (some (5, 0, 0))), (1, .inl (.int a1))] [] := by
  intro κ a1 h
  unfold f_X11_swapAll at h
  refine J_bipush O.mo (v := 8) dX11_swapAll_0 (by decide) ?_
  refine J_iload_n O.mo dX11_swapAll_2 1 rfl ?_
  refine J_imul O.mo dX11_swapAll_3 ?_
  refine J_istore_n O.mo (lv' := [(0, .inr (some (5, 0, 0))), (1, .inl (.int a1))]) dX11_swapAll_4 (by rw [hmL]; decide) rfl rfl ?_
  refine nm_some (P := fun z => J X B (E, κ) 5 [(2, .inl (.int z)), (0, .inr (some (5, 0, 0))), (1, .inl (.int a1))] []) h (fun y1 h => ?_)
  refine J_sub [1, 2, 0] rfl ?_
  exact w_X11_swapAll_b5 hfl O hKP hmL hE h0 FU _ _ _ h
theorem c_X11_swapAll {l : Launch} (hfl : l.stackTraces = false) {E : EE} {κ κ' : K} {a1 : Int32} (h0 : PC 11 E 5 0 0) {rr : Unit} (h : f_X11_swapAll E κ a1 = some (κ', rr)) : Con l yX11_swapAll cX11_swapAll 3 none 1 0 [.inr (some (5, 0, 0)), .inl (.int a1)] (E, κ) (E, κ') none := by
  exact Con_of hfl (by decide +kernel) (Nat.le_of_ble_eq_true rfl) rfl rfl (fun X B g O hKP hmL hE => w_X11_swapAll hfl O hKP hmL hE h0 _ _ h)
def f_X11_land_b27 (E : EE) (κ : K) (x1 : Int32) (x2 : Int32) (xs0 : Int32) : Option (K × Int32) := bd (f_X11_refused E κ xs0) fun κ7 r9 => if r9 = 0 then gd (¬ (x1 < 0 ∨ 5 ≤ x1.toNatClampNeg)) (nm (setV κ7 5 0 30 x1.toNatClampNeg 0) fun κ12 => if x2 = 0 then some (κ12, 0) else gd (¬ (x1 < 0 ∨ 5 ≤ x1.toNatClampNeg)) (bd (f_X11_bits E κ12 ((kV κ12 5 0 31) x1.toNatClampNeg)) fun κ15 r17 => gd (¬ (x1 < 0 ∨ 5 ≤ x1.toNatClampNeg)) (gd (¬ (x1 < 0 ∨ 5 ≤ x1.toNatClampNeg)) (nm (setV κ15 5 0 32 x1.toNatClampNeg (((kV κ15 5 0 32) x1.toNatClampNeg) + r17)) fun κ20 => bd (f_X11_swapAll E κ20 x1) fun κ21 _ => gd (¬ (x1 < 0 ∨ 5 ≤ x1.toNatClampNeg)) (gd (¬ (x1 < 0 ∨ 5 ≤ x1.toNatClampNeg)) (nm (setV κ21 5 0 15 x1.toNatClampNeg (1 - ((kV κ21 5 0 15) x1.toNatClampNeg))) fun κ26 => some (κ26, r17))))))) else some (κ7, 0)
def f_X11_land (E : EE) (κ : K) (a1 : Int32) (a2 : Int32) : Option (K × Int32) := bd (f_X11_isGuest E κ a1) fun κ1 r3 => if r3 = 0 then f_X11_land_b27 E κ1 a1 a2 1 else gd (¬ (a1 < 0 ∨ 5 ≤ a1.toNatClampNeg)) (if (kV κ1 5 0 30) a1.toNatClampNeg = 0 then f_X11_land_b27 E κ1 a1 a2 2 else f_X11_land_b27 E κ1 a1 a2 0)
set_option maxHeartbeats 4000000 in
set_option maxRecDepth 100000 in
theorem w_X11_land_b27 {l0 : Launch} (hfl : l0.stackTraces = false) {X : MX} {B : BX (EE × K)} {g : GP} {E : EE} {κ' : K} {rr : Int32} (O : CK l0 X B g cX11_land RX11 3 43) (hKP : KPok B E) (hmL : B.2.2.2.1 = 4) (hE : ∀ (pc : Nat) (lv : List (Nat × AV)), decode cX11_land pc = .ok (.ireturn, 1) → J X B (E, κ') pc lv [.inl (.int rr)]) (h0 : PC 11 E 5 0 0) : ∀ (κ : K) (x1 : Int32) (x2 : Int32) (xs0 : Int32), f_X11_land_b27 E κ x1 x2 xs0 = some (κ', rr) → J X B (E, κ) 27 [(0, .inr (some (5, 0, 0))), (1, .inl (.int x1)), (2, .inl (.int x2))] [.inl (.int xs0), .inr (some (5, 0, 0))] := by
  intro κ x1 x2 xs0 h
  unfold f_X11_land_b27 at h
  obtain ⟨κ7, r9, hq8, h⟩ := bd_some h
  refine J_callV O hKP (as := [.inl (.int xs0)]) (rest := []) (r := (some (.inl (.int r9)))) (c_X11_refused hfl h0 hq8) rfl (kd0 := 11) (k11_0 h0) (l11_0 h0) (T := TX11) (N := 42) rfl (by decide) mw605 mw606 mw607 mw517 mw608 pd_X11_refused rfl (by decide) rfl (Nat.le_of_ble_eq_true rfl) (sl_p (s11_0 h0) (sl_v (sl_v sl_0))) st_0 dX11_land_27 ?_
  show J X B (E, κ7) 30 [(0, .inr (some (5, 0, 0))), (1, .inl (.int x1)), (2, .inl (.int x2))] [.inl (.int r9)]
  refine J_if_eq O.mo (tgt := 35) dX11_land_30 (by decide) (fun hc10 => ?_) (fun hc10 => ?_)
  · replace h := (if_pos hc10).symm.trans h
    refine J_aload_n O.mo dX11_land_35 0 rfl ?_
    refine J_getF O.co (kd0 := 11) (k11_0 h0) (l11_0 h0) (C := RX11) (T := TX11) (N := 42) rfl (by decide) rfl in_X11 30 (by decide) (v := .inr (some (5, 0, 30))) rfl mw535 rfl dX11_land_36 ?_
    refine J_iload_n O.mo dX11_land_39 1 rfl ?_
    refine J_iconst O.mo (v := 0) dX11_land_40 (by decide) ?_
    obtain ⟨hg11, h⟩ := gd_some h
    refine row_22 O (l11_30 h0) (k11_30 h0) (n11_30 h0) hg11 (x := 0) (Or.inl rfl) dX11_land_41 ?_
    refine nm_some (P := fun z => J X B (E, z) 42 [(0, .inr (some (5, 0, 0))), (1, .inl (.int x1)), (2, .inl (.int x2))] []) h (fun κ12 h => ?_)
    refine J_iload_n O.mo dX11_land_42 2 rfl ?_
    refine J_if_ne O.mo (tgt := 48) dX11_land_43 (by decide) (fun hc13 => ?_) (fun hc13 => ?_)
    · replace h := (if_neg hc13).symm.trans h
      refine J_aload_n O.mo dX11_land_48 0 rfl ?_
      refine J_getF O.co (kd0 := 11) (k11_0 h0) (l11_0 h0) (C := RX11) (T := TX11) (N := 42) rfl (by decide) rfl in_X11 31 (by decide) (v := .inr (some (5, 0, 31))) rfl mw534 rfl dX11_land_49 ?_
      refine J_iload_n O.mo dX11_land_52 1 rfl ?_
      obtain ⟨hg14, h⟩ := gd_some h
      refine J_iald O.co (g := (kV κ12 5 0 31)) (ct_20n (l11_31 h0) (k11_31 h0) (n11_31 h0)) hg14 dX11_land_53 ?_
      refine J_sub [0, 1] rfl ?_
      obtain ⟨κ15, r17, hq16, h⟩ := bd_some h
      refine J_callS O hKP (as := [.inl (.int ((kV κ12 5 0 31) x1.toNatClampNeg))]) (rest := []) (r := (some (.inl (.int r17)))) (c_X11_bits hfl hq16) rfl mw640 mw641 mw517 mw642 pd_X11_bits rfl (by decide) rfl (Nat.le_of_ble_eq_true rfl) (sl_p (s11_0 h0) (sl_v sl_0)) st_0 dX11_land_54 ?_
      show J X B (E, κ15) 57 [(0, .inr (some (5, 0, 0))), (1, .inl (.int x1))] [.inl (.int r17)]
      refine J_istore_n O.mo (lv' := [(0, .inr (some (5, 0, 0))), (1, .inl (.int x1))]) dX11_land_57 (by rw [hmL]; decide) rfl rfl ?_
      refine J_aload_n O.mo dX11_land_58 1 rfl ?_
      refine J_getF O.co (kd0 := 11) (k11_0 h0) (l11_0 h0) (C := RX11) (T := TX11) (N := 42) rfl (by decide) rfl in_X11 32 (by decide) (v := .inr (some (5, 0, 32))) rfl mw643 rfl dX11_land_59 ?_
      refine J_iload_n O.mo dX11_land_62 2 rfl ?_
      refine J_dup2 O.mo dX11_land_63 rfl rfl ?_
      obtain ⟨hg18, h⟩ := gd_some h
      refine J_iald O.co (g := (kV κ15 5 0 32)) (ct_20n (l11_32 h0) (k11_32 h0) (n11_32 h0)) hg18 dX11_land_64 ?_
      refine J_iload_n O.mo dX11_land_65 0 rfl ?_
      refine J_iadd O.mo dX11_land_66 ?_
      obtain ⟨hg19, h⟩ := gd_some h
      refine row_20 O (l11_32 h0) (k11_32 h0) (n11_32 h0) hg19 (x := (((kV κ15 5 0 32) x1.toNatClampNeg) + r17)) dX11_land_67 ?_
      refine nm_some (P := fun z => J X B (E, z) 68 [(3, .inl (.int r17)), (0, .inr (some (5, 0, 0))), (1, .inl (.int x1))] []) h (fun κ20 h => ?_)
      refine J_aload_n O.mo dX11_land_68 1 rfl ?_
      refine J_iload_n O.mo dX11_land_69 2 rfl ?_
      obtain ⟨κ21, r23, hq22, h⟩ := bd_some h
      refine J_callV O hKP (as := [.inl (.int x1)]) (rest := []) (r := none) (c_X11_swapAll hfl h0 hq22) rfl (kd0 := 11) (k11_0 h0) (l11_0 h0) (T := TX11) (N := 42) rfl (by decide) mw644 mw645 mw646 mw517 mw647 pd_X11_swapAll rfl (by decide) rfl (Nat.le_of_ble_eq_true rfl) (sl_v (sl_p (s11_0 h0) (sl_v sl_0))) st_0 dX11_land_70 ?_
      show J X B (E, κ21) 73 [(3, .inl (.int r17)), (0, .inr (some (5, 0, 0))), (1, .inl (.int x1))] []
      refine J_aload_n O.mo dX11_land_73 1 rfl ?_
      refine J_getF O.co (kd0 := 11) (k11_0 h0) (l11_0 h0) (C := RX11) (T := TX11) (N := 42) rfl (by decide) rfl in_X11 15 (by decide) (v := .inr (some (5, 0, 15))) rfl mw526 rfl dX11_land_74 ?_
      refine J_iload_n O.mo dX11_land_77 2 rfl ?_
      refine J_iconst O.mo (v := 1) dX11_land_78 (by decide) ?_
      refine J_aload_n O.mo dX11_land_79 1 rfl ?_
      refine J_getF O.co (kd0 := 11) (k11_0 h0) (l11_0 h0) (C := RX11) (T := TX11) (N := 42) rfl (by decide) rfl in_X11 15 (by decide) (v := .inr (some (5, 0, 15))) rfl mw526 rfl dX11_land_80 ?_
      refine J_iload_n O.mo dX11_land_83 2 rfl ?_
      obtain ⟨hg24, h⟩ := gd_some h
      refine J_iald O.co (g := (kV κ21 5 0 15)) (ct_20n (l11_15 h0) (k11_15 h0) (n11_15 h0)) hg24 dX11_land_84 ?_
      refine J_isub O.mo dX11_land_85 ?_
      obtain ⟨hg25, h⟩ := gd_some h
      refine row_20 O (l11_15 h0) (k11_15 h0) (n11_15 h0) hg25 (x := (1 - ((kV κ21 5 0 15) x1.toNatClampNeg))) dX11_land_86 ?_
      refine nm_some (P := fun z => J X B (E, z) 87 [(3, .inl (.int r17)), (0, .inr (some (5, 0, 0))), (1, .inl (.int x1))] []) h (fun κ26 h => ?_)
      refine J_iload_n O.mo dX11_land_87 0 rfl ?_
      cases h
      exact hE _ _ dX11_land_88
    · replace h := (if_pos hc13).symm.trans h
      refine J_iconst O.mo (v := 0) dX11_land_46 (by decide) ?_
      cases h
      exact hE _ _ dX11_land_47
  · replace h := (if_neg hc10).symm.trans h
    refine J_iconst O.mo (v := 0) dX11_land_33 (by decide) ?_
    cases h
    exact hE _ _ dX11_land_34
set_option maxHeartbeats 4000000 in
set_option maxRecDepth 100000 in
theorem w_X11_land {l0 : Launch} (hfl : l0.stackTraces = false) {X : MX} {B : BX (EE × K)} {g : GP} {E : EE} {κ' : K} {rr : Int32} (O : CK l0 X B g cX11_land RX11 3 43) (hKP : KPok B E) (hmL : B.2.2.2.1 = 4) (hE : ∀ (pc : Nat) (lv : List (Nat × AV)), decode cX11_land pc = .ok (.ireturn, 1) → J X B (E, κ') pc lv [.inl (.int rr)]) (h0 : PC 11 E 5 0 0) : ∀ (κ : K) (a1 : Int32) (a2 : Int32), f_X11_land E κ a1 a2 = some (κ', rr) → J X B (E, κ) 0 [(0, .inr (some (5, 0, 0))), (1, .inl (.int a1)), (2, .inl (.int a2))] [] := by
  intro κ a1 a2 h
  unfold f_X11_land at h
  refine J_aload_n O.mo dX11_land_0 0 rfl ?_
  refine J_aload_n O.mo dX11_land_1 0 rfl ?_
  refine J_iload_n O.mo dX11_land_2 1 rfl ?_
  obtain ⟨κ1, r3, hq2, h⟩ := bd_some h
  refine J_callV O hKP (as := [.inl (.int a1)]) (rest := [.inr (some (5, 0, 0))]) (r := (some (.inl (.int r3)))) (c_X11_isGuest hfl h0 hq2) rfl (kd0 := 11) (k11_0 h0) (l11_0 h0) (T := TX11) (N := 42) rfl (by decide) mw611 mw612 mw613 mw517 mw614 pd_X11_isGuest rfl (by decide) rfl (Nat.le_of_ble_eq_true rfl) (sl_p (s11_0 h0) (sl_v (sl_v sl_0))) (st_p (s11_0 h0) st_0) dX11_land_3 ?_
  show J X B (E, κ1) 6 [(0, .inr (some (5, 0, 0))), (1, .inl (.int a1)), (2, .inl (.int a2))] [.inl (.int r3), .inr (some (5, 0, 0))]
  refine J_if_ne O.mo (tgt := 13) dX11_land_6 (by decide) (fun hc4 => ?_) (fun hc4 => ?_)
  · replace h := (if_neg hc4).symm.trans h
    refine J_aload_n O.mo dX11_land_13 0 rfl ?_
    refine J_getF O.co (kd0 := 11) (k11_0 h0) (l11_0 h0) (C := RX11) (T := TX11) (N := 42) rfl (by decide) rfl in_X11 30 (by decide) (v := .inr (some (5, 0, 30))) rfl mw535 rfl dX11_land_14 ?_
    refine J_iload_n O.mo dX11_land_17 1 rfl ?_
    obtain ⟨hg5, h⟩ := gd_some h
    refine J_bald O.co (g := (kV κ1 5 0 30)) (ct_22n (l11_30 h0) (k11_30 h0) (n11_30 h0)) hg5 dX11_land_18 ?_
    refine J_if_ne O.mo (tgt := 26) dX11_land_19 (by decide) (fun hc6 => ?_) (fun hc6 => ?_)
    · replace h := (if_neg hc6).symm.trans h
      refine J_iconst O.mo (v := 0) dX11_land_26 (by decide) ?_
      exact w_X11_land_b27 hfl O hKP hmL hE h0 _ _ _ _ h
    · replace h := (if_pos hc6).symm.trans h
      refine J_iconst O.mo (v := 2) dX11_land_22 (by decide) ?_
      refine J_goto O.mo (tgt := 27) dX11_land_23 (by decide) ?_
      exact w_X11_land_b27 hfl O hKP hmL hE h0 _ _ _ _ h
  · replace h := (if_pos hc4).symm.trans h
    refine J_iconst O.mo (v := 1) dX11_land_9 (by decide) ?_
    refine J_goto O.mo (tgt := 27) dX11_land_10 (by decide) ?_
    exact w_X11_land_b27 hfl O hKP hmL hE h0 _ _ _ _ h
theorem c_X11_land {l : Launch} (hfl : l.stackTraces = false) {E : EE} {κ κ' : K} {a1 : Int32} {a2 : Int32} (h0 : PC 11 E 5 0 0) {rr : Int32} (h : f_X11_land E κ a1 a2 = some (κ', rr)) : Con l yX11_land cX11_land 4 (some .int) 3 43 [.inr (some (5, 0, 0)), .inl (.int a1), .inl (.int a2)] (E, κ) (E, κ') (some (.inl (.int rr))) := by
  exact Con_of hfl (by decide +kernel) (Nat.le_of_ble_eq_true rfl) rfl ⟨_, rfl, rfl⟩ (fun X B g O hKP hmL hE => w_X11_land hfl O hKP hmL hE h0 _ _ _ h)
