theorem k11_13 {E : EE} {f i c : Nat} (h : PC 11 E f i c) : kd f (c + 13) = 20 := PC_kd h 13 (by decide)
theorem l11_13 {E : EE} {f i c : Nat} (h : PC 11 E f i c) : liveC E f i (c + 13) = true := PC_lv h 13 (by decide) (by decide)
theorem s11_13 {E : EE} {f i c : Nat} (h : PC 11 E f i c) : Stab E (.inr (some (f, i, c + 13))) := PC_st h 13 (by decide) (by decide) (by decide)
theorem n11_13 {E : EE} {f i c : Nat} (h : PC 11 E f i c) : sl f (c + 13) = 360 := PC_sl h 13 (by decide)
theorem k11_14 {E : EE} {f i c : Nat} (h : PC 11 E f i c) : kd f (c + 14) = 20 := PC_kd h 14 (by decide)
theorem l11_14 {E : EE} {f i c : Nat} (h : PC 11 E f i c) : liveC E f i (c + 14) = true := PC_lv h 14 (by decide) (by decide)
theorem s11_14 {E : EE} {f i c : Nat} (h : PC 11 E f i c) : Stab E (.inr (some (f, i, c + 14))) := PC_st h 14 (by decide) (by decide) (by decide)
theorem n11_14 {E : EE} {f i c : Nat} (h : PC 11 E f i c) : sl f (c + 14) = 5 := PC_sl h 14 (by decide)
theorem k11_16 {E : EE} {f i c : Nat} (h : PC 11 E f i c) : kd f (c + 16) = 20 := PC_kd h 16 (by decide)
theorem l11_16 {E : EE} {f i c : Nat} (h : PC 11 E f i c) : liveC E f i (c + 16) = true := PC_lv h 16 (by decide) (by decide)
theorem s11_16 {E : EE} {f i c : Nat} (h : PC 11 E f i c) : Stab E (.inr (some (f, i, c + 16))) := PC_st h 16 (by decide) (by decide) (by decide)
theorem n11_16 {E : EE} {f i c : Nat} (h : PC 11 E f i c) : sl f (c + 16) = 5 := PC_sl h 16 (by decide)
theorem k11_18 {E : EE} {f i c : Nat} (h : PC 11 E f i c) : kd f (c + 18) = 22 := PC_kd h 18 (by decide)
theorem l11_18 {E : EE} {f i c : Nat} (h : PC 11 E f i c) : liveC E f i (c + 18) = true := PC_lv h 18 (by decide) (by decide)
theorem s11_18 {E : EE} {f i c : Nat} (h : PC 11 E f i c) : Stab E (.inr (some (f, i, c + 18))) := PC_st h 18 (by decide) (by decide) (by decide)
theorem n11_18 {E : EE} {f i c : Nat} (h : PC 11 E f i c) : sl f (c + 18) = 5 := PC_sl h 18 (by decide)
theorem k11_23 {E : EE} {f i c : Nat} (h : PC 11 E f i c) : kd f (c + 23) = 20 := PC_kd h 23 (by decide)
theorem l11_23 {E : EE} {f i c : Nat} (h : PC 11 E f i c) : liveC E f i (c + 23) = true := PC_lv h 23 (by decide) (by decide)
theorem s11_23 {E : EE} {f i c : Nat} (h : PC 11 E f i c) : Stab E (.inr (some (f, i, c + 23))) := PC_st h 23 (by decide) (by decide) (by decide)
theorem n11_23 {E : EE} {f i c : Nat} (h : PC 11 E f i c) : sl f (c + 23) = 5 := PC_sl h 23 (by decide)
theorem k11_24 {E : EE} {f i c : Nat} (h : PC 11 E f i c) : kd f (c + 24) = 20 := PC_kd h 24 (by decide)
theorem l11_24 {E : EE} {f i c : Nat} (h : PC 11 E f i c) : liveC E f i (c + 24) = true := PC_lv h 24 (by decide) (by decide)
theorem s11_24 {E : EE} {f i c : Nat} (h : PC 11 E f i c) : Stab E (.inr (some (f, i, c + 24))) := PC_st h 24 (by decide) (by decide) (by decide)
theorem n11_24 {E : EE} {f i c : Nat} (h : PC 11 E f i c) : sl f (c + 24) = 5 := PC_sl h 24 (by decide)
theorem k11_38 {E : EE} {f i c : Nat} (h : PC 11 E f i c) : kd f (c + 38) = 22 := PC_kd h 38 (by decide)
theorem l11_38 {E : EE} {f i c : Nat} (h : PC 11 E f i c) : liveC E f i (c + 38) = true := PC_lv h 38 (by decide) (by decide)
theorem s11_38 {E : EE} {f i c : Nat} (h : PC 11 E f i c) : Stab E (.inr (some (f, i, c + 38))) := PC_st h 38 (by decide) (by decide) (by decide)
theorem n11_38 {E : EE} {f i c : Nat} (h : PC 11 E f i c) : sl f (c + 38) = 2 := PC_sl h 38 (by decide)
theorem k11_39 {E : EE} {f i c : Nat} (h : PC 11 E f i c) : kd f (c + 39) = 20 := PC_kd h 39 (by decide)
theorem l11_39 {E : EE} {f i c : Nat} (h : PC 11 E f i c) : liveC E f i (c + 39) = true := PC_lv h 39 (by decide) (by decide)
theorem s11_39 {E : EE} {f i c : Nat} (h : PC 11 E f i c) : Stab E (.inr (some (f, i, c + 39))) := PC_st h 39 (by decide) (by decide) (by decide)
theorem n11_39 {E : EE} {f i c : Nat} (h : PC 11 E f i c) : sl f (c + 39) = 2 := PC_sl h 39 (by decide)
theorem k11_40 {E : EE} {f i c : Nat} (h : PC 11 E f i c) : kd f (c + 40) = 20 := PC_kd h 40 (by decide)
theorem l11_40 {E : EE} {f i c : Nat} (h : PC 11 E f i c) : liveC E f i (c + 40) = true := PC_lv h 40 (by decide) (by decide)
theorem s11_40 {E : EE} {f i c : Nat} (h : PC 11 E f i c) : Stab E (.inr (some (f, i, c + 40))) := PC_st h 40 (by decide) (by decide) (by decide)
theorem n11_40 {E : EE} {f i c : Nat} (h : PC 11 E f i c) : sl f (c + 40) = 2 := PC_sl h 40 (by decide)
set_option maxRecDepth 100000 in
theorem mw556 : Cond.fieldLink RX11 77 "GuestHallModel" "ran" "[I" ∈ gwl := gwl_tb 1208 rfl rfl
set_option maxRecDepth 100000 in
theorem mw557 : Cond.fieldLink RX11 46 "GuestHallModel" "codeMany" "[I" ∈ gwl := gwl_tb 1198 rfl rfl
set_option maxRecDepth 100000 in
theorem mw558 : Cond.fieldLink RX11 43 "GuestHallModel" "code" "[I" ∈ gwl := gwl_tb 1197 rfl rfl
set_option maxRecDepth 100000 in
theorem mw559 : Cond.methodLink RX11 161 yX11_fault ∈ gwl := gwl_tb 1396 rfl rfl
set_option maxRecDepth 100000 in
theorem mw560 : Cond.instanceMethod yX11_fault ∈ gwl := gwl_tb 1398 rfl rfl
set_option maxRecDepth 100000 in
theorem mw561 : Cond.selects RX11 yX11_fault yX11_fault ∈ gwl := gwl_sl 35 rfl rfl
set_option maxRecDepth 100000 in
theorem mw562 : Cond.code yX11_fault cX11_fault 3 none ∈ gwl := gwl_tb 1399 rfl rfl
set_option maxRecDepth 100000 in
theorem mw563 : Cond.methodLink RX11 165 yX11_touch ∈ gwl := gwl_tb 1400 rfl rfl
set_option maxRecDepth 100000 in
theorem mw564 : Cond.instanceMethod yX11_touch ∈ gwl := gwl_tb 1402 rfl rfl
set_option maxRecDepth 100000 in
theorem mw565 : Cond.selects RX11 yX11_touch yX11_touch ∈ gwl := gwl_sl 36 rfl rfl
set_option maxRecDepth 100000 in
theorem mw566 : Cond.code yX11_touch cX11_touch 7 none ∈ gwl := gwl_tb 1403 rfl rfl
set_option maxRecDepth 100000 in
theorem mw567 : Cond.methodLink RX11 169 yX11_say ∈ gwl := gwl_tb 1416 rfl rfl
set_option maxRecDepth 100000 in
theorem mw568 : Cond.instanceMethod yX11_say ∈ gwl := gwl_tb 1418 rfl rfl
set_option maxRecDepth 100000 in
theorem mw569 : Cond.selects RX11 yX11_say yX11_say ∈ gwl := gwl_sl 40 rfl rfl
set_option maxRecDepth 100000 in
theorem mw570 : Cond.code yX11_say cX11_say 3 none ∈ gwl := gwl_tb 1419 rfl rfl
set_option maxRecDepth 100000 in
theorem mw571 : Cond.methodLink RX11 175 yX11_clock ∈ gwl := gwl_tb 1349 rfl rfl
set_option maxRecDepth 100000 in
theorem mw572 : Cond.instanceMethod yX11_clock ∈ gwl := gwl_tb 1351 rfl rfl
set_option maxRecDepth 100000 in
theorem mw573 : Cond.selects RX11 yX11_clock yX11_clock ∈ gwl := gwl_sl 27 rfl rfl
set_option maxRecDepth 100000 in
theorem mw574 : Cond.code yX11_clock cX11_clock 2 (some .int) ∈ gwl := gwl_tb 1352 rfl rfl
set_option maxRecDepth 100000 in
theorem mw575 : Cond.methodLink RX11 172 yX11_takeInput ∈ gwl := gwl_tb 1420 rfl rfl
set_option maxRecDepth 100000 in
theorem mw576 : Cond.instanceMethod yX11_takeInput ∈ gwl := gwl_tb 1422 rfl rfl
set_option maxRecDepth 100000 in
theorem mw577 : Cond.selects RX11 yX11_takeInput yX11_takeInput ∈ gwl := gwl_sl 41 rfl rfl
set_option maxRecDepth 100000 in
theorem mw578 : Cond.code yX11_takeInput cX11_takeInput 5 (some .int) ∈ gwl := gwl_tb 1423 rfl rfl
set_option maxRecDepth 100000 in
theorem mw579 : Cond.methodLink RX11 178 yX11_doOther ∈ gwl := gwl_tb 1424 rfl rfl
set_option maxRecDepth 100000 in
theorem mw580 : Cond.instanceMethod yX11_doOther ∈ gwl := gwl_tb 1426 rfl rfl
set_option maxRecDepth 100000 in
theorem mw581 : Cond.selects RX11 yX11_doOther yX11_doOther ∈ gwl := gwl_sl 42 rfl rfl
set_option maxRecDepth 100000 in
theorem mw582 : Cond.code yX11_doOther cX11_doOther 7 (some .int) ∈ gwl := gwl_tb 1427 rfl rfl
set_option maxRecDepth 100000 in
theorem mw583 : Cond.methodLink RX11 157 yX11_doOne ∈ gwl := gwl_tb 1392 rfl rfl
set_option maxRecDepth 100000 in
theorem mw584 : Cond.instanceMethod yX11_doOne ∈ gwl := gwl_tb 1394 rfl rfl
set_option maxRecDepth 100000 in
theorem mw585 : Cond.selects RX11 yX11_doOne yX11_doOne ∈ gwl := gwl_sl 34 rfl rfl
set_option maxRecDepth 100000 in
theorem mw586 : Cond.code yX11_doOne cX11_doOne 10 none ∈ gwl := gwl_tb 1395 rfl rfl
set_option maxRecDepth 100000 in
theorem mw587 : Cond.fieldLink RX11 59 "GuestHallModel" "isPaused" "[Z" ∈ gwl := gwl_tb 1202 rfl rfl
set_option maxRecDepth 100000 in
theorem mw588 : Cond.fieldLink RX11 119 "GuestHallModel" "lastRun" "[I" ∈ gwl := gwl_tb 1223 rfl rfl
set_option maxRecDepth 100000 in
theorem mw589 : Cond.methodLink RX11 182 yX11_canRun ∈ gwl := gwl_tb 1380 rfl rfl
set_option maxRecDepth 100000 in
theorem mw590 : Cond.instanceMethod yX11_canRun ∈ gwl := gwl_tb 1382 rfl rfl
set_option maxRecDepth 100000 in
theorem mw591 : Cond.selects RX11 yX11_canRun yX11_canRun ∈ gwl := gwl_sl 31 rfl rfl
set_option maxRecDepth 100000 in
theorem mw592 : Cond.code yX11_canRun cX11_canRun 3 (some .boolean) ∈ gwl := gwl_tb 1383 rfl rfl
set_option maxRecDepth 100000 in
theorem mw593 : Cond.fieldLink RX11 122 "GuestHallModel" "inRow" "[I" ∈ gwl := gwl_tb 1224 rfl rfl
set_option maxRecDepth 100000 in
theorem mw594 : Cond.fieldLink RX11 52 "GuestHallModel" "weights" "[I" ∈ gwl := gwl_tb 1200 rfl rfl
set_option maxRecDepth 100000 in
theorem mw595 : Cond.fieldLink RX11 116 "GuestHallModel" "hasFailed" "[Z" ∈ gwl := gwl_tb 1222 rfl rfl
set_option maxRecDepth 100000 in
theorem mw596 : Cond.methodLink RX11 186 yX11_chosen ∈ gwl := gwl_tb 1376 rfl rfl
set_option maxRecDepth 100000 in
theorem mw597 : Cond.instanceMethod yX11_chosen ∈ gwl := gwl_tb 1378 rfl rfl
set_option maxRecDepth 100000 in
theorem mw598 : Cond.selects RX11 yX11_chosen yX11_chosen ∈ gwl := gwl_sl 30 rfl rfl
set_option maxRecDepth 100000 in
theorem mw599 : Cond.code yX11_chosen cX11_chosen 5 (some .int) ∈ gwl := gwl_tb 1379 rfl rfl
set_option maxRecDepth 100000 in
theorem mw600 : Cond.methodLink RX11 189 yX11_run ∈ gwl := gwl_tb 1384 rfl rfl
set_option maxRecDepth 100000 in
theorem mw601 : Cond.instanceMethod yX11_run ∈ gwl := gwl_tb 1386 rfl rfl
set_option maxRecDepth 100000 in
theorem mw602 : Cond.selects RX11 yX11_run yX11_run ∈ gwl := gwl_sl 32 rfl rfl
set_option maxRecDepth 100000 in
theorem mw603 : Cond.code yX11_run cX11_run 5 none ∈ gwl := gwl_tb 1387 rfl rfl
set_option maxRecDepth 100000 in
theorem mw604 : Cond.fieldLink RX11 74 "GuestHallModel" "stolen" "[I" ∈ gwl := gwl_tb 1207 rfl rfl
theorem pd_X11_fault : (yX11_fault).cls ≠ "java/lang/invoke/MethodHandle" ∧ (yX11_fault).cls ≠ "java/lang/invoke/VarHandle" ∧ (parseMethodDescriptor (yX11_fault).desc).map (fun d => d.parameters.length) = some 1 := ⟨by decide +kernel, by decide +kernel, by decide +kernel⟩
theorem pd_X11_touch : (yX11_touch).cls ≠ "java/lang/invoke/MethodHandle" ∧ (yX11_touch).cls ≠ "java/lang/invoke/VarHandle" ∧ (parseMethodDescriptor (yX11_touch).desc).map (fun d => d.parameters.length) = some 3 := ⟨by decide +kernel, by decide +kernel, by decide +kernel⟩
theorem pd_X11_say : (yX11_say).cls ≠ "java/lang/invoke/MethodHandle" ∧ (yX11_say).cls ≠ "java/lang/invoke/VarHandle" ∧ (parseMethodDescriptor (yX11_say).desc).map (fun d => d.parameters.length) = some 2 := ⟨by decide +kernel, by decide +kernel, by decide +kernel⟩
theorem pd_X11_clock : (yX11_clock).cls ≠ "java/lang/invoke/MethodHandle" ∧ (yX11_clock).cls ≠ "java/lang/invoke/VarHandle" ∧ (parseMethodDescriptor (yX11_clock).desc).map (fun d => d.parameters.length) = some 1 := ⟨by decide +kernel, by decide +kernel, by decide +kernel⟩
theorem pd_X11_takeInput : (yX11_takeInput).cls ≠ "java/lang/invoke/MethodHandle" ∧ (yX11_takeInput).cls ≠ "java/lang/invoke/VarHandle" ∧ (parseMethodDescriptor (yX11_takeInput).desc).map (fun d => d.parameters.length) = some 1 := ⟨by decide +kernel, by decide +kernel, by decide +kernel⟩
theorem pd_X11_doOther : (yX11_doOther).cls ≠ "java/lang/invoke/MethodHandle" ∧ (yX11_doOther).cls ≠ "java/lang/invoke/VarHandle" ∧ (parseMethodDescriptor (yX11_doOther).desc).map (fun d => d.parameters.length) = some 4 := ⟨by decide +kernel, by decide +kernel, by decide +kernel⟩
theorem pd_X11_doOne : (yX11_doOne).cls ≠ "java/lang/invoke/MethodHandle" ∧ (yX11_doOne).cls ≠ "java/lang/invoke/VarHandle" ∧ (parseMethodDescriptor (yX11_doOne).desc).map (fun d => d.parameters.length) = some 4 := ⟨by decide +kernel, by decide +kernel, by decide +kernel⟩
theorem pd_X11_canRun : (yX11_canRun).cls ≠ "java/lang/invoke/MethodHandle" ∧ (yX11_canRun).cls ≠ "java/lang/invoke/VarHandle" ∧ (parseMethodDescriptor (yX11_canRun).desc).map (fun d => d.parameters.length) = some 2 := ⟨by decide +kernel, by decide +kernel, by decide +kernel⟩
theorem pd_X11_chosen : (yX11_chosen).cls ≠ "java/lang/invoke/MethodHandle" ∧ (yX11_chosen).cls ≠ "java/lang/invoke/VarHandle" ∧ (parseMethodDescriptor (yX11_chosen).desc).map (fun d => d.parameters.length) = some 1 := ⟨by decide +kernel, by decide +kernel, by decide +kernel⟩
theorem pd_X11_run : (yX11_run).cls ≠ "java/lang/invoke/MethodHandle" ∧ (yX11_run).cls ≠ "java/lang/invoke/VarHandle" ∧ (parseMethodDescriptor (yX11_run).desc).map (fun d => d.parameters.length) = some 1 := ⟨by decide +kernel, by decide +kernel, by decide +kernel⟩
def f_X11_doOther_b97 (E : EE) (κ : K) (x4 : Int32) (xs0 : Int32) (xs1 : Int32) : Option (K × Int32) := gd (¬ (xs1 < 0 ∨ 275 ≤ xs1.toNatClampNeg)) (nm (setV κ 5 0 1 xs1.toNatClampNeg xs0) fun κ9 => some (κ9, x4))
def f_X11_doOther_b92 (E : EE) (κ : K) (x4 : Int32) (xs0 : Int32) : Option (K × Int32) := f_X11_doOther_b97 E κ x4 0 xs0
def f_X11_doOther_b230 (E : EE) (κ : K) (x4 : Int32) (xs0 : Int32) (xs1 : Int32) (xs2 : Int32) : Option (K × Int32) := gd (¬ (xs2 < 0 ∨ 5 ≤ xs2.toNatClampNeg)) (nm (setV κ 5 0 31 xs2.toNatClampNeg (xs1 ||| xs0)) fun κ32 => some (κ32, x4))
def f_X11_doOther_b183 (E : EE) (κ : K) (x1 : Int32) (x3 : Int32) (x4 : Int32) : Option (K × Int32) := gd (¬ (((8 * x1) + x3) < 0 ∨ 40 ≤ ((8 * x1) + x3).toNatClampNeg)) (nm (setV κ 5 0 27 ((8 * x1) + x3).toNatClampNeg 0) fun κ25 => gd (¬ (((8 * x1) + x3) < 0 ∨ 40 ≤ ((8 * x1) + x3).toNatClampNeg)) (nm (setV κ25 5 0 28 ((8 * x1) + x3).toNatClampNeg ((-1))) fun κ27 => gd (¬ (x1 < 0 ∨ 5 ≤ x1.toNatClampNeg)) (gd (¬ (x1 < 0 ∨ 5 ≤ x1.toNatClampNeg)) (if (kV κ27 5 0 30) x1.toNatClampNeg = 0 then f_X11_doOther_b230 E κ27 x4 0 ((kV κ27 5 0 31) x1.toNatClampNeg) x1 else f_X11_doOther_b230 E κ27 x4 (1 <<< (x3 &&& 31)) ((kV κ27 5 0 31) x1.toNatClampNeg) x1))))
def f_X11_doOther_b153 (E : EE) : Nat → K → Int32 → Int32 → Int32 → Int32 → Int32 → Option (K × Int32)
  | 0, _, _, _, _, _, _ => none
  | n + 1, κ, x1, x3, x4, x5, x6 => if 4 ≤ x6 then f_X11_doOther_b183 E κ x1 x3 x4 else gd (¬ ((((x5 + 17) + (4 * x3)) + x6) < 0 ∨ 275 ≤ (((x5 + 17) + (4 * x3)) + x6).toNatClampNeg)) (nm (setV κ 5 0 1 (((x5 + 17) + (4 * x3)) + x6).toNatClampNeg 0) fun κ34 => nm (x6 + 1) fun y35 => f_X11_doOther_b153 E n κ34 x1 x3 x4 x5 y35)
def f_X11_doOther (E : EE) (κ : K) (a1 : Int32) (a2 : Int32) (a3 : Int32) (a4 : Int32) : Option (K × Int32) := nm (55 * a1) fun y1 => if a2 = 8 then gd (¬ (((6 * a1) + 4) < 0 ∨ 30 ≤ ((6 * a1) + 4).toNatClampNeg)) (gd (¬ (((6 * a1) + 4) < 0 ∨ 30 ≤ ((6 * a1) + 4).toNatClampNeg)) (nm (setV κ 5 0 25 ((6 * a1) + 4).toNatClampNeg (((kV κ 5 0 25) ((6 * a1) + 4).toNatClampNeg) + 1)) fun κ5 => gd (¬ ((y1 + 51) < 0 ∨ 275 ≤ (y1 + 51).toNatClampNeg)) (if (kV κ5 5 0 1) (y1 + 51).toNatClampNeg = 1 then f_X11_doOther_b92 E κ5 a4 (y1 + 49) else gd (¬ ((y1 + 52) < 0 ∨ 275 ≤ (y1 + 52).toNatClampNeg)) (if (kV κ5 5 0 1) (y1 + 52).toNatClampNeg = 1 then f_X11_doOther_b92 E κ5 a4 (y1 + 49) else f_X11_doOther_b97 E κ5 a4 1 (y1 + 49))))) else if a2 = 9 then gd (¬ ((y1 + 5) < 0 ∨ 275 ≤ (y1 + 5).toNatClampNeg)) (nm (setV κ 5 0 1 (y1 + 5).toNatClampNeg a3) fun κ14 => some (κ14, a4)) else if a2 = 10 then gd (¬ ((y1 + 8) < 0 ∨ 275 ≤ (y1 + 8).toNatClampNeg)) (nm (setV κ 5 0 1 (y1 + 8).toNatClampNeg a3) fun κ17 => some (κ17, a4)) else if a2 = 11 then gd (¬ ((y1 + 8) < 0 ∨ 275 ≤ (y1 + 8).toNatClampNeg)) (nm (setV κ 5 0 1 (y1 + 8).toNatClampNeg 0) fun κ20 => gd (¬ ((y1 + 6) < 0 ∨ 275 ≤ (y1 + 6).toNatClampNeg)) (some (κ20, (kV κ20 5 0 1) (y1 + 6).toNatClampNeg))) else if a2 = 12 then f_X11_doOther_b153 E FU κ a1 a3 a4 y1 0 else gd (¬ (((6 * a1) + 4) < 0 ∨ 30 ≤ ((6 * a1) + 4).toNatClampNeg)) (gd (¬ (((6 * a1) + 4) < 0 ∨ 30 ≤ ((6 * a1) + 4).toNatClampNeg)) (nm (setV κ 5 0 25 ((6 * a1) + 4).toNatClampNeg (((kV κ 5 0 25) ((6 * a1) + 4).toNatClampNeg) + 1)) fun κ38 => gd (¬ ((y1 + 49) < 0 ∨ 275 ≤ (y1 + 49).toNatClampNeg)) (nm (setV κ38 5 0 1 (y1 + 49).toNatClampNeg 2) fun κ40 => some (κ40, a4))))
set_option maxHeartbeats 4000000 in
set_option maxRecDepth 100000 in
theorem w_X11_doOther_b97 {l0 : Launch} (hfl : l0.stackTraces = false) {X : MX} {B : BX (EE × K)} {g : GP} {E : EE} {κ' : K} {rr : Int32} (O : CK l0 X B g cX11_doOther RX11 1 0) (hKP : KPok B E) (hmL : B.2.2.2.1 = 7) (hE : ∀ (pc : Nat) (lv : List (Nat × AV)), decode cX11_doOther pc = .ok (.ireturn, 1) → J X B (E, κ') pc lv [.inl (.int rr)]) (h0 : PC 11 E 5 0 0) : ∀ (κ : K) (x4 : Int32) (xs0 : Int32) (xs1 : Int32), f_X11_doOther_b97 E κ x4 xs0 xs1 = some (κ', rr) → J X B (E, κ) 97 [(4, .inl (.int x4))] [.inl (.int xs0), .inl (.int xs1), .inr (some (5, 0, 1))] := by
  intro κ x4 xs0 xs1 h
  unfold f_X11_doOther_b97 at h
  obtain ⟨hg8, h⟩ := gd_some h
  refine row_20 O (l11_1 h0) (k11_1 h0) (n11_1 h0) hg8 (x := xs0) dX11_doOther_97 ?_
  refine nm_some (P := fun z => J X B (E, z) 98 [(4, .inl (.int x4))] []) h (fun κ9 h => ?_)
  refine J_iload O.mo dX11_doOther_98 0 rfl ?_
  cases h
  exact hE _ _ dX11_doOther_100
set_option maxHeartbeats 4000000 in
set_option maxRecDepth 100000 in
theorem w_X11_doOther_b92 {l0 : Launch} (hfl : l0.stackTraces = false) {X : MX} {B : BX (EE × K)} {g : GP} {E : EE} {κ' : K} {rr : Int32} (O : CK l0 X B g cX11_doOther RX11 1 0) (hKP : KPok B E) (hmL : B.2.2.2.1 = 7) (hE : ∀ (pc : Nat) (lv : List (Nat × AV)), decode cX11_doOther pc = .ok (.ireturn, 1) → J X B (E, κ') pc lv [.inl (.int rr)]) (h0 : PC 11 E 5 0 0) : ∀ (κ : K) (x4 : Int32) (xs0 : Int32), f_X11_doOther_b92 E κ x4 xs0 = some (κ', rr) → J X B (E, κ) 92 [(4, .inl (.int x4))] [.inl (.int xs0), .inr (some (5, 0, 1))] := by
  intro κ x4 xs0 h
  unfold f_X11_doOther_b92 at h
  refine J_iconst O.mo (v := 0) dX11_doOther_92 (by decide) ?_
  refine J_goto O.mo (tgt := 97) dX11_doOther_93 (by decide) ?_
  exact w_X11_doOther_b97 hfl O hKP hmL hE h0 _ _ _ _ h
set_option maxHeartbeats 4000000 in
set_option maxRecDepth 100000 in
theorem w_X11_doOther_b230 {l0 : Launch} (hfl : l0.stackTraces = false) {X : MX} {B : BX (EE × K)} {g : GP} {E : EE} {κ' : K} {rr : Int32} (O : CK l0 X B g cX11_doOther RX11 1 0) (hKP : KPok B E) (hmL : B.2.2.2.1 = 7) (hE : ∀ (pc : Nat) (lv : List (Nat × AV)), decode cX11_doOther pc = .ok (.ireturn, 1) → J X B (E, κ') pc lv [.inl (.int rr)]) (h0 : PC 11 E 5 0 0) : ∀ (κ : K) (x4 : Int32) (xs0 : Int32) (xs1 : Int32) (xs2 : Int32), f_X11_doOther_b230 E κ x4 xs0 xs1 xs2 = some (κ', rr) → J X B (E, κ) 230 [(4, .inl (.int x4))] [.inl (.int xs0), .inl (.int xs1), .inl (.int xs2), .inr (some (5, 0, 31))] := by
  intro κ x4 xs0 xs1 xs2 h
  unfold f_X11_doOther_b230 at h
  refine J_ior O.mo dX11_doOther_230 ?_
  obtain ⟨hg31, h⟩ := gd_some h
  refine row_20 O (l11_31 h0) (k11_31 h0) (n11_31 h0) hg31 (x := (xs1 ||| xs0)) dX11_doOther_231 ?_
  refine nm_some (P := fun z => J X B (E, z) 232 [(4, .inl (.int x4))] []) h (fun κ32 h => ?_)
  refine J_iload O.mo dX11_doOther_232 0 rfl ?_
  cases h
  exact hE _ _ dX11_doOther_234
set_option maxHeartbeats 4000000 in
set_option maxRecDepth 100000 in
theorem w_X11_doOther_b183 {l0 : Launch} (hfl : l0.stackTraces = false) {X : MX} {B : BX (EE × K)} {g : GP} {E : EE} {κ' : K} {rr : Int32} (O : CK l0 X B g cX11_doOther RX11 1 0) (hKP : KPok B E) (hmL : B.2.2.2.1 = 7) (hE : ∀ (pc : Nat) (lv : List (Nat × AV)), decode cX11_doOther pc = .ok (.ireturn, 1) → J X B (E, κ') pc lv [.inl (.int rr)]) (h0 : PC 11 E 5 0 0) : ∀ (κ : K) (x1 : Int32) (x3 : Int32) (x4 : Int32), f_X11_doOther_b183 E κ x1 x3 x4 = some (κ', rr) → J X B (E, κ) 183 [(0, .inr (some (5, 0, 0))), (1, .inl (.int x1)), (3, .inl (.int x3)), (4, .inl (.int x4))] [] := by
  intro κ x1 x3 x4 h
  unfold f_X11_doOther_b183 at h
  refine J_aload_n O.mo dX11_doOther_183 0 rfl ?_
  refine J_getF O.co (kd0 := 11) (k11_0 h0) (l11_0 h0) (C := RX11) (T := TX11) (N := 42) rfl (by decide) rfl in_X11 27 (by decide) (v := .inr (some (5, 0, 27))) rfl mw528 rfl dX11_doOther_184 ?_
  refine J_bipush O.mo (v := 8) dX11_doOther_187 (by decide) ?_
  refine J_iload_n O.mo dX11_doOther_189 1 rfl ?_
  refine J_imul O.mo dX11_doOther_190 ?_
  refine J_iload_n O.mo dX11_doOther_191 2 rfl ?_
  refine J_iadd O.mo dX11_doOther_192 ?_
  refine J_iconst O.mo (v := 0) dX11_doOther_193 (by decide) ?_
  obtain ⟨hg24, h⟩ := gd_some h
  refine row_20 O (l11_27 h0) (k11_27 h0) (n11_27 h0) hg24 (x := 0) dX11_doOther_194 ?_
  refine nm_some (P := fun z => J X B (E, z) 195 [(0, .inr (some (5, 0, 0))), (1, .inl (.int x1)), (3, .inl (.int x3)), (4, .inl (.int x4))] []) h (fun κ25 h => ?_)
  refine J_aload_n O.mo dX11_doOther_195 0 rfl ?_
  refine J_getF O.co (kd0 := 11) (k11_0 h0) (l11_0 h0) (C := RX11) (T := TX11) (N := 42) rfl (by decide) rfl in_X11 28 (by decide) (v := .inr (some (5, 0, 28))) rfl mw527 rfl dX11_doOther_196 ?_
  refine J_bipush O.mo (v := 8) dX11_doOther_199 (by decide) ?_
  refine J_iload_n O.mo dX11_doOther_201 1 rfl ?_
  refine J_imul O.mo dX11_doOther_202 ?_
  refine J_iload_n O.mo dX11_doOther_203 2 rfl ?_
  refine J_iadd O.mo dX11_doOther_204 ?_
  refine J_iconst O.mo (v := (-1)) dX11_doOther_205 (by decide) ?_
  obtain ⟨hg26, h⟩ := gd_some h
  refine row_20 O (l11_28 h0) (k11_28 h0) (n11_28 h0) hg26 (x := ((-1))) dX11_doOther_206 ?_
  refine nm_some (P := fun z => J X B (E, z) 207 [(0, .inr (some (5, 0, 0))), (1, .inl (.int x1)), (3, .inl (.int x3)), (4, .inl (.int x4))] []) h (fun κ27 h => ?_)
  refine J_aload_n O.mo dX11_doOther_207 0 rfl ?_
  refine J_getF O.co (kd0 := 11) (k11_0 h0) (l11_0 h0) (C := RX11) (T := TX11) (N := 42) rfl (by decide) rfl in_X11 31 (by decide) (v := .inr (some (5, 0, 31))) rfl mw534 rfl dX11_doOther_208 ?_
  refine J_iload_n O.mo dX11_doOther_211 1 rfl ?_
  refine J_dup2 O.mo dX11_doOther_212 rfl rfl ?_
  obtain ⟨hg28, h⟩ := gd_some h
  refine J_iald O.co (g := (kV κ27 5 0 31)) (ct_20n (l11_31 h0) (k11_31 h0) (n11_31 h0)) hg28 dX11_doOther_213 ?_
  refine J_aload_n O.mo dX11_doOther_214 0 rfl ?_
  refine J_getF O.co (kd0 := 11) (k11_0 h0) (l11_0 h0) (C := RX11) (T := TX11) (N := 42) rfl (by decide) rfl in_X11 30 (by decide) (v := .inr (some (5, 0, 30))) rfl mw535 rfl dX11_doOther_215 ?_
  refine J_iload_n O.mo dX11_doOther_218 1 rfl ?_
  obtain ⟨hg29, h⟩ := gd_some h
  refine J_bald O.co (g := (kV κ27 5 0 30)) (ct_22n (l11_30 h0) (k11_30 h0) (n11_30 h0)) hg29 dX11_doOther_219 ?_
  refine J_if_eq O.mo (tgt := 229) dX11_doOther_220 (by decide) (fun hc30 => ?_) (fun hc30 => ?_)
  · replace h := (if_pos hc30).symm.trans h
    refine J_iconst O.mo (v := 0) dX11_doOther_229 (by decide) ?_
    refine J_sub [3] rfl ?_
    exact w_X11_doOther_b230 hfl O hKP hmL hE h0 _ _ _ _ _ h
  · replace h := (if_neg hc30).symm.trans h
    refine J_iconst O.mo (v := 1) dX11_doOther_223 (by decide) ?_
    refine J_iload_n O.mo dX11_doOther_224 2 rfl ?_
    refine J_ishl O.mo dX11_doOther_225 ?_
    refine J_goto O.mo (tgt := 230) dX11_doOther_226 (by decide) ?_
    refine J_sub [3] rfl ?_
    exact w_X11_doOther_b230 hfl O hKP hmL hE h0 _ _ _ _ _ h
set_option maxHeartbeats 4000000 in
set_option maxRecDepth 100000 in
theorem w_X11_doOther_b153 {l0 : Launch} (hfl : l0.stackTraces = false) {X : MX} {B : BX (EE × K)} {g : GP} {E : EE} {κ' : K} {rr : Int32} (O : CK l0 X B g cX11_doOther RX11 1 0) (hKP : KPok B E) (hmL : B.2.2.2.1 = 7) (hE : ∀ (pc : Nat) (lv : List (Nat × AV)), decode cX11_doOther pc = .ok (.ireturn, 1) → J X B (E, κ') pc lv [.inl (.int rr)]) (h0 : PC 11 E 5 0 0) : ∀ (n : Nat) (κ : K) (x1 : Int32) (x3 : Int32) (x4 : Int32) (x5 : Int32) (x6 : Int32), f_X11_doOther_b153 E n κ x1 x3 x4 x5 x6 = some (κ', rr) → J X B (E, κ) 153 [(0, .inr (some (5, 0, 0))), (1, .inl (.int x1)), (3, .inl (.int x3)), (4, .inl (.int x4)), (5, .inl (.int x5)), (6, .inl (.int x6))] [] := by
  intro n
  induction n with
  | zero => intro κ x1 x3 x4 x5 x6 h; cases h
  | succ n ih =>
    intro κ x1 x3 x4 x5 x6 h
    rw [f_X11_doOther_b153] at h
    refine J_iload O.mo dX11_doOther_153 5 rfl ?_
    refine J_iconst O.mo (v := 4) dX11_doOther_155 (by decide) ?_
    refine J_icmp_ge O.mo (tgt := 183) dX11_doOther_156 (by decide) (fun hc23 => ?_) (fun hc23 => ?_)
    · replace h := (if_pos hc23).symm.trans h
      refine J_sub [0, 1, 2, 3] rfl ?_
      exact w_X11_doOther_b183 hfl O hKP hmL hE h0 _ _ _ _ h
    · replace h := (if_neg hc23).symm.trans h
      refine J_aload_n O.mo dX11_doOther_159 0 rfl ?_
      refine J_getF O.co (kd0 := 11) (k11_0 h0) (l11_0 h0) (C := RX11) (T := TX11) (N := 42) rfl (by decide) rfl in_X11 1 (by decide) (v := .inr (some (5, 0, 1))) rfl mw545 rfl dX11_doOther_160 ?_
      refine J_iload O.mo dX11_doOther_163 4 rfl ?_
      refine J_bipush O.mo (v := 17) dX11_doOther_165 (by decide) ?_
      refine J_iadd O.mo dX11_doOther_167 ?_
      refine J_iconst O.mo (v := 4) dX11_doOther_168 (by decide) ?_
      refine J_iload_n O.mo dX11_doOther_169 2 rfl ?_
      refine J_imul O.mo dX11_doOther_170 ?_
      refine J_iadd O.mo dX11_doOther_171 ?_
      refine J_iload O.mo dX11_doOther_172 5 rfl ?_
      refine J_iadd O.mo dX11_doOther_174 ?_
      refine J_iconst O.mo (v := 0) dX11_doOther_175 (by decide) ?_
      obtain ⟨hg33, h⟩ := gd_some h
      refine row_20 O (l11_1 h0) (k11_1 h0) (n11_1 h0) hg33 (x := 0) dX11_doOther_176 ?_
      refine nm_some (P := fun z => J X B (E, z) 177 [(0, .inr (some (5, 0, 0))), (1, .inl (.int x1)), (3, .inl (.int x3)), (4, .inl (.int x4)), (5, .inl (.int x5)), (6, .inl (.int x6))] []) h (fun κ34 h => ?_)
      refine J_iinc O.mo (v := x6 + 1) (lv' := [(0, .inr (some (5, 0, 0))), (1, .inl (.int x1)), (3, .inl (.int x3)), (4, .inl (.int x4)), (5, .inl (.int x5))]) dX11_doOther_177 (by rw [hmL]; decide) 5 rfl (by rw [show Int32.ofInt (1) = (1 : Int32) from by decide]) rfl rfl ?_
      refine nm_some (P := fun z => J X B (E, κ34) 180 [(6, .inl (.int z)), (0, .inr (some (5, 0, 0))), (1, .inl (.int x1)), (3, .inl (.int x3)), (4, .inl (.int x4)), (5, .inl (.int x5))] []) h (fun y35 h => ?_)
      refine J_goto O.mo (tgt := 153) dX11_doOther_180 (by decide) ?_
      refine J_sub [1, 2, 3, 4, 5, 0] rfl ?_
      exact ih _ _ _ _ _ _ h
set_option maxHeartbeats 4000000 in
set_option maxRecDepth 100000 in
theorem w_X11_doOther {l0 : Launch} (hfl : l0.stackTraces = false) {X : MX} {B : BX (EE × K)} {g : GP} {E : EE} {κ' : K} {rr : Int32} (O : CK l0 X B g cX11_doOther RX11 1 0) (hKP : KPok B E) (hmL : B.2.2.2.1 = 7) (hE : ∀ (pc : Nat) (lv : List (Nat × AV)), decode cX11_doOther pc = .ok (.ireturn, 1) → J X B (E, κ') pc lv [.inl (.int rr)]) (h0 : PC 11 E 5 0 0) : ∀ (κ : K) (a1 : Int32) (a2 : Int32) (a3 : Int32) (a4 : Int32), f_X11_doOther E κ a1 a2 a3 a4 = some (κ', rr) → J X B (E, κ) 0 [(0, .inr (some (5, 0, 0))), (1, .inl (.int a1)), (2, .inl (.int a2)), (3, .inl (.int a3)), (4, .inl (.int a4))] [] := by
  intro κ a1 a2 a3 a4 h
  unfold f_X11_doOther at h
  refine J_bipush O.mo (v := 55) dX11_doOther_0 (by decide) ?_
  refine J_iload_n O.mo dX11_doOther_2 1 rfl ?_
  refine J_imul O.mo dX11_doOther_3 ?_
  refine J_istore O.mo (lv' := [(0, .inr (some (5, 0, 0))), (1, .inl (.int a1)), (2, .inl (.int a2)), (3, .inl (.int a3)), (4, .inl (.int a4))]) dX11_doOther_4 (by rw [hmL]; decide) rfl rfl ?_
  refine nm_some (P := fun z => J X B (E, κ) 6 [(5, .inl (.int z)), (0, .inr (some (5, 0, 0))), (1, .inl (.int a1)), (2, .inl (.int a2)), (3, .inl (.int a3)), (4, .inl (.int a4))] []) h (fun y1 h => ?_)
  refine J_iload_n O.mo dX11_doOther_6 3 rfl ?_
  by_cases hc2 : a2 = 8
  · replace h := (if_pos hc2).symm.trans h
    refine J_tabIn O.mo (tgt := 40) 8 hc2 dX11_doOther_7 (by decide) (by decide) rfl (by decide) ?_
    refine J_aload_n O.mo dX11_doOther_40 1 rfl ?_
    refine J_getF O.co (kd0 := 11) (k11_0 h0) (l11_0 h0) (C := RX11) (T := TX11) (N := 42) rfl (by decide) rfl in_X11 25 (by decide) (v := .inr (some (5, 0, 25))) rfl mw544 rfl dX11_doOther_41 ?_
    refine J_bipush O.mo (v := 6) dX11_doOther_44 (by decide) ?_
    refine J_iload_n O.mo dX11_doOther_46 2 rfl ?_
    refine J_imul O.mo dX11_doOther_47 ?_
    refine J_iconst O.mo (v := 4) dX11_doOther_48 (by decide) ?_
    refine J_iadd O.mo dX11_doOther_49 ?_
    refine J_dup2 O.mo dX11_doOther_50 rfl rfl ?_
    obtain ⟨hg3, h⟩ := gd_some h
    refine J_iald O.co (g := (kV κ 5 0 25)) (ct_20n (l11_25 h0) (k11_25 h0) (n11_25 h0)) hg3 dX11_doOther_51 ?_
    refine J_iconst O.mo (v := 1) dX11_doOther_52 (by decide) ?_
    refine J_iadd O.mo dX11_doOther_53 ?_
    obtain ⟨hg4, h⟩ := gd_some h
    refine row_20 O (l11_25 h0) (k11_25 h0) (n11_25 h0) hg4 (x := (((kV κ 5 0 25) ((6 * a1) + 4).toNatClampNeg) + 1)) dX11_doOther_54 ?_
    refine nm_some (P := fun z => J X B (E, z) 55 [(5, .inl (.int y1)), (0, .inr (some (5, 0, 0))), (1, .inl (.int a1)), (2, .inl (.int a2)), (3, .inl (.int a3)), (4, .inl (.int a4))] []) h (fun κ5 h => ?_)
    refine J_aload_n O.mo dX11_doOther_55 1 rfl ?_
    refine J_getF O.co (kd0 := 11) (k11_0 h0) (l11_0 h0) (C := RX11) (T := TX11) (N := 42) rfl (by decide) rfl in_X11 1 (by decide) (v := .inr (some (5, 0, 1))) rfl mw545 rfl dX11_doOther_56 ?_
    refine J_iload O.mo dX11_doOther_59 0 rfl ?_
    refine J_bipush O.mo (v := 49) dX11_doOther_61 (by decide) ?_
    refine J_iadd O.mo dX11_doOther_63 ?_
    refine J_aload_n O.mo dX11_doOther_64 1 rfl ?_
    refine J_getF O.co (kd0 := 11) (k11_0 h0) (l11_0 h0) (C := RX11) (T := TX11) (N := 42) rfl (by decide) rfl in_X11 1 (by decide) (v := .inr (some (5, 0, 1))) rfl mw545 rfl dX11_doOther_65 ?_
    refine J_iload O.mo dX11_doOther_68 0 rfl ?_
    refine J_bipush O.mo (v := 51) dX11_doOther_70 (by decide) ?_
    refine J_iadd O.mo dX11_doOther_72 ?_
    obtain ⟨hg6, h⟩ := gd_some h
    refine J_iald O.co (g := (kV κ5 5 0 1)) (ct_20n (l11_1 h0) (k11_1 h0) (n11_1 h0)) hg6 dX11_doOther_73 ?_
    refine J_iconst O.mo (v := 1) dX11_doOther_74 (by decide) ?_
    refine J_icmp_eq O.mo (tgt := 92) dX11_doOther_75 (by decide) (fun hc7 => ?_) (fun hc7 => ?_)
    · replace h := (if_pos hc7).symm.trans h
      refine J_sub [5] rfl ?_
      exact w_X11_doOther_b92 hfl O hKP hmL hE h0 _ _ _ h
    · replace h := (if_neg hc7).symm.trans h
      refine J_aload_n O.mo dX11_doOther_78 1 rfl ?_
      refine J_getF O.co (kd0 := 11) (k11_0 h0) (l11_0 h0) (C := RX11) (T := TX11) (N := 42) rfl (by decide) rfl in_X11 1 (by decide) (v := .inr (some (5, 0, 1))) rfl mw545 rfl dX11_doOther_79 ?_
      refine J_iload O.mo dX11_doOther_82 0 rfl ?_
      refine J_bipush O.mo (v := 52) dX11_doOther_84 (by decide) ?_
      refine J_iadd O.mo dX11_doOther_86 ?_
      obtain ⟨hg10, h⟩ := gd_some h
      refine J_iald O.co (g := (kV κ5 5 0 1)) (ct_20n (l11_1 h0) (k11_1 h0) (n11_1 h0)) hg10 dX11_doOther_87 ?_
      refine J_iconst O.mo (v := 1) dX11_doOther_88 (by decide) ?_
      refine J_icmp_ne O.mo (tgt := 96) dX11_doOther_89 (by decide) (fun hc11 => ?_) (fun hc11 => ?_)
      · replace h := (if_neg hc11).symm.trans h
        refine J_iconst O.mo (v := 1) dX11_doOther_96 (by decide) ?_
        refine J_sub [5] rfl ?_
        exact w_X11_doOther_b97 hfl O hKP hmL hE h0 _ _ _ _ h
      · replace h := (if_pos hc11).symm.trans h
        refine J_sub [5] rfl ?_
        exact w_X11_doOther_b92 hfl O hKP hmL hE h0 _ _ _ h
  · replace h := (if_neg hc2).symm.trans h
    by_cases hc12 : a2 = 9
    · replace h := (if_pos hc12).symm.trans h
      refine J_tabIn O.mo (tgt := 101) 9 hc12 dX11_doOther_7 (by decide) (by decide) rfl (by decide) ?_
      refine J_aload_n O.mo dX11_doOther_101 1 rfl ?_
      refine J_getF O.co (kd0 := 11) (k11_0 h0) (l11_0 h0) (C := RX11) (T := TX11) (N := 42) rfl (by decide) rfl in_X11 1 (by decide) (v := .inr (some (5, 0, 1))) rfl mw545 rfl dX11_doOther_102 ?_
      refine J_iload O.mo dX11_doOther_105 0 rfl ?_
      refine J_iconst O.mo (v := 5) dX11_doOther_107 (by decide) ?_
      refine J_iadd O.mo dX11_doOther_108 ?_
      refine J_iload_n O.mo dX11_doOther_109 4 rfl ?_
      obtain ⟨hg13, h⟩ := gd_some h
      refine row_20 O (l11_1 h0) (k11_1 h0) (n11_1 h0) hg13 (x := a3) dX11_doOther_110 ?_
      refine nm_some (P := fun z => J X B (E, z) 111 [(5, .inl (.int y1)), (0, .inr (some (5, 0, 0))), (1, .inl (.int a1)), (2, .inl (.int a2)), (3, .inl (.int a3)), (4, .inl (.int a4))] []) h (fun κ14 h => ?_)
      refine J_iload O.mo dX11_doOther_111 5 rfl ?_
      cases h
      exact hE _ _ dX11_doOther_113
    · replace h := (if_neg hc12).symm.trans h
      by_cases hc15 : a2 = 10
      · replace h := (if_pos hc15).symm.trans h
        refine J_tabIn O.mo (tgt := 114) 10 hc15 dX11_doOther_7 (by decide) (by decide) rfl (by decide) ?_
        refine J_aload_n O.mo dX11_doOther_114 1 rfl ?_
        refine J_getF O.co (kd0 := 11) (k11_0 h0) (l11_0 h0) (C := RX11) (T := TX11) (N := 42) rfl (by decide) rfl in_X11 1 (by decide) (v := .inr (some (5, 0, 1))) rfl mw545 rfl dX11_doOther_115 ?_
        refine J_iload O.mo dX11_doOther_118 0 rfl ?_
        refine J_bipush O.mo (v := 8) dX11_doOther_120 (by decide) ?_
        refine J_iadd O.mo dX11_doOther_122 ?_
        refine J_iload_n O.mo dX11_doOther_123 4 rfl ?_
        obtain ⟨hg16, h⟩ := gd_some h
        refine row_20 O (l11_1 h0) (k11_1 h0) (n11_1 h0) hg16 (x := a3) dX11_doOther_124 ?_
        refine nm_some (P := fun z => J X B (E, z) 125 [(5, .inl (.int y1)), (0, .inr (some (5, 0, 0))), (1, .inl (.int a1)), (2, .inl (.int a2)), (3, .inl (.int a3)), (4, .inl (.int a4))] []) h (fun κ17 h => ?_)
        refine J_iload O.mo dX11_doOther_125 5 rfl ?_
        cases h
        exact hE _ _ dX11_doOther_127
      · replace h := (if_neg hc15).symm.trans h
        by_cases hc18 : a2 = 11
        · replace h := (if_pos hc18).symm.trans h
          refine J_tabIn O.mo (tgt := 128) 11 hc18 dX11_doOther_7 (by decide) (by decide) rfl (by decide) ?_
          refine J_aload_n O.mo dX11_doOther_128 1 rfl ?_
          refine J_getF O.co (kd0 := 11) (k11_0 h0) (l11_0 h0) (C := RX11) (T := TX11) (N := 42) rfl (by decide) rfl in_X11 1 (by decide) (v := .inr (some (5, 0, 1))) rfl mw545 rfl dX11_doOther_129 ?_
          refine J_iload O.mo dX11_doOther_132 0 rfl ?_
          refine J_bipush O.mo (v := 8) dX11_doOther_134 (by decide) ?_
          refine J_iadd O.mo dX11_doOther_136 ?_
          refine J_iconst O.mo (v := 0) dX11_doOther_137 (by decide) ?_
          obtain ⟨hg19, h⟩ := gd_some h
          refine row_20 O (l11_1 h0) (k11_1 h0) (n11_1 h0) hg19 (x := 0) dX11_doOther_138 ?_
          refine nm_some (P := fun z => J X B (E, z) 139 [(5, .inl (.int y1)), (0, .inr (some (5, 0, 0))), (1, .inl (.int a1)), (2, .inl (.int a2)), (3, .inl (.int a3)), (4, .inl (.int a4))] []) h (fun κ20 h => ?_)
          refine J_aload_n O.mo dX11_doOther_139 1 rfl ?_
          refine J_getF O.co (kd0 := 11) (k11_0 h0) (l11_0 h0) (C := RX11) (T := TX11) (N := 42) rfl (by decide) rfl in_X11 1 (by decide) (v := .inr (some (5, 0, 1))) rfl mw545 rfl dX11_doOther_140 ?_
          refine J_iload O.mo dX11_doOther_143 0 rfl ?_
          refine J_bipush O.mo (v := 6) dX11_doOther_145 (by decide) ?_
          refine J_iadd O.mo dX11_doOther_147 ?_
          obtain ⟨hg21, h⟩ := gd_some h
          refine J_iald O.co (g := (kV κ20 5 0 1)) (ct_20n (l11_1 h0) (k11_1 h0) (n11_1 h0)) hg21 dX11_doOther_148 ?_
          cases h
          exact hE _ _ dX11_doOther_149
        · replace h := (if_neg hc18).symm.trans h
          by_cases hc22 : a2 = 12
          · replace h := (if_pos hc22).symm.trans h
            refine J_tabIn O.mo (tgt := 150) 12 hc22 dX11_doOther_7 (by decide) (by decide) rfl (by decide) ?_
            refine J_iconst O.mo (v := 0) dX11_doOther_150 (by decide) ?_
            refine J_istore O.mo (lv' := [(5, .inl (.int y1)), (0, .inr (some (5, 0, 0))), (1, .inl (.int a1)), (2, .inl (.int a2)), (3, .inl (.int a3)), (4, .inl (.int a4))]) dX11_doOther_151 (by rw [hmL]; decide) rfl rfl ?_
            refine J_sub [2, 3, 5, 6, 1, 0] rfl ?_
            exact w_X11_doOther_b153 hfl O hKP hmL hE h0 FU _ _ _ _ _ _ h
          · replace h := (if_neg hc22).symm.trans h
            refine J_tabOut O.mo (tgt := 235) 5 (by decide) (by decide) (tb_s (tb_s (tb_s (tb_s (tb_s tb_0 (fun z => hc2 (z.trans (by decide)))) (fun z => hc12 (z.trans (by decide)))) (fun z => hc15 (z.trans (by decide)))) (fun z => hc18 (z.trans (by decide)))) (fun z => hc22 (z.trans (by decide)))) dX11_doOther_7 (by decide) ?_
            refine J_aload_n O.mo dX11_doOther_235 1 rfl ?_
            refine J_getF O.co (kd0 := 11) (k11_0 h0) (l11_0 h0) (C := RX11) (T := TX11) (N := 42) rfl (by decide) rfl in_X11 25 (by decide) (v := .inr (some (5, 0, 25))) rfl mw544 rfl dX11_doOther_236 ?_
            refine J_bipush O.mo (v := 6) dX11_doOther_239 (by decide) ?_
            refine J_iload_n O.mo dX11_doOther_241 2 rfl ?_
            refine J_imul O.mo dX11_doOther_242 ?_
            refine J_iconst O.mo (v := 4) dX11_doOther_243 (by decide) ?_
            refine J_iadd O.mo dX11_doOther_244 ?_
            refine J_dup2 O.mo dX11_doOther_245 rfl rfl ?_
            obtain ⟨hg36, h⟩ := gd_some h
            refine J_iald O.co (g := (kV κ 5 0 25)) (ct_20n (l11_25 h0) (k11_25 h0) (n11_25 h0)) hg36 dX11_doOther_246 ?_
            refine J_iconst O.mo (v := 1) dX11_doOther_247 (by decide) ?_
            refine J_iadd O.mo dX11_doOther_248 ?_
            obtain ⟨hg37, h⟩ := gd_some h
            refine row_20 O (l11_25 h0) (k11_25 h0) (n11_25 h0) hg37 (x := (((kV κ 5 0 25) ((6 * a1) + 4).toNatClampNeg) + 1)) dX11_doOther_249 ?_
            refine nm_some (P := fun z => J X B (E, z) 250 [(5, .inl (.int y1)), (0, .inr (some (5, 0, 0))), (1, .inl (.int a1)), (2, .inl (.int a2)), (3, .inl (.int a3)), (4, .inl (.int a4))] []) h (fun κ38 h => ?_)
            refine J_aload_n O.mo dX11_doOther_250 1 rfl ?_
            refine J_getF O.co (kd0 := 11) (k11_0 h0) (l11_0 h0) (C := RX11) (T := TX11) (N := 42) rfl (by decide) rfl in_X11 1 (by decide) (v := .inr (some (5, 0, 1))) rfl mw545 rfl dX11_doOther_251 ?_
            refine J_iload O.mo dX11_doOther_254 0 rfl ?_
            refine J_bipush O.mo (v := 49) dX11_doOther_256 (by decide) ?_
            refine J_iadd O.mo dX11_doOther_258 ?_
            refine J_iconst O.mo (v := 2) dX11_doOther_259 (by decide) ?_
            obtain ⟨hg39, h⟩ := gd_some h
            refine row_20 O (l11_1 h0) (k11_1 h0) (n11_1 h0) hg39 (x := 2) dX11_doOther_260 ?_
            refine nm_some (P := fun z => J X B (E, z) 261 [(5, .inl (.int y1)), (0, .inr (some (5, 0, 0))), (1, .inl (.int a1)), (2, .inl (.int a2)), (3, .inl (.int a3)), (4, .inl (.int a4))] []) h (fun κ40 h => ?_)
            refine J_iload O.mo dX11_doOther_261 5 rfl ?_
            cases h
            exact hE _ _ dX11_doOther_263
theorem c_X11_doOther {l : Launch} (hfl : l.stackTraces = false) {E : EE} {κ κ' : K} {a1 : Int32} {a2 : Int32} {a3 : Int32} {a4 : Int32} (h0 : PC 11 E 5 0 0) {rr : Int32} (h : f_X11_doOther E κ a1 a2 a3 a4 = some (κ', rr)) : Con l yX11_doOther cX11_doOther 7 (some .int) 1 0 [.inr (some (5, 0, 0)), .inl (.int a1), .inl (.int a2), .inl (.int a3), .inl (.int a4)] (E, κ) (E, κ') (some (.inl (.int rr))) := by
  exact Con_of hfl (by decide +kernel) (Nat.le_of_ble_eq_true rfl) rfl ⟨_, rfl, rfl⟩ (fun X B g O hKP hmL hE => w_X11_doOther hfl O hKP hmL hE h0 _ _ _ _ _ h)
def f_X11_doOne_b466 (E : EE) (κ : K) (x5 : Int32) (x6 : Int32) : Option (K × Unit) := gd (¬ ((x5 + 4) < 0 ∨ 275 ≤ (x5 + 4).toNatClampNeg)) (nm (setV κ 5 0 1 (x5 + 4).toNatClampNeg x6) fun κ8 => some (κ8, ()))
def f_X11_doOne_b156 (E : EE) (κ : K) (x1 : Int32) : Option (K × Unit) := bd (f_X11_fault E κ x1) fun κ18 _ => some (κ18, ())
def f_X11_doOne_b193 (E : EE) (κ : K) (x2 : Int32) (x3 : Int32) (x5 : Int32) (x6 : Int32) (x7 : Int32) (x8 : Int32) (xs0 : Int32) (xs1 : Int32) (xs2 : Int32) : Option (K × Unit) := bd (f_X11_touch E κ xs2 xs1 xs0) fun κ26 _ => nm (((x5 + 17) + (4 * x8)) + (x7 - x7 / 4 * 4)) fun y29 => if x2 = 2 then gd (¬ (y29 < 0 ∨ 275 ≤ y29.toNatClampNeg)) (gd (¬ ((x5 + x3) < 0 ∨ 275 ≤ (x5 + x3).toNatClampNeg)) (nm (setV κ26 5 0 1 (x5 + x3).toNatClampNeg ((kV κ26 5 0 1) y29.toNatClampNeg)) fun κ36 => f_X11_doOne_b466 E κ36 x5 x6)) else gd (¬ ((x5 + x3) < 0 ∨ 275 ≤ (x5 + x3).toNatClampNeg)) (gd (¬ (y29 < 0 ∨ 275 ≤ y29.toNatClampNeg)) (nm (setV κ26 5 0 1 y29.toNatClampNeg ((kV κ26 5 0 1) (x5 + x3).toNatClampNeg)) fun κ33 => f_X11_doOne_b466 E κ33 x5 x6))
def f_X11_doOne_b275 (E : EE) (κ : K) (x5 : Int32) (xs0 : Int32) : Option (K × Unit) := f_X11_doOne_b466 E κ x5 xs0
def f_X11_doOne_b304 (E : EE) (κ : K) (x5 : Int32) (x6 : Int32) (xs0 : Int32) (xs1 : Int32) : Option (K × Unit) := gd (¬ (xs1 < 0 ∨ 275 ≤ xs1.toNatClampNeg)) (nm (setV κ 5 0 1 xs1.toNatClampNeg xs0) fun κ52 => f_X11_doOne_b466 E κ52 x5 x6)
def f_X11_doOne_b386 (E : EE) (κ : K) (x5 : Int32) (x6 : Int32) (xs0 : Int32) (xs1 : Int32) : Option (K × Unit) := gd (¬ (xs1 < 0 ∨ 275 ≤ xs1.toNatClampNeg)) (nm (setV κ 5 0 1 xs1.toNatClampNeg xs0) fun κ62 => f_X11_doOne_b466 E κ62 x5 x6)
def f_X11_doOne_b450 (E : EE) (κ : K) (x5 : Int32) (x6 : Int32) (xs0 : Int32) (xs1 : Int32) : Option (K × Unit) := gd (¬ (xs1 < 0 ∨ 275 ≤ xs1.toNatClampNeg)) (nm (setV κ 5 0 1 xs1.toNatClampNeg xs0) fun κ75 => f_X11_doOne_b466 E κ75 x5 x6)
def f_X11_doOne (E : EE) (κ : K) (a1 : Int32) (a2 : Int32) (a3 : Int32) (a4 : Int32) : Option (K × Unit) := nm (55 * a1) fun y1 => gd (¬ ((y1 + 4) < 0 ∨ 275 ≤ (y1 + 4).toNatClampNeg)) (nm (((kV κ 5 0 1) (y1 + 4).toNatClampNeg) + 1) fun y3 => if a2 = 0 then gd (¬ ((y1 + a3) < 0 ∨ 275 ≤ (y1 + a3).toNatClampNeg)) (nm (setV κ 5 0 1 (y1 + a3).toNatClampNeg a4) fun κ6 => f_X11_doOne_b466 E κ6 y1 y3) else if a2 = 1 then gd (¬ ((y1 + a3) < 0 ∨ 275 ≤ (y1 + a3).toNatClampNeg)) (gd (¬ ((y1 + a4) < 0 ∨ 275 ≤ (y1 + a4).toNatClampNeg)) (gd (¬ ((y1 + a3) < 0 ∨ 275 ≤ (y1 + a3).toNatClampNeg)) (nm (setV κ 5 0 1 (y1 + a3).toNatClampNeg ((((kV κ 5 0 1) (y1 + a3).toNatClampNeg) + ((kV κ 5 0 1) (y1 + a4).toNatClampNeg)) - (((kV κ 5 0 1) (y1 + a3).toNatClampNeg) + ((kV κ 5 0 1) (y1 + a4).toNatClampNeg)) / 10000 * 10000)) fun κ13 => f_X11_doOne_b466 E κ13 y1 y3))) else if a2 = 2 then gd (¬ ((y1 + a4) < 0 ∨ 275 ≤ (y1 + a4).toNatClampNeg)) (nm ((kV κ 5 0 1) (y1 + a4).toNatClampNeg) fun y16 => if 31 < y16 then f_X11_doOne_b156 E κ a1 else gd (¬ (((y1 + 9) + (y16 / 4)) < 0 ∨ 275 ≤ ((y1 + 9) + (y16 / 4)).toNatClampNeg)) (if (kV κ 5 0 1) ((y1 + 9) + (y16 / 4)).toNatClampNeg = (-1) then f_X11_doOne_b156 E κ a1 else gd (¬ (((y1 + 9) + (y16 / 4)) < 0 ∨ 275 ≤ ((y1 + 9) + (y16 / 4)).toNatClampNeg)) (nm ((kV κ 5 0 1) ((y1 + 9) + (y16 / 4)).toNatClampNeg) fun y24 => if a2 = 3 then f_X11_doOne_b193 E κ a2 a3 y1 y3 y16 y24 1 y24 a1 else f_X11_doOne_b193 E κ a2 a3 y1 y3 y16 y24 0 y24 a1))) else if a2 = 3 then gd (¬ ((y1 + a4) < 0 ∨ 275 ≤ (y1 + a4).toNatClampNeg)) (nm ((kV κ 5 0 1) (y1 + a4).toNatClampNeg) fun y39 => if 31 < y39 then f_X11_doOne_b156 E κ a1 else gd (¬ (((y1 + 9) + (y39 / 4)) < 0 ∨ 275 ≤ ((y1 + 9) + (y39 / 4)).toNatClampNeg)) (if (kV κ 5 0 1) ((y1 + 9) + (y39 / 4)).toNatClampNeg = (-1) then f_X11_doOne_b156 E κ a1 else gd (¬ (((y1 + 9) + (y39 / 4)) < 0 ∨ 275 ≤ ((y1 + 9) + (y39 / 4)).toNatClampNeg)) (nm ((kV κ 5 0 1) ((y1 + 9) + (y39 / 4)).toNatClampNeg) fun y44 => if a2 = 3 then f_X11_doOne_b193 E κ a2 a3 y1 y3 y39 y44 1 y44 a1 else f_X11_doOne_b193 E κ a2 a3 y1 y3 y39 y44 0 y44 a1))) else if a2 = 4 then gd (¬ ((y1 + a3) < 0 ∨ 275 ≤ (y1 + a3).toNatClampNeg)) (if (kV κ 5 0 1) (y1 + a3).toNatClampNeg = 0 then f_X11_doOne_b275 E κ y1 y3 else f_X11_doOne_b275 E κ y1 a4) else if a2 = 5 then if a4 = 8 then f_X11_doOne_b304 E κ y1 y3 ((-1)) ((y1 + 9) + a3) else f_X11_doOne_b304 E κ y1 y3 a4 ((y1 + 9) + a3) else if a2 = 6 then gd (¬ (((6 * a1) + 3) < 0 ∨ 30 ≤ ((6 * a1) + 3).toNatClampNeg)) (gd (¬ (((6 * a1) + 3) < 0 ∨ 30 ≤ ((6 * a1) + 3).toNatClampNeg)) (nm (setV κ 5 0 25 ((6 * a1) + 3).toNatClampNeg (((kV κ 5 0 25) ((6 * a1) + 3).toNatClampNeg) + 1)) fun κ56 => if a4 = 0 then gd (¬ ((y1 + a3) < 0 ∨ 275 ≤ (y1 + a3).toNatClampNeg)) (bd (f_X11_say E κ56 a1 ((kV κ56 5 0 1) (y1 + a3).toNatClampNeg)) fun κ64 _ => f_X11_doOne_b466 E κ64 y1 y3) else gd (¬ ((y1 + a3) < 0 ∨ 275 ≤ (y1 + a3).toNatClampNeg)) (if (kV κ56 5 0 1) (y1 + a3).toNatClampNeg = 0 then f_X11_doOne_b386 E κ56 y1 y3 ((-1)) (y1 + 50) else gd (¬ ((y1 + a3) < 0 ∨ 275 ≤ (y1 + a3).toNatClampNeg)) (f_X11_doOne_b386 E κ56 y1 y3 (((kV κ56 5 0 0 41) + 1) + ((kV κ56 5 0 1) (y1 + a3).toNatClampNeg)) (y1 + 50))))) else if a2 = 7 then gd (¬ (((6 * a1) + 3) < 0 ∨ 30 ≤ ((6 * a1) + 3).toNatClampNeg)) (gd (¬ (((6 * a1) + 3) < 0 ∨ 30 ≤ ((6 * a1) + 3).toNatClampNeg)) (nm (setV κ 5 0 25 ((6 * a1) + 3).toNatClampNeg (((kV κ 5 0 25) ((6 * a1) + 3).toNatClampNeg) + 1)) fun κ70 => if a4 = 0 then bd (f_X11_takeInput E κ70 a1) fun κ79 r81 => f_X11_doOne_b450 E κ79 y1 y3 r81 (y1 + a3) else if a4 = 1 then bd (f_X11_clock E κ70 a1) fun κ76 r78 => f_X11_doOne_b450 E κ76 y1 y3 r78 (y1 + a3) else gd (¬ ((y1 + 7) < 0 ∨ 275 ≤ (y1 + 7).toNatClampNeg)) (f_X11_doOne_b450 E κ70 y1 y3 ((kV κ70 5 0 1) (y1 + 7).toNatClampNeg) (y1 + a3)))) else bd (f_X11_doOther E κ a1 a2 a4 y3) fun κ82 r84 => f_X11_doOne_b466 E κ82 y1 r84)
set_option maxHeartbeats 4000000 in
set_option maxRecDepth 100000 in
theorem w_X11_doOne_b466 {l0 : Launch} (hfl : l0.stackTraces = false) {X : MX} {B : BX (EE × K)} {g : GP} {E : EE} {κ' : K} {rr : Unit} (O : CK l0 X B g cX11_doOne RX11 4 75) (hKP : KPok B E) (hmL : B.2.2.2.1 = 10) (hE : ∀ (pc : Nat) (lv : List (Nat × AV)), decode cX11_doOne pc = .ok (.return_, 1) → J X B (E, κ') pc lv []) (h0 : PC 11 E 5 0 0) : ∀ (κ : K) (x5 : Int32) (x6 : Int32), f_X11_doOne_b466 E κ x5 x6 = some (κ', rr) → J X B (E, κ) 466 [(0, .inr (some (5, 0, 0))), (5, .inl (.int x5)), (6, .inl (.int x6))] [] := by
  intro κ x5 x6 h
  unfold f_X11_doOne_b466 at h
  refine J_aload_n O.mo dX11_doOne_466 0 rfl ?_
  refine J_getF O.co (kd0 := 11) (k11_0 h0) (l11_0 h0) (C := RX11) (T := TX11) (N := 42) rfl (by decide) rfl in_X11 1 (by decide) (v := .inr (some (5, 0, 1))) rfl mw545 rfl dX11_doOne_467 ?_
  refine J_iload O.mo dX11_doOne_470 1 rfl ?_
  refine J_iconst O.mo (v := 4) dX11_doOne_472 (by decide) ?_
  refine J_iadd O.mo dX11_doOne_473 ?_
  refine J_iload O.mo dX11_doOne_474 2 rfl ?_
  obtain ⟨hg7, h⟩ := gd_some h
  refine row_20 O (l11_1 h0) (k11_1 h0) (n11_1 h0) hg7 (x := x6) dX11_doOne_476 ?_
  refine nm_some (P := fun z => J X B (E, z) 477 [(0, .inr (some (5, 0, 0))), (5, .inl (.int x5)), (6, .inl (.int x6))] []) h (fun κ8 h => ?_)
  cases h
  exact hE _ _ dX11_doOne_477
set_option maxHeartbeats 4000000 in
set_option maxRecDepth 100000 in
theorem w_X11_doOne_b156 {l0 : Launch} (hfl : l0.stackTraces = false) {X : MX} {B : BX (EE × K)} {g : GP} {E : EE} {κ' : K} {rr : Unit} (O : CK l0 X B g cX11_doOne RX11 4 75) (hKP : KPok B E) (hmL : B.2.2.2.1 = 10) (hE : ∀ (pc : Nat) (lv : List (Nat × AV)), decode cX11_doOne pc = .ok (.return_, 1) → J X B (E, κ') pc lv []) (h0 : PC 11 E 5 0 0) : ∀ (κ : K) (x1 : Int32), f_X11_doOne_b156 E κ x1 = some (κ', rr) → J X B (E, κ) 156 [(0, .inr (some (5, 0, 0))), (1, .inl (.int x1))] [] := by
  intro κ x1 h
  unfold f_X11_doOne_b156 at h
  refine J_aload_n O.mo dX11_doOne_156 0 rfl ?_
  refine J_iload_n O.mo dX11_doOne_157 1 rfl ?_
  refine J_sub [] rfl ?_
  obtain ⟨κ18, r20, hq19, h⟩ := bd_some h
  refine J_callV O hKP (as := [.inl (.int x1)]) (rest := []) (r := none) (c_X11_fault hfl h0 hq19) rfl (kd0 := 11) (k11_0 h0) (l11_0 h0) (T := TX11) (N := 42) rfl (by decide) mw559 mw560 mw561 mw517 mw562 pd_X11_fault rfl (by decide) rfl (Nat.le_of_ble_eq_true rfl) sl_0 st_0 dX11_doOne_158 ?_
  show J X B (E, κ18) 161 [] []
  cases h
  exact hE _ _ dX11_doOne_161
set_option maxHeartbeats 4000000 in
set_option maxRecDepth 100000 in
theorem w_X11_doOne_b193 {l0 : Launch} (hfl : l0.stackTraces = false) {X : MX} {B : BX (EE × K)} {g : GP} {E : EE} {κ' : K} {rr : Unit} (O : CK l0 X B g cX11_doOne RX11 4 75) (hKP : KPok B E) (hmL : B.2.2.2.1 = 10) (hE : ∀ (pc : Nat) (lv : List (Nat × AV)), decode cX11_doOne pc = .ok (.return_, 1) → J X B (E, κ') pc lv []) (h0 : PC 11 E 5 0 0) : ∀ (κ : K) (x2 : Int32) (x3 : Int32) (x5 : Int32) (x6 : Int32) (x7 : Int32) (x8 : Int32) (xs0 : Int32) (xs1 : Int32) (xs2 : Int32), f_X11_doOne_b193 E κ x2 x3 x5 x6 x7 x8 xs0 xs1 xs2 = some (κ', rr) → J X B (E, κ) 193 [(0, .inr (some (5, 0, 0))), (2, .inl (.int x2)), (3, .inl (.int x3)), (5, .inl (.int x5)), (6, .inl (.int x6)), (7, .inl (.int x7)), (8, .inl (.int x8))] [.inl (.int xs0), .inl (.int xs1), .inl (.int xs2), .inr (some (5, 0, 0))] := by
  intro κ x2 x3 x5 x6 x7 x8 xs0 xs1 xs2 h
  unfold f_X11_doOne_b193 at h
  obtain ⟨κ26, r28, hq27, h⟩ := bd_some h
  refine J_callV O hKP (as := [.inl (.int xs2), .inl (.int xs1), .inl (.int xs0)]) (rest := []) (r := none) (c_X11_touch hfl h0 hq27) rfl (kd0 := 11) (k11_0 h0) (l11_0 h0) (T := TX11) (N := 42) rfl (by decide) mw563 mw564 mw565 mw517 mw566 pd_X11_touch rfl (by decide) rfl (Nat.le_of_ble_eq_true rfl) (sl_p (s11_0 h0) (sl_v (sl_v (sl_v (sl_v (sl_v (sl_v sl_0))))))) st_0 dX11_doOne_193 ?_
  show J X B (E, κ26) 196 [(0, .inr (some (5, 0, 0))), (2, .inl (.int x2)), (3, .inl (.int x3)), (5, .inl (.int x5)), (6, .inl (.int x6)), (7, .inl (.int x7)), (8, .inl (.int x8))] []
  refine J_iload O.mo dX11_doOne_196 3 rfl ?_
  refine J_bipush O.mo (v := 17) dX11_doOne_198 (by decide) ?_
  refine J_iadd O.mo dX11_doOne_200 ?_
  refine J_iconst O.mo (v := 4) dX11_doOne_201 (by decide) ?_
  refine J_iload O.mo dX11_doOne_202 6 rfl ?_
  refine J_imul O.mo dX11_doOne_204 ?_
  refine J_iadd O.mo dX11_doOne_205 ?_
  refine J_iload O.mo dX11_doOne_206 5 rfl ?_
  refine J_iconst O.mo (v := 4) dX11_doOne_208 (by decide) ?_
  refine J_irem O.mo dX11_doOne_209 (by decide) ?_
  refine J_iadd O.mo dX11_doOne_210 ?_
  refine J_istore O.mo (lv' := [(0, .inr (some (5, 0, 0))), (2, .inl (.int x2)), (3, .inl (.int x3)), (5, .inl (.int x5)), (6, .inl (.int x6)), (7, .inl (.int x7)), (8, .inl (.int x8))]) dX11_doOne_211 (by rw [hmL]; decide) rfl rfl ?_
  refine nm_some (P := fun z => J X B (E, κ26) 213 [(9, .inl (.int z)), (0, .inr (some (5, 0, 0))), (2, .inl (.int x2)), (3, .inl (.int x3)), (5, .inl (.int x5)), (6, .inl (.int x6)), (7, .inl (.int x7)), (8, .inl (.int x8))] []) h (fun y29 h => ?_)
  refine J_iload_n O.mo dX11_doOne_213 2 rfl ?_
  refine J_iconst O.mo (v := 2) dX11_doOne_214 (by decide) ?_
  refine J_icmp_ne O.mo (tgt := 237) dX11_doOne_215 (by decide) (fun hc30 => ?_) (fun hc30 => ?_)
  · replace h := (if_neg hc30).symm.trans h
    refine J_aload_n O.mo dX11_doOne_237 1 rfl ?_
    refine J_getF O.co (kd0 := 11) (k11_0 h0) (l11_0 h0) (C := RX11) (T := TX11) (N := 42) rfl (by decide) rfl in_X11 1 (by decide) (v := .inr (some (5, 0, 1))) rfl mw545 rfl dX11_doOne_238 ?_
    refine J_iload O.mo dX11_doOne_241 0 rfl ?_
    refine J_aload_n O.mo dX11_doOne_243 1 rfl ?_
    refine J_getF O.co (kd0 := 11) (k11_0 h0) (l11_0 h0) (C := RX11) (T := TX11) (N := 42) rfl (by decide) rfl in_X11 1 (by decide) (v := .inr (some (5, 0, 1))) rfl mw545 rfl dX11_doOne_244 ?_
    refine J_iload O.mo dX11_doOne_247 4 rfl ?_
    refine J_iload_n O.mo dX11_doOne_249 3 rfl ?_
    refine J_iadd O.mo dX11_doOne_250 ?_
    obtain ⟨hg31, h⟩ := gd_some h
    refine J_iald O.co (g := (kV κ26 5 0 1)) (ct_20n (l11_1 h0) (k11_1 h0) (n11_1 h0)) hg31 dX11_doOne_251 ?_
    obtain ⟨hg32, h⟩ := gd_some h
    refine row_20 O (l11_1 h0) (k11_1 h0) (n11_1 h0) hg32 (x := ((kV κ26 5 0 1) (x5 + x3).toNatClampNeg)) dX11_doOne_252 ?_
    refine nm_some (P := fun z => J X B (E, z) 253 [(9, .inl (.int y29)), (0, .inr (some (5, 0, 0))), (2, .inl (.int x2)), (3, .inl (.int x3)), (5, .inl (.int x5)), (6, .inl (.int x6)), (7, .inl (.int x7)), (8, .inl (.int x8))] []) h (fun κ33 h => ?_)
    refine J_goto O.mo (tgt := 466) dX11_doOne_253 (by decide) ?_
    refine J_sub [1, 4, 5] rfl ?_
    exact w_X11_doOne_b466 hfl O hKP hmL hE h0 _ _ _ h
  · replace h := (if_pos hc30).symm.trans h
    refine J_aload_n O.mo dX11_doOne_218 1 rfl ?_
    refine J_getF O.co (kd0 := 11) (k11_0 h0) (l11_0 h0) (C := RX11) (T := TX11) (N := 42) rfl (by decide) rfl in_X11 1 (by decide) (v := .inr (some (5, 0, 1))) rfl mw545 rfl dX11_doOne_219 ?_
    refine J_iload O.mo dX11_doOne_222 4 rfl ?_
    refine J_iload_n O.mo dX11_doOne_224 3 rfl ?_
    refine J_iadd O.mo dX11_doOne_225 ?_
    refine J_aload_n O.mo dX11_doOne_226 1 rfl ?_
    refine J_getF O.co (kd0 := 11) (k11_0 h0) (l11_0 h0) (C := RX11) (T := TX11) (N := 42) rfl (by decide) rfl in_X11 1 (by decide) (v := .inr (some (5, 0, 1))) rfl mw545 rfl dX11_doOne_227 ?_
    refine J_iload O.mo dX11_doOne_230 0 rfl ?_
    obtain ⟨hg34, h⟩ := gd_some h
    refine J_iald O.co (g := (kV κ26 5 0 1)) (ct_20n (l11_1 h0) (k11_1 h0) (n11_1 h0)) hg34 dX11_doOne_232 ?_
    obtain ⟨hg35, h⟩ := gd_some h
    refine row_20 O (l11_1 h0) (k11_1 h0) (n11_1 h0) hg35 (x := ((kV κ26 5 0 1) y29.toNatClampNeg)) dX11_doOne_233 ?_
    refine nm_some (P := fun z => J X B (E, z) 234 [(9, .inl (.int y29)), (0, .inr (some (5, 0, 0))), (2, .inl (.int x2)), (3, .inl (.int x3)), (5, .inl (.int x5)), (6, .inl (.int x6)), (7, .inl (.int x7)), (8, .inl (.int x8))] []) h (fun κ36 h => ?_)
    refine J_goto O.mo (tgt := 466) dX11_doOne_234 (by decide) ?_
    refine J_sub [1, 4, 5] rfl ?_
    exact w_X11_doOne_b466 hfl O hKP hmL hE h0 _ _ _ h
set_option maxHeartbeats 4000000 in
set_option maxRecDepth 100000 in
theorem w_X11_doOne_b275 {l0 : Launch} (hfl : l0.stackTraces = false) {X : MX} {B : BX (EE × K)} {g : GP} {E : EE} {κ' : K} {rr : Unit} (O : CK l0 X B g cX11_doOne RX11 4 75) (hKP : KPok B E) (hmL : B.2.2.2.1 = 10) (hE : ∀ (pc : Nat) (lv : List (Nat × AV)), decode cX11_doOne pc = .ok (.return_, 1) → J X B (E, κ') pc lv []) (h0 : PC 11 E 5 0 0) : ∀ (κ : K) (x5 : Int32) (xs0 : Int32), f_X11_doOne_b275 E κ x5 xs0 = some (κ', rr) → J X B (E, κ) 275 [(0, .inr (some (5, 0, 0))), (5, .inl (.int x5))] [.inl (.int xs0)] := by
  intro κ x5 xs0 h
  unfold f_X11_doOne_b275 at h
  refine J_istore O.mo (lv' := [(0, .inr (some (5, 0, 0))), (5, .inl (.int x5))]) dX11_doOne_275 (by rw [hmL]; decide) rfl rfl ?_
  refine J_goto O.mo (tgt := 466) dX11_doOne_277 (by decide) ?_
  refine J_sub [1, 2, 0] rfl ?_
  exact w_X11_doOne_b466 hfl O hKP hmL hE h0 _ _ _ h
set_option maxHeartbeats 4000000 in
set_option maxRecDepth 100000 in
theorem w_X11_doOne_b304 {l0 : Launch} (hfl : l0.stackTraces = false) {X : MX} {B : BX (EE × K)} {g : GP} {E : EE} {κ' : K} {rr : Unit} (O : CK l0 X B g cX11_doOne RX11 4 75) (hKP : KPok B E) (hmL : B.2.2.2.1 = 10) (hE : ∀ (pc : Nat) (lv : List (Nat × AV)), decode cX11_doOne pc = .ok (.return_, 1) → J X B (E, κ') pc lv []) (h0 : PC 11 E 5 0 0) : ∀ (κ : K) (x5 : Int32) (x6 : Int32) (xs0 : Int32) (xs1 : Int32), f_X11_doOne_b304 E κ x5 x6 xs0 xs1 = some (κ', rr) → J X B (E, κ) 304 [(0, .inr (some (5, 0, 0))), (5, .inl (.int x5)), (6, .inl (.int x6))] [.inl (.int xs0), .inl (.int xs1), .inr (some (5, 0, 1))] := by
  intro κ x5 x6 xs0 xs1 h
  unfold f_X11_doOne_b304 at h
  obtain ⟨hg51, h⟩ := gd_some h
  refine row_20 O (l11_1 h0) (k11_1 h0) (n11_1 h0) hg51 (x := xs0) dX11_doOne_304 ?_
  refine nm_some (P := fun z => J X B (E, z) 305 [(0, .inr (some (5, 0, 0))), (5, .inl (.int x5)), (6, .inl (.int x6))] []) h (fun κ52 h => ?_)
  refine J_goto O.mo (tgt := 466) dX11_doOne_305 (by decide) ?_
  exact w_X11_doOne_b466 hfl O hKP hmL hE h0 _ _ _ h
set_option maxHeartbeats 4000000 in
set_option maxRecDepth 100000 in
theorem w_X11_doOne_b386 {l0 : Launch} (hfl : l0.stackTraces = false) {X : MX} {B : BX (EE × K)} {g : GP} {E : EE} {κ' : K} {rr : Unit} (O : CK l0 X B g cX11_doOne RX11 4 75) (hKP : KPok B E) (hmL : B.2.2.2.1 = 10) (hE : ∀ (pc : Nat) (lv : List (Nat × AV)), decode cX11_doOne pc = .ok (.return_, 1) → J X B (E, κ') pc lv []) (h0 : PC 11 E 5 0 0) : ∀ (κ : K) (x5 : Int32) (x6 : Int32) (xs0 : Int32) (xs1 : Int32), f_X11_doOne_b386 E κ x5 x6 xs0 xs1 = some (κ', rr) → J X B (E, κ) 386 [(0, .inr (some (5, 0, 0))), (5, .inl (.int x5)), (6, .inl (.int x6))] [.inl (.int xs0), .inl (.int xs1), .inr (some (5, 0, 1))] := by
  intro κ x5 x6 xs0 xs1 h
  unfold f_X11_doOne_b386 at h
  obtain ⟨hg61, h⟩ := gd_some h
  refine row_20 O (l11_1 h0) (k11_1 h0) (n11_1 h0) hg61 (x := xs0) dX11_doOne_386 ?_
  refine nm_some (P := fun z => J X B (E, z) 387 [(0, .inr (some (5, 0, 0))), (5, .inl (.int x5)), (6, .inl (.int x6))] []) h (fun κ62 h => ?_)
  refine J_goto O.mo (tgt := 466) dX11_doOne_387 (by decide) ?_
  exact w_X11_doOne_b466 hfl O hKP hmL hE h0 _ _ _ h
set_option maxHeartbeats 4000000 in
set_option maxRecDepth 100000 in
theorem w_X11_doOne_b450 {l0 : Launch} (hfl : l0.stackTraces = false) {X : MX} {B : BX (EE × K)} {g : GP} {E : EE} {κ' : K} {rr : Unit} (O : CK l0 X B g cX11_doOne RX11 4 75) (hKP : KPok B E) (hmL : B.2.2.2.1 = 10) (hE : ∀ (pc : Nat) (lv : List (Nat × AV)), decode cX11_doOne pc = .ok (.return_, 1) → J X B (E, κ') pc lv []) (h0 : PC 11 E 5 0 0) : ∀ (κ : K) (x5 : Int32) (x6 : Int32) (xs0 : Int32) (xs1 : Int32), f_X11_doOne_b450 E κ x5 x6 xs0 xs1 = some (κ', rr) → J X B (E, κ) 450 [(0, .inr (some (5, 0, 0))), (5, .inl (.int x5)), (6, .inl (.int x6))] [.inl (.int xs0), .inl (.int xs1), .inr (some (5, 0, 1))] := by
  intro κ x5 x6 xs0 xs1 h
  unfold f_X11_doOne_b450 at h
  obtain ⟨hg74, h⟩ := gd_some h
  refine row_20 O (l11_1 h0) (k11_1 h0) (n11_1 h0) hg74 (x := xs0) dX11_doOne_450 ?_
  refine nm_some (P := fun z => J X B (E, z) 451 [(0, .inr (some (5, 0, 0))), (5, .inl (.int x5)), (6, .inl (.int x6))] []) h (fun κ75 h => ?_)
  refine J_goto O.mo (tgt := 466) dX11_doOne_451 (by decide) ?_
  exact w_X11_doOne_b466 hfl O hKP hmL hE h0 _ _ _ h
set_option maxHeartbeats 4000000 in
set_option maxRecDepth 100000 in
theorem w_X11_doOne {l0 : Launch} (hfl : l0.stackTraces = false) {X : MX} {B : BX (EE × K)} {g : GP} {E : EE} {κ' : K} {rr : Unit} (O : CK l0 X B g cX11_doOne RX11 4 75) (hKP : KPok B E) (hmL : B.2.2.2.1 = 10) (hE : ∀ (pc : Nat) (lv : List (Nat × AV)), decode cX11_doOne pc = .ok (.return_, 1) → J X B (E, κ') pc lv []) (h0 : PC 11 E 5 0 0) : ∀ (κ : K) (a1 : Int32) (a2 : Int32) (a3 : Int32) (a4 : Int32), f_X11_doOne E κ a1 a2 a3 a4 = some (κ', rr) → J X B (E, κ) 0 [(0, .inr (some (5, 0, 0))), (1, .inl (.int a1)), (2, .inl (.int a2)), (3, .inl (.int a3)), (4, .inl (.int a4))] [] := by
  intro κ a1 a2 a3 a4 h
  unfold f_X11_doOne at h
  refine J_bipush O.mo (v := 55) dX11_doOne_0 (by decide) ?_
  refine J_iload_n O.mo dX11_doOne_2 1 rfl ?_
  refine J_imul O.mo dX11_doOne_3 ?_
  refine J_istore O.mo (lv' := [(0, .inr (some (5, 0, 0))), (1, .inl (.int a1)), (2, .inl (.int a2)), (3, .inl (.int a3)), (4, .inl (.int a4))]) dX11_doOne_4 (by rw [hmL]; decide) rfl rfl ?_
  refine nm_some (P := fun z => J X B (E, κ) 6 [(5, .inl (.int z)), (0, .inr (some (5, 0, 0))), (1, .inl (.int a1)), (2, .inl (.int a2)), (3, .inl (.int a3)), (4, .inl (.int a4))] []) h (fun y1 h => ?_)
  refine J_aload_n O.mo dX11_doOne_6 1 rfl ?_
  refine J_getF O.co (kd0 := 11) (k11_0 h0) (l11_0 h0) (C := RX11) (T := TX11) (N := 42) rfl (by decide) rfl in_X11 1 (by decide) (v := .inr (some (5, 0, 1))) rfl mw545 rfl dX11_doOne_7 ?_
  refine J_iload O.mo dX11_doOne_10 0 rfl ?_
  refine J_iconst O.mo (v := 4) dX11_doOne_12 (by decide) ?_
  refine J_iadd O.mo dX11_doOne_13 ?_
  obtain ⟨hg2, h⟩ := gd_some h
  refine J_iald O.co (g := (kV κ 5 0 1)) (ct_20n (l11_1 h0) (k11_1 h0) (n11_1 h0)) hg2 dX11_doOne_14 ?_
  refine J_iconst O.mo (v := 1) dX11_doOne_15 (by decide) ?_
  refine J_iadd O.mo dX11_doOne_16 ?_
  refine J_istore O.mo (lv' := [(5, .inl (.int y1)), (0, .inr (some (5, 0, 0))), (1, .inl (.int a1)), (2, .inl (.int a2)), (3, .inl (.int a3)), (4, .inl (.int a4))]) dX11_doOne_17 (by rw [hmL]; decide) rfl rfl ?_
  refine nm_some (P := fun z => J X B (E, κ) 19 [(6, .inl (.int z)), (5, .inl (.int y1)), (0, .inr (some (5, 0, 0))), (1, .inl (.int a1)), (2, .inl (.int a2)), (3, .inl (.int a3)), (4, .inl (.int a4))] []) h (fun y3 h => ?_)
  refine J_iload_n O.mo dX11_doOne_19 4 rfl ?_
  by_cases hc4 : a2 = 0
  · replace h := (if_pos hc4).symm.trans h
    refine J_tabIn O.mo (tgt := 68) 0 hc4 dX11_doOne_20 (by decide) (by decide) rfl (by decide) ?_
    refine J_aload_n O.mo dX11_doOne_68 2 rfl ?_
    refine J_getF O.co (kd0 := 11) (k11_0 h0) (l11_0 h0) (C := RX11) (T := TX11) (N := 42) rfl (by decide) rfl in_X11 1 (by decide) (v := .inr (some (5, 0, 1))) rfl mw545 rfl dX11_doOne_69 ?_
    refine J_iload O.mo dX11_doOne_72 1 rfl ?_
    refine J_iload_n O.mo dX11_doOne_74 5 rfl ?_
    refine J_iadd O.mo dX11_doOne_75 ?_
    refine J_iload O.mo dX11_doOne_76 6 rfl ?_
    obtain ⟨hg5, h⟩ := gd_some h
    refine row_20 O (l11_1 h0) (k11_1 h0) (n11_1 h0) hg5 (x := a4) dX11_doOne_78 ?_
    refine nm_some (P := fun z => J X B (E, z) 79 [(6, .inl (.int y3)), (5, .inl (.int y1)), (0, .inr (some (5, 0, 0))), (1, .inl (.int a1)), (2, .inl (.int a2)), (3, .inl (.int a3)), (4, .inl (.int a4))] []) h (fun κ6 h => ?_)
    refine J_goto O.mo (tgt := 466) dX11_doOne_79 (by decide) ?_
    refine J_sub [2, 1, 0] rfl ?_
    exact w_X11_doOne_b466 hfl O hKP hmL hE h0 _ _ _ h
  · replace h := (if_neg hc4).symm.trans h
    by_cases hc9 : a2 = 1
    · replace h := (if_pos hc9).symm.trans h
      refine J_tabIn O.mo (tgt := 82) 1 hc9 dX11_doOne_20 (by decide) (by decide) rfl (by decide) ?_
      refine J_aload_n O.mo dX11_doOne_82 2 rfl ?_
      refine J_getF O.co (kd0 := 11) (k11_0 h0) (l11_0 h0) (C := RX11) (T := TX11) (N := 42) rfl (by decide) rfl in_X11 1 (by decide) (v := .inr (some (5, 0, 1))) rfl mw545 rfl dX11_doOne_83 ?_
      refine J_iload O.mo dX11_doOne_86 1 rfl ?_
      refine J_iload_n O.mo dX11_doOne_88 5 rfl ?_
      refine J_iadd O.mo dX11_doOne_89 ?_
      refine J_aload_n O.mo dX11_doOne_90 2 rfl ?_
      refine J_getF O.co (kd0 := 11) (k11_0 h0) (l11_0 h0) (C := RX11) (T := TX11) (N := 42) rfl (by decide) rfl in_X11 1 (by decide) (v := .inr (some (5, 0, 1))) rfl mw545 rfl dX11_doOne_91 ?_
      refine J_iload O.mo dX11_doOne_94 1 rfl ?_
      refine J_iload_n O.mo dX11_doOne_96 5 rfl ?_
      refine J_iadd O.mo dX11_doOne_97 ?_
      obtain ⟨hg10, h⟩ := gd_some h
      refine J_iald O.co (g := (kV κ 5 0 1)) (ct_20n (l11_1 h0) (k11_1 h0) (n11_1 h0)) hg10 dX11_doOne_98 ?_
      refine J_aload_n O.mo dX11_doOne_99 2 rfl ?_
      refine J_getF O.co (kd0 := 11) (k11_0 h0) (l11_0 h0) (C := RX11) (T := TX11) (N := 42) rfl (by decide) rfl in_X11 1 (by decide) (v := .inr (some (5, 0, 1))) rfl mw545 rfl dX11_doOne_100 ?_
      refine J_iload O.mo dX11_doOne_103 1 rfl ?_
      refine J_iload O.mo dX11_doOne_105 6 rfl ?_
      refine J_iadd O.mo dX11_doOne_107 ?_
      obtain ⟨hg11, h⟩ := gd_some h
      refine J_iald O.co (g := (kV κ 5 0 1)) (ct_20n (l11_1 h0) (k11_1 h0) (n11_1 h0)) hg11 dX11_doOne_108 ?_
      refine J_iadd O.mo dX11_doOne_109 ?_
      refine J_sipush O.mo (v := 10000) dX11_doOne_110 (by decide) ?_
      refine J_irem O.mo dX11_doOne_113 (by decide) ?_
      obtain ⟨hg12, h⟩ := gd_some h
      refine row_20 O (l11_1 h0) (k11_1 h0) (n11_1 h0) hg12 (x := ((((kV κ 5 0 1) (y1 + a3).toNatClampNeg) + ((kV κ 5 0 1) (y1 + a4).toNatClampNeg)) - (((kV κ 5 0 1) (y1 + a3).toNatClampNeg) + ((kV κ 5 0 1) (y1 + a4).toNatClampNeg)) / 10000 * 10000)) dX11_doOne_114 ?_
      refine nm_some (P := fun z => J X B (E, z) 115 [(6, .inl (.int y3)), (5, .inl (.int y1)), (0, .inr (some (5, 0, 0))), (1, .inl (.int a1)), (2, .inl (.int a2)), (3, .inl (.int a3)), (4, .inl (.int a4))] []) h (fun κ13 h => ?_)
      refine J_goto O.mo (tgt := 466) dX11_doOne_115 (by decide) ?_
      refine J_sub [2, 1, 0] rfl ?_
      exact w_X11_doOne_b466 hfl O hKP hmL hE h0 _ _ _ h
    · replace h := (if_neg hc9).symm.trans h
      by_cases hc14 : a2 = 2
      · replace h := (if_pos hc14).symm.trans h
        refine J_tabIn O.mo (tgt := 118) 2 hc14 dX11_doOne_20 (by decide) (by decide) rfl (by decide) ?_
        refine J_aload_n O.mo dX11_doOne_118 2 rfl ?_
        refine J_getF O.co (kd0 := 11) (k11_0 h0) (l11_0 h0) (C := RX11) (T := TX11) (N := 42) rfl (by decide) rfl in_X11 1 (by decide) (v := .inr (some (5, 0, 1))) rfl mw545 rfl dX11_doOne_119 ?_
        refine J_iload O.mo dX11_doOne_122 1 rfl ?_
        refine J_iload O.mo dX11_doOne_124 6 rfl ?_
        refine J_iadd O.mo dX11_doOne_126 ?_
        obtain ⟨hg15, h⟩ := gd_some h
        refine J_iald O.co (g := (kV κ 5 0 1)) (ct_20n (l11_1 h0) (k11_1 h0) (n11_1 h0)) hg15 dX11_doOne_127 ?_
        refine J_istore O.mo (lv' := [(6, .inl (.int y3)), (5, .inl (.int y1)), (0, .inr (some (5, 0, 0))), (1, .inl (.int a1)), (2, .inl (.int a2)), (3, .inl (.int a3)), (4, .inl (.int a4))]) dX11_doOne_128 (by rw [hmL]; decide) rfl rfl ?_
        refine nm_some (P := fun z => J X B (E, κ) 130 [(7, .inl (.int z)), (6, .inl (.int y3)), (5, .inl (.int y1)), (0, .inr (some (5, 0, 0))), (1, .inl (.int a1)), (2, .inl (.int a2)), (3, .inl (.int a3)), (4, .inl (.int a4))] []) h (fun y16 h => ?_)
        refine J_iload O.mo dX11_doOne_130 0 rfl ?_
        refine J_bipush O.mo (v := 31) dX11_doOne_132 (by decide) ?_
        refine J_icmp_gt O.mo (tgt := 156) dX11_doOne_134 (by decide) (fun hc17 => ?_) (fun hc17 => ?_)
        · replace h := (if_pos hc17).symm.trans h
          refine J_sub [3, 4] rfl ?_
          exact w_X11_doOne_b156 hfl O hKP hmL hE h0 _ _ h
        · replace h := (if_neg hc17).symm.trans h
          refine J_aload_n O.mo dX11_doOne_137 3 rfl ?_
          refine J_getF O.co (kd0 := 11) (k11_0 h0) (l11_0 h0) (C := RX11) (T := TX11) (N := 42) rfl (by decide) rfl in_X11 1 (by decide) (v := .inr (some (5, 0, 1))) rfl mw545 rfl dX11_doOne_138 ?_
          refine J_iload O.mo dX11_doOne_141 2 rfl ?_
          refine J_bipush O.mo (v := 9) dX11_doOne_143 (by decide) ?_
          refine J_iadd O.mo dX11_doOne_145 ?_
          refine J_iload O.mo dX11_doOne_146 0 rfl ?_
          refine J_iconst O.mo (v := 4) dX11_doOne_148 (by decide) ?_
          refine J_idiv O.mo dX11_doOne_149 (by decide) ?_
          refine J_iadd O.mo dX11_doOne_150 ?_
          obtain ⟨hg21, h⟩ := gd_some h
          refine J_iald O.co (g := (kV κ 5 0 1)) (ct_20n (l11_1 h0) (k11_1 h0) (n11_1 h0)) hg21 dX11_doOne_151 ?_
          refine J_iconst O.mo (v := (-1)) dX11_doOne_152 (by decide) ?_
          refine J_icmp_ne O.mo (tgt := 162) dX11_doOne_153 (by decide) (fun hc22 => ?_) (fun hc22 => ?_)
          · replace h := (if_neg hc22).symm.trans h
            refine J_aload_n O.mo dX11_doOne_162 3 rfl ?_
            refine J_getF O.co (kd0 := 11) (k11_0 h0) (l11_0 h0) (C := RX11) (T := TX11) (N := 42) rfl (by decide) rfl in_X11 1 (by decide) (v := .inr (some (5, 0, 1))) rfl mw545 rfl dX11_doOne_163 ?_
            refine J_iload O.mo dX11_doOne_166 2 rfl ?_
            refine J_bipush O.mo (v := 9) dX11_doOne_168 (by decide) ?_
            refine J_iadd O.mo dX11_doOne_170 ?_
            refine J_iload O.mo dX11_doOne_171 0 rfl ?_
            refine J_iconst O.mo (v := 4) dX11_doOne_173 (by decide) ?_
            refine J_idiv O.mo dX11_doOne_174 (by decide) ?_
            refine J_iadd O.mo dX11_doOne_175 ?_
            obtain ⟨hg23, h⟩ := gd_some h
            refine J_iald O.co (g := (kV κ 5 0 1)) (ct_20n (l11_1 h0) (k11_1 h0) (n11_1 h0)) hg23 dX11_doOne_176 ?_
            refine J_istore O.mo (lv' := [(7, .inl (.int y16)), (6, .inl (.int y3)), (5, .inl (.int y1)), (0, .inr (some (5, 0, 0))), (1, .inl (.int a1)), (2, .inl (.int a2)), (3, .inl (.int a3)), (4, .inl (.int a4))]) dX11_doOne_177 (by rw [hmL]; decide) rfl rfl ?_
            refine nm_some (P := fun z => J X B (E, κ) 179 [(8, .inl (.int z)), (7, .inl (.int y16)), (6, .inl (.int y3)), (5, .inl (.int y1)), (0, .inr (some (5, 0, 0))), (1, .inl (.int a1)), (2, .inl (.int a2)), (3, .inl (.int a3)), (4, .inl (.int a4))] []) h (fun y24 h => ?_)
            refine J_aload_n O.mo dX11_doOne_179 4 rfl ?_
            refine J_iload_n O.mo dX11_doOne_180 5 rfl ?_
            refine J_iload O.mo dX11_doOne_181 0 rfl ?_
            refine J_iload_n O.mo dX11_doOne_183 6 rfl ?_
            refine J_iconst O.mo (v := 3) dX11_doOne_184 (by decide) ?_
            refine J_icmp_ne O.mo (tgt := 192) dX11_doOne_185 (by decide) (fun hc25 => ?_) (fun hc25 => ?_)
            · replace h := (if_neg hc25).symm.trans h
              refine J_iconst O.mo (v := 0) dX11_doOne_192 (by decide) ?_
              refine J_sub [4, 6, 7, 3, 2, 1, 0] rfl ?_
              exact w_X11_doOne_b193 hfl O hKP hmL hE h0 _ _ _ _ _ _ _ _ _ _ h
            · replace h := (if_pos hc25).symm.trans h
              refine J_iconst O.mo (v := 1) dX11_doOne_188 (by decide) ?_
              refine J_goto O.mo (tgt := 193) dX11_doOne_189 (by decide) ?_
              refine J_sub [4, 6, 7, 3, 2, 1, 0] rfl ?_
              exact w_X11_doOne_b193 hfl O hKP hmL hE h0 _ _ _ _ _ _ _ _ _ _ h
          · replace h := (if_pos hc22).symm.trans h
            refine J_sub [3, 4] rfl ?_
            exact w_X11_doOne_b156 hfl O hKP hmL hE h0 _ _ h
      · replace h := (if_neg hc14).symm.trans h
        by_cases hc37 : a2 = 3
        · replace h := (if_pos hc37).symm.trans h
          refine J_tabIn O.mo (tgt := 118) 3 hc37 dX11_doOne_20 (by decide) (by decide) rfl (by decide) ?_
          refine J_aload_n O.mo dX11_doOne_118 2 rfl ?_
          refine J_getF O.co (kd0 := 11) (k11_0 h0) (l11_0 h0) (C := RX11) (T := TX11) (N := 42) rfl (by decide) rfl in_X11 1 (by decide) (v := .inr (some (5, 0, 1))) rfl mw545 rfl dX11_doOne_119 ?_
          refine J_iload O.mo dX11_doOne_122 1 rfl ?_
          refine J_iload O.mo dX11_doOne_124 6 rfl ?_
          refine J_iadd O.mo dX11_doOne_126 ?_
          obtain ⟨hg38, h⟩ := gd_some h
          refine J_iald O.co (g := (kV κ 5 0 1)) (ct_20n (l11_1 h0) (k11_1 h0) (n11_1 h0)) hg38 dX11_doOne_127 ?_
          refine J_istore O.mo (lv' := [(6, .inl (.int y3)), (5, .inl (.int y1)), (0, .inr (some (5, 0, 0))), (1, .inl (.int a1)), (2, .inl (.int a2)), (3, .inl (.int a3)), (4, .inl (.int a4))]) dX11_doOne_128 (by rw [hmL]; decide) rfl rfl ?_
          refine nm_some (P := fun z => J X B (E, κ) 130 [(7, .inl (.int z)), (6, .inl (.int y3)), (5, .inl (.int y1)), (0, .inr (some (5, 0, 0))), (1, .inl (.int a1)), (2, .inl (.int a2)), (3, .inl (.int a3)), (4, .inl (.int a4))] []) h (fun y39 h => ?_)
          refine J_iload O.mo dX11_doOne_130 0 rfl ?_
          refine J_bipush O.mo (v := 31) dX11_doOne_132 (by decide) ?_
          refine J_icmp_gt O.mo (tgt := 156) dX11_doOne_134 (by decide) (fun hc40 => ?_) (fun hc40 => ?_)
          · replace h := (if_pos hc40).symm.trans h
            refine J_sub [3, 4] rfl ?_
            exact w_X11_doOne_b156 hfl O hKP hmL hE h0 _ _ h
          · replace h := (if_neg hc40).symm.trans h
            refine J_aload_n O.mo dX11_doOne_137 3 rfl ?_
            refine J_getF O.co (kd0 := 11) (k11_0 h0) (l11_0 h0) (C := RX11) (T := TX11) (N := 42) rfl (by decide) rfl in_X11 1 (by decide) (v := .inr (some (5, 0, 1))) rfl mw545 rfl dX11_doOne_138 ?_
            refine J_iload O.mo dX11_doOne_141 2 rfl ?_
            refine J_bipush O.mo (v := 9) dX11_doOne_143 (by decide) ?_
            refine J_iadd O.mo dX11_doOne_145 ?_
            refine J_iload O.mo dX11_doOne_146 0 rfl ?_
            refine J_iconst O.mo (v := 4) dX11_doOne_148 (by decide) ?_
            refine J_idiv O.mo dX11_doOne_149 (by decide) ?_
            refine J_iadd O.mo dX11_doOne_150 ?_
            obtain ⟨hg41, h⟩ := gd_some h
            refine J_iald O.co (g := (kV κ 5 0 1)) (ct_20n (l11_1 h0) (k11_1 h0) (n11_1 h0)) hg41 dX11_doOne_151 ?_
            refine J_iconst O.mo (v := (-1)) dX11_doOne_152 (by decide) ?_
            refine J_icmp_ne O.mo (tgt := 162) dX11_doOne_153 (by decide) (fun hc42 => ?_) (fun hc42 => ?_)
            · replace h := (if_neg hc42).symm.trans h
              refine J_aload_n O.mo dX11_doOne_162 3 rfl ?_
              refine J_getF O.co (kd0 := 11) (k11_0 h0) (l11_0 h0) (C := RX11) (T := TX11) (N := 42) rfl (by decide) rfl in_X11 1 (by decide) (v := .inr (some (5, 0, 1))) rfl mw545 rfl dX11_doOne_163 ?_
              refine J_iload O.mo dX11_doOne_166 2 rfl ?_
              refine J_bipush O.mo (v := 9) dX11_doOne_168 (by decide) ?_
              refine J_iadd O.mo dX11_doOne_170 ?_
              refine J_iload O.mo dX11_doOne_171 0 rfl ?_
              refine J_iconst O.mo (v := 4) dX11_doOne_173 (by decide) ?_
              refine J_idiv O.mo dX11_doOne_174 (by decide) ?_
              refine J_iadd O.mo dX11_doOne_175 ?_
              obtain ⟨hg43, h⟩ := gd_some h
              refine J_iald O.co (g := (kV κ 5 0 1)) (ct_20n (l11_1 h0) (k11_1 h0) (n11_1 h0)) hg43 dX11_doOne_176 ?_
              refine J_istore O.mo (lv' := [(7, .inl (.int y39)), (6, .inl (.int y3)), (5, .inl (.int y1)), (0, .inr (some (5, 0, 0))), (1, .inl (.int a1)), (2, .inl (.int a2)), (3, .inl (.int a3)), (4, .inl (.int a4))]) dX11_doOne_177 (by rw [hmL]; decide) rfl rfl ?_
              refine nm_some (P := fun z => J X B (E, κ) 179 [(8, .inl (.int z)), (7, .inl (.int y39)), (6, .inl (.int y3)), (5, .inl (.int y1)), (0, .inr (some (5, 0, 0))), (1, .inl (.int a1)), (2, .inl (.int a2)), (3, .inl (.int a3)), (4, .inl (.int a4))] []) h (fun y44 h => ?_)
              refine J_aload_n O.mo dX11_doOne_179 4 rfl ?_
              refine J_iload_n O.mo dX11_doOne_180 5 rfl ?_
              refine J_iload O.mo dX11_doOne_181 0 rfl ?_
              refine J_iload_n O.mo dX11_doOne_183 6 rfl ?_
              refine J_iconst O.mo (v := 3) dX11_doOne_184 (by decide) ?_
              refine J_icmp_ne O.mo (tgt := 192) dX11_doOne_185 (by decide) (fun hc45 => ?_) (fun hc45 => ?_)
              · replace h := (if_neg hc45).symm.trans h
                refine J_iconst O.mo (v := 0) dX11_doOne_192 (by decide) ?_
                refine J_sub [4, 6, 7, 3, 2, 1, 0] rfl ?_
                exact w_X11_doOne_b193 hfl O hKP hmL hE h0 _ _ _ _ _ _ _ _ _ _ h
              · replace h := (if_pos hc45).symm.trans h
                refine J_iconst O.mo (v := 1) dX11_doOne_188 (by decide) ?_
                refine J_goto O.mo (tgt := 193) dX11_doOne_189 (by decide) ?_
                refine J_sub [4, 6, 7, 3, 2, 1, 0] rfl ?_
                exact w_X11_doOne_b193 hfl O hKP hmL hE h0 _ _ _ _ _ _ _ _ _ _ h
            · replace h := (if_pos hc42).symm.trans h
              refine J_sub [3, 4] rfl ?_
              exact w_X11_doOne_b156 hfl O hKP hmL hE h0 _ _ h
        · replace h := (if_neg hc37).symm.trans h
          by_cases hc46 : a2 = 4
          · replace h := (if_pos hc46).symm.trans h
            refine J_tabIn O.mo (tgt := 256) 4 hc46 dX11_doOne_20 (by decide) (by decide) rfl (by decide) ?_
            refine J_aload_n O.mo dX11_doOne_256 2 rfl ?_
            refine J_getF O.co (kd0 := 11) (k11_0 h0) (l11_0 h0) (C := RX11) (T := TX11) (N := 42) rfl (by decide) rfl in_X11 1 (by decide) (v := .inr (some (5, 0, 1))) rfl mw545 rfl dX11_doOne_257 ?_
            refine J_iload O.mo dX11_doOne_260 1 rfl ?_
            refine J_iload_n O.mo dX11_doOne_262 5 rfl ?_
            refine J_iadd O.mo dX11_doOne_263 ?_
            obtain ⟨hg47, h⟩ := gd_some h
            refine J_iald O.co (g := (kV κ 5 0 1)) (ct_20n (l11_1 h0) (k11_1 h0) (n11_1 h0)) hg47 dX11_doOne_264 ?_
            refine J_if_eq O.mo (tgt := 273) dX11_doOne_265 (by decide) (fun hc48 => ?_) (fun hc48 => ?_)
            · replace h := (if_pos hc48).symm.trans h
              refine J_iload O.mo dX11_doOne_273 0 rfl ?_
              refine J_sub [2, 1] rfl ?_
              exact w_X11_doOne_b275 hfl O hKP hmL hE h0 _ _ _ h
            · replace h := (if_neg hc48).symm.trans h
              refine J_iload O.mo dX11_doOne_268 6 rfl ?_
              refine J_goto O.mo (tgt := 275) dX11_doOne_270 (by decide) ?_
              refine J_sub [2, 1] rfl ?_
              exact w_X11_doOne_b275 hfl O hKP hmL hE h0 _ _ _ h
          · replace h := (if_neg hc46).symm.trans h
            by_cases hc49 : a2 = 5
            · replace h := (if_pos hc49).symm.trans h
              refine J_tabIn O.mo (tgt := 280) 5 hc49 dX11_doOne_20 (by decide) (by decide) rfl (by decide) ?_
              refine J_aload_n O.mo dX11_doOne_280 2 rfl ?_
              refine J_getF O.co (kd0 := 11) (k11_0 h0) (l11_0 h0) (C := RX11) (T := TX11) (N := 42) rfl (by decide) rfl in_X11 1 (by decide) (v := .inr (some (5, 0, 1))) rfl mw545 rfl dX11_doOne_281 ?_
              refine J_iload O.mo dX11_doOne_284 1 rfl ?_
              refine J_bipush O.mo (v := 9) dX11_doOne_286 (by decide) ?_
              refine J_iadd O.mo dX11_doOne_288 ?_
              refine J_iload_n O.mo dX11_doOne_289 5 rfl ?_
              refine J_iadd O.mo dX11_doOne_290 ?_
              refine J_iload O.mo dX11_doOne_291 6 rfl ?_
              refine J_bipush O.mo (v := 8) dX11_doOne_293 (by decide) ?_
              refine J_icmp_ne O.mo (tgt := 302) dX11_doOne_295 (by decide) (fun hc50 => ?_) (fun hc50 => ?_)
              · replace h := (if_neg hc50).symm.trans h
                refine J_iload O.mo dX11_doOne_302 6 rfl ?_
                refine J_sub [2, 1, 0] rfl ?_
                exact w_X11_doOne_b304 hfl O hKP hmL hE h0 _ _ _ _ _ h
              · replace h := (if_pos hc50).symm.trans h
                refine J_iconst O.mo (v := (-1)) dX11_doOne_298 (by decide) ?_
                refine J_goto O.mo (tgt := 304) dX11_doOne_299 (by decide) ?_
                refine J_sub [2, 1, 0] rfl ?_
                exact w_X11_doOne_b304 hfl O hKP hmL hE h0 _ _ _ _ _ h
            · replace h := (if_neg hc49).symm.trans h
              by_cases hc53 : a2 = 6
              · replace h := (if_pos hc53).symm.trans h
                refine J_tabIn O.mo (tgt := 308) 6 hc53 dX11_doOne_20 (by decide) (by decide) rfl (by decide) ?_
                refine J_aload_n O.mo dX11_doOne_308 2 rfl ?_
                refine J_getF O.co (kd0 := 11) (k11_0 h0) (l11_0 h0) (C := RX11) (T := TX11) (N := 42) rfl (by decide) rfl in_X11 25 (by decide) (v := .inr (some (5, 0, 25))) rfl mw544 rfl dX11_doOne_309 ?_
                refine J_bipush O.mo (v := 6) dX11_doOne_312 (by decide) ?_
                refine J_iload_n O.mo dX11_doOne_314 3 rfl ?_
                refine J_imul O.mo dX11_doOne_315 ?_
                refine J_iconst O.mo (v := 3) dX11_doOne_316 (by decide) ?_
                refine J_iadd O.mo dX11_doOne_317 ?_
                refine J_dup2 O.mo dX11_doOne_318 rfl rfl ?_
                obtain ⟨hg54, h⟩ := gd_some h
                refine J_iald O.co (g := (kV κ 5 0 25)) (ct_20n (l11_25 h0) (k11_25 h0) (n11_25 h0)) hg54 dX11_doOne_319 ?_
                refine J_iconst O.mo (v := 1) dX11_doOne_320 (by decide) ?_
                refine J_iadd O.mo dX11_doOne_321 ?_
                obtain ⟨hg55, h⟩ := gd_some h
                refine row_20 O (l11_25 h0) (k11_25 h0) (n11_25 h0) hg55 (x := (((kV κ 5 0 25) ((6 * a1) + 3).toNatClampNeg) + 1)) dX11_doOne_322 ?_
                refine nm_some (P := fun z => J X B (E, z) 323 [(6, .inl (.int y3)), (5, .inl (.int y1)), (0, .inr (some (5, 0, 0))), (1, .inl (.int a1)), (2, .inl (.int a2)), (3, .inl (.int a3)), (4, .inl (.int a4))] []) h (fun κ56 h => ?_)
                refine J_iload O.mo dX11_doOne_323 6 rfl ?_
                refine J_if_ne O.mo (tgt := 345) dX11_doOne_325 (by decide) (fun hc57 => ?_) (fun hc57 => ?_)
                · replace h := (if_neg hc57).symm.trans h
                  refine J_aload_n O.mo dX11_doOne_345 2 rfl ?_
                  refine J_getF O.co (kd0 := 11) (k11_0 h0) (l11_0 h0) (C := RX11) (T := TX11) (N := 42) rfl (by decide) rfl in_X11 1 (by decide) (v := .inr (some (5, 0, 1))) rfl mw545 rfl dX11_doOne_346 ?_
                  refine J_iload O.mo dX11_doOne_349 1 rfl ?_
                  refine J_bipush O.mo (v := 50) dX11_doOne_351 (by decide) ?_
                  refine J_iadd O.mo dX11_doOne_353 ?_
                  refine J_aload_n O.mo dX11_doOne_354 2 rfl ?_
                  refine J_getF O.co (kd0 := 11) (k11_0 h0) (l11_0 h0) (C := RX11) (T := TX11) (N := 42) rfl (by decide) rfl in_X11 1 (by decide) (v := .inr (some (5, 0, 1))) rfl mw545 rfl dX11_doOne_355 ?_
                  refine J_iload O.mo dX11_doOne_358 1 rfl ?_
                  refine J_iload_n O.mo dX11_doOne_360 5 rfl ?_
                  refine J_iadd O.mo dX11_doOne_361 ?_
                  obtain ⟨hg58, h⟩ := gd_some h
                  refine J_iald O.co (g := (kV κ56 5 0 1)) (ct_20n (l11_1 h0) (k11_1 h0) (n11_1 h0)) hg58 dX11_doOne_362 ?_
                  refine J_if_ne O.mo (tgt := 370) dX11_doOne_363 (by decide) (fun hc59 => ?_) (fun hc59 => ?_)
                  · replace h := (if_neg hc59).symm.trans h
                    refine J_aload_n O.mo dX11_doOne_370 2 rfl ?_
                    refine J_getF O.co (kd0 := 11) (k11_0 h0) (l11_0 h0) (C := RX11) (T := TX11) (N := 42) rfl (by decide) rfl in_X11 41 (by decide) (v := .inl (.int (kV κ56 5 0 0 41))) rfl mw519 rfl dX11_doOne_371 ?_
                    refine J_iconst O.mo (v := 1) dX11_doOne_374 (by decide) ?_
                    refine J_iadd O.mo dX11_doOne_375 ?_
                    refine J_aload_n O.mo dX11_doOne_376 2 rfl ?_
                    refine J_getF O.co (kd0 := 11) (k11_0 h0) (l11_0 h0) (C := RX11) (T := TX11) (N := 42) rfl (by decide) rfl in_X11 1 (by decide) (v := .inr (some (5, 0, 1))) rfl mw545 rfl dX11_doOne_377 ?_
                    refine J_iload O.mo dX11_doOne_380 1 rfl ?_
                    refine J_iload_n O.mo dX11_doOne_382 5 rfl ?_
                    refine J_iadd O.mo dX11_doOne_383 ?_
                    obtain ⟨hg60, h⟩ := gd_some h
                    refine J_iald O.co (g := (kV κ56 5 0 1)) (ct_20n (l11_1 h0) (k11_1 h0) (n11_1 h0)) hg60 dX11_doOne_384 ?_
                    refine J_iadd O.mo dX11_doOne_385 ?_
                    refine J_sub [2, 1, 0] rfl ?_
                    exact w_X11_doOne_b386 hfl O hKP hmL hE h0 _ _ _ _ _ h
                  · replace h := (if_pos hc59).symm.trans h
                    refine J_iconst O.mo (v := (-1)) dX11_doOne_366 (by decide) ?_
                    refine J_goto O.mo (tgt := 386) dX11_doOne_367 (by decide) ?_
                    refine J_sub [2, 1, 0] rfl ?_
                    exact w_X11_doOne_b386 hfl O hKP hmL hE h0 _ _ _ _ _ h
                · replace h := (if_pos hc57).symm.trans h
                  refine J_aload_n O.mo dX11_doOne_328 2 rfl ?_
                  refine J_iload_n O.mo dX11_doOne_329 3 rfl ?_
                  refine J_aload_n O.mo dX11_doOne_330 2 rfl ?_
                  refine J_getF O.co (kd0 := 11) (k11_0 h0) (l11_0 h0) (C := RX11) (T := TX11) (N := 42) rfl (by decide) rfl in_X11 1 (by decide) (v := .inr (some (5, 0, 1))) rfl mw545 rfl dX11_doOne_331 ?_
                  refine J_iload O.mo dX11_doOne_334 1 rfl ?_
                  refine J_iload_n O.mo dX11_doOne_336 5 rfl ?_
                  refine J_iadd O.mo dX11_doOne_337 ?_
                  obtain ⟨hg63, h⟩ := gd_some h
                  refine J_iald O.co (g := (kV κ56 5 0 1)) (ct_20n (l11_1 h0) (k11_1 h0) (n11_1 h0)) hg63 dX11_doOne_338 ?_
                  refine J_sub [0, 1, 2] rfl ?_
                  obtain ⟨κ64, r66, hq65, h⟩ := bd_some h
                  refine J_callV O hKP (as := [.inl (.int a1), .inl (.int ((kV κ56 5 0 1) (y1 + a3).toNatClampNeg))]) (rest := []) (r := none) (c_X11_say hfl h0 hq65) rfl (kd0 := 11) (k11_0 h0) (l11_0 h0) (T := TX11) (N := 42) rfl (by decide) mw567 mw568 mw569 mw517 mw570 pd_X11_say rfl (by decide) rfl (Nat.le_of_ble_eq_true rfl) (sl_v (sl_v (sl_p (s11_0 h0) sl_0))) st_0 dX11_doOne_339 ?_
                  show J X B (E, κ64) 342 [(6, .inl (.int y3)), (5, .inl (.int y1)), (0, .inr (some (5, 0, 0)))] []
                  refine J_goto O.mo (tgt := 466) dX11_doOne_342 (by decide) ?_
                  refine J_sub [2, 1, 0] rfl ?_
                  exact w_X11_doOne_b466 hfl O hKP hmL hE h0 _ _ _ h
              · replace h := (if_neg hc53).symm.trans h
                by_cases hc67 : a2 = 7
                · replace h := (if_pos hc67).symm.trans h
                  refine J_tabIn O.mo (tgt := 390) 7 hc67 dX11_doOne_20 (by decide) (by decide) rfl (by decide) ?_
                  refine J_aload_n O.mo dX11_doOne_390 2 rfl ?_
                  refine J_getF O.co (kd0 := 11) (k11_0 h0) (l11_0 h0) (C := RX11) (T := TX11) (N := 42) rfl (by decide) rfl in_X11 25 (by decide) (v := .inr (some (5, 0, 25))) rfl mw544 rfl dX11_doOne_391 ?_
                  refine J_bipush O.mo (v := 6) dX11_doOne_394 (by decide) ?_
                  refine J_iload_n O.mo dX11_doOne_396 3 rfl ?_
                  refine J_imul O.mo dX11_doOne_397 ?_
                  refine J_iconst O.mo (v := 3) dX11_doOne_398 (by decide) ?_
                  refine J_iadd O.mo dX11_doOne_399 ?_
                  refine J_dup2 O.mo dX11_doOne_400 rfl rfl ?_
                  obtain ⟨hg68, h⟩ := gd_some h
                  refine J_iald O.co (g := (kV κ 5 0 25)) (ct_20n (l11_25 h0) (k11_25 h0) (n11_25 h0)) hg68 dX11_doOne_401 ?_
                  refine J_iconst O.mo (v := 1) dX11_doOne_402 (by decide) ?_
                  refine J_iadd O.mo dX11_doOne_403 ?_
                  obtain ⟨hg69, h⟩ := gd_some h
                  refine row_20 O (l11_25 h0) (k11_25 h0) (n11_25 h0) hg69 (x := (((kV κ 5 0 25) ((6 * a1) + 3).toNatClampNeg) + 1)) dX11_doOne_404 ?_
                  refine nm_some (P := fun z => J X B (E, z) 405 [(6, .inl (.int y3)), (5, .inl (.int y1)), (0, .inr (some (5, 0, 0))), (1, .inl (.int a1)), (2, .inl (.int a2)), (3, .inl (.int a3)), (4, .inl (.int a4))] []) h (fun κ70 h => ?_)
                  refine J_aload_n O.mo dX11_doOne_405 2 rfl ?_
                  refine J_getF O.co (kd0 := 11) (k11_0 h0) (l11_0 h0) (C := RX11) (T := TX11) (N := 42) rfl (by decide) rfl in_X11 1 (by decide) (v := .inr (some (5, 0, 1))) rfl mw545 rfl dX11_doOne_406 ?_
                  refine J_iload O.mo dX11_doOne_409 1 rfl ?_
                  refine J_iload_n O.mo dX11_doOne_411 5 rfl ?_
                  refine J_iadd O.mo dX11_doOne_412 ?_
                  refine J_iload O.mo dX11_doOne_413 6 rfl ?_
                  refine J_if_ne O.mo (tgt := 426) dX11_doOne_415 (by decide) (fun hc71 => ?_) (fun hc71 => ?_)
                  · replace h := (if_neg hc71).symm.trans h
                    refine J_iload O.mo dX11_doOne_426 6 rfl ?_
                    refine J_iconst O.mo (v := 1) dX11_doOne_428 (by decide) ?_
                    refine J_icmp_ne O.mo (tgt := 440) dX11_doOne_429 (by decide) (fun hc72 => ?_) (fun hc72 => ?_)
                    · replace h := (if_neg hc72).symm.trans h
                      refine J_aload_n O.mo dX11_doOne_440 2 rfl ?_
                      refine J_getF O.co (kd0 := 11) (k11_0 h0) (l11_0 h0) (C := RX11) (T := TX11) (N := 42) rfl (by decide) rfl in_X11 1 (by decide) (v := .inr (some (5, 0, 1))) rfl mw545 rfl dX11_doOne_441 ?_
                      refine J_iload O.mo dX11_doOne_444 1 rfl ?_
                      refine J_bipush O.mo (v := 7) dX11_doOne_446 (by decide) ?_
                      refine J_iadd O.mo dX11_doOne_448 ?_
                      obtain ⟨hg73, h⟩ := gd_some h
                      refine J_iald O.co (g := (kV κ70 5 0 1)) (ct_20n (l11_1 h0) (k11_1 h0) (n11_1 h0)) hg73 dX11_doOne_449 ?_
                      refine J_sub [2, 1, 0] rfl ?_
                      exact w_X11_doOne_b450 hfl O hKP hmL hE h0 _ _ _ _ _ h
                    · replace h := (if_pos hc72).symm.trans h
                      refine J_aload_n O.mo dX11_doOne_432 2 rfl ?_
                      refine J_iload_n O.mo dX11_doOne_433 3 rfl ?_
                      refine J_sub [0, 1, 2] rfl ?_
                      obtain ⟨κ76, r78, hq77, h⟩ := bd_some h
                      refine J_callV O hKP (as := [.inl (.int a1)]) (rest := [.inl (.int (y1 + a3)), .inr (some (5, 0, 1))]) (r := (some (.inl (.int r78)))) (c_X11_clock hfl h0 hq77) rfl (kd0 := 11) (k11_0 h0) (l11_0 h0) (T := TX11) (N := 42) rfl (by decide) mw571 mw572 mw573 mw517 mw574 pd_X11_clock rfl (by decide) rfl (Nat.le_of_ble_eq_true rfl) (sl_v (sl_v (sl_p (s11_0 h0) sl_0))) (st_v (st_p (s11_1 h0) st_0)) dX11_doOne_434 ?_
                      show J X B (E, κ76) 437 [(6, .inl (.int y3)), (5, .inl (.int y1)), (0, .inr (some (5, 0, 0)))] [.inl (.int r78), .inl (.int (y1 + a3)), .inr (some (5, 0, 1))]
                      refine J_goto O.mo (tgt := 450) dX11_doOne_437 (by decide) ?_
                      refine J_sub [2, 1, 0] rfl ?_
                      exact w_X11_doOne_b450 hfl O hKP hmL hE h0 _ _ _ _ _ h
                  · replace h := (if_pos hc71).symm.trans h
                    refine J_aload_n O.mo dX11_doOne_418 2 rfl ?_
                    refine J_iload_n O.mo dX11_doOne_419 3 rfl ?_
                    refine J_sub [0, 1, 2] rfl ?_
                    obtain ⟨κ79, r81, hq80, h⟩ := bd_some h
                    refine J_callV O hKP (as := [.inl (.int a1)]) (rest := [.inl (.int (y1 + a3)), .inr (some (5, 0, 1))]) (r := (some (.inl (.int r81)))) (c_X11_takeInput hfl h0 hq80) rfl (kd0 := 11) (k11_0 h0) (l11_0 h0) (T := TX11) (N := 42) rfl (by decide) mw575 mw576 mw577 mw517 mw578 pd_X11_takeInput rfl (by decide) rfl (Nat.le_of_ble_eq_true rfl) (sl_v (sl_v (sl_p (s11_0 h0) sl_0))) (st_v (st_p (s11_1 h0) st_0)) dX11_doOne_420 ?_
                    show J X B (E, κ79) 423 [(6, .inl (.int y3)), (5, .inl (.int y1)), (0, .inr (some (5, 0, 0)))] [.inl (.int r81), .inl (.int (y1 + a3)), .inr (some (5, 0, 1))]
                    refine J_goto O.mo (tgt := 450) dX11_doOne_423 (by decide) ?_
                    refine J_sub [2, 1, 0] rfl ?_
                    exact w_X11_doOne_b450 hfl O hKP hmL hE h0 _ _ _ _ _ h
                · replace h := (if_neg hc67).symm.trans h
                  refine J_tabOut O.mo (tgt := 454) 8 (by decide) (by decide) (tb_s (tb_s (tb_s (tb_s (tb_s (tb_s (tb_s (tb_s tb_0 (fun z => hc4 (z.trans (by decide)))) (fun z => hc9 (z.trans (by decide)))) (fun z => hc14 (z.trans (by decide)))) (fun z => hc37 (z.trans (by decide)))) (fun z => hc46 (z.trans (by decide)))) (fun z => hc49 (z.trans (by decide)))) (fun z => hc53 (z.trans (by decide)))) (fun z => hc67 (z.trans (by decide)))) dX11_doOne_20 (by decide) ?_
                  refine J_aload_n O.mo dX11_doOne_454 2 rfl ?_
                  refine J_iload_n O.mo dX11_doOne_455 3 rfl ?_
                  refine J_iload_n O.mo dX11_doOne_456 4 rfl ?_
                  refine J_iload O.mo dX11_doOne_457 6 rfl ?_
                  refine J_iload O.mo dX11_doOne_459 0 rfl ?_
                  refine J_sub [1, 2] rfl ?_
                  obtain ⟨κ82, r84, hq83, h⟩ := bd_some h
                  refine J_callV O hKP (as := [.inl (.int a1), .inl (.int a2), .inl (.int a4), .inl (.int y3)]) (rest := []) (r := (some (.inl (.int r84)))) (c_X11_doOther hfl h0 hq83) rfl (kd0 := 11) (k11_0 h0) (l11_0 h0) (T := TX11) (N := 42) rfl (by decide) mw579 mw580 mw581 mw517 mw582 pd_X11_doOther rfl (by decide) rfl (Nat.le_of_ble_eq_true rfl) (sl_v (sl_p (s11_0 h0) sl_0)) st_0 dX11_doOne_461 ?_
                  show J X B (E, κ82) 464 [(5, .inl (.int y1)), (0, .inr (some (5, 0, 0)))] [.inl (.int r84)]
                  refine J_istore O.mo (lv' := [(5, .inl (.int y1)), (0, .inr (some (5, 0, 0)))]) dX11_doOne_464 (by rw [hmL]; decide) rfl rfl ?_
                  refine J_sub [2, 1, 0] rfl ?_
                  exact w_X11_doOne_b466 hfl O hKP hmL hE h0 _ _ _ h
theorem c_X11_doOne {l : Launch} (hfl : l.stackTraces = false) {E : EE} {κ κ' : K} {a1 : Int32} {a2 : Int32} {a3 : Int32} {a4 : Int32} (h0 : PC 11 E 5 0 0) {rr : Unit} (h : f_X11_doOne E κ a1 a2 a3 a4 = some (κ', rr)) : Con l yX11_doOne cX11_doOne 10 none 4 75 [.inr (some (5, 0, 0)), .inl (.int a1), .inl (.int a2), .inl (.int a3), .inl (.int a4)] (E, κ) (E, κ') none := by
  exact Con_of hfl (by decide +kernel) (Nat.le_of_ble_eq_true rfl) rfl rfl (fun X B g O hKP hmL hE => w_X11_doOne hfl O hKP hmL hE h0 _ _ _ _ _ h)
def f_X11_run_b139 (E : EE) (κ : K) (x1 : Int32) (x2 : Int32) : Option (K × Unit) := gd (¬ ((x2 + 4) < 0 ∨ 275 ≤ (x2 + 4).toNatClampNeg)) (nm ((kV κ 5 0 1) (x2 + 4).toNatClampNeg) fun y9 => gd (¬ (x1 < 0 ∨ 5 ≤ x1.toNatClampNeg)) (if y9 < (kV κ 5 0 14) x1.toNatClampNeg then gd (¬ (((72 * x1) + (3 * y9)) < 0 ∨ 360 ≤ ((72 * x1) + (3 * y9)).toNatClampNeg)) (gd (¬ ((((72 * x1) + (3 * y9)) + 1) < 0 ∨ 360 ≤ (((72 * x1) + (3 * y9)) + 1).toNatClampNeg)) (gd (¬ ((((72 * x1) + (3 * y9)) + 2) < 0 ∨ 360 ≤ (((72 * x1) + (3 * y9)) + 2).toNatClampNeg)) (bd (f_X11_doOne E κ x1 ((kV κ 5 0 13) ((72 * x1) + (3 * y9)).toNatClampNeg) ((kV κ 5 0 13) (((72 * x1) + (3 * y9)) + 1).toNatClampNeg) ((kV κ 5 0 13) (((72 * x1) + (3 * y9)) + 2).toNatClampNeg)) fun κ15 _ => some (κ15, ())))) else gd (¬ ((x2 + 49) < 0 ∨ 275 ≤ (x2 + 49).toNatClampNeg)) (nm (setV κ 5 0 1 (x2 + 49).toNatClampNeg 2) fun κ19 => some (κ19, ()))))
def f_X11_run_b136 (E : EE) (κ : K) (x1 : Int32) (x2 : Int32) (xs0 : Int32) (xs1 : Int32) : Option (K × Unit) := bd (f_X11_goTo E κ xs1 xs0) fun κ32 _ => f_X11_run_b139 E κ32 x1 x2
def f_X11_run_b95 (E : EE) (κ : K) (x1 : Int32) (x2 : Int32) (xs0 : Int32) : Option (K × Unit) := gd (¬ ((x2 + xs0) < 0 ∨ 275 ≤ (x2 + xs0).toNatClampNeg)) (nm (setV κ 5 0 1 (x2 + xs0).toNatClampNeg 0) fun κ27 => gd (¬ (((6 * x1) + 5) < 0 ∨ 30 ≤ ((6 * x1) + 5).toNatClampNeg)) (gd (¬ (((6 * x1) + 5) < 0 ∨ 30 ≤ ((6 * x1) + 5).toNatClampNeg)) (nm (setV κ27 5 0 25 ((6 * x1) + 5).toNatClampNeg (((kV κ27 5 0 25) ((6 * x1) + 5).toNatClampNeg) + 1)) fun κ30 => if xs0 = 51 then f_X11_run_b136 E κ30 x1 x2 2 x1 else f_X11_run_b136 E κ30 x1 x2 3 x1)))
def f_X11_run_b46 (E : EE) (κ : K) (x1 : Int32) (x2 : Int32) (xs0 : Int32) : Option (K × Unit) := if xs0 = 0 then f_X11_run_b139 E κ x1 x2 else gd (¬ ((x2 + 8) < 0 ∨ 275 ≤ (x2 + 8).toNatClampNeg)) (if (kV κ 5 0 1) (x2 + 8).toNatClampNeg = 0 then gd (¬ ((x2 + 5) < 0 ∨ 275 ≤ (x2 + 5).toNatClampNeg)) (if (kV κ 5 0 1) (x2 + 5).toNatClampNeg = (-1) then f_X11_run_b139 E κ x1 x2 else gd (¬ ((x2 + 51) < 0 ∨ 275 ≤ (x2 + 51).toNatClampNeg)) (if (kV κ 5 0 1) (x2 + 51).toNatClampNeg = 1 then f_X11_run_b95 E κ x1 x2 51 else f_X11_run_b95 E κ x1 x2 52)) else f_X11_run_b139 E κ x1 x2)
def f_X11_run_b41 (E : EE) (κ : K) (x1 : Int32) (x2 : Int32) : Option (K × Unit) := f_X11_run_b46 E κ x1 x2 1
def f_X11_run (E : EE) (κ : K) (a1 : Int32) : Option (K × Unit) := nm (55 * a1) fun y1 => gd (¬ (a1 < 0 ∨ 5 ≤ a1.toNatClampNeg)) (gd (¬ (a1 < 0 ∨ 5 ≤ a1.toNatClampNeg)) (nm (setV κ 5 0 24 a1.toNatClampNeg (((kV κ 5 0 24) a1.toNatClampNeg) + 1)) fun κ4 => gd (¬ ((y1 + 51) < 0 ∨ 275 ≤ (y1 + 51).toNatClampNeg)) (if (kV κ4 5 0 1) (y1 + 51).toNatClampNeg = 1 then f_X11_run_b41 E κ4 a1 y1 else gd (¬ ((y1 + 52) < 0 ∨ 275 ≤ (y1 + 52).toNatClampNeg)) (if (kV κ4 5 0 1) (y1 + 52).toNatClampNeg = 1 then f_X11_run_b41 E κ4 a1 y1 else f_X11_run_b46 E κ4 a1 y1 0))))
set_option maxHeartbeats 4000000 in
set_option maxRecDepth 100000 in
theorem w_X11_run_b139 {l0 : Launch} (hfl : l0.stackTraces = false) {X : MX} {B : BX (EE × K)} {g : GP} {E : EE} {κ' : K} {rr : Unit} (O : CK l0 X B g cX11_run RX11 5 104) (hKP : KPok B E) (hmL : B.2.2.2.1 = 5) (hE : ∀ (pc : Nat) (lv : List (Nat × AV)), decode cX11_run pc = .ok (.return_, 1) → J X B (E, κ') pc lv []) (h0 : PC 11 E 5 0 0) : ∀ (κ : K) (x1 : Int32) (x2 : Int32), f_X11_run_b139 E κ x1 x2 = some (κ', rr) → J X B (E, κ) 139 [(0, .inr (some (5, 0, 0))), (1, .inl (.int x1)), (2, .inl (.int x2))] [] := by
  intro κ x1 x2 h
  unfold f_X11_run_b139 at h
  refine J_aload_n O.mo dX11_run_139 0 rfl ?_
  refine J_getF O.co (kd0 := 11) (k11_0 h0) (l11_0 h0) (C := RX11) (T := TX11) (N := 42) rfl (by decide) rfl in_X11 1 (by decide) (v := .inr (some (5, 0, 1))) rfl mw545 rfl dX11_run_140 ?_
  refine J_iload_n O.mo dX11_run_143 2 rfl ?_
  refine J_iconst O.mo (v := 4) dX11_run_144 (by decide) ?_
  refine J_iadd O.mo dX11_run_145 ?_
  obtain ⟨hg8, h⟩ := gd_some h
  refine J_iald O.co (g := (kV κ 5 0 1)) (ct_20n (l11_1 h0) (k11_1 h0) (n11_1 h0)) hg8 dX11_run_146 ?_
  refine J_istore O.mo (lv' := [(0, .inr (some (5, 0, 0))), (1, .inl (.int x1)), (2, .inl (.int x2))]) dX11_run_147 (by rw [hmL]; decide) rfl rfl ?_
  refine nm_some (P := fun z => J X B (E, κ) 149 [(4, .inl (.int z)), (0, .inr (some (5, 0, 0))), (1, .inl (.int x1)), (2, .inl (.int x2))] []) h (fun y9 h => ?_)
  refine J_iload O.mo dX11_run_149 0 rfl ?_
  refine J_aload_n O.mo dX11_run_151 1 rfl ?_
  refine J_getF O.co (kd0 := 11) (k11_0 h0) (l11_0 h0) (C := RX11) (T := TX11) (N := 42) rfl (by decide) rfl in_X11 14 (by decide) (v := .inr (some (5, 0, 14))) rfl mw557 rfl dX11_run_152 ?_
  refine J_iload_n O.mo dX11_run_155 2 rfl ?_
  obtain ⟨hg10, h⟩ := gd_some h
  refine J_iald O.co (g := (kV κ 5 0 14)) (ct_20n (l11_14 h0) (k11_14 h0) (n11_14 h0)) hg10 dX11_run_156 ?_
  refine J_icmp_lt O.mo (tgt := 171) dX11_run_157 (by decide) (fun hc11 => ?_) (fun hc11 => ?_)
  · replace h := (if_pos hc11).symm.trans h
    refine J_aload_n O.mo dX11_run_171 1 rfl ?_
    refine J_iload_n O.mo dX11_run_172 2 rfl ?_
    refine J_aload_n O.mo dX11_run_173 1 rfl ?_
    refine J_getF O.co (kd0 := 11) (k11_0 h0) (l11_0 h0) (C := RX11) (T := TX11) (N := 42) rfl (by decide) rfl in_X11 13 (by decide) (v := .inr (some (5, 0, 13))) rfl mw558 rfl dX11_run_174 ?_
    refine J_bipush O.mo (v := 72) dX11_run_177 (by decide) ?_
    refine J_iload_n O.mo dX11_run_179 2 rfl ?_
    refine J_imul O.mo dX11_run_180 ?_
    refine J_iconst O.mo (v := 3) dX11_run_181 (by decide) ?_
    refine J_iload O.mo dX11_run_182 0 rfl ?_
    refine J_imul O.mo dX11_run_184 ?_
    refine J_iadd O.mo dX11_run_185 ?_
    obtain ⟨hg12, h⟩ := gd_some h
    refine J_iald O.co (g := (kV κ 5 0 13)) (ct_20n (l11_13 h0) (k11_13 h0) (n11_13 h0)) hg12 dX11_run_186 ?_
    refine J_aload_n O.mo dX11_run_187 1 rfl ?_
    refine J_getF O.co (kd0 := 11) (k11_0 h0) (l11_0 h0) (C := RX11) (T := TX11) (N := 42) rfl (by decide) rfl in_X11 13 (by decide) (v := .inr (some (5, 0, 13))) rfl mw558 rfl dX11_run_188 ?_
    refine J_bipush O.mo (v := 72) dX11_run_191 (by decide) ?_
    refine J_iload_n O.mo dX11_run_193 2 rfl ?_
    refine J_imul O.mo dX11_run_194 ?_
    refine J_iconst O.mo (v := 3) dX11_run_195 (by decide) ?_
    refine J_iload O.mo dX11_run_196 0 rfl ?_
    refine J_imul O.mo dX11_run_198 ?_
    refine J_iadd O.mo dX11_run_199 ?_
    refine J_iconst O.mo (v := 1) dX11_run_200 (by decide) ?_
    refine J_iadd O.mo dX11_run_201 ?_
    obtain ⟨hg13, h⟩ := gd_some h
    refine J_iald O.co (g := (kV κ 5 0 13)) (ct_20n (l11_13 h0) (k11_13 h0) (n11_13 h0)) hg13 dX11_run_202 ?_
    refine J_aload_n O.mo dX11_run_203 1 rfl ?_
    refine J_getF O.co (kd0 := 11) (k11_0 h0) (l11_0 h0) (C := RX11) (T := TX11) (N := 42) rfl (by decide) rfl in_X11 13 (by decide) (v := .inr (some (5, 0, 13))) rfl mw558 rfl dX11_run_204 ?_
    refine J_bipush O.mo (v := 72) dX11_run_207 (by decide) ?_
    refine J_iload_n O.mo dX11_run_209 2 rfl ?_
    refine J_imul O.mo dX11_run_210 ?_
    refine J_iconst O.mo (v := 3) dX11_run_211 (by decide) ?_
    refine J_iload O.mo dX11_run_212 0 rfl ?_
    refine J_imul O.mo dX11_run_214 ?_
    refine J_iadd O.mo dX11_run_215 ?_
    refine J_iconst O.mo (v := 2) dX11_run_216 (by decide) ?_
    refine J_iadd O.mo dX11_run_217 ?_
    obtain ⟨hg14, h⟩ := gd_some h
    refine J_iald O.co (g := (kV κ 5 0 13)) (ct_20n (l11_13 h0) (k11_13 h0) (n11_13 h0)) hg14 dX11_run_218 ?_
    refine J_sub [] rfl ?_
    obtain ⟨κ15, r17, hq16, h⟩ := bd_some h
    refine J_callV O hKP (as := [.inl (.int x1), .inl (.int ((kV κ 5 0 13) ((72 * x1) + (3 * y9)).toNatClampNeg)), .inl (.int ((kV κ 5 0 13) (((72 * x1) + (3 * y9)) + 1).toNatClampNeg)), .inl (.int ((kV κ 5 0 13) (((72 * x1) + (3 * y9)) + 2).toNatClampNeg))]) (rest := []) (r := none) (c_X11_doOne hfl h0 hq16) rfl (kd0 := 11) (k11_0 h0) (l11_0 h0) (T := TX11) (N := 42) rfl (by decide) mw583 mw584 mw585 mw517 mw586 pd_X11_doOne rfl (by decide) rfl (Nat.le_of_ble_eq_true rfl) sl_0 st_0 dX11_run_219 ?_
    show J X B (E, κ15) 222 [] []
    cases h
    exact hE _ _ dX11_run_222
  · replace h := (if_neg hc11).symm.trans h
    refine J_aload_n O.mo dX11_run_160 1 rfl ?_
    refine J_getF O.co (kd0 := 11) (k11_0 h0) (l11_0 h0) (C := RX11) (T := TX11) (N := 42) rfl (by decide) rfl in_X11 1 (by decide) (v := .inr (some (5, 0, 1))) rfl mw545 rfl dX11_run_161 ?_
    refine J_iload_n O.mo dX11_run_164 3 rfl ?_
    refine J_bipush O.mo (v := 49) dX11_run_165 (by decide) ?_
    refine J_iadd O.mo dX11_run_167 ?_
    refine J_iconst O.mo (v := 2) dX11_run_168 (by decide) ?_
    obtain ⟨hg18, h⟩ := gd_some h
    refine row_20 O (l11_1 h0) (k11_1 h0) (n11_1 h0) hg18 (x := 2) dX11_run_169 ?_
    refine nm_some (P := fun z => J X B (E, z) 170 [(4, .inl (.int y9)), (0, .inr (some (5, 0, 0))), (1, .inl (.int x1)), (2, .inl (.int x2))] []) h (fun κ19 h => ?_)
    cases h
    exact hE _ _ dX11_run_170
set_option maxHeartbeats 4000000 in
set_option maxRecDepth 100000 in
theorem w_X11_run_b136 {l0 : Launch} (hfl : l0.stackTraces = false) {X : MX} {B : BX (EE × K)} {g : GP} {E : EE} {κ' : K} {rr : Unit} (O : CK l0 X B g cX11_run RX11 5 104) (hKP : KPok B E) (hmL : B.2.2.2.1 = 5) (hE : ∀ (pc : Nat) (lv : List (Nat × AV)), decode cX11_run pc = .ok (.return_, 1) → J X B (E, κ') pc lv []) (h0 : PC 11 E 5 0 0) : ∀ (κ : K) (x1 : Int32) (x2 : Int32) (xs0 : Int32) (xs1 : Int32), f_X11_run_b136 E κ x1 x2 xs0 xs1 = some (κ', rr) → J X B (E, κ) 136 [(0, .inr (some (5, 0, 0))), (1, .inl (.int x1)), (2, .inl (.int x2))] [.inl (.int xs0), .inl (.int xs1), .inr (some (5, 0, 0))] := by
  intro κ x1 x2 xs0 xs1 h
  unfold f_X11_run_b136 at h
  obtain ⟨κ32, r34, hq33, h⟩ := bd_some h
  refine J_callV O hKP (as := [.inl (.int xs1), .inl (.int xs0)]) (rest := []) (r := none) (c_X11_goTo hfl h0 hq33) rfl (kd0 := 11) (k11_0 h0) (l11_0 h0) (T := TX11) (N := 42) rfl (by decide) mw546 mw547 mw548 mw517 mw549 pd_X11_goTo rfl (by decide) rfl (Nat.le_of_ble_eq_true rfl) (sl_p (s11_0 h0) (sl_v (sl_v sl_0))) st_0 dX11_run_136 ?_
  show J X B (E, κ32) 139 [(0, .inr (some (5, 0, 0))), (1, .inl (.int x1)), (2, .inl (.int x2))] []
  exact w_X11_run_b139 hfl O hKP hmL hE h0 _ _ _ h
set_option maxHeartbeats 4000000 in
set_option maxRecDepth 100000 in
theorem w_X11_run_b95 {l0 : Launch} (hfl : l0.stackTraces = false) {X : MX} {B : BX (EE × K)} {g : GP} {E : EE} {κ' : K} {rr : Unit} (O : CK l0 X B g cX11_run RX11 5 104) (hKP : KPok B E) (hmL : B.2.2.2.1 = 5) (hE : ∀ (pc : Nat) (lv : List (Nat × AV)), decode cX11_run pc = .ok (.return_, 1) → J X B (E, κ') pc lv []) (h0 : PC 11 E 5 0 0) : ∀ (κ : K) (x1 : Int32) (x2 : Int32) (xs0 : Int32), f_X11_run_b95 E κ x1 x2 xs0 = some (κ', rr) → J X B (E, κ) 95 [(0, .inr (some (5, 0, 0))), (1, .inl (.int x1)), (2, .inl (.int x2))] [.inl (.int xs0)] := by
  intro κ x1 x2 xs0 h
  unfold f_X11_run_b95 at h
  refine J_istore O.mo (lv' := [(0, .inr (some (5, 0, 0))), (1, .inl (.int x1)), (2, .inl (.int x2))]) dX11_run_95 (by rw [hmL]; decide) rfl rfl ?_
  refine J_aload_n O.mo dX11_run_97 1 rfl ?_
  refine J_getF O.co (kd0 := 11) (k11_0 h0) (l11_0 h0) (C := RX11) (T := TX11) (N := 42) rfl (by decide) rfl in_X11 1 (by decide) (v := .inr (some (5, 0, 1))) rfl mw545 rfl dX11_run_98 ?_
  refine J_iload_n O.mo dX11_run_101 3 rfl ?_
  refine J_iload O.mo dX11_run_102 0 rfl ?_
  refine J_iadd O.mo dX11_run_104 ?_
  refine J_iconst O.mo (v := 0) dX11_run_105 (by decide) ?_
  obtain ⟨hg26, h⟩ := gd_some h
  refine row_20 O (l11_1 h0) (k11_1 h0) (n11_1 h0) hg26 (x := 0) dX11_run_106 ?_
  refine nm_some (P := fun z => J X B (E, z) 107 [(4, .inl (.int xs0)), (0, .inr (some (5, 0, 0))), (1, .inl (.int x1)), (2, .inl (.int x2))] []) h (fun κ27 h => ?_)
  refine J_aload_n O.mo dX11_run_107 1 rfl ?_
  refine J_getF O.co (kd0 := 11) (k11_0 h0) (l11_0 h0) (C := RX11) (T := TX11) (N := 42) rfl (by decide) rfl in_X11 25 (by decide) (v := .inr (some (5, 0, 25))) rfl mw544 rfl dX11_run_108 ?_
  refine J_bipush O.mo (v := 6) dX11_run_111 (by decide) ?_
  refine J_iload_n O.mo dX11_run_113 2 rfl ?_
  refine J_imul O.mo dX11_run_114 ?_
  refine J_iconst O.mo (v := 5) dX11_run_115 (by decide) ?_
  refine J_iadd O.mo dX11_run_116 ?_
  refine J_dup2 O.mo dX11_run_117 rfl rfl ?_
  obtain ⟨hg28, h⟩ := gd_some h
  refine J_iald O.co (g := (kV κ27 5 0 25)) (ct_20n (l11_25 h0) (k11_25 h0) (n11_25 h0)) hg28 dX11_run_118 ?_
  refine J_iconst O.mo (v := 1) dX11_run_119 (by decide) ?_
  refine J_iadd O.mo dX11_run_120 ?_
  obtain ⟨hg29, h⟩ := gd_some h
  refine row_20 O (l11_25 h0) (k11_25 h0) (n11_25 h0) hg29 (x := (((kV κ27 5 0 25) ((6 * x1) + 5).toNatClampNeg) + 1)) dX11_run_121 ?_
  refine nm_some (P := fun z => J X B (E, z) 122 [(4, .inl (.int xs0)), (0, .inr (some (5, 0, 0))), (1, .inl (.int x1)), (2, .inl (.int x2))] []) h (fun κ30 h => ?_)
  refine J_aload_n O.mo dX11_run_122 1 rfl ?_
  refine J_iload_n O.mo dX11_run_123 2 rfl ?_
  refine J_iload O.mo dX11_run_124 0 rfl ?_
  refine J_bipush O.mo (v := 51) dX11_run_126 (by decide) ?_
  refine J_icmp_ne O.mo (tgt := 135) dX11_run_128 (by decide) (fun hc31 => ?_) (fun hc31 => ?_)
  · replace h := (if_neg hc31).symm.trans h
    refine J_iconst O.mo (v := 3) dX11_run_135 (by decide) ?_
    refine J_sub [1, 2, 3] rfl ?_
    exact w_X11_run_b136 hfl O hKP hmL hE h0 _ _ _ _ _ h
  · replace h := (if_pos hc31).symm.trans h
    refine J_iconst O.mo (v := 2) dX11_run_131 (by decide) ?_
    refine J_goto O.mo (tgt := 136) dX11_run_132 (by decide) ?_
    refine J_sub [1, 2, 3] rfl ?_
    exact w_X11_run_b136 hfl O hKP hmL hE h0 _ _ _ _ _ h
set_option maxHeartbeats 4000000 in
set_option maxRecDepth 100000 in
theorem w_X11_run_b46 {l0 : Launch} (hfl : l0.stackTraces = false) {X : MX} {B : BX (EE × K)} {g : GP} {E : EE} {κ' : K} {rr : Unit} (O : CK l0 X B g cX11_run RX11 5 104) (hKP : KPok B E) (hmL : B.2.2.2.1 = 5) (hE : ∀ (pc : Nat) (lv : List (Nat × AV)), decode cX11_run pc = .ok (.return_, 1) → J X B (E, κ') pc lv []) (h0 : PC 11 E 5 0 0) : ∀ (κ : K) (x1 : Int32) (x2 : Int32) (xs0 : Int32), f_X11_run_b46 E κ x1 x2 xs0 = some (κ', rr) → J X B (E, κ) 46 [(0, .inr (some (5, 0, 0))), (1, .inl (.int x1)), (2, .inl (.int x2))] [.inl (.int xs0)] := by
  intro κ x1 x2 xs0 h
  unfold f_X11_run_b46 at h
  refine J_istore_n O.mo (lv' := [(0, .inr (some (5, 0, 0))), (1, .inl (.int x1)), (2, .inl (.int x2))]) dX11_run_46 (by rw [hmL]; decide) rfl rfl ?_
  refine J_iload_n O.mo dX11_run_47 0 rfl ?_
  refine J_if_eq O.mo (tgt := 139) dX11_run_48 (by decide) (fun hc7 => ?_) (fun hc7 => ?_)
  · replace h := (if_pos hc7).symm.trans h
    refine J_sub [1, 2, 3] rfl ?_
    exact w_X11_run_b139 hfl O hKP hmL hE h0 _ _ _ h
  · replace h := (if_neg hc7).symm.trans h
    refine J_aload_n O.mo dX11_run_51 1 rfl ?_
    refine J_getF O.co (kd0 := 11) (k11_0 h0) (l11_0 h0) (C := RX11) (T := TX11) (N := 42) rfl (by decide) rfl in_X11 1 (by decide) (v := .inr (some (5, 0, 1))) rfl mw545 rfl dX11_run_52 ?_
    refine J_iload_n O.mo dX11_run_55 3 rfl ?_
    refine J_bipush O.mo (v := 8) dX11_run_56 (by decide) ?_
    refine J_iadd O.mo dX11_run_58 ?_
    obtain ⟨hg20, h⟩ := gd_some h
    refine J_iald O.co (g := (kV κ 5 0 1)) (ct_20n (l11_1 h0) (k11_1 h0) (n11_1 h0)) hg20 dX11_run_59 ?_
    refine J_if_ne O.mo (tgt := 139) dX11_run_60 (by decide) (fun hc21 => ?_) (fun hc21 => ?_)
    · replace h := (if_neg hc21).symm.trans h
      refine J_sub [1, 2, 3] rfl ?_
      exact w_X11_run_b139 hfl O hKP hmL hE h0 _ _ _ h
    · replace h := (if_pos hc21).symm.trans h
      refine J_aload_n O.mo dX11_run_63 1 rfl ?_
      refine J_getF O.co (kd0 := 11) (k11_0 h0) (l11_0 h0) (C := RX11) (T := TX11) (N := 42) rfl (by decide) rfl in_X11 1 (by decide) (v := .inr (some (5, 0, 1))) rfl mw545 rfl dX11_run_64 ?_
      refine J_iload_n O.mo dX11_run_67 3 rfl ?_
      refine J_iconst O.mo (v := 5) dX11_run_68 (by decide) ?_
      refine J_iadd O.mo dX11_run_69 ?_
      obtain ⟨hg22, h⟩ := gd_some h
      refine J_iald O.co (g := (kV κ 5 0 1)) (ct_20n (l11_1 h0) (k11_1 h0) (n11_1 h0)) hg22 dX11_run_70 ?_
      refine J_iconst O.mo (v := (-1)) dX11_run_71 (by decide) ?_
      refine J_icmp_eq O.mo (tgt := 139) dX11_run_72 (by decide) (fun hc23 => ?_) (fun hc23 => ?_)
      · replace h := (if_pos hc23).symm.trans h
        refine J_sub [1, 2, 3] rfl ?_
        exact w_X11_run_b139 hfl O hKP hmL hE h0 _ _ _ h
      · replace h := (if_neg hc23).symm.trans h
        refine J_aload_n O.mo dX11_run_75 1 rfl ?_
        refine J_getF O.co (kd0 := 11) (k11_0 h0) (l11_0 h0) (C := RX11) (T := TX11) (N := 42) rfl (by decide) rfl in_X11 1 (by decide) (v := .inr (some (5, 0, 1))) rfl mw545 rfl dX11_run_76 ?_
        refine J_iload_n O.mo dX11_run_79 3 rfl ?_
        refine J_bipush O.mo (v := 51) dX11_run_80 (by decide) ?_
        refine J_iadd O.mo dX11_run_82 ?_
        obtain ⟨hg24, h⟩ := gd_some h
        refine J_iald O.co (g := (kV κ 5 0 1)) (ct_20n (l11_1 h0) (k11_1 h0) (n11_1 h0)) hg24 dX11_run_83 ?_
        refine J_iconst O.mo (v := 1) dX11_run_84 (by decide) ?_
        refine J_icmp_ne O.mo (tgt := 93) dX11_run_85 (by decide) (fun hc25 => ?_) (fun hc25 => ?_)
        · replace h := (if_neg hc25).symm.trans h
          refine J_bipush O.mo (v := 52) dX11_run_93 (by decide) ?_
          refine J_sub [1, 2, 3] rfl ?_
          exact w_X11_run_b95 hfl O hKP hmL hE h0 _ _ _ _ h
        · replace h := (if_pos hc25).symm.trans h
          refine J_bipush O.mo (v := 51) dX11_run_88 (by decide) ?_
          refine J_goto O.mo (tgt := 95) dX11_run_90 (by decide) ?_
          refine J_sub [1, 2, 3] rfl ?_
          exact w_X11_run_b95 hfl O hKP hmL hE h0 _ _ _ _ h
set_option maxHeartbeats 4000000 in
set_option maxRecDepth 100000 in
theorem w_X11_run_b41 {l0 : Launch} (hfl : l0.stackTraces = false) {X : MX} {B : BX (EE × K)} {g : GP} {E : EE} {κ' : K} {rr : Unit} (O : CK l0 X B g cX11_run RX11 5 104) (hKP : KPok B E) (hmL : B.2.2.2.1 = 5) (hE : ∀ (pc : Nat) (lv : List (Nat × AV)), decode cX11_run pc = .ok (.return_, 1) → J X B (E, κ') pc lv []) (h0 : PC 11 E 5 0 0) : ∀ (κ : K) (x1 : Int32) (x2 : Int32), f_X11_run_b41 E κ x1 x2 = some (κ', rr) → J X B (E, κ) 41 [(0, .inr (some (5, 0, 0))), (1, .inl (.int x1)), (2, .inl (.int x2))] [] := by
  intro κ x1 x2 h
  unfold f_X11_run_b41 at h
  refine J_iconst O.mo (v := 1) dX11_run_41 (by decide) ?_
  refine J_goto O.mo (tgt := 46) dX11_run_42 (by decide) ?_
  exact w_X11_run_b46 hfl O hKP hmL hE h0 _ _ _ _ h
set_option maxHeartbeats 4000000 in
set_option maxRecDepth 100000 in
theorem w_X11_run {l0 : Launch} (hfl : l0.stackTraces = false) {X : MX} {B : BX (EE × K)} {g : GP} {E : EE} {κ' : K} {rr : Unit} (O : CK l0 X B g cX11_run RX11 5 104) (hKP : KPok B E) (hmL : B.2.2.2.1 = 5) (hE : ∀ (pc : Nat) (lv : List (Nat × AV)), decode cX11_run pc = .ok (.return_, 1) → J X B (E, κ') pc lv []) (h0 : PC 11 E 5 0 0) : ∀ (κ : K) (a1 : Int32), f_X11_run E κ a1 = some (κ', rr) → J X B (E, κ) 0 [(0, .inr (some (5, 0, 0))), (1, .inl (.int a1))] [] := by
  intro κ a1 h
  unfold f_X11_run at h
  refine J_bipush O.mo (v := 55) dX11_run_0 (by decide) ?_
  refine J_iload_n O.mo dX11_run_2 1 rfl ?_
  refine J_imul O.mo dX11_run_3 ?_
  refine J_istore_n O.mo (lv' := [(0, .inr (some (5, 0, 0))), (1, .inl (.int a1))]) dX11_run_4 (by rw [hmL]; decide) rfl rfl ?_
  refine nm_some (P := fun z => J X B (E, κ) 5 [(2, .inl (.int z)), (0, .inr (some (5, 0, 0))), (1, .inl (.int a1))] []) h (fun y1 h => ?_)
  refine J_aload_n O.mo dX11_run_5 1 rfl ?_
  refine J_getF O.co (kd0 := 11) (k11_0 h0) (l11_0 h0) (C := RX11) (T := TX11) (N := 42) rfl (by decide) rfl in_X11 24 (by decide) (v := .inr (some (5, 0, 24))) rfl mw556 rfl dX11_run_6 ?_
  refine J_iload_n O.mo dX11_run_9 2 rfl ?_
  refine J_dup2 O.mo dX11_run_10 rfl rfl ?_
  obtain ⟨hg2, h⟩ := gd_some h
  refine J_iald O.co (g := (kV κ 5 0 24)) (ct_20n (l11_24 h0) (k11_24 h0) (n11_24 h0)) hg2 dX11_run_11 ?_
  refine J_iconst O.mo (v := 1) dX11_run_12 (by decide) ?_
  refine J_iadd O.mo dX11_run_13 ?_
  obtain ⟨hg3, h⟩ := gd_some h
  refine row_20 O (l11_24 h0) (k11_24 h0) (n11_24 h0) hg3 (x := (((kV κ 5 0 24) a1.toNatClampNeg) + 1)) dX11_run_14 ?_
  refine nm_some (P := fun z => J X B (E, z) 15 [(2, .inl (.int y1)), (0, .inr (some (5, 0, 0))), (1, .inl (.int a1))] []) h (fun κ4 h => ?_)
  refine J_aload_n O.mo dX11_run_15 1 rfl ?_
  refine J_getF O.co (kd0 := 11) (k11_0 h0) (l11_0 h0) (C := RX11) (T := TX11) (N := 42) rfl (by decide) rfl in_X11 1 (by decide) (v := .inr (some (5, 0, 1))) rfl mw545 rfl dX11_run_16 ?_
  refine J_iload_n O.mo dX11_run_19 0 rfl ?_
  refine J_bipush O.mo (v := 51) dX11_run_20 (by decide) ?_
  refine J_iadd O.mo dX11_run_22 ?_
  obtain ⟨hg5, h⟩ := gd_some h
  refine J_iald O.co (g := (kV κ4 5 0 1)) (ct_20n (l11_1 h0) (k11_1 h0) (n11_1 h0)) hg5 dX11_run_23 ?_
  refine J_iconst O.mo (v := 1) dX11_run_24 (by decide) ?_
  refine J_icmp_eq O.mo (tgt := 41) dX11_run_25 (by decide) (fun hc6 => ?_) (fun hc6 => ?_)
  · replace h := (if_pos hc6).symm.trans h
    refine J_sub [1, 2, 0] rfl ?_
    exact w_X11_run_b41 hfl O hKP hmL hE h0 _ _ _ h
  · replace h := (if_neg hc6).symm.trans h
    refine J_aload_n O.mo dX11_run_28 1 rfl ?_
    refine J_getF O.co (kd0 := 11) (k11_0 h0) (l11_0 h0) (C := RX11) (T := TX11) (N := 42) rfl (by decide) rfl in_X11 1 (by decide) (v := .inr (some (5, 0, 1))) rfl mw545 rfl dX11_run_29 ?_
    refine J_iload_n O.mo dX11_run_32 0 rfl ?_
    refine J_bipush O.mo (v := 52) dX11_run_33 (by decide) ?_
    refine J_iadd O.mo dX11_run_35 ?_
    obtain ⟨hg35, h⟩ := gd_some h
    refine J_iald O.co (g := (kV κ4 5 0 1)) (ct_20n (l11_1 h0) (k11_1 h0) (n11_1 h0)) hg35 dX11_run_36 ?_
    refine J_iconst O.mo (v := 1) dX11_run_37 (by decide) ?_
    refine J_icmp_ne O.mo (tgt := 45) dX11_run_38 (by decide) (fun hc36 => ?_) (fun hc36 => ?_)
    · replace h := (if_neg hc36).symm.trans h
      refine J_iconst O.mo (v := 0) dX11_run_45 (by decide) ?_
      refine J_sub [1, 2, 0] rfl ?_
      exact w_X11_run_b46 hfl O hKP hmL hE h0 _ _ _ _ h
    · replace h := (if_pos hc36).symm.trans h
      refine J_sub [1, 2, 0] rfl ?_
      exact w_X11_run_b41 hfl O hKP hmL hE h0 _ _ _ h
theorem c_X11_run {l : Launch} (hfl : l.stackTraces = false) {E : EE} {κ κ' : K} {a1 : Int32} (h0 : PC 11 E 5 0 0) {rr : Unit} (h : f_X11_run E κ a1 = some (κ', rr)) : Con l yX11_run cX11_run 5 none 5 104 [.inr (some (5, 0, 0)), .inl (.int a1)] (E, κ) (E, κ') none := by
  exact Con_of hfl (by decide +kernel) (Nat.le_of_ble_eq_true rfl) rfl rfl (fun X B g O hKP hmL hE => w_X11_run hfl O hKP hmL hE h0 _ _ h)
def f_X11_canRun_e (E : EE) (κ : K) (a1 : Int32) (a2 : Int32) : Option (K × Int32) := gd (¬ (a1 < 0 ∨ 5 ≤ a1.toNatClampNeg)) (if (kV κ 5 0 15) a1.toNatClampNeg = a2 then gd (¬ (((55 * a1) + 49) < 0 ∨ 275 ≤ ((55 * a1) + 49).toNatClampNeg)) (if (kV κ 5 0 1) ((55 * a1) + 49).toNatClampNeg = 0 then gd (¬ (a1 < 0 ∨ 5 ≤ a1.toNatClampNeg)) (if (kV κ 5 0 18) a1.toNatClampNeg = 0 then some (κ, 1) else some (κ, 0)) else some (κ, 0)) else some (κ, 0))
def f_X11_canRun (E : EE) (κ : K) (a1 : Int32) (a2 : Int32) : Option (K × Int32) := bd (f_X11_canRun_e E κ a1 a2) fun κ x => gd (x = 0 ∨ x = 1) (some (κ, x))
set_option maxHeartbeats 4000000 in
set_option maxRecDepth 100000 in
theorem w_X11_canRun_e {l0 : Launch} (hfl : l0.stackTraces = false) {X : MX} {B : BX (EE × K)} {g : GP} {E : EE} {κ' : K} {rr : Int32} (O : CK l0 X B g cX11_canRun RX11 1 0) (hKP : KPok B E) (hmL : B.2.2.2.1 = 3) (hE : ∀ (pc : Nat) (lv : List (Nat × AV)), decode cX11_canRun pc = .ok (.ireturn, 1) → J X B (E, κ') pc lv [.inl (.int rr)]) (h0 : PC 11 E 5 0 0) : ∀ (κ : K) (a1 : Int32) (a2 : Int32), f_X11_canRun_e E κ a1 a2 = some (κ', rr) → J X B (E, κ) 0 [(0, .inr (some (5, 0, 0))), (1, .inl (.int a1)), (2, .inl (.int a2))] [] := by
  intro κ a1 a2 h
  unfold f_X11_canRun_e at h
  refine J_aload_n O.mo dX11_canRun_0 0 rfl ?_
  refine J_getF O.co (kd0 := 11) (k11_0 h0) (l11_0 h0) (C := RX11) (T := TX11) (N := 42) rfl (by decide) rfl in_X11 15 (by decide) (v := .inr (some (5, 0, 15))) rfl mw526 rfl dX11_canRun_1 ?_
  refine J_iload_n O.mo dX11_canRun_4 1 rfl ?_
  obtain ⟨hg1, h⟩ := gd_some h
  refine J_iald O.co (g := (kV κ 5 0 15)) (ct_20n (l11_15 h0) (k11_15 h0) (n11_15 h0)) hg1 dX11_canRun_5 ?_
  refine J_iload_n O.mo dX11_canRun_6 2 rfl ?_
  refine J_icmp_ne O.mo (tgt := 38) dX11_canRun_7 (by decide) (fun hc2 => ?_) (fun hc2 => ?_)
  · replace h := (if_neg hc2).symm.trans h
    refine J_iconst O.mo (v := 0) dX11_canRun_38 (by decide) ?_
    cases h
    exact hE _ _ dX11_canRun_39
  · replace h := (if_pos hc2).symm.trans h
    refine J_aload_n O.mo dX11_canRun_10 0 rfl ?_
    refine J_getF O.co (kd0 := 11) (k11_0 h0) (l11_0 h0) (C := RX11) (T := TX11) (N := 42) rfl (by decide) rfl in_X11 1 (by decide) (v := .inr (some (5, 0, 1))) rfl mw545 rfl dX11_canRun_11 ?_
    refine J_bipush O.mo (v := 55) dX11_canRun_14 (by decide) ?_
    refine J_iload_n O.mo dX11_canRun_16 1 rfl ?_
    refine J_imul O.mo dX11_canRun_17 ?_
    refine J_bipush O.mo (v := 49) dX11_canRun_18 (by decide) ?_
    refine J_iadd O.mo dX11_canRun_20 ?_
    obtain ⟨hg3, h⟩ := gd_some h
    refine J_iald O.co (g := (kV κ 5 0 1)) (ct_20n (l11_1 h0) (k11_1 h0) (n11_1 h0)) hg3 dX11_canRun_21 ?_
    refine J_if_ne O.mo (tgt := 38) dX11_canRun_22 (by decide) (fun hc4 => ?_) (fun hc4 => ?_)
    · replace h := (if_neg hc4).symm.trans h
      refine J_iconst O.mo (v := 0) dX11_canRun_38 (by decide) ?_
      cases h
      exact hE _ _ dX11_canRun_39
    · replace h := (if_pos hc4).symm.trans h
      refine J_aload_n O.mo dX11_canRun_25 0 rfl ?_
      refine J_getF O.co (kd0 := 11) (k11_0 h0) (l11_0 h0) (C := RX11) (T := TX11) (N := 42) rfl (by decide) rfl in_X11 18 (by decide) (v := .inr (some (5, 0, 18))) rfl mw587 rfl dX11_canRun_26 ?_
      refine J_iload_n O.mo dX11_canRun_29 1 rfl ?_
      obtain ⟨hg5, h⟩ := gd_some h
      refine J_bald O.co (g := (kV κ 5 0 18)) (ct_22n (l11_18 h0) (k11_18 h0) (n11_18 h0)) hg5 dX11_canRun_30 ?_
      refine J_if_ne O.mo (tgt := 38) dX11_canRun_31 (by decide) (fun hc6 => ?_) (fun hc6 => ?_)
      · replace h := (if_neg hc6).symm.trans h
        refine J_iconst O.mo (v := 0) dX11_canRun_38 (by decide) ?_
        cases h
        exact hE _ _ dX11_canRun_39
      · replace h := (if_pos hc6).symm.trans h
        refine J_iconst O.mo (v := 1) dX11_canRun_34 (by decide) ?_
        refine J_goto O.mo (tgt := 39) dX11_canRun_35 (by decide) ?_
        cases h
        exact hE _ _ dX11_canRun_39
theorem c_X11_canRun {l : Launch} (hfl : l.stackTraces = false) {E : EE} {κ κ' : K} {a1 : Int32} {a2 : Int32} (h0 : PC 11 E 5 0 0) {rr : Int32} (h : f_X11_canRun E κ a1 a2 = some (κ', rr)) : Con l yX11_canRun cX11_canRun 3 (some .boolean) 1 0 [.inr (some (5, 0, 0)), .inl (.int a1), .inl (.int a2)] (E, κ) (E, κ') (some (.inl (.int rr))) := by
  unfold f_X11_canRun at h
  obtain ⟨κ1, x1, q1, q2⟩ := bd_some h
  obtain ⟨hb, q3⟩ := gd_some q2
  cases q3
  exact Con_of hfl (by decide +kernel) (Nat.le_of_ble_eq_true rfl) rfl ⟨_, rfl, nar_b hb⟩ (fun X B g O hKP hmL hE => w_X11_canRun_e hfl O hKP hmL hE h0 _ _ _ q1)
def f_X11_chosen_b78 (E : EE) (κ : K) (x1 : Int32) (x4 : Int32) : Option (K × Int32) := gd (¬ (x1 < 0 ∨ 2 ≤ x1.toNatClampNeg)) (nm (setV κ 5 0 39 x1.toNatClampNeg x4) fun κ13 => gd (¬ (x1 < 0 ∨ 2 ≤ x1.toNatClampNeg)) (nm (setV κ13 5 0 40 x1.toNatClampNeg 1) fun κ15 => some (κ15, x4)))
def f_X11_chosen_b50 (E : EE) : Nat → K → Int32 → Int32 → Int32 → Option (K × Int32)
  | 0, _, _, _, _ => none
  | n + 1, κ, x1, x2, x3 => if kV κ 5 0 0 26 < x3 then some (κ, (-1)) else gd (¬ kV κ 5 0 0 26 = 0) (nm ((x2 + x3) - (x2 + x3) / (kV κ 5 0 0 26) * (kV κ 5 0 0 26)) fun y6 => bd (f_X11_canRun E κ y6 x1) fun κ7 r9 => if r9 = 0 then nm (x3 + 1) fun y11 => f_X11_chosen_b50 E n κ7 x1 x2 y11 else f_X11_chosen_b78 E κ7 x1 y6)
def f_X11_chosen_b48 (E : EE) (κ : K) (x1 : Int32) (x2 : Int32) : Option (K × Int32) := f_X11_chosen_b50 E FU κ x1 x2 1
def f_X11_chosen (E : EE) (κ : K) (a1 : Int32) : Option (K × Int32) := gd (¬ (a1 < 0 ∨ 2 ≤ a1.toNatClampNeg)) (nm ((kV κ 5 0 39) a1.toNatClampNeg) fun y2 => if y2 = (-1) then f_X11_chosen_b48 E κ a1 y2 else bd (f_X11_canRun E κ y2 a1) fun κ16 r18 => if r18 = 0 then f_X11_chosen_b48 E κ16 a1 y2 else gd (¬ (a1 < 0 ∨ 2 ≤ a1.toNatClampNeg)) (gd (¬ (y2 < 0 ∨ 5 ≤ y2.toNatClampNeg)) (if (kV κ16 5 0 16) y2.toNatClampNeg ≤ (kV κ16 5 0 40) a1.toNatClampNeg then f_X11_chosen_b48 E κ16 a1 y2 else gd (¬ (a1 < 0 ∨ 2 ≤ a1.toNatClampNeg)) (gd (¬ (a1 < 0 ∨ 2 ≤ a1.toNatClampNeg)) (nm (setV κ16 5 0 40 a1.toNatClampNeg (((kV κ16 5 0 40) a1.toNatClampNeg) + 1)) fun κ25 => some (κ25, y2))))))
set_option maxHeartbeats 4000000 in
set_option maxRecDepth 100000 in
theorem w_X11_chosen_b78 {l0 : Launch} (hfl : l0.stackTraces = false) {X : MX} {B : BX (EE × K)} {g : GP} {E : EE} {κ' : K} {rr : Int32} (O : CK l0 X B g cX11_chosen RX11 2 22) (hKP : KPok B E) (hmL : B.2.2.2.1 = 5) (hE : ∀ (pc : Nat) (lv : List (Nat × AV)), decode cX11_chosen pc = .ok (.ireturn, 1) → J X B (E, κ') pc lv [.inl (.int rr)]) (h0 : PC 11 E 5 0 0) : ∀ (κ : K) (x1 : Int32) (x4 : Int32), f_X11_chosen_b78 E κ x1 x4 = some (κ', rr) → J X B (E, κ) 78 [(0, .inr (some (5, 0, 0))), (1, .inl (.int x1)), (4, .inl (.int x4))] [] := by
  intro κ x1 x4 h
  unfold f_X11_chosen_b78 at h
  refine J_aload_n O.mo dX11_chosen_78 0 rfl ?_
  refine J_getF O.co (kd0 := 11) (k11_0 h0) (l11_0 h0) (C := RX11) (T := TX11) (N := 42) rfl (by decide) rfl in_X11 39 (by decide) (v := .inr (some (5, 0, 39))) rfl mw588 rfl dX11_chosen_79 ?_
  refine J_iload_n O.mo dX11_chosen_82 1 rfl ?_
  refine J_iload O.mo dX11_chosen_83 2 rfl ?_
  obtain ⟨hg12, h⟩ := gd_some h
  refine row_20 O (l11_39 h0) (k11_39 h0) (n11_39 h0) hg12 (x := x4) dX11_chosen_85 ?_
  refine nm_some (P := fun z => J X B (E, z) 86 [(0, .inr (some (5, 0, 0))), (1, .inl (.int x1)), (4, .inl (.int x4))] []) h (fun κ13 h => ?_)
  refine J_aload_n O.mo dX11_chosen_86 0 rfl ?_
  refine J_getF O.co (kd0 := 11) (k11_0 h0) (l11_0 h0) (C := RX11) (T := TX11) (N := 42) rfl (by decide) rfl in_X11 40 (by decide) (v := .inr (some (5, 0, 40))) rfl mw593 rfl dX11_chosen_87 ?_
  refine J_iload_n O.mo dX11_chosen_90 1 rfl ?_
  refine J_iconst O.mo (v := 1) dX11_chosen_91 (by decide) ?_
  obtain ⟨hg14, h⟩ := gd_some h
  refine row_20 O (l11_40 h0) (k11_40 h0) (n11_40 h0) hg14 (x := 1) dX11_chosen_92 ?_
  refine nm_some (P := fun z => J X B (E, z) 93 [(0, .inr (some (5, 0, 0))), (1, .inl (.int x1)), (4, .inl (.int x4))] []) h (fun κ15 h => ?_)
  refine J_iload O.mo dX11_chosen_93 2 rfl ?_
  cases h
  exact hE _ _ dX11_chosen_95
set_option maxHeartbeats 4000000 in
set_option maxRecDepth 100000 in
theorem w_X11_chosen_b50 {l0 : Launch} (hfl : l0.stackTraces = false) {X : MX} {B : BX (EE × K)} {g : GP} {E : EE} {κ' : K} {rr : Int32} (O : CK l0 X B g cX11_chosen RX11 2 22) (hKP : KPok B E) (hmL : B.2.2.2.1 = 5) (hE : ∀ (pc : Nat) (lv : List (Nat × AV)), decode cX11_chosen pc = .ok (.ireturn, 1) → J X B (E, κ') pc lv [.inl (.int rr)]) (h0 : PC 11 E 5 0 0) : ∀ (n : Nat) (κ : K) (x1 : Int32) (x2 : Int32) (x3 : Int32), f_X11_chosen_b50 E n κ x1 x2 x3 = some (κ', rr) → J X B (E, κ) 50 [(0, .inr (some (5, 0, 0))), (1, .inl (.int x1)), (2, .inl (.int x2)), (3, .inl (.int x3))] [] := by
  intro n
  induction n with
  | zero => intro κ x1 x2 x3 h; cases h
  | succ n ih =>
    intro κ x1 x2 x3 h
    rw [f_X11_chosen_b50] at h
    refine J_iload_n O.mo dX11_chosen_50 3 rfl ?_
    refine J_aload_n O.mo dX11_chosen_51 0 rfl ?_
    refine J_getF O.co (kd0 := 11) (k11_0 h0) (l11_0 h0) (C := RX11) (T := TX11) (N := 42) rfl (by decide) rfl in_X11 26 (by decide) (v := .inl (.int (kV κ 5 0 0 26))) rfl mw514 rfl dX11_chosen_52 ?_
    refine J_icmp_gt O.mo (tgt := 102) dX11_chosen_55 (by decide) (fun hc4 => ?_) (fun hc4 => ?_)
    · replace h := (if_pos hc4).symm.trans h
      refine J_iconst O.mo (v := (-1)) dX11_chosen_102 (by decide) ?_
      cases h
      exact hE _ _ dX11_chosen_103
    · replace h := (if_neg hc4).symm.trans h
      refine J_iload_n O.mo dX11_chosen_58 2 rfl ?_
      refine J_iload_n O.mo dX11_chosen_59 3 rfl ?_
      refine J_iadd O.mo dX11_chosen_60 ?_
      refine J_aload_n O.mo dX11_chosen_61 0 rfl ?_
      refine J_getF O.co (kd0 := 11) (k11_0 h0) (l11_0 h0) (C := RX11) (T := TX11) (N := 42) rfl (by decide) rfl in_X11 26 (by decide) (v := .inl (.int (kV κ 5 0 0 26))) rfl mw514 rfl dX11_chosen_62 ?_
      obtain ⟨hg5, h⟩ := gd_some h
      refine J_irem O.mo dX11_chosen_65 hg5 ?_
      refine J_istore O.mo (lv' := [(0, .inr (some (5, 0, 0))), (1, .inl (.int x1)), (2, .inl (.int x2)), (3, .inl (.int x3))]) dX11_chosen_66 (by rw [hmL]; decide) rfl rfl ?_
      refine nm_some (P := fun z => J X B (E, κ) 68 [(4, .inl (.int z)), (0, .inr (some (5, 0, 0))), (1, .inl (.int x1)), (2, .inl (.int x2)), (3, .inl (.int x3))] []) h (fun y6 h => ?_)
      refine J_aload_n O.mo dX11_chosen_68 1 rfl ?_
      refine J_iload O.mo dX11_chosen_69 0 rfl ?_
      refine J_iload_n O.mo dX11_chosen_71 2 rfl ?_
      obtain ⟨κ7, r9, hq8, h⟩ := bd_some h
      refine J_callV O hKP (as := [.inl (.int y6), .inl (.int x1)]) (rest := []) (r := (some (.inl (.int r9)))) (c_X11_canRun hfl h0 hq8) rfl (kd0 := 11) (k11_0 h0) (l11_0 h0) (T := TX11) (N := 42) rfl (by decide) mw589 mw590 mw591 mw517 mw592 pd_X11_canRun rfl (by decide) rfl (Nat.le_of_ble_eq_true rfl) (sl_v (sl_p (s11_0 h0) (sl_v (sl_v (sl_v sl_0))))) st_0 dX11_chosen_72 ?_
      show J X B (E, κ7) 75 [(4, .inl (.int y6)), (0, .inr (some (5, 0, 0))), (1, .inl (.int x1)), (2, .inl (.int x2)), (3, .inl (.int x3))] [.inl (.int r9)]
      refine J_if_eq O.mo (tgt := 96) dX11_chosen_75 (by decide) (fun hc10 => ?_) (fun hc10 => ?_)
      · replace h := (if_pos hc10).symm.trans h
        refine J_iinc O.mo (v := x3 + 1) (lv' := [(4, .inl (.int y6)), (0, .inr (some (5, 0, 0))), (1, .inl (.int x1)), (2, .inl (.int x2))]) dX11_chosen_96 (by rw [hmL]; decide) 4 rfl (by rw [show Int32.ofInt (1) = (1 : Int32) from by decide]) rfl rfl ?_
        refine nm_some (P := fun z => J X B (E, κ7) 99 [(3, .inl (.int z)), (4, .inl (.int y6)), (0, .inr (some (5, 0, 0))), (1, .inl (.int x1)), (2, .inl (.int x2))] []) h (fun y11 h => ?_)
        refine J_goto O.mo (tgt := 50) dX11_chosen_99 (by decide) ?_
        refine J_sub [2, 3, 4, 0] rfl ?_
        exact ih _ _ _ _ h
      · replace h := (if_neg hc10).symm.trans h
        refine J_sub [1, 2, 0] rfl ?_
        exact w_X11_chosen_b78 hfl O hKP hmL hE h0 _ _ _ h
set_option maxHeartbeats 4000000 in
set_option maxRecDepth 100000 in
theorem w_X11_chosen_b48 {l0 : Launch} (hfl : l0.stackTraces = false) {X : MX} {B : BX (EE × K)} {g : GP} {E : EE} {κ' : K} {rr : Int32} (O : CK l0 X B g cX11_chosen RX11 2 22) (hKP : KPok B E) (hmL : B.2.2.2.1 = 5) (hE : ∀ (pc : Nat) (lv : List (Nat × AV)), decode cX11_chosen pc = .ok (.ireturn, 1) → J X B (E, κ') pc lv [.inl (.int rr)]) (h0 : PC 11 E 5 0 0) : ∀ (κ : K) (x1 : Int32) (x2 : Int32), f_X11_chosen_b48 E κ x1 x2 = some (κ', rr) → J X B (E, κ) 48 [(0, .inr (some (5, 0, 0))), (1, .inl (.int x1)), (2, .inl (.int x2))] [] := by
  intro κ x1 x2 h
  unfold f_X11_chosen_b48 at h
  refine J_iconst O.mo (v := 1) dX11_chosen_48 (by decide) ?_
  refine J_istore_n O.mo (lv' := [(0, .inr (some (5, 0, 0))), (1, .inl (.int x1)), (2, .inl (.int x2))]) dX11_chosen_49 (by rw [hmL]; decide) rfl rfl ?_
  refine J_sub [1, 2, 3, 0] rfl ?_
  exact w_X11_chosen_b50 hfl O hKP hmL hE h0 FU _ _ _ _ h
set_option maxHeartbeats 4000000 in
set_option maxRecDepth 100000 in
theorem w_X11_chosen {l0 : Launch} (hfl : l0.stackTraces = false) {X : MX} {B : BX (EE × K)} {g : GP} {E : EE} {κ' : K} {rr : Int32} (O : CK l0 X B g cX11_chosen RX11 2 22) (hKP : KPok B E) (hmL : B.2.2.2.1 = 5) (hE : ∀ (pc : Nat) (lv : List (Nat × AV)), decode cX11_chosen pc = .ok (.ireturn, 1) → J X B (E, κ') pc lv [.inl (.int rr)]) (h0 : PC 11 E 5 0 0) : ∀ (κ : K) (a1 : Int32), f_X11_chosen E κ a1 = some (κ', rr) → J X B (E, κ) 0 [(0, .inr (some (5, 0, 0))), (1, .inl (.int a1))] [] := by
  intro κ a1 h
  unfold f_X11_chosen at h
  refine J_aload_n O.mo dX11_chosen_0 0 rfl ?_
  refine J_getF O.co (kd0 := 11) (k11_0 h0) (l11_0 h0) (C := RX11) (T := TX11) (N := 42) rfl (by decide) rfl in_X11 39 (by decide) (v := .inr (some (5, 0, 39))) rfl mw588 rfl dX11_chosen_1 ?_
  refine J_iload_n O.mo dX11_chosen_4 1 rfl ?_
  obtain ⟨hg1, h⟩ := gd_some h
  refine J_iald O.co (g := (kV κ 5 0 39)) (ct_20n (l11_39 h0) (k11_39 h0) (n11_39 h0)) hg1 dX11_chosen_5 ?_
  refine J_istore_n O.mo (lv' := [(0, .inr (some (5, 0, 0))), (1, .inl (.int a1))]) dX11_chosen_6 (by rw [hmL]; decide) rfl rfl ?_
  refine nm_some (P := fun z => J X B (E, κ) 7 [(2, .inl (.int z)), (0, .inr (some (5, 0, 0))), (1, .inl (.int a1))] []) h (fun y2 h => ?_)
  refine J_iload_n O.mo dX11_chosen_7 0 rfl ?_
  refine J_iconst O.mo (v := (-1)) dX11_chosen_8 (by decide) ?_
  refine J_icmp_eq O.mo (tgt := 48) dX11_chosen_9 (by decide) (fun hc3 => ?_) (fun hc3 => ?_)
  · replace h := (if_pos hc3).symm.trans h
    refine J_sub [1, 2, 0] rfl ?_
    exact w_X11_chosen_b48 hfl O hKP hmL hE h0 _ _ _ h
  · replace h := (if_neg hc3).symm.trans h
    refine J_aload_n O.mo dX11_chosen_12 1 rfl ?_
    refine J_iload_n O.mo dX11_chosen_13 0 rfl ?_
    refine J_iload_n O.mo dX11_chosen_14 2 rfl ?_
    obtain ⟨κ16, r18, hq17, h⟩ := bd_some h
    refine J_callV O hKP (as := [.inl (.int y2), .inl (.int a1)]) (rest := []) (r := (some (.inl (.int r18)))) (c_X11_canRun hfl h0 hq17) rfl (kd0 := 11) (k11_0 h0) (l11_0 h0) (T := TX11) (N := 42) rfl (by decide) mw589 mw590 mw591 mw517 mw592 pd_X11_canRun rfl (by decide) rfl (Nat.le_of_ble_eq_true rfl) (sl_v (sl_p (s11_0 h0) (sl_v sl_0))) st_0 dX11_chosen_15 ?_
    show J X B (E, κ16) 18 [(2, .inl (.int y2)), (0, .inr (some (5, 0, 0))), (1, .inl (.int a1))] [.inl (.int r18)]
    refine J_if_eq O.mo (tgt := 48) dX11_chosen_18 (by decide) (fun hc19 => ?_) (fun hc19 => ?_)
    · replace h := (if_pos hc19).symm.trans h
      refine J_sub [1, 2, 0] rfl ?_
      exact w_X11_chosen_b48 hfl O hKP hmL hE h0 _ _ _ h
    · replace h := (if_neg hc19).symm.trans h
      refine J_aload_n O.mo dX11_chosen_21 1 rfl ?_
      refine J_getF O.co (kd0 := 11) (k11_0 h0) (l11_0 h0) (C := RX11) (T := TX11) (N := 42) rfl (by decide) rfl in_X11 40 (by decide) (v := .inr (some (5, 0, 40))) rfl mw593 rfl dX11_chosen_22 ?_
      refine J_iload_n O.mo dX11_chosen_25 2 rfl ?_
      obtain ⟨hg20, h⟩ := gd_some h
      refine J_iald O.co (g := (kV κ16 5 0 40)) (ct_20n (l11_40 h0) (k11_40 h0) (n11_40 h0)) hg20 dX11_chosen_26 ?_
      refine J_aload_n O.mo dX11_chosen_27 1 rfl ?_
      refine J_getF O.co (kd0 := 11) (k11_0 h0) (l11_0 h0) (C := RX11) (T := TX11) (N := 42) rfl (by decide) rfl in_X11 16 (by decide) (v := .inr (some (5, 0, 16))) rfl mw594 rfl dX11_chosen_28 ?_
      refine J_iload_n O.mo dX11_chosen_31 0 rfl ?_
      obtain ⟨hg21, h⟩ := gd_some h
      refine J_iald O.co (g := (kV κ16 5 0 16)) (ct_20n (l11_16 h0) (k11_16 h0) (n11_16 h0)) hg21 dX11_chosen_32 ?_
      refine J_icmp_ge O.mo (tgt := 48) dX11_chosen_33 (by decide) (fun hc22 => ?_) (fun hc22 => ?_)
      · replace h := (if_pos hc22).symm.trans h
        refine J_sub [1, 2, 0] rfl ?_
        exact w_X11_chosen_b48 hfl O hKP hmL hE h0 _ _ _ h
      · replace h := (if_neg hc22).symm.trans h
        refine J_aload_n O.mo dX11_chosen_36 1 rfl ?_
        refine J_getF O.co (kd0 := 11) (k11_0 h0) (l11_0 h0) (C := RX11) (T := TX11) (N := 42) rfl (by decide) rfl in_X11 40 (by decide) (v := .inr (some (5, 0, 40))) rfl mw593 rfl dX11_chosen_37 ?_
        refine J_iload_n O.mo dX11_chosen_40 2 rfl ?_
        refine J_dup2 O.mo dX11_chosen_41 rfl rfl ?_
        obtain ⟨hg23, h⟩ := gd_some h
        refine J_iald O.co (g := (kV κ16 5 0 40)) (ct_20n (l11_40 h0) (k11_40 h0) (n11_40 h0)) hg23 dX11_chosen_42 ?_
        refine J_iconst O.mo (v := 1) dX11_chosen_43 (by decide) ?_
        refine J_iadd O.mo dX11_chosen_44 ?_
        obtain ⟨hg24, h⟩ := gd_some h
        refine row_20 O (l11_40 h0) (k11_40 h0) (n11_40 h0) hg24 (x := (((kV κ16 5 0 40) a1.toNatClampNeg) + 1)) dX11_chosen_45 ?_
        refine nm_some (P := fun z => J X B (E, z) 46 [(2, .inl (.int y2)), (0, .inr (some (5, 0, 0))), (1, .inl (.int a1))] []) h (fun κ25 h => ?_)
        refine J_iload_n O.mo dX11_chosen_46 0 rfl ?_
        cases h
        exact hE _ _ dX11_chosen_47
theorem c_X11_chosen {l : Launch} (hfl : l.stackTraces = false) {E : EE} {κ κ' : K} {a1 : Int32} (h0 : PC 11 E 5 0 0) {rr : Int32} (h : f_X11_chosen E κ a1 = some (κ', rr)) : Con l yX11_chosen cX11_chosen 5 (some .int) 2 22 [.inr (some (5, 0, 0)), .inl (.int a1)] (E, κ) (E, κ') (some (.inl (.int rr))) := by
  exact Con_of hfl (by decide +kernel) (Nat.le_of_ble_eq_true rfl) rfl ⟨_, rfl, rfl⟩ (fun X B g O hKP hmL hE => w_X11_chosen hfl O hKP hmL hE h0 _ _ h)
def f_X11_tickOnce_b221 (E : EE) (κ : K) : Option (K × Unit) := nm (setV κ 5 0 0 41 ((kV κ 5 0 0 41) + 1)) fun κ3 => some (κ3, ())
def f_X11_tickOnce_b215 (E : EE) (k132 : K → Int32 → Option (K × Unit)) (κ : K) (x1 : Int32) : Option (K × Unit) := nm (x1 + 1) fun y11 => k132 κ y11
def f_X11_tickOnce_b205 (E : EE) (k132 : K → Int32 → Option (K × Unit)) (κ : K) (x1 : Int32) (x2 : Int32) : Option (K × Unit) := if x2 = (-1) then f_X11_tickOnce_b215 E k132 κ x1 else bd (f_X11_run E κ x2) fun κ12 _ => f_X11_tickOnce_b215 E k132 κ12 x1
def f_X11_tickOnce_b197 (E : EE) (k132 : K → Int32 → Option (K × Unit)) (k158 : K → Int32 → Int32 → Int32 → Option (K × Unit)) (κ : K) (x1 : Int32) (x2 : Int32) (x3 : Int32) (xs0 : Int32) (xs1 : Int32) (xs2 : Int32) : Option (K × Unit) := gd (¬ (xs2 < 0 ∨ 5 ≤ xs2.toNatClampNeg)) (nm (setV κ 5 0 23 xs2.toNatClampNeg (xs1 + xs0)) fun κ19 => nm (x3 + 1) fun y20 => k158 κ19 x1 x2 y20)
def f_X11_tickOnce_b196 (E : EE) (k132 : K → Int32 → Option (K × Unit)) (k158 : K → Int32 → Int32 → Int32 → Option (K × Unit)) (κ : K) (x1 : Int32) (x2 : Int32) (x3 : Int32) (xs0 : Int32) (xs1 : Int32) : Option (K × Unit) := f_X11_tickOnce_b197 E k132 k158 κ x1 x2 x3 0 xs0 xs1
def f_X11_tickOnce_b158 (E : EE) (k132 : K → Int32 → Option (K × Unit)) : Nat → K → Int32 → Int32 → Int32 → Option (K × Unit)
  | 0, _, _, _, _ => none
  | n + 1, κ, x1, x2, x3 => if kV κ 5 0 0 26 ≤ x3 then f_X11_tickOnce_b205 E k132 κ x1 x2 else if x2 = (-1) then f_X11_tickOnce_b205 E k132 κ x1 x2 else gd (¬ (x3 < 0 ∨ 5 ≤ x3.toNatClampNeg)) (if x3 = x2 then f_X11_tickOnce_b196 E k132 (f_X11_tickOnce_b158 E k132 n) κ x1 x2 x3 ((kV κ 5 0 23) x3.toNatClampNeg) x3 else bd (f_X11_canRun E κ x3 x1) fun κ21 r23 => if r23 = 0 then f_X11_tickOnce_b196 E k132 (f_X11_tickOnce_b158 E k132 n) κ21 x1 x2 x3 ((kV κ 5 0 23) x3.toNatClampNeg) x3 else f_X11_tickOnce_b197 E k132 (f_X11_tickOnce_b158 E k132 n) κ21 x1 x2 x3 1 ((kV κ 5 0 23) x3.toNatClampNeg) x3)
def f_X11_tickOnce_b155 (E : EE) (k132 : K → Int32 → Option (K × Unit)) (κ : K) (x1 : Int32) (xs0 : Int32) : Option (K × Unit) := f_X11_tickOnce_b158 E k132 FU κ x1 xs0 0
def f_X11_tickOnce_b132 (E : EE) : Nat → K → Int32 → Option (K × Unit)
  | 0, _, _ => none
  | n + 1, κ, x1 => if 2 ≤ x1 then f_X11_tickOnce_b221 E κ else gd (¬ (x1 < 0 ∨ 2 ≤ x1.toNatClampNeg)) (if (kV κ 5 0 38) x1.toNatClampNeg = 0 then bd (f_X11_chosen E κ x1) fun κ6 r8 => f_X11_tickOnce_b155 E (f_X11_tickOnce_b132 E n) κ6 x1 r8 else f_X11_tickOnce_b155 E (f_X11_tickOnce_b132 E n) κ x1 ((-1)))
def f_X11_tickOnce_b130 (E : EE) (κ : K) : Option (K × Unit) := f_X11_tickOnce_b132 E FU κ 0
def f_X11_tickOnce_b123 (E : EE) (k2 : K → Int32 → Option (K × Unit)) (κ : K) (x1 : Int32) (xs0 : Int32) (xs1 : Int32) : Option (K × Unit) := gd (¬ (xs1 < 0 ∨ 275 ≤ xs1.toNatClampNeg)) (nm (setV κ 5 0 1 xs1.toNatClampNeg xs0) fun κ33 => nm (x1 + 1) fun y34 => k2 κ33 y34)
def f_X11_tickOnce_b97 (E : EE) (k2 : K → Int32 → Option (K × Unit)) (κ : K) (x1 : Int32) (x2 : Int32) (xs0 : Int32) : Option (K × Unit) := if xs0 = 0 then gd (¬ ((x2 + 49) < 0 ∨ 275 ≤ (x2 + 49).toNatClampNeg)) (f_X11_tickOnce_b123 E k2 κ x1 ((kV κ 5 0 1) (x2 + 49).toNatClampNeg) (x2 + 49)) else f_X11_tickOnce_b123 E k2 κ x1 0 (x2 + 49)
def f_X11_tickOnce_b96 (E : EE) (k2 : K → Int32 → Option (K × Unit)) (κ : K) (x1 : Int32) (x2 : Int32) : Option (K × Unit) := f_X11_tickOnce_b97 E k2 κ x1 x2 0
def f_X11_tickOnce_b92 (E : EE) (k2 : K → Int32 → Option (K × Unit)) (κ : K) (x1 : Int32) (x2 : Int32) : Option (K × Unit) := f_X11_tickOnce_b97 E k2 κ x1 x2 1
def f_X11_tickOnce_b53 (E : EE) (k2 : K → Int32 → Option (K × Unit)) (κ : K) (x1 : Int32) (x2 : Int32) : Option (K × Unit) := gd (¬ ((x2 + 49) < 0 ∨ 275 ≤ (x2 + 49).toNatClampNeg)) (if (kV κ 5 0 1) (x2 + 49).toNatClampNeg = 1 then gd (¬ ((x2 + 51) < 0 ∨ 275 ≤ (x2 + 51).toNatClampNeg)) (if (kV κ 5 0 1) (x2 + 51).toNatClampNeg = 1 then f_X11_tickOnce_b92 E k2 κ x1 x2 else gd (¬ ((x2 + 52) < 0 ∨ 275 ≤ (x2 + 52).toNatClampNeg)) (if (kV κ 5 0 1) (x2 + 52).toNatClampNeg = 1 then f_X11_tickOnce_b92 E k2 κ x1 x2 else f_X11_tickOnce_b96 E k2 κ x1 x2)) else f_X11_tickOnce_b96 E k2 κ x1 x2)
def f_X11_tickOnce_b2 (E : EE) : Nat → K → Int32 → Option (K × Unit)
  | 0, _, _ => none
  | n + 1, κ, x1 => if kV κ 5 0 0 26 ≤ x1 then f_X11_tickOnce_b130 E κ else nm (55 * x1) fun y25 => gd (¬ ((y25 + 50) < 0 ∨ 275 ≤ (y25 + 50).toNatClampNeg)) (if (kV κ 5 0 1) (y25 + 50).toNatClampNeg = (kV κ 5 0 0 41) + 1 then gd (¬ ((y25 + 50) < 0 ∨ 275 ≤ (y25 + 50).toNatClampNeg)) (nm (setV κ 5 0 1 (y25 + 50).toNatClampNeg ((-1))) fun κ40 => gd (¬ ((y25 + 51) < 0 ∨ 275 ≤ (y25 + 51).toNatClampNeg)) (nm (setV κ40 5 0 1 (y25 + 51).toNatClampNeg 1) fun κ42 => f_X11_tickOnce_b53 E (f_X11_tickOnce_b2 E n) κ42 x1 y25)) else f_X11_tickOnce_b53 E (f_X11_tickOnce_b2 E n) κ x1 y25)
def f_X11_tickOnce (E : EE) (κ : K) : Option (K × Unit) := f_X11_tickOnce_b2 E FU κ 0
set_option maxHeartbeats 4000000 in
set_option maxRecDepth 100000 in
theorem w_X11_tickOnce_b221 {l0 : Launch} (hfl : l0.stackTraces = false) {X : MX} {B : BX (EE × K)} {g : GP} {E : EE} {κ' : K} {rr : Unit} (O : CK l0 X B g cX11_tickOnce RX11 6 128) (hKP : KPok B E) (hmL : B.2.2.2.1 = 4) (hE : ∀ (pc : Nat) (lv : List (Nat × AV)), decode cX11_tickOnce pc = .ok (.return_, 1) → J X B (E, κ') pc lv []) (h0 : PC 11 E 5 0 0) : ∀ (κ : K), f_X11_tickOnce_b221 E κ = some (κ', rr) → J X B (E, κ) 221 [(0, .inr (some (5, 0, 0)))] [] := by
  intro κ h
  unfold f_X11_tickOnce_b221 at h
  refine J_aload_n O.mo dX11_tickOnce_221 0 rfl ?_
  refine J_dup O.mo dX11_tickOnce_222 rfl ?_
  refine J_getF O.co (kd0 := 11) (k11_0 h0) (l11_0 h0) (C := RX11) (T := TX11) (N := 42) rfl (by decide) rfl in_X11 41 (by decide) (v := .inl (.int (kV κ 5 0 0 41))) rfl mw519 rfl dX11_tickOnce_223 ?_
  refine J_iconst O.mo (v := 1) dX11_tickOnce_226 (by decide) ?_
  refine J_iadd O.mo dX11_tickOnce_227 ?_
  refine J_putI O.co (kd0 := 11) (k11_0 h0) (l11_0 h0) (C := RX11) (T := TX11) (N := 42) rfl (by decide) rfl in_X11 tyX11 tyX11_ok nmX11 41 (by decide) rfl rfl (x := ((kV κ 5 0 0 41) + 1)) (Or.inl rfl) mw519 dX11_tickOnce_228 ?_
  refine nm_some (P := fun z => J X B (E, z) 231 [(0, .inr (some (5, 0, 0)))] []) h (fun κ3 h => ?_)
  cases h
  exact hE _ _ dX11_tickOnce_231
set_option maxHeartbeats 4000000 in
set_option maxRecDepth 100000 in
theorem w_X11_tickOnce_b215 {l0 : Launch} (hfl : l0.stackTraces = false) {X : MX} {B : BX (EE × K)} {g : GP} {E : EE} {κ' : K} {rr : Unit} (O : CK l0 X B g cX11_tickOnce RX11 6 128) (hKP : KPok B E) (hmL : B.2.2.2.1 = 4) (hE : ∀ (pc : Nat) (lv : List (Nat × AV)), decode cX11_tickOnce pc = .ok (.return_, 1) → J X B (E, κ') pc lv []) (h0 : PC 11 E 5 0 0) {k132 : K → Int32 → Option (K × Unit)} (hk132 : ∀ (κ : K) (x1 : Int32), k132 κ x1 = some (κ', rr) → J X B (E, κ) 132 [(0, .inr (some (5, 0, 0))), (1, .inl (.int x1))] []) : ∀ (κ : K) (x1 : Int32), f_X11_tickOnce_b215 E k132 κ x1 = some (κ', rr) → J X B (E, κ) 215 [(0, .inr (some (5, 0, 0))), (1, .inl (.int x1))] [] := by
  intro κ x1 h
  unfold f_X11_tickOnce_b215 at h
  refine J_iinc O.mo (v := x1 + 1) (lv' := [(0, .inr (some (5, 0, 0)))]) dX11_tickOnce_215 (by rw [hmL]; decide) 1 rfl (by rw [show Int32.ofInt (1) = (1 : Int32) from by decide]) rfl rfl ?_
  refine nm_some (P := fun z => J X B (E, κ) 218 [(1, .inl (.int z)), (0, .inr (some (5, 0, 0)))] []) h (fun y11 h => ?_)
  refine J_goto O.mo (tgt := 132) dX11_tickOnce_218 (by decide) ?_
  refine J_sub [1, 0] rfl ?_
  exact hk132 _ _ h
set_option maxHeartbeats 4000000 in
set_option maxRecDepth 100000 in
theorem w_X11_tickOnce_b205 {l0 : Launch} (hfl : l0.stackTraces = false) {X : MX} {B : BX (EE × K)} {g : GP} {E : EE} {κ' : K} {rr : Unit} (O : CK l0 X B g cX11_tickOnce RX11 6 128) (hKP : KPok B E) (hmL : B.2.2.2.1 = 4) (hE : ∀ (pc : Nat) (lv : List (Nat × AV)), decode cX11_tickOnce pc = .ok (.return_, 1) → J X B (E, κ') pc lv []) (h0 : PC 11 E 5 0 0) {k132 : K → Int32 → Option (K × Unit)} (hk132 : ∀ (κ : K) (x1 : Int32), k132 κ x1 = some (κ', rr) → J X B (E, κ) 132 [(0, .inr (some (5, 0, 0))), (1, .inl (.int x1))] []) : ∀ (κ : K) (x1 : Int32) (x2 : Int32), f_X11_tickOnce_b205 E k132 κ x1 x2 = some (κ', rr) → J X B (E, κ) 205 [(0, .inr (some (5, 0, 0))), (1, .inl (.int x1)), (2, .inl (.int x2))] [] := by
  intro κ x1 x2 h
  unfold f_X11_tickOnce_b205 at h
  refine J_iload_n O.mo dX11_tickOnce_205 2 rfl ?_
  refine J_iconst O.mo (v := (-1)) dX11_tickOnce_206 (by decide) ?_
  refine J_icmp_eq O.mo (tgt := 215) dX11_tickOnce_207 (by decide) (fun hc10 => ?_) (fun hc10 => ?_)
  · replace h := (if_pos hc10).symm.trans h
    refine J_sub [0, 1] rfl ?_
    exact w_X11_tickOnce_b215 hfl O hKP hmL hE h0 hk132 _ _ h
  · replace h := (if_neg hc10).symm.trans h
    refine J_aload_n O.mo dX11_tickOnce_210 0 rfl ?_
    refine J_iload_n O.mo dX11_tickOnce_211 2 rfl ?_
    refine J_sub [0, 1] rfl ?_
    obtain ⟨κ12, r14, hq13, h⟩ := bd_some h
    refine J_callV O hKP (as := [.inl (.int x2)]) (rest := []) (r := none) (c_X11_run hfl h0 hq13) rfl (kd0 := 11) (k11_0 h0) (l11_0 h0) (T := TX11) (N := 42) rfl (by decide) mw600 mw601 mw602 mw517 mw603 pd_X11_run rfl (by decide) rfl (Nat.le_of_ble_eq_true rfl) (sl_p (s11_0 h0) (sl_v sl_0)) st_0 dX11_tickOnce_212 ?_
    show J X B (E, κ12) 215 [(0, .inr (some (5, 0, 0))), (1, .inl (.int x1))] []
    exact w_X11_tickOnce_b215 hfl O hKP hmL hE h0 hk132 _ _ h
set_option maxHeartbeats 4000000 in
set_option maxRecDepth 100000 in
theorem w_X11_tickOnce_b197 {l0 : Launch} (hfl : l0.stackTraces = false) {X : MX} {B : BX (EE × K)} {g : GP} {E : EE} {κ' : K} {rr : Unit} (O : CK l0 X B g cX11_tickOnce RX11 6 128) (hKP : KPok B E) (hmL : B.2.2.2.1 = 4) (hE : ∀ (pc : Nat) (lv : List (Nat × AV)), decode cX11_tickOnce pc = .ok (.return_, 1) → J X B (E, κ') pc lv []) (h0 : PC 11 E 5 0 0) {k132 : K → Int32 → Option (K × Unit)} {k158 : K → Int32 → Int32 → Int32 → Option (K × Unit)} (hk132 : ∀ (κ : K) (x1 : Int32), k132 κ x1 = some (κ', rr) → J X B (E, κ) 132 [(0, .inr (some (5, 0, 0))), (1, .inl (.int x1))] []) (hk158 : ∀ (κ : K) (x1 : Int32) (x2 : Int32) (x3 : Int32), k158 κ x1 x2 x3 = some (κ', rr) → J X B (E, κ) 158 [(0, .inr (some (5, 0, 0))), (1, .inl (.int x1)), (2, .inl (.int x2)), (3, .inl (.int x3))] []) : ∀ (κ : K) (x1 : Int32) (x2 : Int32) (x3 : Int32) (xs0 : Int32) (xs1 : Int32) (xs2 : Int32), f_X11_tickOnce_b197 E k132 k158 κ x1 x2 x3 xs0 xs1 xs2 = some (κ', rr) → J X B (E, κ) 197 [(0, .inr (some (5, 0, 0))), (1, .inl (.int x1)), (2, .inl (.int x2)), (3, .inl (.int x3))] [.inl (.int xs0), .inl (.int xs1), .inl (.int xs2), .inr (some (5, 0, 23))] := by
  intro κ x1 x2 x3 xs0 xs1 xs2 h
  unfold f_X11_tickOnce_b197 at h
  refine J_iadd O.mo dX11_tickOnce_197 ?_
  obtain ⟨hg18, h⟩ := gd_some h
  refine row_20 O (l11_23 h0) (k11_23 h0) (n11_23 h0) hg18 (x := (xs1 + xs0)) dX11_tickOnce_198 ?_
  refine nm_some (P := fun z => J X B (E, z) 199 [(0, .inr (some (5, 0, 0))), (1, .inl (.int x1)), (2, .inl (.int x2)), (3, .inl (.int x3))] []) h (fun κ19 h => ?_)
  refine J_iinc O.mo (v := x3 + 1) (lv' := [(0, .inr (some (5, 0, 0))), (1, .inl (.int x1)), (2, .inl (.int x2))]) dX11_tickOnce_199 (by rw [hmL]; decide) 3 rfl (by rw [show Int32.ofInt (1) = (1 : Int32) from by decide]) rfl rfl ?_
  refine nm_some (P := fun z => J X B (E, κ19) 202 [(3, .inl (.int z)), (0, .inr (some (5, 0, 0))), (1, .inl (.int x1)), (2, .inl (.int x2))] []) h (fun y20 h => ?_)
  refine J_goto O.mo (tgt := 158) dX11_tickOnce_202 (by decide) ?_
  refine J_sub [1, 2, 3, 0] rfl ?_
  exact hk158 _ _ _ _ h
set_option maxHeartbeats 4000000 in
set_option maxRecDepth 100000 in
theorem w_X11_tickOnce_b196 {l0 : Launch} (hfl : l0.stackTraces = false) {X : MX} {B : BX (EE × K)} {g : GP} {E : EE} {κ' : K} {rr : Unit} (O : CK l0 X B g cX11_tickOnce RX11 6 128) (hKP : KPok B E) (hmL : B.2.2.2.1 = 4) (hE : ∀ (pc : Nat) (lv : List (Nat × AV)), decode cX11_tickOnce pc = .ok (.return_, 1) → J X B (E, κ') pc lv []) (h0 : PC 11 E 5 0 0) {k132 : K → Int32 → Option (K × Unit)} {k158 : K → Int32 → Int32 → Int32 → Option (K × Unit)} (hk132 : ∀ (κ : K) (x1 : Int32), k132 κ x1 = some (κ', rr) → J X B (E, κ) 132 [(0, .inr (some (5, 0, 0))), (1, .inl (.int x1))] []) (hk158 : ∀ (κ : K) (x1 : Int32) (x2 : Int32) (x3 : Int32), k158 κ x1 x2 x3 = some (κ', rr) → J X B (E, κ) 158 [(0, .inr (some (5, 0, 0))), (1, .inl (.int x1)), (2, .inl (.int x2)), (3, .inl (.int x3))] []) : ∀ (κ : K) (x1 : Int32) (x2 : Int32) (x3 : Int32) (xs0 : Int32) (xs1 : Int32), f_X11_tickOnce_b196 E k132 k158 κ x1 x2 x3 xs0 xs1 = some (κ', rr) → J X B (E, κ) 196 [(0, .inr (some (5, 0, 0))), (1, .inl (.int x1)), (2, .inl (.int x2)), (3, .inl (.int x3))] [.inl (.int xs0), .inl (.int xs1), .inr (some (5, 0, 23))] := by
  intro κ x1 x2 x3 xs0 xs1 h
  unfold f_X11_tickOnce_b196 at h
  refine J_iconst O.mo (v := 0) dX11_tickOnce_196 (by decide) ?_
  exact w_X11_tickOnce_b197 hfl O hKP hmL hE h0 hk132 hk158 _ _ _ _ _ _ _ h
set_option maxHeartbeats 4000000 in
set_option maxRecDepth 100000 in
theorem w_X11_tickOnce_b158 {l0 : Launch} (hfl : l0.stackTraces = false) {X : MX} {B : BX (EE × K)} {g : GP} {E : EE} {κ' : K} {rr : Unit} (O : CK l0 X B g cX11_tickOnce RX11 6 128) (hKP : KPok B E) (hmL : B.2.2.2.1 = 4) (hE : ∀ (pc : Nat) (lv : List (Nat × AV)), decode cX11_tickOnce pc = .ok (.return_, 1) → J X B (E, κ') pc lv []) (h0 : PC 11 E 5 0 0) {k132 : K → Int32 → Option (K × Unit)} (hk132 : ∀ (κ : K) (x1 : Int32), k132 κ x1 = some (κ', rr) → J X B (E, κ) 132 [(0, .inr (some (5, 0, 0))), (1, .inl (.int x1))] []) : ∀ (n : Nat) (κ : K) (x1 : Int32) (x2 : Int32) (x3 : Int32), f_X11_tickOnce_b158 E k132 n κ x1 x2 x3 = some (κ', rr) → J X B (E, κ) 158 [(0, .inr (some (5, 0, 0))), (1, .inl (.int x1)), (2, .inl (.int x2)), (3, .inl (.int x3))] [] := by
  intro n
  induction n with
  | zero => intro κ x1 x2 x3 h; cases h
  | succ n ih =>
    intro κ x1 x2 x3 h
    rw [f_X11_tickOnce_b158] at h
    refine J_iload_n O.mo dX11_tickOnce_158 3 rfl ?_
    refine J_aload_n O.mo dX11_tickOnce_159 0 rfl ?_
    refine J_getF O.co (kd0 := 11) (k11_0 h0) (l11_0 h0) (C := RX11) (T := TX11) (N := 42) rfl (by decide) rfl in_X11 26 (by decide) (v := .inl (.int (kV κ 5 0 0 26))) rfl mw514 rfl dX11_tickOnce_160 ?_
    refine J_icmp_ge O.mo (tgt := 205) dX11_tickOnce_163 (by decide) (fun hc9 => ?_) (fun hc9 => ?_)
    · replace h := (if_pos hc9).symm.trans h
      refine J_sub [0, 1, 2] rfl ?_
      exact w_X11_tickOnce_b205 hfl O hKP hmL hE h0 hk132 _ _ _ h
    · replace h := (if_neg hc9).symm.trans h
      refine J_iload_n O.mo dX11_tickOnce_166 2 rfl ?_
      refine J_iconst O.mo (v := (-1)) dX11_tickOnce_167 (by decide) ?_
      refine J_icmp_eq O.mo (tgt := 205) dX11_tickOnce_168 (by decide) (fun hc15 => ?_) (fun hc15 => ?_)
      · replace h := (if_pos hc15).symm.trans h
        refine J_sub [0, 1, 2] rfl ?_
        exact w_X11_tickOnce_b205 hfl O hKP hmL hE h0 hk132 _ _ _ h
      · replace h := (if_neg hc15).symm.trans h
        refine J_aload_n O.mo dX11_tickOnce_171 0 rfl ?_
        refine J_getF O.co (kd0 := 11) (k11_0 h0) (l11_0 h0) (C := RX11) (T := TX11) (N := 42) rfl (by decide) rfl in_X11 23 (by decide) (v := .inr (some (5, 0, 23))) rfl mw604 rfl dX11_tickOnce_172 ?_
        refine J_iload_n O.mo dX11_tickOnce_175 3 rfl ?_
        refine J_dup2 O.mo dX11_tickOnce_176 rfl rfl ?_
        obtain ⟨hg16, h⟩ := gd_some h
        refine J_iald O.co (g := (kV κ 5 0 23)) (ct_20n (l11_23 h0) (k11_23 h0) (n11_23 h0)) hg16 dX11_tickOnce_177 ?_
        refine J_iload_n O.mo dX11_tickOnce_178 3 rfl ?_
        refine J_iload_n O.mo dX11_tickOnce_179 2 rfl ?_
        refine J_icmp_eq O.mo (tgt := 196) dX11_tickOnce_180 (by decide) (fun hc17 => ?_) (fun hc17 => ?_)
        · replace h := (if_pos hc17).symm.trans h
          exact w_X11_tickOnce_b196 hfl O hKP hmL hE h0 hk132 ih _ _ _ _ _ _ h
        · replace h := (if_neg hc17).symm.trans h
          refine J_aload_n O.mo dX11_tickOnce_183 0 rfl ?_
          refine J_iload_n O.mo dX11_tickOnce_184 3 rfl ?_
          refine J_iload_n O.mo dX11_tickOnce_185 1 rfl ?_
          obtain ⟨κ21, r23, hq22, h⟩ := bd_some h
          refine J_callV O hKP (as := [.inl (.int x3), .inl (.int x1)]) (rest := [.inl (.int ((kV κ 5 0 23) x3.toNatClampNeg)), .inl (.int x3), .inr (some (5, 0, 23))]) (r := (some (.inl (.int r23)))) (c_X11_canRun hfl h0 hq22) rfl (kd0 := 11) (k11_0 h0) (l11_0 h0) (T := TX11) (N := 42) rfl (by decide) mw589 mw590 mw591 mw517 mw592 pd_X11_canRun rfl (by decide) rfl (Nat.le_of_ble_eq_true rfl) (sl_p (s11_0 h0) (sl_v (sl_v (sl_v sl_0)))) (st_v (st_v (st_p (s11_23 h0) st_0))) dX11_tickOnce_186 ?_
          show J X B (E, κ21) 189 [(0, .inr (some (5, 0, 0))), (1, .inl (.int x1)), (2, .inl (.int x2)), (3, .inl (.int x3))] [.inl (.int r23), .inl (.int ((kV κ 5 0 23) x3.toNatClampNeg)), .inl (.int x3), .inr (some (5, 0, 23))]
          refine J_if_eq O.mo (tgt := 196) dX11_tickOnce_189 (by decide) (fun hc24 => ?_) (fun hc24 => ?_)
          · replace h := (if_pos hc24).symm.trans h
            exact w_X11_tickOnce_b196 hfl O hKP hmL hE h0 hk132 ih _ _ _ _ _ _ h
          · replace h := (if_neg hc24).symm.trans h
            refine J_iconst O.mo (v := 1) dX11_tickOnce_192 (by decide) ?_
            refine J_goto O.mo (tgt := 197) dX11_tickOnce_193 (by decide) ?_
            exact w_X11_tickOnce_b197 hfl O hKP hmL hE h0 hk132 ih _ _ _ _ _ _ _ h
set_option maxHeartbeats 4000000 in
set_option maxRecDepth 100000 in
theorem w_X11_tickOnce_b155 {l0 : Launch} (hfl : l0.stackTraces = false) {X : MX} {B : BX (EE × K)} {g : GP} {E : EE} {κ' : K} {rr : Unit} (O : CK l0 X B g cX11_tickOnce RX11 6 128) (hKP : KPok B E) (hmL : B.2.2.2.1 = 4) (hE : ∀ (pc : Nat) (lv : List (Nat × AV)), decode cX11_tickOnce pc = .ok (.return_, 1) → J X B (E, κ') pc lv []) (h0 : PC 11 E 5 0 0) {k132 : K → Int32 → Option (K × Unit)} (hk132 : ∀ (κ : K) (x1 : Int32), k132 κ x1 = some (κ', rr) → J X B (E, κ) 132 [(0, .inr (some (5, 0, 0))), (1, .inl (.int x1))] []) : ∀ (κ : K) (x1 : Int32) (xs0 : Int32), f_X11_tickOnce_b155 E k132 κ x1 xs0 = some (κ', rr) → J X B (E, κ) 155 [(0, .inr (some (5, 0, 0))), (1, .inl (.int x1))] [.inl (.int xs0)] := by
  intro κ x1 xs0 h
  unfold f_X11_tickOnce_b155 at h
  refine J_istore_n O.mo (lv' := [(0, .inr (some (5, 0, 0))), (1, .inl (.int x1))]) dX11_tickOnce_155 (by rw [hmL]; decide) rfl rfl ?_
  refine J_iconst O.mo (v := 0) dX11_tickOnce_156 (by decide) ?_
  refine J_istore_n O.mo (lv' := [(2, .inl (.int xs0)), (0, .inr (some (5, 0, 0))), (1, .inl (.int x1))]) dX11_tickOnce_157 (by rw [hmL]; decide) rfl rfl ?_
  refine J_sub [2, 3, 1, 0] rfl ?_
  exact w_X11_tickOnce_b158 hfl O hKP hmL hE h0 hk132 FU _ _ _ _ h
set_option maxHeartbeats 4000000 in
set_option maxRecDepth 100000 in
theorem w_X11_tickOnce_b132 {l0 : Launch} (hfl : l0.stackTraces = false) {X : MX} {B : BX (EE × K)} {g : GP} {E : EE} {κ' : K} {rr : Unit} (O : CK l0 X B g cX11_tickOnce RX11 6 128) (hKP : KPok B E) (hmL : B.2.2.2.1 = 4) (hE : ∀ (pc : Nat) (lv : List (Nat × AV)), decode cX11_tickOnce pc = .ok (.return_, 1) → J X B (E, κ') pc lv []) (h0 : PC 11 E 5 0 0) : ∀ (n : Nat) (κ : K) (x1 : Int32), f_X11_tickOnce_b132 E n κ x1 = some (κ', rr) → J X B (E, κ) 132 [(0, .inr (some (5, 0, 0))), (1, .inl (.int x1))] [] := by
  intro n
  induction n with
  | zero => intro κ x1 h; cases h
  | succ n ih =>
    intro κ x1 h
    rw [f_X11_tickOnce_b132] at h
    refine J_iload_n O.mo dX11_tickOnce_132 1 rfl ?_
    refine J_iconst O.mo (v := 2) dX11_tickOnce_133 (by decide) ?_
    refine J_icmp_ge O.mo (tgt := 221) dX11_tickOnce_134 (by decide) (fun hc2 => ?_) (fun hc2 => ?_)
    · replace h := (if_pos hc2).symm.trans h
      refine J_sub [0] rfl ?_
      exact w_X11_tickOnce_b221 hfl O hKP hmL hE h0 _ h
    · replace h := (if_neg hc2).symm.trans h
      refine J_aload_n O.mo dX11_tickOnce_137 0 rfl ?_
      refine J_getF O.co (kd0 := 11) (k11_0 h0) (l11_0 h0) (C := RX11) (T := TX11) (N := 42) rfl (by decide) rfl in_X11 38 (by decide) (v := .inr (some (5, 0, 38))) rfl mw595 rfl dX11_tickOnce_138 ?_
      refine J_iload_n O.mo dX11_tickOnce_141 1 rfl ?_
      obtain ⟨hg4, h⟩ := gd_some h
      refine J_bald O.co (g := (kV κ 5 0 38)) (ct_22n (l11_38 h0) (k11_38 h0) (n11_38 h0)) hg4 dX11_tickOnce_142 ?_
      refine J_if_eq O.mo (tgt := 150) dX11_tickOnce_143 (by decide) (fun hc5 => ?_) (fun hc5 => ?_)
      · replace h := (if_pos hc5).symm.trans h
        refine J_aload_n O.mo dX11_tickOnce_150 0 rfl ?_
        refine J_iload_n O.mo dX11_tickOnce_151 1 rfl ?_
        obtain ⟨κ6, r8, hq7, h⟩ := bd_some h
        refine J_callV O hKP (as := [.inl (.int x1)]) (rest := []) (r := (some (.inl (.int r8)))) (c_X11_chosen hfl h0 hq7) rfl (kd0 := 11) (k11_0 h0) (l11_0 h0) (T := TX11) (N := 42) rfl (by decide) mw596 mw597 mw598 mw517 mw599 pd_X11_chosen rfl (by decide) rfl (Nat.le_of_ble_eq_true rfl) (sl_p (s11_0 h0) (sl_v sl_0)) st_0 dX11_tickOnce_152 ?_
        show J X B (E, κ6) 155 [(0, .inr (some (5, 0, 0))), (1, .inl (.int x1))] [.inl (.int r8)]
        exact w_X11_tickOnce_b155 hfl O hKP hmL hE h0 ih _ _ _ h
      · replace h := (if_neg hc5).symm.trans h
        refine J_iconst O.mo (v := (-1)) dX11_tickOnce_146 (by decide) ?_
        refine J_goto O.mo (tgt := 155) dX11_tickOnce_147 (by decide) ?_
        exact w_X11_tickOnce_b155 hfl O hKP hmL hE h0 ih _ _ _ h
set_option maxHeartbeats 4000000 in
set_option maxRecDepth 100000 in
theorem w_X11_tickOnce_b130 {l0 : Launch} (hfl : l0.stackTraces = false) {X : MX} {B : BX (EE × K)} {g : GP} {E : EE} {κ' : K} {rr : Unit} (O : CK l0 X B g cX11_tickOnce RX11 6 128) (hKP : KPok B E) (hmL : B.2.2.2.1 = 4) (hE : ∀ (pc : Nat) (lv : List (Nat × AV)), decode cX11_tickOnce pc = .ok (.return_, 1) → J X B (E, κ') pc lv []) (h0 : PC 11 E 5 0 0) : ∀ (κ : K), f_X11_tickOnce_b130 E κ = some (κ', rr) → J X B (E, κ) 130 [(0, .inr (some (5, 0, 0)))] [] := by
  intro κ h
  unfold f_X11_tickOnce_b130 at h
  refine J_iconst O.mo (v := 0) dX11_tickOnce_130 (by decide) ?_
  refine J_istore_n O.mo (lv' := [(0, .inr (some (5, 0, 0)))]) dX11_tickOnce_131 (by rw [hmL]; decide) rfl rfl ?_
  refine J_sub [1, 0] rfl ?_
  exact w_X11_tickOnce_b132 hfl O hKP hmL hE h0 FU _ _ h
set_option maxHeartbeats 4000000 in
set_option maxRecDepth 100000 in
theorem w_X11_tickOnce_b123 {l0 : Launch} (hfl : l0.stackTraces = false) {X : MX} {B : BX (EE × K)} {g : GP} {E : EE} {κ' : K} {rr : Unit} (O : CK l0 X B g cX11_tickOnce RX11 6 128) (hKP : KPok B E) (hmL : B.2.2.2.1 = 4) (hE : ∀ (pc : Nat) (lv : List (Nat × AV)), decode cX11_tickOnce pc = .ok (.return_, 1) → J X B (E, κ') pc lv []) (h0 : PC 11 E 5 0 0) {k2 : K → Int32 → Option (K × Unit)} (hk2 : ∀ (κ : K) (x1 : Int32), k2 κ x1 = some (κ', rr) → J X B (E, κ) 2 [(0, .inr (some (5, 0, 0))), (1, .inl (.int x1))] []) : ∀ (κ : K) (x1 : Int32) (xs0 : Int32) (xs1 : Int32), f_X11_tickOnce_b123 E k2 κ x1 xs0 xs1 = some (κ', rr) → J X B (E, κ) 123 [(0, .inr (some (5, 0, 0))), (1, .inl (.int x1))] [.inl (.int xs0), .inl (.int xs1), .inr (some (5, 0, 1))] := by
  intro κ x1 xs0 xs1 h
  unfold f_X11_tickOnce_b123 at h
  obtain ⟨hg32, h⟩ := gd_some h
  refine row_20 O (l11_1 h0) (k11_1 h0) (n11_1 h0) hg32 (x := xs0) dX11_tickOnce_123 ?_
  refine nm_some (P := fun z => J X B (E, z) 124 [(0, .inr (some (5, 0, 0))), (1, .inl (.int x1))] []) h (fun κ33 h => ?_)
  refine J_iinc O.mo (v := x1 + 1) (lv' := [(0, .inr (some (5, 0, 0)))]) dX11_tickOnce_124 (by rw [hmL]; decide) 1 rfl (by rw [show Int32.ofInt (1) = (1 : Int32) from by decide]) rfl rfl ?_
  refine nm_some (P := fun z => J X B (E, κ33) 127 [(1, .inl (.int z)), (0, .inr (some (5, 0, 0)))] []) h (fun y34 h => ?_)
  refine J_goto O.mo (tgt := 2) dX11_tickOnce_127 (by decide) ?_
  refine J_sub [1, 0] rfl ?_
  exact hk2 _ _ h
set_option maxHeartbeats 4000000 in
set_option maxRecDepth 100000 in
theorem w_X11_tickOnce_b97 {l0 : Launch} (hfl : l0.stackTraces = false) {X : MX} {B : BX (EE × K)} {g : GP} {E : EE} {κ' : K} {rr : Unit} (O : CK l0 X B g cX11_tickOnce RX11 6 128) (hKP : KPok B E) (hmL : B.2.2.2.1 = 4) (hE : ∀ (pc : Nat) (lv : List (Nat × AV)), decode cX11_tickOnce pc = .ok (.return_, 1) → J X B (E, κ') pc lv []) (h0 : PC 11 E 5 0 0) {k2 : K → Int32 → Option (K × Unit)} (hk2 : ∀ (κ : K) (x1 : Int32), k2 κ x1 = some (κ', rr) → J X B (E, κ) 2 [(0, .inr (some (5, 0, 0))), (1, .inl (.int x1))] []) : ∀ (κ : K) (x1 : Int32) (x2 : Int32) (xs0 : Int32), f_X11_tickOnce_b97 E k2 κ x1 x2 xs0 = some (κ', rr) → J X B (E, κ) 97 [(0, .inr (some (5, 0, 0))), (1, .inl (.int x1)), (2, .inl (.int x2))] [.inl (.int xs0)] := by
  intro κ x1 x2 xs0 h
  unfold f_X11_tickOnce_b97 at h
  refine J_istore_n O.mo (lv' := [(0, .inr (some (5, 0, 0))), (1, .inl (.int x1)), (2, .inl (.int x2))]) dX11_tickOnce_97 (by rw [hmL]; decide) rfl rfl ?_
  refine J_aload_n O.mo dX11_tickOnce_98 1 rfl ?_
  refine J_getF O.co (kd0 := 11) (k11_0 h0) (l11_0 h0) (C := RX11) (T := TX11) (N := 42) rfl (by decide) rfl in_X11 1 (by decide) (v := .inr (some (5, 0, 1))) rfl mw545 rfl dX11_tickOnce_99 ?_
  refine J_iload_n O.mo dX11_tickOnce_102 3 rfl ?_
  refine J_bipush O.mo (v := 49) dX11_tickOnce_103 (by decide) ?_
  refine J_iadd O.mo dX11_tickOnce_105 ?_
  refine J_iload_n O.mo dX11_tickOnce_106 0 rfl ?_
  refine J_if_eq O.mo (tgt := 114) dX11_tickOnce_107 (by decide) (fun hc30 => ?_) (fun hc30 => ?_)
  · replace h := (if_pos hc30).symm.trans h
    refine J_aload_n O.mo dX11_tickOnce_114 1 rfl ?_
    refine J_getF O.co (kd0 := 11) (k11_0 h0) (l11_0 h0) (C := RX11) (T := TX11) (N := 42) rfl (by decide) rfl in_X11 1 (by decide) (v := .inr (some (5, 0, 1))) rfl mw545 rfl dX11_tickOnce_115 ?_
    refine J_iload_n O.mo dX11_tickOnce_118 3 rfl ?_
    refine J_bipush O.mo (v := 49) dX11_tickOnce_119 (by decide) ?_
    refine J_iadd O.mo dX11_tickOnce_121 ?_
    obtain ⟨hg31, h⟩ := gd_some h
    refine J_iald O.co (g := (kV κ 5 0 1)) (ct_20n (l11_1 h0) (k11_1 h0) (n11_1 h0)) hg31 dX11_tickOnce_122 ?_
    refine J_sub [1, 2] rfl ?_
    exact w_X11_tickOnce_b123 hfl O hKP hmL hE h0 hk2 _ _ _ _ h
  · replace h := (if_neg hc30).symm.trans h
    refine J_iconst O.mo (v := 0) dX11_tickOnce_110 (by decide) ?_
    refine J_goto O.mo (tgt := 123) dX11_tickOnce_111 (by decide) ?_
    refine J_sub [1, 2] rfl ?_
    exact w_X11_tickOnce_b123 hfl O hKP hmL hE h0 hk2 _ _ _ _ h
set_option maxHeartbeats 4000000 in
set_option maxRecDepth 100000 in
theorem w_X11_tickOnce_b96 {l0 : Launch} (hfl : l0.stackTraces = false) {X : MX} {B : BX (EE × K)} {g : GP} {E : EE} {κ' : K} {rr : Unit} (O : CK l0 X B g cX11_tickOnce RX11 6 128) (hKP : KPok B E) (hmL : B.2.2.2.1 = 4) (hE : ∀ (pc : Nat) (lv : List (Nat × AV)), decode cX11_tickOnce pc = .ok (.return_, 1) → J X B (E, κ') pc lv []) (h0 : PC 11 E 5 0 0) {k2 : K → Int32 → Option (K × Unit)} (hk2 : ∀ (κ : K) (x1 : Int32), k2 κ x1 = some (κ', rr) → J X B (E, κ) 2 [(0, .inr (some (5, 0, 0))), (1, .inl (.int x1))] []) : ∀ (κ : K) (x1 : Int32) (x2 : Int32), f_X11_tickOnce_b96 E k2 κ x1 x2 = some (κ', rr) → J X B (E, κ) 96 [(0, .inr (some (5, 0, 0))), (1, .inl (.int x1)), (2, .inl (.int x2))] [] := by
  intro κ x1 x2 h
  unfold f_X11_tickOnce_b96 at h
  refine J_iconst O.mo (v := 0) dX11_tickOnce_96 (by decide) ?_
  exact w_X11_tickOnce_b97 hfl O hKP hmL hE h0 hk2 _ _ _ _ h
set_option maxHeartbeats 4000000 in
set_option maxRecDepth 100000 in
theorem w_X11_tickOnce_b92 {l0 : Launch} (hfl : l0.stackTraces = false) {X : MX} {B : BX (EE × K)} {g : GP} {E : EE} {κ' : K} {rr : Unit} (O : CK l0 X B g cX11_tickOnce RX11 6 128) (hKP : KPok B E) (hmL : B.2.2.2.1 = 4) (hE : ∀ (pc : Nat) (lv : List (Nat × AV)), decode cX11_tickOnce pc = .ok (.return_, 1) → J X B (E, κ') pc lv []) (h0 : PC 11 E 5 0 0) {k2 : K → Int32 → Option (K × Unit)} (hk2 : ∀ (κ : K) (x1 : Int32), k2 κ x1 = some (κ', rr) → J X B (E, κ) 2 [(0, .inr (some (5, 0, 0))), (1, .inl (.int x1))] []) : ∀ (κ : K) (x1 : Int32) (x2 : Int32), f_X11_tickOnce_b92 E k2 κ x1 x2 = some (κ', rr) → J X B (E, κ) 92 [(0, .inr (some (5, 0, 0))), (1, .inl (.int x1)), (2, .inl (.int x2))] [] := by
  intro κ x1 x2 h
  unfold f_X11_tickOnce_b92 at h
  refine J_iconst O.mo (v := 1) dX11_tickOnce_92 (by decide) ?_
  refine J_goto O.mo (tgt := 97) dX11_tickOnce_93 (by decide) ?_
  exact w_X11_tickOnce_b97 hfl O hKP hmL hE h0 hk2 _ _ _ _ h
set_option maxHeartbeats 4000000 in
set_option maxRecDepth 100000 in
theorem w_X11_tickOnce_b53 {l0 : Launch} (hfl : l0.stackTraces = false) {X : MX} {B : BX (EE × K)} {g : GP} {E : EE} {κ' : K} {rr : Unit} (O : CK l0 X B g cX11_tickOnce RX11 6 128) (hKP : KPok B E) (hmL : B.2.2.2.1 = 4) (hE : ∀ (pc : Nat) (lv : List (Nat × AV)), decode cX11_tickOnce pc = .ok (.return_, 1) → J X B (E, κ') pc lv []) (h0 : PC 11 E 5 0 0) {k2 : K → Int32 → Option (K × Unit)} (hk2 : ∀ (κ : K) (x1 : Int32), k2 κ x1 = some (κ', rr) → J X B (E, κ) 2 [(0, .inr (some (5, 0, 0))), (1, .inl (.int x1))] []) : ∀ (κ : K) (x1 : Int32) (x2 : Int32), f_X11_tickOnce_b53 E k2 κ x1 x2 = some (κ', rr) → J X B (E, κ) 53 [(0, .inr (some (5, 0, 0))), (1, .inl (.int x1)), (2, .inl (.int x2))] [] := by
  intro κ x1 x2 h
  unfold f_X11_tickOnce_b53 at h
  refine J_aload_n O.mo dX11_tickOnce_53 0 rfl ?_
  refine J_getF O.co (kd0 := 11) (k11_0 h0) (l11_0 h0) (C := RX11) (T := TX11) (N := 42) rfl (by decide) rfl in_X11 1 (by decide) (v := .inr (some (5, 0, 1))) rfl mw545 rfl dX11_tickOnce_54 ?_
  refine J_iload_n O.mo dX11_tickOnce_57 2 rfl ?_
  refine J_bipush O.mo (v := 49) dX11_tickOnce_58 (by decide) ?_
  refine J_iadd O.mo dX11_tickOnce_60 ?_
  obtain ⟨hg28, h⟩ := gd_some h
  refine J_iald O.co (g := (kV κ 5 0 1)) (ct_20n (l11_1 h0) (k11_1 h0) (n11_1 h0)) hg28 dX11_tickOnce_61 ?_
  refine J_iconst O.mo (v := 1) dX11_tickOnce_62 (by decide) ?_
  refine J_icmp_ne O.mo (tgt := 96) dX11_tickOnce_63 (by decide) (fun hc29 => ?_) (fun hc29 => ?_)
  · replace h := (if_neg hc29).symm.trans h
    exact w_X11_tickOnce_b96 hfl O hKP hmL hE h0 hk2 _ _ _ h
  · replace h := (if_pos hc29).symm.trans h
    refine J_aload_n O.mo dX11_tickOnce_66 0 rfl ?_
    refine J_getF O.co (kd0 := 11) (k11_0 h0) (l11_0 h0) (C := RX11) (T := TX11) (N := 42) rfl (by decide) rfl in_X11 1 (by decide) (v := .inr (some (5, 0, 1))) rfl mw545 rfl dX11_tickOnce_67 ?_
    refine J_iload_n O.mo dX11_tickOnce_70 2 rfl ?_
    refine J_bipush O.mo (v := 51) dX11_tickOnce_71 (by decide) ?_
    refine J_iadd O.mo dX11_tickOnce_73 ?_
    obtain ⟨hg35, h⟩ := gd_some h
    refine J_iald O.co (g := (kV κ 5 0 1)) (ct_20n (l11_1 h0) (k11_1 h0) (n11_1 h0)) hg35 dX11_tickOnce_74 ?_
    refine J_iconst O.mo (v := 1) dX11_tickOnce_75 (by decide) ?_
    refine J_icmp_eq O.mo (tgt := 92) dX11_tickOnce_76 (by decide) (fun hc36 => ?_) (fun hc36 => ?_)
    · replace h := (if_pos hc36).symm.trans h
      exact w_X11_tickOnce_b92 hfl O hKP hmL hE h0 hk2 _ _ _ h
    · replace h := (if_neg hc36).symm.trans h
      refine J_aload_n O.mo dX11_tickOnce_79 0 rfl ?_
      refine J_getF O.co (kd0 := 11) (k11_0 h0) (l11_0 h0) (C := RX11) (T := TX11) (N := 42) rfl (by decide) rfl in_X11 1 (by decide) (v := .inr (some (5, 0, 1))) rfl mw545 rfl dX11_tickOnce_80 ?_
      refine J_iload_n O.mo dX11_tickOnce_83 2 rfl ?_
      refine J_bipush O.mo (v := 52) dX11_tickOnce_84 (by decide) ?_
      refine J_iadd O.mo dX11_tickOnce_86 ?_
      obtain ⟨hg37, h⟩ := gd_some h
      refine J_iald O.co (g := (kV κ 5 0 1)) (ct_20n (l11_1 h0) (k11_1 h0) (n11_1 h0)) hg37 dX11_tickOnce_87 ?_
      refine J_iconst O.mo (v := 1) dX11_tickOnce_88 (by decide) ?_
      refine J_icmp_ne O.mo (tgt := 96) dX11_tickOnce_89 (by decide) (fun hc38 => ?_) (fun hc38 => ?_)
      · replace h := (if_neg hc38).symm.trans h
        exact w_X11_tickOnce_b96 hfl O hKP hmL hE h0 hk2 _ _ _ h
      · replace h := (if_pos hc38).symm.trans h
        exact w_X11_tickOnce_b92 hfl O hKP hmL hE h0 hk2 _ _ _ h
set_option maxHeartbeats 4000000 in
set_option maxRecDepth 100000 in
theorem w_X11_tickOnce_b2 {l0 : Launch} (hfl : l0.stackTraces = false) {X : MX} {B : BX (EE × K)} {g : GP} {E : EE} {κ' : K} {rr : Unit} (O : CK l0 X B g cX11_tickOnce RX11 6 128) (hKP : KPok B E) (hmL : B.2.2.2.1 = 4) (hE : ∀ (pc : Nat) (lv : List (Nat × AV)), decode cX11_tickOnce pc = .ok (.return_, 1) → J X B (E, κ') pc lv []) (h0 : PC 11 E 5 0 0) : ∀ (n : Nat) (κ : K) (x1 : Int32), f_X11_tickOnce_b2 E n κ x1 = some (κ', rr) → J X B (E, κ) 2 [(0, .inr (some (5, 0, 0))), (1, .inl (.int x1))] [] := by
  intro n
  induction n with
  | zero => intro κ x1 h; cases h
  | succ n ih =>
    intro κ x1 h
    rw [f_X11_tickOnce_b2] at h
    refine J_iload_n O.mo dX11_tickOnce_2 1 rfl ?_
    refine J_aload_n O.mo dX11_tickOnce_3 0 rfl ?_
    refine J_getF O.co (kd0 := 11) (k11_0 h0) (l11_0 h0) (C := RX11) (T := TX11) (N := 42) rfl (by decide) rfl in_X11 26 (by decide) (v := .inl (.int (kV κ 5 0 0 26))) rfl mw514 rfl dX11_tickOnce_4 ?_
    refine J_icmp_ge O.mo (tgt := 130) dX11_tickOnce_7 (by decide) (fun hc1 => ?_) (fun hc1 => ?_)
    · replace h := (if_pos hc1).symm.trans h
      refine J_sub [0] rfl ?_
      exact w_X11_tickOnce_b130 hfl O hKP hmL hE h0 _ h
    · replace h := (if_neg hc1).symm.trans h
      refine J_bipush O.mo (v := 55) dX11_tickOnce_10 (by decide) ?_
      refine J_iload_n O.mo dX11_tickOnce_12 1 rfl ?_
      refine J_imul O.mo dX11_tickOnce_13 ?_
      refine J_istore_n O.mo (lv' := [(0, .inr (some (5, 0, 0))), (1, .inl (.int x1))]) dX11_tickOnce_14 (by rw [hmL]; decide) rfl rfl ?_
      refine nm_some (P := fun z => J X B (E, κ) 15 [(2, .inl (.int z)), (0, .inr (some (5, 0, 0))), (1, .inl (.int x1))] []) h (fun y25 h => ?_)
      refine J_aload_n O.mo dX11_tickOnce_15 1 rfl ?_
      refine J_getF O.co (kd0 := 11) (k11_0 h0) (l11_0 h0) (C := RX11) (T := TX11) (N := 42) rfl (by decide) rfl in_X11 1 (by decide) (v := .inr (some (5, 0, 1))) rfl mw545 rfl dX11_tickOnce_16 ?_
      refine J_iload_n O.mo dX11_tickOnce_19 0 rfl ?_
      refine J_bipush O.mo (v := 50) dX11_tickOnce_20 (by decide) ?_
      refine J_iadd O.mo dX11_tickOnce_22 ?_
      obtain ⟨hg26, h⟩ := gd_some h
      refine J_iald O.co (g := (kV κ 5 0 1)) (ct_20n (l11_1 h0) (k11_1 h0) (n11_1 h0)) hg26 dX11_tickOnce_23 ?_
      refine J_aload_n O.mo dX11_tickOnce_24 1 rfl ?_
      refine J_getF O.co (kd0 := 11) (k11_0 h0) (l11_0 h0) (C := RX11) (T := TX11) (N := 42) rfl (by decide) rfl in_X11 41 (by decide) (v := .inl (.int (kV κ 5 0 0 41))) rfl mw519 rfl dX11_tickOnce_25 ?_
      refine J_iconst O.mo (v := 1) dX11_tickOnce_28 (by decide) ?_
      refine J_iadd O.mo dX11_tickOnce_29 ?_
      refine J_icmp_ne O.mo (tgt := 53) dX11_tickOnce_30 (by decide) (fun hc27 => ?_) (fun hc27 => ?_)
      · replace h := (if_neg hc27).symm.trans h
        refine J_sub [1, 2, 0] rfl ?_
        exact w_X11_tickOnce_b53 hfl O hKP hmL hE h0 ih _ _ _ h
      · replace h := (if_pos hc27).symm.trans h
        refine J_aload_n O.mo dX11_tickOnce_33 1 rfl ?_
        refine J_getF O.co (kd0 := 11) (k11_0 h0) (l11_0 h0) (C := RX11) (T := TX11) (N := 42) rfl (by decide) rfl in_X11 1 (by decide) (v := .inr (some (5, 0, 1))) rfl mw545 rfl dX11_tickOnce_34 ?_
        refine J_iload_n O.mo dX11_tickOnce_37 0 rfl ?_
        refine J_bipush O.mo (v := 50) dX11_tickOnce_38 (by decide) ?_
        refine J_iadd O.mo dX11_tickOnce_40 ?_
        refine J_iconst O.mo (v := (-1)) dX11_tickOnce_41 (by decide) ?_
        obtain ⟨hg39, h⟩ := gd_some h
        refine row_20 O (l11_1 h0) (k11_1 h0) (n11_1 h0) hg39 (x := ((-1))) dX11_tickOnce_42 ?_
        refine nm_some (P := fun z => J X B (E, z) 43 [(2, .inl (.int y25)), (0, .inr (some (5, 0, 0))), (1, .inl (.int x1))] []) h (fun κ40 h => ?_)
        refine J_aload_n O.mo dX11_tickOnce_43 1 rfl ?_
        refine J_getF O.co (kd0 := 11) (k11_0 h0) (l11_0 h0) (C := RX11) (T := TX11) (N := 42) rfl (by decide) rfl in_X11 1 (by decide) (v := .inr (some (5, 0, 1))) rfl mw545 rfl dX11_tickOnce_44 ?_
        refine J_iload_n O.mo dX11_tickOnce_47 0 rfl ?_
        refine J_bipush O.mo (v := 51) dX11_tickOnce_48 (by decide) ?_
        refine J_iadd O.mo dX11_tickOnce_50 ?_
        refine J_iconst O.mo (v := 1) dX11_tickOnce_51 (by decide) ?_
        obtain ⟨hg41, h⟩ := gd_some h
        refine row_20 O (l11_1 h0) (k11_1 h0) (n11_1 h0) hg41 (x := 1) dX11_tickOnce_52 ?_
        refine nm_some (P := fun z => J X B (E, z) 53 [(2, .inl (.int y25)), (0, .inr (some (5, 0, 0))), (1, .inl (.int x1))] []) h (fun κ42 h => ?_)
        refine J_sub [1, 2, 0] rfl ?_
        exact w_X11_tickOnce_b53 hfl O hKP hmL hE h0 ih _ _ _ h
set_option maxHeartbeats 4000000 in
set_option maxRecDepth 100000 in
theorem w_X11_tickOnce {l0 : Launch} (hfl : l0.stackTraces = false) {X : MX} {B : BX (EE × K)} {g : GP} {E : EE} {κ' : K} {rr : Unit} (O : CK l0 X B g cX11_tickOnce RX11 6 128) (hKP : KPok B E) (hmL : B.2.2.2.1 = 4) (hE : ∀ (pc : Nat) (lv : List (Nat × AV)), decode cX11_tickOnce pc = .ok (.return_, 1) → J X B (E, κ') pc lv []) (h0 : PC 11 E 5 0 0) : ∀ (κ : K), f_X11_tickOnce E κ = some (κ', rr) → J X B (E, κ) 0 [(0, .inr (some (5, 0, 0)))] [] := by
  intro κ h
  unfold f_X11_tickOnce at h
  refine J_iconst O.mo (v := 0) dX11_tickOnce_0 (by decide) ?_
  refine J_istore_n O.mo (lv' := [(0, .inr (some (5, 0, 0)))]) dX11_tickOnce_1 (by rw [hmL]; decide) rfl rfl ?_
  refine J_sub [1, 0] rfl ?_
  exact w_X11_tickOnce_b2 hfl O hKP hmL hE h0 FU _ _ h
theorem c_X11_tickOnce {l : Launch} (hfl : l.stackTraces = false) {E : EE} {κ κ' : K} (h0 : PC 11 E 5 0 0) {rr : Unit} (h : f_X11_tickOnce E κ = some (κ', rr)) : Con l yX11_tickOnce cX11_tickOnce 4 none 6 128 [.inr (some (5, 0, 0))] (E, κ) (E, κ') none := by
  exact Con_of hfl (by decide +kernel) (Nat.le_of_ble_eq_true rfl) rfl rfl (fun X B g O hKP hmL hE => w_X11_tickOnce hfl O hKP hmL hE h0 _ h)
