set_option maxRecDepth 100000 in
theorem mw514 : Cond.methodLink RX9 1 Lib.objectInit ∈ gwl := gwl_tb 254 rfl rfl
set_option maxRecDepth 100000 in
theorem mw515 : Cond.instanceMethod Lib.objectInit ∈ gwl := gwl_tb 34 rfl rfl
set_option maxRecDepth 100000 in
theorem mw516 : Cond.code Lib.objectInit ⟨#[0xb1]⟩ 1 none ∈ gwl := gwl_tb 35 rfl rfl
set_option maxRecDepth 100000 in
theorem mw517 : Cond.methodLink RX4 1 Lib.objectInit ∈ gwl := gwl_tb 336 rfl rfl
set_option maxRecDepth 100000 in
theorem mw518 : Cond.methodLink RX5 3 Lib.objectInit ∈ gwl := gwl_tb 260 rfl rfl
set_option maxRecDepth 100000 in
theorem mw519 : Cond.methodLink RX3 3 Lib.objectInit ∈ gwl := gwl_tb 290 rfl rfl
set_option maxRecDepth 100000 in
theorem mw520 : Cond.methodLink RX8 3 Lib.objectInit ∈ gwl := gwl_tb 284 rfl rfl
set_option maxRecDepth 100000 in
theorem mw521 : Cond.classLink RX8 9 RX3 ∈ gwl := gwl_tb 285 rfl rfl
set_option maxRecDepth 100000 in
theorem mw522 : Cond.instantiable RX3 9 ∈ gwl := gwl_tb 286 rfl rfl
set_option maxRecDepth 100000 in
theorem mw523 : Cond.methodLinkNest RX8 11 yX3_init "GuestHall" ∈ nwl := nwl_tb 287 rfl rfl
set_option maxRecDepth 100000 in
theorem mw524 : Cond.instanceMethod yX3_init ∈ gwl := gwl_tb 288 rfl rfl
set_option maxRecDepth 100000 in
theorem mw525 : Cond.code yX3_init cX3_init 1 none ∈ gwl := gwl_tb 289 rfl rfl
set_option maxRecDepth 100000 in
theorem mw526 : Cond.classLink RX8 18 RX4 ∈ gwl := gwl_tb 331 rfl rfl
set_option maxRecDepth 100000 in
theorem mw527 : Cond.instantiable RX4 2 ∈ gwl := gwl_tb 332 rfl rfl
set_option maxRecDepth 100000 in
theorem mw528 : Cond.methodLinkNest RX8 20 yX4_init "GuestHall" ∈ nwl := nwl_tb 333 rfl rfl
set_option maxRecDepth 100000 in
theorem mw529 : Cond.instanceMethod yX4_init ∈ gwl := gwl_tb 334 rfl rfl
set_option maxRecDepth 100000 in
theorem mw530 : Cond.code yX4_init cX4_init 1 none ∈ gwl := gwl_tb 335 rfl rfl
set_option maxRecDepth 100000 in
theorem mw531 : Cond.methodLink RX0 1 Lib.objectInit ∈ gwl := gwl_tb 402 rfl rfl
set_option maxRecDepth 100000 in
theorem mw532 : Cond.classLink RX0 7 RX8 ∈ gwl := gwl_tb 403 rfl rfl
set_option maxRecDepth 100000 in
theorem mw533 : Cond.instantiable RX8 10 ∈ gwl := gwl_tb 280 rfl rfl
set_option maxRecDepth 100000 in
theorem mw534 : Cond.methodLinkNest RX0 9 yX8_init "GuestHall" ∈ nwl := nwl_tb 404 rfl rfl
set_option maxRecDepth 100000 in
theorem mw535 : Cond.instanceMethod yX8_init ∈ gwl := gwl_tb 282 rfl rfl
set_option maxRecDepth 100000 in
theorem mw536 : Cond.code yX8_init cX8_init 1 none ∈ gwl := gwl_tb 283 rfl rfl
set_option maxRecDepth 100000 in
theorem mw537 : Cond.fieldLink RX0 10 "GuestHall$Following" "step" "LGuestHall$State;" ∈ gwl := gwl_tb 410 rfl rfl
set_option maxRecDepth 100000 in
theorem mw538 : Cond.classLink RX0 16 RX4 ∈ gwl := gwl_tb 405 rfl rfl
set_option maxRecDepth 100000 in
theorem mw539 : Cond.methodLinkNest RX0 18 yX4_init "GuestHall" ∈ nwl := nwl_tb 406 rfl rfl
set_option maxRecDepth 100000 in
theorem mw540 : Cond.fieldLink RX0 19 "GuestHall$Following" "cameSince" "LGuestHall$Numbers;" ∈ gwl := gwl_tb 412 rfl rfl
set_option maxRecDepth 100000 in
theorem mw541 : Cond.methodLinkNest RX1 3 yX9_init "GuestHall" ∈ nwl := nwl_tb 251 rfl rfl
set_option maxRecDepth 100000 in
theorem mw542 : Cond.instanceMethod yX9_init ∈ gwl := gwl_tb 252 rfl rfl
set_option maxRecDepth 100000 in
theorem mw543 : Cond.initialized RX9 ∈ gwl := gwl_tb 13 rfl rfl
set_option maxRecDepth 100000 in
theorem mw544 : Cond.code yX9_init cX9_init 1 none ∈ gwl := gwl_tb 253 rfl rfl
set_option maxRecDepth 100000 in
theorem mw545 : Cond.classLink RX1 9 RX5 ∈ gwl := gwl_tb 255 rfl rfl
set_option maxRecDepth 100000 in
theorem mw546 : Cond.instantiable RX5 4 ∈ gwl := gwl_tb 256 rfl rfl
set_option maxRecDepth 100000 in
theorem mw547 : Cond.methodLinkNest RX1 11 yX5_init "GuestHall" ∈ nwl := nwl_tb 257 rfl rfl
set_option maxRecDepth 100000 in
theorem mw548 : Cond.instanceMethod yX5_init ∈ gwl := gwl_tb 258 rfl rfl
set_option maxRecDepth 100000 in
theorem mw549 : Cond.code yX5_init cX5_init 1 none ∈ gwl := gwl_tb 259 rfl rfl
set_option maxRecDepth 100000 in
theorem mw550 : Cond.classLink RX1 18 RX8 ∈ gwl := gwl_tb 279 rfl rfl
set_option maxRecDepth 100000 in
theorem mw551 : Cond.methodLinkNest RX1 20 yX8_init "GuestHall" ∈ nwl := nwl_tb 281 rfl rfl
set_option maxRecDepth 100000 in
theorem mw552 : Cond.classLink RX1 25 RX0 ∈ gwl := gwl_tb 397 rfl rfl
set_option maxRecDepth 100000 in
theorem mw553 : Cond.instantiable RX0 4 ∈ gwl := gwl_tb 398 rfl rfl
set_option maxRecDepth 100000 in
theorem mw554 : Cond.methodLinkNest RX1 27 yX0_init "GuestHall" ∈ nwl := nwl_tb 399 rfl rfl
set_option maxRecDepth 100000 in
theorem mw555 : Cond.instanceMethod yX0_init ∈ gwl := gwl_tb 400 rfl rfl
set_option maxRecDepth 100000 in
theorem mw556 : Cond.code yX0_init cX0_init 1 none ∈ gwl := gwl_tb 401 rfl rfl
set_option maxRecDepth 100000 in
theorem mw557 : Cond.classLink RX1 32 RX4 ∈ gwl := gwl_tb 427 rfl rfl
set_option maxRecDepth 100000 in
theorem mw558 : Cond.methodLinkNest RX1 34 yX4_init "GuestHall" ∈ nwl := nwl_tb 428 rfl rfl
set_option maxRecDepth 100000 in
theorem mw559 : Cond.fieldLink RX1 60 "GuestHall$Guest" "weight" "I" ∈ gwl := gwl_tb 431 rfl rfl
set_option maxRecDepth 100000 in
theorem mw560 : Cond.fieldLink RX1 63 "GuestHall$Guest" "isSealed" "Z" ∈ gwl := gwl_tb 433 rfl rfl
set_option maxRecDepth 100000 in
theorem mw561 : Cond.methodLinkNest RX6 3 yX9_init "GuestHall" ∈ nwl := nwl_tb 1149 rfl rfl
set_option maxRecDepth 100000 in
theorem mw562 : Cond.classLink RX6 9 RX3 ∈ gwl := gwl_tb 1150 rfl rfl
set_option maxRecDepth 100000 in
theorem mw563 : Cond.methodLinkNest RX6 11 yX3_init "GuestHall" ∈ nwl := nwl_tb 1151 rfl rfl
theorem pd_X3_init : (yX3_init).cls ≠ "java/lang/invoke/MethodHandle" ∧ (yX3_init).cls ≠ "java/lang/invoke/VarHandle" ∧ (parseMethodDescriptor (yX3_init).desc).map (fun d => d.parameters.length) = some 0 := ⟨by decide +kernel, by decide +kernel, by decide +kernel⟩
theorem pd_X4_init : (yX4_init).cls ≠ "java/lang/invoke/MethodHandle" ∧ (yX4_init).cls ≠ "java/lang/invoke/VarHandle" ∧ (parseMethodDescriptor (yX4_init).desc).map (fun d => d.parameters.length) = some 0 := ⟨by decide +kernel, by decide +kernel, by decide +kernel⟩
theorem pd_X8_init : (yX8_init).cls ≠ "java/lang/invoke/MethodHandle" ∧ (yX8_init).cls ≠ "java/lang/invoke/VarHandle" ∧ (parseMethodDescriptor (yX8_init).desc).map (fun d => d.parameters.length) = some 0 := ⟨by decide +kernel, by decide +kernel, by decide +kernel⟩
theorem pd_X9_init : (yX9_init).cls ≠ "java/lang/invoke/MethodHandle" ∧ (yX9_init).cls ≠ "java/lang/invoke/VarHandle" ∧ (parseMethodDescriptor (yX9_init).desc).map (fun d => d.parameters.length) = some 0 := ⟨by decide +kernel, by decide +kernel, by decide +kernel⟩
theorem pd_X5_init : (yX5_init).cls ≠ "java/lang/invoke/MethodHandle" ∧ (yX5_init).cls ≠ "java/lang/invoke/VarHandle" ∧ (parseMethodDescriptor (yX5_init).desc).map (fun d => d.parameters.length) = some 0 := ⟨by decide +kernel, by decide +kernel, by decide +kernel⟩
theorem pd_X0_init : (yX0_init).cls ≠ "java/lang/invoke/MethodHandle" ∧ (yX0_init).cls ≠ "java/lang/invoke/VarHandle" ∧ (parseMethodDescriptor (yX0_init).desc).map (fun d => d.parameters.length) = some 0 := ⟨by decide +kernel, by decide +kernel, by decide +kernel⟩
set_option maxHeartbeats 4000000 in
theorem ci_X9_init {l : Launch} (hfl : l.stackTraces = false) {E : EE} {p0 : Pl} {κ : K} : Con l yX9_init cX9_init 1 none 1 12 [.inr (some p0)] (E, κ) (E, κ) none := by
  refine Con_ofI hfl (by decide +kernel) (Nat.le_of_ble_eq_true rfl) rfl rfl (fun X B g O hKP hmL hname hE => ?_)
  show J X B (E, κ) 0 [(0, .inr (some p0))] []
  refine J_aload_n O.mo dX9_init_0 0 rfl ?_
  refine J_objInit O mw514 mw515 mw516 (by decide) (Nat.le_of_ble_eq_true rfl) rfl dX9_init_1 ?_
  exact hE _ _ dX9_init_4
def cX4 (n : Nat) : List RC := .inl (5, (updf (fun j => dv (tyX4 j)) 0 (.inr (some (8, n + 1, 0))))) :: ([] ++ [.inr (0, 8, .inl fun _ => 0)])
theorem ok_X4 (n : Nat) : aok (n + 2) (cX4 n) := aok_cons (show ∀ j, clA (n + 2) (_ : AV) from (updf_ok (fun j => dv_cl _ _) (fun _ => (by show n + 1 < n + 2; omega)))) (aok_app aok_nil (aok_cons trivial aok_nil))
set_option maxHeartbeats 4000000 in
set_option maxRecDepth 100000 in
theorem ci_X4 {l : Launch} (hfl : l.stackTraces = false) {E0 : EE} {L : List RC} {κ : K} (hR : rawOK (upR E0 (L ++ [.inl (5, fun j => dv (tyX4 j))]))) : Con l yX4_init cX4_init 1 none 1 12 [.inr (some (8, L.length, 0))] (upR E0 (L ++ [.inl (5, fun j => dv (tyX4 j))]), κ) (upR E0 (L ++ cX4 L.length), addC κ 1 8) none := by
  refine Con_ofI hfl (by decide +kernel) (Nat.le_of_ble_eq_true rfl) rfl rfl (fun X B g O hKP hmL hname hE => ?_)
  replace hname : B.2.2.2.2.2.2.2.2 X → MXn X = "<init>" := hname
  change KPok B (cst E0 L 5 (fun j => dv (tyX4 j)) []) at hKP
  change rawOK (cst E0 L 5 (fun j => dv (tyX4 j)) []) at hR
  show J X B (cst E0 L 5 (fun j => dv (tyX4 j)) [], addC κ 0 0) 0 [(0, .inr (some (8, L.length, 0)))] []
  refine J_aload_n O.mo dX4_init_0 0 rfl ?_
  refine J_objInit O mw517 mw515 mw516 (by decide) (Nat.le_of_ble_eq_true rfl) rfl dX4_init_1 ?_
  refine J_aload_n O.mo dX4_init_4 0 rfl ?_
  refine J_bipush O.mo (v := 8) dX4_init_5 (by decide) ?_
  refine J_cNewa O (KPc hKP) hR (d := 1) rfl (atype := .int) (ty := .int) (ai := 0) (ct := .inl fun _ => 0) (N := 8) rfl (fun _ => rfl) (fun _ _ _ => ⟨_, rfl, rfl⟩) (fun _ => trivial) mw_arrI (by decide) (by decide) (by decide) (sl_p (stL2 (t := 0) rfl (by omega)) sl_0) (st_p (stL2 (t := 0) rfl (by omega)) st_0) dX4_init_7 (fun hR => ?_)
  show J X B (cst E0 L 5 (fun j => dv (tyX4 j)) ([] ++ [.inr (0, 8, .inl fun _ => 0)]), addC κ 1 8) 9 [(0, .inr (some (8, L.length, 0)))] [.inr (some (8, L.length + 1, 0)), .inr (some (8, L.length, 0))]
  refine J_cPut O hname hR (C := RX4) (Tt := TX4) (N := 2) rfl rfl in_X4 tyX4 tyX4_ok nmX4 0 (by decide) (v := .inr (some (8, L.length + 1, 0))) (v' := .inr (some (8, L.length + 1, 0))) (clL (t := 1) rfl (by omega)) rfl (fun _ => ⟨rfl, rfl⟩) (Or.inl rfl) mw48 rfl dX4_init_9 (fun hR => ?_)
  exact hE _ _ dX4_init_12
def cX5 (n : Nat) : List RC := .inl (6, (updf (updf (updf (fun j => dv (tyX5 j)) 0 (.inr (some (8, n + 1, 0)))) 1 (.inr (some (8, n + 2, 0)))) 2 (.inr (some (8, n + 3, 0))))) :: ((([] ++ [.inr (0, 24, .inl fun _ => 0)]) ++ [.inr (0, 24, .inl fun _ => 0)]) ++ [.inr (0, 24, .inl fun _ => 0)])
theorem ok_X5 (n : Nat) : aok (n + 4) (cX5 n) := aok_cons (show ∀ j, clA (n + 4) (_ : AV) from (updf_ok (updf_ok (updf_ok (fun j => dv_cl _ _) (fun _ => (by show n + 1 < n + 4; omega))) (fun _ => (by show n + 2 < n + 4; omega))) (fun _ => (by show n + 3 < n + 4; omega)))) (aok_app (aok_app (aok_app aok_nil (aok_cons trivial aok_nil)) (aok_cons trivial aok_nil)) (aok_cons trivial aok_nil))
set_option maxHeartbeats 4000000 in
set_option maxRecDepth 100000 in
theorem ci_X5 {l : Launch} (hfl : l.stackTraces = false) {E0 : EE} {L : List RC} {κ : K} (hR : rawOK (upR E0 (L ++ [.inl (6, fun j => dv (tyX5 j))]))) : Con l yX5_init cX5_init 1 none 1 12 [.inr (some (8, L.length, 0))] (upR E0 (L ++ [.inl (6, fun j => dv (tyX5 j))]), κ) (upR E0 (L ++ cX5 L.length), addC κ 3 72) none := by
  refine Con_ofI hfl (by decide +kernel) (Nat.le_of_ble_eq_true rfl) rfl rfl (fun X B g O hKP hmL hname hE => ?_)
  replace hname : B.2.2.2.2.2.2.2.2 X → MXn X = "<init>" := hname
  change KPok B (cst E0 L 6 (fun j => dv (tyX5 j)) []) at hKP
  change rawOK (cst E0 L 6 (fun j => dv (tyX5 j)) []) at hR
  show J X B (cst E0 L 6 (fun j => dv (tyX5 j)) [], addC κ 0 0) 0 [(0, .inr (some (8, L.length, 0)))] []
  refine J_aload_n O.mo dX5_init_0 0 rfl ?_
  refine J_objInit O mw518 mw515 mw516 (by decide) (Nat.le_of_ble_eq_true rfl) rfl dX5_init_1 ?_
  refine J_aload_n O.mo dX5_init_4 0 rfl ?_
  refine J_bipush O.mo (v := 24) dX5_init_5 (by decide) ?_
  refine J_cNewa O (KPc hKP) hR (d := 1) rfl (atype := .int) (ty := .int) (ai := 0) (ct := .inl fun _ => 0) (N := 24) rfl (fun _ => rfl) (fun _ _ _ => ⟨_, rfl, rfl⟩) (fun _ => trivial) mw_arrI (by decide) (by decide) (by decide) (sl_p (stL2 (t := 0) rfl (by omega)) sl_0) (st_p (stL2 (t := 0) rfl (by omega)) st_0) dX5_init_7 (fun hR => ?_)
  show J X B (cst E0 L 6 (fun j => dv (tyX5 j)) ([] ++ [.inr (0, 24, .inl fun _ => 0)]), addC κ 1 24) 9 [(0, .inr (some (8, L.length, 0)))] [.inr (some (8, L.length + 1, 0)), .inr (some (8, L.length, 0))]
  refine J_cPut O hname hR (C := RX5) (Tt := TX5) (N := 4) rfl rfl in_X5 tyX5 tyX5_ok nmX5 0 (by decide) (v := .inr (some (8, L.length + 1, 0))) (v' := .inr (some (8, L.length + 1, 0))) (clL (t := 1) rfl (by omega)) rfl (fun _ => ⟨rfl, rfl⟩) (Or.inr rfl) mw60 rfl dX5_init_9 (fun hR => ?_)
  refine J_aload_n O.mo dX5_init_12 0 rfl ?_
  refine J_bipush O.mo (v := 24) dX5_init_13 (by decide) ?_
  refine J_cNewa O (KPc hKP) hR (d := 2) rfl (atype := .int) (ty := .int) (ai := 0) (ct := .inl fun _ => 0) (N := 24) rfl (fun _ => rfl) (fun _ _ _ => ⟨_, rfl, rfl⟩) (fun _ => trivial) mw_arrI (by decide) (by decide) (by decide) (sl_p (stL2 (t := 1) rfl (by omega)) sl_0) (st_p (stL2 (t := 1) rfl (by omega)) st_0) dX5_init_15 (fun hR => ?_)
  show J X B (cst E0 L 6 (updf (fun j => dv (tyX5 j)) 0 (.inr (some (8, L.length + 1, 0)))) (([] ++ [.inr (0, 24, .inl fun _ => 0)]) ++ [.inr (0, 24, .inl fun _ => 0)]), addC κ 2 48) 17 [(0, .inr (some (8, L.length, 0)))] [.inr (some (8, L.length + 2, 0)), .inr (some (8, L.length, 0))]
  refine J_cPut O hname hR (C := RX5) (Tt := TX5) (N := 4) rfl rfl in_X5 tyX5 tyX5_ok nmX5 1 (by decide) (v := .inr (some (8, L.length + 2, 0))) (v' := .inr (some (8, L.length + 2, 0))) (clL (t := 2) rfl (by omega)) rfl (fun _ => ⟨rfl, rfl⟩) (Or.inr rfl) mw61 rfl dX5_init_17 (fun hR => ?_)
  refine J_aload_n O.mo dX5_init_20 0 rfl ?_
  refine J_bipush O.mo (v := 24) dX5_init_21 (by decide) ?_
  refine J_cNewa O (KPc hKP) hR (d := 3) rfl (atype := .int) (ty := .int) (ai := 0) (ct := .inl fun _ => 0) (N := 24) rfl (fun _ => rfl) (fun _ _ _ => ⟨_, rfl, rfl⟩) (fun _ => trivial) mw_arrI (by decide) (by decide) (by decide) (sl_p (stL2 (t := 2) rfl (by omega)) sl_0) (st_p (stL2 (t := 2) rfl (by omega)) st_0) dX5_init_23 (fun hR => ?_)
  show J X B (cst E0 L 6 (updf (updf (fun j => dv (tyX5 j)) 0 (.inr (some (8, L.length + 1, 0)))) 1 (.inr (some (8, L.length + 2, 0)))) ((([] ++ [.inr (0, 24, .inl fun _ => 0)]) ++ [.inr (0, 24, .inl fun _ => 0)]) ++ [.inr (0, 24, .inl fun _ => 0)]), addC κ 3 72) 25 [(0, .inr (some (8, L.length, 0)))] [.inr (some (8, L.length + 3, 0)), .inr (some (8, L.length, 0))]
  refine J_cPut O hname hR (C := RX5) (Tt := TX5) (N := 4) rfl rfl in_X5 tyX5 tyX5_ok nmX5 2 (by decide) (v := .inr (some (8, L.length + 3, 0))) (v' := .inr (some (8, L.length + 3, 0))) (clL (t := 3) rfl (by omega)) rfl (fun _ => ⟨rfl, rfl⟩) (Or.inr rfl) mw62 rfl dX5_init_25 (fun hR => ?_)
  exact hE _ _ dX5_init_28
def cX3 (n : Nat) : List RC := .inl (4, (updf (updf (updf (updf (updf (fun j => dv (tyX3 j)) 0 (.inr (some (8, n + 1, 0)))) 1 (.inr (some (8, n + 2, 0)))) 2 (.inr (some (8, n + 3, 0)))) 4 (.inl (.int ((-1))))) 8 (.inl (.int 0)))) :: ((([] ++ [.inr (0, 4, .inl fun _ => 0)]) ++ [.inr (0, 8, .inl (upd (upd (upd (upd (upd (upd (upd (upd (fun _ => 0) 0 0) 1 1) 2 2) 3 3) 4 4) 5 5) 6 6) 7 7))]) ++ [.inr (0, 32, .inl fun _ => 0)])
theorem ok_X3 (n : Nat) : aok (n + 4) (cX3 n) := aok_cons (show ∀ j, clA (n + 4) (_ : AV) from (updf_ok (updf_ok (updf_ok (updf_ok (updf_ok (fun j => dv_cl _ _) (fun _ => (by show n + 1 < n + 4; omega))) (fun _ => (by show n + 2 < n + 4; omega))) (fun _ => (by show n + 3 < n + 4; omega))) trivial) trivial)) (aok_app (aok_app (aok_app aok_nil (aok_cons trivial aok_nil)) (aok_cons trivial aok_nil)) (aok_cons trivial aok_nil))
set_option maxHeartbeats 4000000 in
set_option maxRecDepth 100000 in
theorem ci_X3 {l : Launch} (hfl : l.stackTraces = false) {E0 : EE} {L : List RC} {κ : K} (hR : rawOK (upR E0 (L ++ [.inl (4, fun j => dv (tyX3 j))]))) : Con l yX3_init cX3_init 1 none 1 12 [.inr (some (8, L.length, 0))] (upR E0 (L ++ [.inl (4, fun j => dv (tyX3 j))]), κ) (upR E0 (L ++ cX3 L.length), addC κ 3 44) none := by
  refine Con_ofI hfl (by decide +kernel) (Nat.le_of_ble_eq_true rfl) rfl rfl (fun X B g O hKP hmL hname hE => ?_)
  replace hname : B.2.2.2.2.2.2.2.2 X → MXn X = "<init>" := hname
  change KPok B (cst E0 L 4 (fun j => dv (tyX3 j)) []) at hKP
  change rawOK (cst E0 L 4 (fun j => dv (tyX3 j)) []) at hR
  show J X B (cst E0 L 4 (fun j => dv (tyX3 j)) [], addC κ 0 0) 0 [(0, .inr (some (8, L.length, 0)))] []
  refine J_aload_n O.mo dX3_init_0 0 rfl ?_
  refine J_objInit O mw519 mw515 mw516 (by decide) (Nat.le_of_ble_eq_true rfl) rfl dX3_init_1 ?_
  refine J_aload_n O.mo dX3_init_4 0 rfl ?_
  refine J_iconst O.mo (v := 4) dX3_init_5 (by decide) ?_
  refine J_cNewa O (KPc hKP) hR (d := 1) rfl (atype := .int) (ty := .int) (ai := 0) (ct := .inl fun _ => 0) (N := 4) rfl (fun _ => rfl) (fun _ _ _ => ⟨_, rfl, rfl⟩) (fun _ => trivial) mw_arrI (by decide) (by decide) (by decide) (sl_p (stL2 (t := 0) rfl (by omega)) sl_0) (st_p (stL2 (t := 0) rfl (by omega)) st_0) dX3_init_6 (fun hR => ?_)
  show J X B (cst E0 L 4 (fun j => dv (tyX3 j)) ([] ++ [.inr (0, 4, .inl fun _ => 0)]), addC κ 1 4) 8 [(0, .inr (some (8, L.length, 0)))] [.inr (some (8, L.length + 1, 0)), .inr (some (8, L.length, 0))]
  refine J_cPut O hname hR (C := RX3) (Tt := TX3) (N := 9) rfl rfl in_X3 tyX3 tyX3_ok nmX3 0 (by decide) (v := .inr (some (8, L.length + 1, 0))) (v' := .inr (some (8, L.length + 1, 0))) (clL (t := 1) rfl (by omega)) rfl (fun _ => ⟨rfl, rfl⟩) (Or.inr rfl) mw132 rfl dX3_init_8 (fun hR => ?_)
  refine J_aload_n O.mo dX3_init_11 0 rfl ?_
  refine J_bipush O.mo (v := 8) dX3_init_12 (by decide) ?_
  refine J_cNewa O (KPc hKP) hR (d := 2) rfl (atype := .int) (ty := .int) (ai := 0) (ct := .inl fun _ => 0) (N := 8) rfl (fun _ => rfl) (fun _ _ _ => ⟨_, rfl, rfl⟩) (fun _ => trivial) mw_arrI (by decide) (by decide) (by decide) (sl_p (stL2 (t := 1) rfl (by omega)) sl_0) (st_p (stL2 (t := 1) rfl (by omega)) st_0) dX3_init_14 (fun hR => ?_)
  show J X B (cst E0 L 4 (updf (fun j => dv (tyX3 j)) 0 (.inr (some (8, L.length + 1, 0)))) (([] ++ [.inr (0, 4, .inl fun _ => 0)]) ++ [.inr (0, 8, .inl fun _ => 0)]), addC κ 2 12) 16 [(0, .inr (some (8, L.length, 0)))] [.inr (some (8, L.length + 2, 0)), .inr (some (8, L.length, 0))]
  refine J_dup O.mo dX3_init_16 rfl ?_
  refine J_iconst O.mo (v := 0) dX3_init_17 (by decide) ?_
  refine J_iconst O.mo (v := 0) dX3_init_18 (by decide) ?_
  refine J_cIast O hR (t := 1) (d := 2) rfl (n := 8) rfl (show ¬ ((0 : Int32) < 0 ∨ 8 ≤ (0 : Int32).toNatClampNeg) from by decide) (qn := 0) (by decide) (T' := (([] ++ [.inr (0, 4, .inl fun _ => 0)]) ++ [.inr (0, 8, .inl (upd (fun _ => 0) 0 0))])) rfl dX3_init_19 (fun hR => ?_)
  refine J_dup O.mo dX3_init_20 rfl ?_
  refine J_iconst O.mo (v := 1) dX3_init_21 (by decide) ?_
  refine J_iconst O.mo (v := 1) dX3_init_22 (by decide) ?_
  refine J_cIast O hR (t := 1) (d := 2) rfl (n := 8) rfl (show ¬ ((1 : Int32) < 0 ∨ 8 ≤ (1 : Int32).toNatClampNeg) from by decide) (qn := 1) (by decide) (T' := (([] ++ [.inr (0, 4, .inl fun _ => 0)]) ++ [.inr (0, 8, .inl (upd (upd (fun _ => 0) 0 0) 1 1))])) rfl dX3_init_23 (fun hR => ?_)
  refine J_dup O.mo dX3_init_24 rfl ?_
  refine J_iconst O.mo (v := 2) dX3_init_25 (by decide) ?_
  refine J_iconst O.mo (v := 2) dX3_init_26 (by decide) ?_
  refine J_cIast O hR (t := 1) (d := 2) rfl (n := 8) rfl (show ¬ ((2 : Int32) < 0 ∨ 8 ≤ (2 : Int32).toNatClampNeg) from by decide) (qn := 2) (by decide) (T' := (([] ++ [.inr (0, 4, .inl fun _ => 0)]) ++ [.inr (0, 8, .inl (upd (upd (upd (fun _ => 0) 0 0) 1 1) 2 2))])) rfl dX3_init_27 (fun hR => ?_)
  refine J_dup O.mo dX3_init_28 rfl ?_
  refine J_iconst O.mo (v := 3) dX3_init_29 (by decide) ?_
  refine J_iconst O.mo (v := 3) dX3_init_30 (by decide) ?_
  refine J_cIast O hR (t := 1) (d := 2) rfl (n := 8) rfl (show ¬ ((3 : Int32) < 0 ∨ 8 ≤ (3 : Int32).toNatClampNeg) from by decide) (qn := 3) (by decide) (T' := (([] ++ [.inr (0, 4, .inl fun _ => 0)]) ++ [.inr (0, 8, .inl (upd (upd (upd (upd (fun _ => 0) 0 0) 1 1) 2 2) 3 3))])) rfl dX3_init_31 (fun hR => ?_)
  refine J_dup O.mo dX3_init_32 rfl ?_
  refine J_iconst O.mo (v := 4) dX3_init_33 (by decide) ?_
  refine J_iconst O.mo (v := 4) dX3_init_34 (by decide) ?_
  refine J_cIast O hR (t := 1) (d := 2) rfl (n := 8) rfl (show ¬ ((4 : Int32) < 0 ∨ 8 ≤ (4 : Int32).toNatClampNeg) from by decide) (qn := 4) (by decide) (T' := (([] ++ [.inr (0, 4, .inl fun _ => 0)]) ++ [.inr (0, 8, .inl (upd (upd (upd (upd (upd (fun _ => 0) 0 0) 1 1) 2 2) 3 3) 4 4))])) rfl dX3_init_35 (fun hR => ?_)
  refine J_dup O.mo dX3_init_36 rfl ?_
  refine J_iconst O.mo (v := 5) dX3_init_37 (by decide) ?_
  refine J_iconst O.mo (v := 5) dX3_init_38 (by decide) ?_
  refine J_cIast O hR (t := 1) (d := 2) rfl (n := 8) rfl (show ¬ ((5 : Int32) < 0 ∨ 8 ≤ (5 : Int32).toNatClampNeg) from by decide) (qn := 5) (by decide) (T' := (([] ++ [.inr (0, 4, .inl fun _ => 0)]) ++ [.inr (0, 8, .inl (upd (upd (upd (upd (upd (upd (fun _ => 0) 0 0) 1 1) 2 2) 3 3) 4 4) 5 5))])) rfl dX3_init_39 (fun hR => ?_)
  refine J_dup O.mo dX3_init_40 rfl ?_
  refine J_bipush O.mo (v := 6) dX3_init_41 (by decide) ?_
  refine J_bipush O.mo (v := 6) dX3_init_43 (by decide) ?_
  refine J_cIast O hR (t := 1) (d := 2) rfl (n := 8) rfl (show ¬ ((6 : Int32) < 0 ∨ 8 ≤ (6 : Int32).toNatClampNeg) from by decide) (qn := 6) (by decide) (T' := (([] ++ [.inr (0, 4, .inl fun _ => 0)]) ++ [.inr (0, 8, .inl (upd (upd (upd (upd (upd (upd (upd (fun _ => 0) 0 0) 1 1) 2 2) 3 3) 4 4) 5 5) 6 6))])) rfl dX3_init_45 (fun hR => ?_)
  refine J_dup O.mo dX3_init_46 rfl ?_
  refine J_bipush O.mo (v := 7) dX3_init_47 (by decide) ?_
  refine J_bipush O.mo (v := 7) dX3_init_49 (by decide) ?_
  refine J_cIast O hR (t := 1) (d := 2) rfl (n := 8) rfl (show ¬ ((7 : Int32) < 0 ∨ 8 ≤ (7 : Int32).toNatClampNeg) from by decide) (qn := 7) (by decide) (T' := (([] ++ [.inr (0, 4, .inl fun _ => 0)]) ++ [.inr (0, 8, .inl (upd (upd (upd (upd (upd (upd (upd (upd (fun _ => 0) 0 0) 1 1) 2 2) 3 3) 4 4) 5 5) 6 6) 7 7))])) rfl dX3_init_51 (fun hR => ?_)
  refine J_cPut O hname hR (C := RX3) (Tt := TX3) (N := 9) rfl rfl in_X3 tyX3 tyX3_ok nmX3 1 (by decide) (v := .inr (some (8, L.length + 2, 0))) (v' := .inr (some (8, L.length + 2, 0))) (clL (t := 2) rfl (by omega)) rfl (fun _ => ⟨rfl, rfl⟩) (Or.inr rfl) mw133 rfl dX3_init_52 (fun hR => ?_)
  refine J_aload_n O.mo dX3_init_55 0 rfl ?_
  refine J_bipush O.mo (v := 32) dX3_init_56 (by decide) ?_
  refine J_cNewa O (KPc hKP) hR (d := 3) rfl (atype := .int) (ty := .int) (ai := 0) (ct := .inl fun _ => 0) (N := 32) rfl (fun _ => rfl) (fun _ _ _ => ⟨_, rfl, rfl⟩) (fun _ => trivial) mw_arrI (by decide) (by decide) (by decide) (sl_p (stL2 (t := 2) rfl (by omega)) sl_0) (st_p (stL2 (t := 2) rfl (by omega)) st_0) dX3_init_58 (fun hR => ?_)
  show J X B (cst E0 L 4 (updf (updf (fun j => dv (tyX3 j)) 0 (.inr (some (8, L.length + 1, 0)))) 1 (.inr (some (8, L.length + 2, 0)))) ((([] ++ [.inr (0, 4, .inl fun _ => 0)]) ++ [.inr (0, 8, .inl (upd (upd (upd (upd (upd (upd (upd (upd (fun _ => 0) 0 0) 1 1) 2 2) 3 3) 4 4) 5 5) 6 6) 7 7))]) ++ [.inr (0, 32, .inl fun _ => 0)]), addC κ 3 44) 60 [(0, .inr (some (8, L.length, 0)))] [.inr (some (8, L.length + 3, 0)), .inr (some (8, L.length, 0))]
  refine J_cPut O hname hR (C := RX3) (Tt := TX3) (N := 9) rfl rfl in_X3 tyX3 tyX3_ok nmX3 2 (by decide) (v := .inr (some (8, L.length + 3, 0))) (v' := .inr (some (8, L.length + 3, 0))) (clL (t := 3) rfl (by omega)) rfl (fun _ => ⟨rfl, rfl⟩) (Or.inr rfl) mw145 rfl dX3_init_60 (fun hR => ?_)
  refine J_aload_n O.mo dX3_init_63 0 rfl ?_
  refine J_iconst O.mo (v := (-1)) dX3_init_64 (by decide) ?_
  refine J_cPut O hname hR (C := RX3) (Tt := TX3) (N := 9) rfl rfl in_X3 tyX3 tyX3_ok nmX3 4 (by decide) (v := .inl (.int ((-1)))) (v' := .inl (.int ((-1)))) trivial rfl (fun _ => ⟨rfl, rfl⟩) (Or.inl rfl) mw146 rfl dX3_init_65 (fun hR => ?_)
  refine J_aload_n O.mo dX3_init_68 0 rfl ?_
  refine J_iconst O.mo (v := 0) dX3_init_69 (by decide) ?_
  refine J_cPut O hname hR (C := RX3) (Tt := TX3) (N := 9) rfl rfl in_X3 tyX3 tyX3_ok nmX3 8 (by decide) (v := .inl (.int 0)) (v' := .inl (.int 0)) trivial rfl (fun _ => ⟨rfl, rfl⟩) (Or.inl rfl) mw127 rfl dX3_init_70 (fun hR => ?_)
  exact hE _ _ dX3_init_73
def cX8 (n : Nat) : List RC := .inl (9, (updf (updf (updf (updf (updf (fun j => dv (tyX8 j)) 0 (.inr (some (8, n + 1, 0)))) 1 (.inr (some (8, n + 5, 0)))) 2 (.inr (some (8, n + 7, 0)))) 3 (.inr (some (8, n + 9, 0)))) 4 (.inr (some (8, n + 11, 0))))) :: ((((([] ++ cX3 (n + 1)) ++ cX4 (n + 5)) ++ cX4 (n + 7)) ++ cX4 (n + 9)) ++ cX4 (n + 11))
theorem ok_X8 (n : Nat) : aok (n + 13) (cX8 n) := aok_cons (show ∀ j, clA (n + 13) (_ : AV) from (updf_ok (updf_ok (updf_ok (updf_ok (updf_ok (fun j => dv_cl _ _) (fun _ => (by show n + 1 < n + 13; omega))) (fun _ => (by show n + 5 < n + 13; omega))) (fun _ => (by show n + 7 < n + 13; omega))) (fun _ => (by show n + 9 < n + 13; omega))) (fun _ => (by show n + 11 < n + 13; omega)))) (aok_app (aok_app (aok_app (aok_app (aok_app aok_nil (aok_sub (ok_X3 (n + 1)) (by omega))) (aok_sub (ok_X4 (n + 5)) (by omega))) (aok_sub (ok_X4 (n + 7)) (by omega))) (aok_sub (ok_X4 (n + 9)) (by omega))) (aok_sub (ok_X4 (n + 11)) (by omega)))
set_option maxHeartbeats 4000000 in
set_option maxRecDepth 100000 in
theorem ci_X8 {l : Launch} (hfl : l.stackTraces = false) {E0 : EE} {L : List RC} {κ : K} (hR : rawOK (upR E0 (L ++ [.inl (9, fun j => dv (tyX8 j))]))) : Con l yX8_init cX8_init 1 none 2 32 [.inr (some (8, L.length, 0))] (upR E0 (L ++ [.inl (9, fun j => dv (tyX8 j))]), κ) (upR E0 (L ++ cX8 L.length), addC κ 12 93) none := by
  refine Con_ofI hfl (by decide +kernel) (Nat.le_of_ble_eq_true rfl) rfl rfl (fun X B g O hKP hmL hname hE => ?_)
  replace hname : B.2.2.2.2.2.2.2.2 X → MXn X = "<init>" := hname
  change KPok B (cst E0 L 9 (fun j => dv (tyX8 j)) []) at hKP
  change rawOK (cst E0 L 9 (fun j => dv (tyX8 j)) []) at hR
  show J X B (cst E0 L 9 (fun j => dv (tyX8 j)) [], addC κ 0 0) 0 [(0, .inr (some (8, L.length, 0)))] []
  refine J_aload_n O.mo dX8_init_0 0 rfl ?_
  refine J_objInit O mw520 mw515 mw516 (by decide) (Nat.le_of_ble_eq_true rfl) rfl dX8_init_1 ?_
  refine J_aload_n O.mo dX8_init_4 0 rfl ?_
  refine J_cNew O (KPc hKP) hR (d := 1) rfl (kd1 := 4) (C := RX3) (Tt := TX3) (N := 9) rfl rfl in_X3 tyX3 tyX3_ok mw521 mw522 mw137 (sl_p (stL2 (t := 0) rfl (by omega)) sl_0) (st_p (stL2 (t := 0) rfl (by omega)) st_0) dX8_init_5 (fun hR => ?_)
  show J X B (cst E0 L 9 (fun j => dv (tyX8 j)) ([] ++ [.inl (4, fun j => dv (tyX3 j))]), addC κ 1 9) 8 [(0, .inr (some (8, L.length, 0)))] [.inr (some (8, L.length + 1, 0)), .inr (some (8, L.length, 0))]
  refine J_dup O.mo dX8_init_8 rfl ?_
  refine J_cCall O (KPc hKP) hR (d := 1) rfl (cY := cX3) (len := 4) (fun _ => rfl) (by decide) (fun n => ok_X3 n) (as := []) (fun L2 hR2 => ci_X3 hfl hR2) rfl rfl (Or.inr mw523) mw524 mw137 mw525 pd_X3_init rfl (by decide) rfl (Nat.le_of_ble_eq_true rfl) (sl_p (stL2 (t := 1) rfl (by omega)) sl_0) (st_p (stL2 (t := 1) rfl (by omega)) (st_p (stL2 (t := 1) rfl (by omega)) st_0)) dX8_init_9 (fun hR => ?_)
  show J X B (cst E0 L 9 (fun j => dv (tyX8 j)) ([] ++ cX3 (L.length + 1)), addC κ 4 53) 12 [(0, .inr (some (8, L.length, 0)))] [.inr (some (8, L.length + 1, 0)), .inr (some (8, L.length, 0))]
  refine J_cPut O hname hR (C := RX8) (Tt := TX8) (N := 10) rfl rfl in_X8 tyX8 tyX8_ok nmX8 0 (by decide) (v := .inr (some (8, L.length + 1, 0))) (v' := .inr (some (8, L.length + 1, 0))) (clL (t := 4) rfl (by omega)) rfl (fun _ => ⟨rfl, rfl⟩) (Or.inr rfl) mw234 rfl dX8_init_12 (fun hR => ?_)
  refine J_aload_n O.mo dX8_init_15 0 rfl ?_
  refine J_cNew O (KPc hKP) hR (d := 5) rfl (kd1 := 5) (C := RX4) (Tt := TX4) (N := 2) rfl rfl in_X4 tyX4 tyX4_ok mw526 mw527 mw56 (sl_p (stL2 (t := 4) rfl (by omega)) sl_0) (st_p (stL2 (t := 4) rfl (by omega)) st_0) dX8_init_16 (fun hR => ?_)
  show J X B (cst E0 L 9 (updf (fun j => dv (tyX8 j)) 0 (.inr (some (8, L.length + 1, 0)))) (([] ++ cX3 (L.length + 1)) ++ [.inl (5, fun j => dv (tyX4 j))]), addC κ 5 55) 19 [(0, .inr (some (8, L.length, 0)))] [.inr (some (8, L.length + 5, 0)), .inr (some (8, L.length, 0))]
  refine J_dup O.mo dX8_init_19 rfl ?_
  refine J_cCall O (KPc hKP) hR (d := 5) rfl (cY := cX4) (len := 2) (fun _ => rfl) (by decide) (fun n => ok_X4 n) (as := []) (fun L2 hR2 => ci_X4 hfl hR2) rfl rfl (Or.inr mw528) mw529 mw56 mw530 pd_X4_init rfl (by decide) rfl (Nat.le_of_ble_eq_true rfl) (sl_p (stL2 (t := 5) rfl (by omega)) sl_0) (st_p (stL2 (t := 5) rfl (by omega)) (st_p (stL2 (t := 5) rfl (by omega)) st_0)) dX8_init_20 (fun hR => ?_)
  show J X B (cst E0 L 9 (updf (fun j => dv (tyX8 j)) 0 (.inr (some (8, L.length + 1, 0)))) (([] ++ cX3 (L.length + 1)) ++ cX4 (L.length + 5)), addC κ 6 63) 23 [(0, .inr (some (8, L.length, 0)))] [.inr (some (8, L.length + 5, 0)), .inr (some (8, L.length, 0))]
  refine J_cPut O hname hR (C := RX8) (Tt := TX8) (N := 10) rfl rfl in_X8 tyX8 tyX8_ok nmX8 1 (by decide) (v := .inr (some (8, L.length + 5, 0))) (v' := .inr (some (8, L.length + 5, 0))) (clL (t := 6) rfl (by omega)) rfl (fun _ => ⟨rfl, rfl⟩) (Or.inr rfl) mw263 rfl dX8_init_23 (fun hR => ?_)
  refine J_aload_n O.mo dX8_init_26 0 rfl ?_
  refine J_cNew O (KPc hKP) hR (d := 7) rfl (kd1 := 5) (C := RX4) (Tt := TX4) (N := 2) rfl rfl in_X4 tyX4 tyX4_ok mw526 mw527 mw56 (sl_p (stL2 (t := 6) rfl (by omega)) sl_0) (st_p (stL2 (t := 6) rfl (by omega)) st_0) dX8_init_27 (fun hR => ?_)
  show J X B (cst E0 L 9 (updf (updf (fun j => dv (tyX8 j)) 0 (.inr (some (8, L.length + 1, 0)))) 1 (.inr (some (8, L.length + 5, 0)))) ((([] ++ cX3 (L.length + 1)) ++ cX4 (L.length + 5)) ++ [.inl (5, fun j => dv (tyX4 j))]), addC κ 7 65) 30 [(0, .inr (some (8, L.length, 0)))] [.inr (some (8, L.length + 7, 0)), .inr (some (8, L.length, 0))]
  refine J_dup O.mo dX8_init_30 rfl ?_
  refine J_cCall O (KPc hKP) hR (d := 7) rfl (cY := cX4) (len := 2) (fun _ => rfl) (by decide) (fun n => ok_X4 n) (as := []) (fun L2 hR2 => ci_X4 hfl hR2) rfl rfl (Or.inr mw528) mw529 mw56 mw530 pd_X4_init rfl (by decide) rfl (Nat.le_of_ble_eq_true rfl) (sl_p (stL2 (t := 7) rfl (by omega)) sl_0) (st_p (stL2 (t := 7) rfl (by omega)) (st_p (stL2 (t := 7) rfl (by omega)) st_0)) dX8_init_31 (fun hR => ?_)
  show J X B (cst E0 L 9 (updf (updf (fun j => dv (tyX8 j)) 0 (.inr (some (8, L.length + 1, 0)))) 1 (.inr (some (8, L.length + 5, 0)))) ((([] ++ cX3 (L.length + 1)) ++ cX4 (L.length + 5)) ++ cX4 (L.length + 7)), addC κ 8 73) 34 [(0, .inr (some (8, L.length, 0)))] [.inr (some (8, L.length + 7, 0)), .inr (some (8, L.length, 0))]
  refine J_cPut O hname hR (C := RX8) (Tt := TX8) (N := 10) rfl rfl in_X8 tyX8 tyX8_ok nmX8 2 (by decide) (v := .inr (some (8, L.length + 7, 0))) (v' := .inr (some (8, L.length + 7, 0))) (clL (t := 8) rfl (by omega)) rfl (fun _ => ⟨rfl, rfl⟩) (Or.inr rfl) mw268 rfl dX8_init_34 (fun hR => ?_)
  refine J_aload_n O.mo dX8_init_37 0 rfl ?_
  refine J_cNew O (KPc hKP) hR (d := 9) rfl (kd1 := 5) (C := RX4) (Tt := TX4) (N := 2) rfl rfl in_X4 tyX4 tyX4_ok mw526 mw527 mw56 (sl_p (stL2 (t := 8) rfl (by omega)) sl_0) (st_p (stL2 (t := 8) rfl (by omega)) st_0) dX8_init_38 (fun hR => ?_)
  show J X B (cst E0 L 9 (updf (updf (updf (fun j => dv (tyX8 j)) 0 (.inr (some (8, L.length + 1, 0)))) 1 (.inr (some (8, L.length + 5, 0)))) 2 (.inr (some (8, L.length + 7, 0)))) (((([] ++ cX3 (L.length + 1)) ++ cX4 (L.length + 5)) ++ cX4 (L.length + 7)) ++ [.inl (5, fun j => dv (tyX4 j))]), addC κ 9 75) 41 [(0, .inr (some (8, L.length, 0)))] [.inr (some (8, L.length + 9, 0)), .inr (some (8, L.length, 0))]
  refine J_dup O.mo dX8_init_41 rfl ?_
  refine J_cCall O (KPc hKP) hR (d := 9) rfl (cY := cX4) (len := 2) (fun _ => rfl) (by decide) (fun n => ok_X4 n) (as := []) (fun L2 hR2 => ci_X4 hfl hR2) rfl rfl (Or.inr mw528) mw529 mw56 mw530 pd_X4_init rfl (by decide) rfl (Nat.le_of_ble_eq_true rfl) (sl_p (stL2 (t := 9) rfl (by omega)) sl_0) (st_p (stL2 (t := 9) rfl (by omega)) (st_p (stL2 (t := 9) rfl (by omega)) st_0)) dX8_init_42 (fun hR => ?_)
  show J X B (cst E0 L 9 (updf (updf (updf (fun j => dv (tyX8 j)) 0 (.inr (some (8, L.length + 1, 0)))) 1 (.inr (some (8, L.length + 5, 0)))) 2 (.inr (some (8, L.length + 7, 0)))) (((([] ++ cX3 (L.length + 1)) ++ cX4 (L.length + 5)) ++ cX4 (L.length + 7)) ++ cX4 (L.length + 9)), addC κ 10 83) 45 [(0, .inr (some (8, L.length, 0)))] [.inr (some (8, L.length + 9, 0)), .inr (some (8, L.length, 0))]
  refine J_cPut O hname hR (C := RX8) (Tt := TX8) (N := 10) rfl rfl in_X8 tyX8 tyX8_ok nmX8 3 (by decide) (v := .inr (some (8, L.length + 9, 0))) (v' := .inr (some (8, L.length + 9, 0))) (clL (t := 10) rfl (by omega)) rfl (fun _ => ⟨rfl, rfl⟩) (Or.inr rfl) mw269 rfl dX8_init_45 (fun hR => ?_)
  refine J_aload_n O.mo dX8_init_48 0 rfl ?_
  refine J_cNew O (KPc hKP) hR (d := 11) rfl (kd1 := 5) (C := RX4) (Tt := TX4) (N := 2) rfl rfl in_X4 tyX4 tyX4_ok mw526 mw527 mw56 (sl_p (stL2 (t := 10) rfl (by omega)) sl_0) (st_p (stL2 (t := 10) rfl (by omega)) st_0) dX8_init_49 (fun hR => ?_)
  show J X B (cst E0 L 9 (updf (updf (updf (updf (fun j => dv (tyX8 j)) 0 (.inr (some (8, L.length + 1, 0)))) 1 (.inr (some (8, L.length + 5, 0)))) 2 (.inr (some (8, L.length + 7, 0)))) 3 (.inr (some (8, L.length + 9, 0)))) ((((([] ++ cX3 (L.length + 1)) ++ cX4 (L.length + 5)) ++ cX4 (L.length + 7)) ++ cX4 (L.length + 9)) ++ [.inl (5, fun j => dv (tyX4 j))]), addC κ 11 85) 52 [(0, .inr (some (8, L.length, 0)))] [.inr (some (8, L.length + 11, 0)), .inr (some (8, L.length, 0))]
  refine J_dup O.mo dX8_init_52 rfl ?_
  refine J_cCall O (KPc hKP) hR (d := 11) rfl (cY := cX4) (len := 2) (fun _ => rfl) (by decide) (fun n => ok_X4 n) (as := []) (fun L2 hR2 => ci_X4 hfl hR2) rfl rfl (Or.inr mw528) mw529 mw56 mw530 pd_X4_init rfl (by decide) rfl (Nat.le_of_ble_eq_true rfl) (sl_p (stL2 (t := 11) rfl (by omega)) sl_0) (st_p (stL2 (t := 11) rfl (by omega)) (st_p (stL2 (t := 11) rfl (by omega)) st_0)) dX8_init_53 (fun hR => ?_)
  show J X B (cst E0 L 9 (updf (updf (updf (updf (fun j => dv (tyX8 j)) 0 (.inr (some (8, L.length + 1, 0)))) 1 (.inr (some (8, L.length + 5, 0)))) 2 (.inr (some (8, L.length + 7, 0)))) 3 (.inr (some (8, L.length + 9, 0)))) ((((([] ++ cX3 (L.length + 1)) ++ cX4 (L.length + 5)) ++ cX4 (L.length + 7)) ++ cX4 (L.length + 9)) ++ cX4 (L.length + 11)), addC κ 12 93) 56 [(0, .inr (some (8, L.length, 0)))] [.inr (some (8, L.length + 11, 0)), .inr (some (8, L.length, 0))]
  refine J_cPut O hname hR (C := RX8) (Tt := TX8) (N := 10) rfl rfl in_X8 tyX8 tyX8_ok nmX8 4 (by decide) (v := .inr (some (8, L.length + 11, 0))) (v' := .inr (some (8, L.length + 11, 0))) (clL (t := 12) rfl (by omega)) rfl (fun _ => ⟨rfl, rfl⟩) (Or.inr rfl) mw237 rfl dX8_init_56 (fun hR => ?_)
  exact hE _ _ dX8_init_59
def cX0 (n : Nat) : List RC := .inl (1, (updf (updf (updf (fun j => dv (tyX0 j)) 1 (.inr (some (8, n + 1, 0)))) 2 (.inr (some (8, n + 14, 0)))) 3 (.inr (some (8, n + 16, 0))))) :: ((([] ++ cX8 (n + 1)) ++ cX4 (n + 14)) ++ cX4 (n + 16))
theorem ok_X0 (n : Nat) : aok (n + 18) (cX0 n) := aok_cons (show ∀ j, clA (n + 18) (_ : AV) from (updf_ok (updf_ok (updf_ok (fun j => dv_cl _ _) (fun _ => (by show n + 1 < n + 18; omega))) (fun _ => (by show n + 14 < n + 18; omega))) (fun _ => (by show n + 16 < n + 18; omega)))) (aok_app (aok_app (aok_app aok_nil (aok_sub (ok_X8 (n + 1)) (by omega))) (aok_sub (ok_X4 (n + 14)) (by omega))) (aok_sub (ok_X4 (n + 16)) (by omega)))
set_option maxHeartbeats 4000000 in
set_option maxRecDepth 100000 in
theorem ci_X0 {l : Launch} (hfl : l.stackTraces = false) {E0 : EE} {L : List RC} {κ : K} (hR : rawOK (upR E0 (L ++ [.inl (1, fun j => dv (tyX0 j))]))) : Con l yX0_init cX0_init 1 none 3 52 [.inr (some (8, L.length, 0))] (upR E0 (L ++ [.inl (1, fun j => dv (tyX0 j))]), κ) (upR E0 (L ++ cX0 L.length), addC κ 17 123) none := by
  refine Con_ofI hfl (by decide +kernel) (Nat.le_of_ble_eq_true rfl) rfl rfl (fun X B g O hKP hmL hname hE => ?_)
  replace hname : B.2.2.2.2.2.2.2.2 X → MXn X = "<init>" := hname
  change KPok B (cst E0 L 1 (fun j => dv (tyX0 j)) []) at hKP
  change rawOK (cst E0 L 1 (fun j => dv (tyX0 j)) []) at hR
  show J X B (cst E0 L 1 (fun j => dv (tyX0 j)) [], addC κ 0 0) 0 [(0, .inr (some (8, L.length, 0)))] []
  refine J_aload_n O.mo dX0_init_0 0 rfl ?_
  refine J_objInit O mw531 mw515 mw516 (by decide) (Nat.le_of_ble_eq_true rfl) rfl dX0_init_1 ?_
  refine J_aload_n O.mo dX0_init_4 0 rfl ?_
  refine J_cNew O (KPc hKP) hR (d := 1) rfl (kd1 := 9) (C := RX8) (Tt := TX8) (N := 10) rfl rfl in_X8 tyX8 tyX8_ok mw532 mw533 mw124 (sl_p (stL2 (t := 0) rfl (by omega)) sl_0) (st_p (stL2 (t := 0) rfl (by omega)) st_0) dX0_init_5 (fun hR => ?_)
  show J X B (cst E0 L 1 (fun j => dv (tyX0 j)) ([] ++ [.inl (9, fun j => dv (tyX8 j))]), addC κ 1 10) 8 [(0, .inr (some (8, L.length, 0)))] [.inr (some (8, L.length + 1, 0)), .inr (some (8, L.length, 0))]
  refine J_dup O.mo dX0_init_8 rfl ?_
  refine J_cCall O (KPc hKP) hR (d := 1) rfl (cY := cX8) (len := 13) (fun _ => rfl) (by decide) (fun n => ok_X8 n) (as := []) (fun L2 hR2 => ci_X8 hfl hR2) rfl rfl (Or.inr mw534) mw535 mw124 mw536 pd_X8_init rfl (by decide) rfl (Nat.le_of_ble_eq_true rfl) (sl_p (stL2 (t := 1) rfl (by omega)) sl_0) (st_p (stL2 (t := 1) rfl (by omega)) (st_p (stL2 (t := 1) rfl (by omega)) st_0)) dX0_init_9 (fun hR => ?_)
  show J X B (cst E0 L 1 (fun j => dv (tyX0 j)) ([] ++ cX8 (L.length + 1)), addC κ 13 103) 12 [(0, .inr (some (8, L.length, 0)))] [.inr (some (8, L.length + 1, 0)), .inr (some (8, L.length, 0))]
  refine J_cPut O hname hR (C := RX0) (Tt := TX0) (N := 4) rfl rfl in_X0 tyX0 tyX0_ok nmX0 1 (by decide) (v := .inr (some (8, L.length + 1, 0))) (v' := .inr (some (8, L.length + 1, 0))) (clL (t := 13) rfl (by omega)) rfl (fun _ => ⟨rfl, rfl⟩) (Or.inr rfl) mw537 rfl dX0_init_12 (fun hR => ?_)
  refine J_aload_n O.mo dX0_init_15 0 rfl ?_
  refine J_cNew O (KPc hKP) hR (d := 14) rfl (kd1 := 5) (C := RX4) (Tt := TX4) (N := 2) rfl rfl in_X4 tyX4 tyX4_ok mw538 mw527 mw56 (sl_p (stL2 (t := 13) rfl (by omega)) sl_0) (st_p (stL2 (t := 13) rfl (by omega)) st_0) dX0_init_16 (fun hR => ?_)
  show J X B (cst E0 L 1 (updf (fun j => dv (tyX0 j)) 1 (.inr (some (8, L.length + 1, 0)))) (([] ++ cX8 (L.length + 1)) ++ [.inl (5, fun j => dv (tyX4 j))]), addC κ 14 105) 19 [(0, .inr (some (8, L.length, 0)))] [.inr (some (8, L.length + 14, 0)), .inr (some (8, L.length, 0))]
  refine J_dup O.mo dX0_init_19 rfl ?_
  refine J_cCall O (KPc hKP) hR (d := 14) rfl (cY := cX4) (len := 2) (fun _ => rfl) (by decide) (fun n => ok_X4 n) (as := []) (fun L2 hR2 => ci_X4 hfl hR2) rfl rfl (Or.inr mw539) mw529 mw56 mw530 pd_X4_init rfl (by decide) rfl (Nat.le_of_ble_eq_true rfl) (sl_p (stL2 (t := 14) rfl (by omega)) sl_0) (st_p (stL2 (t := 14) rfl (by omega)) (st_p (stL2 (t := 14) rfl (by omega)) st_0)) dX0_init_20 (fun hR => ?_)
  show J X B (cst E0 L 1 (updf (fun j => dv (tyX0 j)) 1 (.inr (some (8, L.length + 1, 0)))) (([] ++ cX8 (L.length + 1)) ++ cX4 (L.length + 14)), addC κ 15 113) 23 [(0, .inr (some (8, L.length, 0)))] [.inr (some (8, L.length + 14, 0)), .inr (some (8, L.length, 0))]
  refine J_cPut O hname hR (C := RX0) (Tt := TX0) (N := 4) rfl rfl in_X0 tyX0 tyX0_ok nmX0 2 (by decide) (v := .inr (some (8, L.length + 14, 0))) (v' := .inr (some (8, L.length + 14, 0))) (clL (t := 15) rfl (by omega)) rfl (fun _ => ⟨rfl, rfl⟩) (Or.inr rfl) mw540 rfl dX0_init_23 (fun hR => ?_)
  refine J_aload_n O.mo dX0_init_26 0 rfl ?_
  refine J_cNew O (KPc hKP) hR (d := 16) rfl (kd1 := 5) (C := RX4) (Tt := TX4) (N := 2) rfl rfl in_X4 tyX4 tyX4_ok mw538 mw527 mw56 (sl_p (stL2 (t := 15) rfl (by omega)) sl_0) (st_p (stL2 (t := 15) rfl (by omega)) st_0) dX0_init_27 (fun hR => ?_)
  show J X B (cst E0 L 1 (updf (updf (fun j => dv (tyX0 j)) 1 (.inr (some (8, L.length + 1, 0)))) 2 (.inr (some (8, L.length + 14, 0)))) ((([] ++ cX8 (L.length + 1)) ++ cX4 (L.length + 14)) ++ [.inl (5, fun j => dv (tyX4 j))]), addC κ 16 115) 30 [(0, .inr (some (8, L.length, 0)))] [.inr (some (8, L.length + 16, 0)), .inr (some (8, L.length, 0))]
  refine J_dup O.mo dX0_init_30 rfl ?_
  refine J_cCall O (KPc hKP) hR (d := 16) rfl (cY := cX4) (len := 2) (fun _ => rfl) (by decide) (fun n => ok_X4 n) (as := []) (fun L2 hR2 => ci_X4 hfl hR2) rfl rfl (Or.inr mw539) mw529 mw56 mw530 pd_X4_init rfl (by decide) rfl (Nat.le_of_ble_eq_true rfl) (sl_p (stL2 (t := 16) rfl (by omega)) sl_0) (st_p (stL2 (t := 16) rfl (by omega)) (st_p (stL2 (t := 16) rfl (by omega)) st_0)) dX0_init_31 (fun hR => ?_)
  show J X B (cst E0 L 1 (updf (updf (fun j => dv (tyX0 j)) 1 (.inr (some (8, L.length + 1, 0)))) 2 (.inr (some (8, L.length + 14, 0)))) ((([] ++ cX8 (L.length + 1)) ++ cX4 (L.length + 14)) ++ cX4 (L.length + 16)), addC κ 17 123) 34 [(0, .inr (some (8, L.length, 0)))] [.inr (some (8, L.length + 16, 0)), .inr (some (8, L.length, 0))]
  refine J_cPut O hname hR (C := RX0) (Tt := TX0) (N := 4) rfl rfl in_X0 tyX0 tyX0_ok nmX0 3 (by decide) (v := .inr (some (8, L.length + 16, 0))) (v' := .inr (some (8, L.length + 16, 0))) (clL (t := 17) rfl (by omega)) rfl (fun _ => ⟨rfl, rfl⟩) (Or.inr rfl) mw303 rfl dX0_init_34 (fun hR => ?_)
  exact hE _ _ dX0_init_37
def cX1 (n : Nat) (a1 : Int32) (a2 : Nat) (a3 : Int32) (a4 : Int32) : List RC := .inl (2, (updf (updf (updf (updf (updf (updf (updf (updf (updf (updf (updf (updf (fun j => dv (tyX1 j)) 3 (.inr (some (8, n + 1, 0)))) 4 (.inr (some (8, n + 5, 0)))) 5 (.inr (some (8, n + 18, 0)))) 6 (.inr (some (8, n + 36, 0)))) 7 (.inr (some (8, n + 38, 0)))) 10 (.inl (.int 1))) 14 (.inl (.int 255))) 15 (.inl (.int ((-1))))) 0 (.inl (.int a1))) 8 (.inr (some (2, a2, 0)))) 1 (.inl (.int a3))) 2 (.inl (.int a4)))) :: ((((([] ++ cX5 (n + 1)) ++ cX8 (n + 5)) ++ cX0 (n + 18)) ++ cX4 (n + 36)) ++ [.inr (0, 6, .inl fun _ => 0)])
theorem ok_X1 (n : Nat) (a1 : Int32) (a2 : Nat) (a3 : Int32) (a4 : Int32) : aok (n + 39) (cX1 n a1 a2 a3 a4) := aok_cons (show ∀ j, clA (n + 39) (_ : AV) from (updf_ok (updf_ok (updf_ok (updf_ok (updf_ok (updf_ok (updf_ok (updf_ok (updf_ok (updf_ok (updf_ok (updf_ok (fun j => dv_cl _ _) (fun _ => (by show n + 1 < n + 39; omega))) (fun _ => (by show n + 5 < n + 39; omega))) (fun _ => (by show n + 18 < n + 39; omega))) (fun _ => (by show n + 36 < n + 39; omega))) (fun _ => (by show n + 38 < n + 39; omega))) trivial) trivial) trivial) trivial) (fun z => absurd (show (2 : Nat) = 8 from z) (by decide))) trivial) trivial)) (aok_app (aok_app (aok_app (aok_app (aok_app aok_nil (aok_sub (ok_X5 (n + 1)) (by omega))) (aok_sub (ok_X8 (n + 5)) (by omega))) (aok_sub (ok_X0 (n + 18)) (by omega))) (aok_sub (ok_X4 (n + 36)) (by omega))) (aok_cons trivial aok_nil))
set_option maxHeartbeats 4000000 in
set_option maxRecDepth 100000 in
theorem ci_X1 {l : Launch} (hfl : l.stackTraces = false) (a1 : Int32) (a2 : Nat) (a3 : Int32) (a4 : Int32) {E0 : EE} {L : List RC} {κ : K} (h2 : PC 3 E0 2 a2 0) (hb4 : a4 = 0 ∨ a4 = 1) (hR : rawOK (upR E0 (L ++ [.inl (2, fun j => dv (tyX1 j))]))) : Con l yX1_init cX1_init 5 none 4 72 [.inr (some (8, L.length, 0)), .inl (.int a1), .inr (some (2, a2, 0)), .inl (.int a3), .inl (.int a4)] (upR E0 (L ++ [.inl (2, fun j => dv (tyX1 j))]), κ) (upR E0 (L ++ cX1 L.length a1 a2 a3 a4), addC κ 38 322) none := by
  refine Con_ofI hfl (by decide +kernel) (Nat.le_of_ble_eq_true rfl) rfl rfl (fun X B g O hKP hmL hname hE => ?_)
  replace hname : B.2.2.2.2.2.2.2.2 X → MXn X = "<init>" := hname
  change KPok B (cst E0 L 2 (fun j => dv (tyX1 j)) []) at hKP
  change rawOK (cst E0 L 2 (fun j => dv (tyX1 j)) []) at hR
  show J X B (cst E0 L 2 (fun j => dv (tyX1 j)) [], addC κ 0 0) 0 [(0, .inr (some (8, L.length, 0))), (1, .inl (.int a1)), (2, .inr (some (2, a2, 0))), (3, .inl (.int a3)), (4, .inl (.int a4))] []
  refine J_aload_n O.mo dX1_init_0 0 rfl ?_
  refine J_callI O (KPc hKP) (as := []) (ci_X9_init hfl) rfl rfl (Or.inr mw541) mw542 mw543 mw544 pd_X9_init rfl (by decide) rfl (Nat.le_of_ble_eq_true rfl) (sl_p (stL2 (t := 0) rfl (by omega)) (sl_v (sl_p (stU (by decide) (s3_0 h2)) (sl_v (sl_v sl_0))))) st_0 dX1_init_1 ?_
  refine J_aload_n O.mo dX1_init_4 0 rfl ?_
  refine J_cNew O (KPc hKP) hR (d := 1) rfl (kd1 := 6) (C := RX5) (Tt := TX5) (N := 4) rfl rfl in_X5 tyX5 tyX5_ok mw545 mw546 mw404 (sl_p (stL2 (t := 0) rfl (by omega)) (sl_v (sl_p (stU (by decide) (s3_0 h2)) (sl_v (sl_v sl_0))))) (st_p (stL2 (t := 0) rfl (by omega)) st_0) dX1_init_5 (fun hR => ?_)
  show J X B (cst E0 L 2 (fun j => dv (tyX1 j)) ([] ++ [.inl (6, fun j => dv (tyX5 j))]), addC κ 1 4) 8 [(0, .inr (some (8, L.length, 0))), (1, .inl (.int a1)), (2, .inr (some (2, a2, 0))), (3, .inl (.int a3)), (4, .inl (.int a4))] [.inr (some (8, L.length + 1, 0)), .inr (some (8, L.length, 0))]
  refine J_dup O.mo dX1_init_8 rfl ?_
  refine J_cCall O (KPc hKP) hR (d := 1) rfl (cY := cX5) (len := 4) (fun _ => rfl) (by decide) (fun n => ok_X5 n) (as := []) (fun L2 hR2 => ci_X5 hfl hR2) rfl rfl (Or.inr mw547) mw548 mw404 mw549 pd_X5_init rfl (by decide) rfl (Nat.le_of_ble_eq_true rfl) (sl_p (stL2 (t := 1) rfl (by omega)) (sl_v (sl_p (stU (by decide) (s3_0 h2)) (sl_v (sl_v sl_0))))) (st_p (stL2 (t := 1) rfl (by omega)) (st_p (stL2 (t := 1) rfl (by omega)) st_0)) dX1_init_9 (fun hR => ?_)
  show J X B (cst E0 L 2 (fun j => dv (tyX1 j)) ([] ++ cX5 (L.length + 1)), addC κ 4 76) 12 [(0, .inr (some (8, L.length, 0))), (1, .inl (.int a1)), (2, .inr (some (2, a2, 0))), (3, .inl (.int a3)), (4, .inl (.int a4))] [.inr (some (8, L.length + 1, 0)), .inr (some (8, L.length, 0))]
  refine J_cPut O hname hR (C := RX1) (Tt := TX1) (N := 19) rfl rfl in_X1 tyX1 tyX1_ok nmX1 3 (by decide) (v := .inr (some (8, L.length + 1, 0))) (v' := .inr (some (8, L.length + 1, 0))) (clL (t := 4) rfl (by omega)) rfl (fun _ => ⟨rfl, rfl⟩) (Or.inr rfl) mw245 rfl dX1_init_12 (fun hR => ?_)
  refine J_aload_n O.mo dX1_init_15 0 rfl ?_
  refine J_cNew O (KPc hKP) hR (d := 5) rfl (kd1 := 9) (C := RX8) (Tt := TX8) (N := 10) rfl rfl in_X8 tyX8 tyX8_ok mw550 mw533 mw124 (sl_p (stL2 (t := 4) rfl (by omega)) (sl_v (sl_p (stU (by decide) (s3_0 h2)) (sl_v (sl_v sl_0))))) (st_p (stL2 (t := 4) rfl (by omega)) st_0) dX1_init_16 (fun hR => ?_)
  show J X B (cst E0 L 2 (updf (fun j => dv (tyX1 j)) 3 (.inr (some (8, L.length + 1, 0)))) (([] ++ cX5 (L.length + 1)) ++ [.inl (9, fun j => dv (tyX8 j))]), addC κ 5 86) 19 [(0, .inr (some (8, L.length, 0))), (1, .inl (.int a1)), (2, .inr (some (2, a2, 0))), (3, .inl (.int a3)), (4, .inl (.int a4))] [.inr (some (8, L.length + 5, 0)), .inr (some (8, L.length, 0))]
  refine J_dup O.mo dX1_init_19 rfl ?_
  refine J_cCall O (KPc hKP) hR (d := 5) rfl (cY := cX8) (len := 13) (fun _ => rfl) (by decide) (fun n => ok_X8 n) (as := []) (fun L2 hR2 => ci_X8 hfl hR2) rfl rfl (Or.inr mw551) mw535 mw124 mw536 pd_X8_init rfl (by decide) rfl (Nat.le_of_ble_eq_true rfl) (sl_p (stL2 (t := 5) rfl (by omega)) (sl_v (sl_p (stU (by decide) (s3_0 h2)) (sl_v (sl_v sl_0))))) (st_p (stL2 (t := 5) rfl (by omega)) (st_p (stL2 (t := 5) rfl (by omega)) st_0)) dX1_init_20 (fun hR => ?_)
  show J X B (cst E0 L 2 (updf (fun j => dv (tyX1 j)) 3 (.inr (some (8, L.length + 1, 0)))) (([] ++ cX5 (L.length + 1)) ++ cX8 (L.length + 5)), addC κ 17 179) 23 [(0, .inr (some (8, L.length, 0))), (1, .inl (.int a1)), (2, .inr (some (2, a2, 0))), (3, .inl (.int a3)), (4, .inl (.int a4))] [.inr (some (8, L.length + 5, 0)), .inr (some (8, L.length, 0))]
  refine J_cPut O hname hR (C := RX1) (Tt := TX1) (N := 19) rfl rfl in_X1 tyX1 tyX1_ok nmX1 4 (by decide) (v := .inr (some (8, L.length + 5, 0))) (v' := .inr (some (8, L.length + 5, 0))) (clL (t := 17) rfl (by omega)) rfl (fun _ => ⟨rfl, rfl⟩) (Or.inr rfl) mw63 rfl dX1_init_23 (fun hR => ?_)
  refine J_aload_n O.mo dX1_init_26 0 rfl ?_
  refine J_cNew O (KPc hKP) hR (d := 18) rfl (kd1 := 1) (C := RX0) (Tt := TX0) (N := 4) rfl rfl in_X0 tyX0 tyX0_ok mw552 mw553 mw308 (sl_p (stL2 (t := 17) rfl (by omega)) (sl_v (sl_p (stU (by decide) (s3_0 h2)) (sl_v (sl_v sl_0))))) (st_p (stL2 (t := 17) rfl (by omega)) st_0) dX1_init_27 (fun hR => ?_)
  show J X B (cst E0 L 2 (updf (updf (fun j => dv (tyX1 j)) 3 (.inr (some (8, L.length + 1, 0)))) 4 (.inr (some (8, L.length + 5, 0)))) ((([] ++ cX5 (L.length + 1)) ++ cX8 (L.length + 5)) ++ [.inl (1, fun j => dv (tyX0 j))]), addC κ 18 183) 30 [(0, .inr (some (8, L.length, 0))), (1, .inl (.int a1)), (2, .inr (some (2, a2, 0))), (3, .inl (.int a3)), (4, .inl (.int a4))] [.inr (some (8, L.length + 18, 0)), .inr (some (8, L.length, 0))]
  refine J_dup O.mo dX1_init_30 rfl ?_
  refine J_cCall O (KPc hKP) hR (d := 18) rfl (cY := cX0) (len := 18) (fun _ => rfl) (by decide) (fun n => ok_X0 n) (as := []) (fun L2 hR2 => ci_X0 hfl hR2) rfl rfl (Or.inr mw554) mw555 mw308 mw556 pd_X0_init rfl (by decide) rfl (Nat.le_of_ble_eq_true rfl) (sl_p (stL2 (t := 18) rfl (by omega)) (sl_v (sl_p (stU (by decide) (s3_0 h2)) (sl_v (sl_v sl_0))))) (st_p (stL2 (t := 18) rfl (by omega)) (st_p (stL2 (t := 18) rfl (by omega)) st_0)) dX1_init_31 (fun hR => ?_)
  show J X B (cst E0 L 2 (updf (updf (fun j => dv (tyX1 j)) 3 (.inr (some (8, L.length + 1, 0)))) 4 (.inr (some (8, L.length + 5, 0)))) ((([] ++ cX5 (L.length + 1)) ++ cX8 (L.length + 5)) ++ cX0 (L.length + 18)), addC κ 35 306) 34 [(0, .inr (some (8, L.length, 0))), (1, .inl (.int a1)), (2, .inr (some (2, a2, 0))), (3, .inl (.int a3)), (4, .inl (.int a4))] [.inr (some (8, L.length + 18, 0)), .inr (some (8, L.length, 0))]
  refine J_cPut O hname hR (C := RX1) (Tt := TX1) (N := 19) rfl rfl in_X1 tyX1 tyX1_ok nmX1 5 (by decide) (v := .inr (some (8, L.length + 18, 0))) (v' := .inr (some (8, L.length + 18, 0))) (clL (t := 35) rfl (by omega)) rfl (fun _ => ⟨rfl, rfl⟩) (Or.inr rfl) mw114 rfl dX1_init_34 (fun hR => ?_)
  refine J_aload_n O.mo dX1_init_37 0 rfl ?_
  refine J_cNew O (KPc hKP) hR (d := 36) rfl (kd1 := 5) (C := RX4) (Tt := TX4) (N := 2) rfl rfl in_X4 tyX4 tyX4_ok mw557 mw527 mw56 (sl_p (stL2 (t := 35) rfl (by omega)) (sl_v (sl_p (stU (by decide) (s3_0 h2)) (sl_v (sl_v sl_0))))) (st_p (stL2 (t := 35) rfl (by omega)) st_0) dX1_init_38 (fun hR => ?_)
  show J X B (cst E0 L 2 (updf (updf (updf (fun j => dv (tyX1 j)) 3 (.inr (some (8, L.length + 1, 0)))) 4 (.inr (some (8, L.length + 5, 0)))) 5 (.inr (some (8, L.length + 18, 0)))) (((([] ++ cX5 (L.length + 1)) ++ cX8 (L.length + 5)) ++ cX0 (L.length + 18)) ++ [.inl (5, fun j => dv (tyX4 j))]), addC κ 36 308) 41 [(0, .inr (some (8, L.length, 0))), (1, .inl (.int a1)), (2, .inr (some (2, a2, 0))), (3, .inl (.int a3)), (4, .inl (.int a4))] [.inr (some (8, L.length + 36, 0)), .inr (some (8, L.length, 0))]
  refine J_dup O.mo dX1_init_41 rfl ?_
  refine J_cCall O (KPc hKP) hR (d := 36) rfl (cY := cX4) (len := 2) (fun _ => rfl) (by decide) (fun n => ok_X4 n) (as := []) (fun L2 hR2 => ci_X4 hfl hR2) rfl rfl (Or.inr mw558) mw529 mw56 mw530 pd_X4_init rfl (by decide) rfl (Nat.le_of_ble_eq_true rfl) (sl_p (stL2 (t := 36) rfl (by omega)) (sl_v (sl_p (stU (by decide) (s3_0 h2)) (sl_v (sl_v sl_0))))) (st_p (stL2 (t := 36) rfl (by omega)) (st_p (stL2 (t := 36) rfl (by omega)) st_0)) dX1_init_42 (fun hR => ?_)
  show J X B (cst E0 L 2 (updf (updf (updf (fun j => dv (tyX1 j)) 3 (.inr (some (8, L.length + 1, 0)))) 4 (.inr (some (8, L.length + 5, 0)))) 5 (.inr (some (8, L.length + 18, 0)))) (((([] ++ cX5 (L.length + 1)) ++ cX8 (L.length + 5)) ++ cX0 (L.length + 18)) ++ cX4 (L.length + 36)), addC κ 37 316) 45 [(0, .inr (some (8, L.length, 0))), (1, .inl (.int a1)), (2, .inr (some (2, a2, 0))), (3, .inl (.int a3)), (4, .inl (.int a4))] [.inr (some (8, L.length + 36, 0)), .inr (some (8, L.length, 0))]
  refine J_cPut O hname hR (C := RX1) (Tt := TX1) (N := 19) rfl rfl in_X1 tyX1 tyX1_ok nmX1 6 (by decide) (v := .inr (some (8, L.length + 36, 0))) (v' := .inr (some (8, L.length + 36, 0))) (clL (t := 37) rfl (by omega)) rfl (fun _ => ⟨rfl, rfl⟩) (Or.inr rfl) mw116 rfl dX1_init_45 (fun hR => ?_)
  refine J_aload_n O.mo dX1_init_48 0 rfl ?_
  refine J_bipush O.mo (v := 6) dX1_init_49 (by decide) ?_
  refine J_cNewa O (KPc hKP) hR (d := 38) rfl (atype := .int) (ty := .int) (ai := 0) (ct := .inl fun _ => 0) (N := 6) rfl (fun _ => rfl) (fun _ _ _ => ⟨_, rfl, rfl⟩) (fun _ => trivial) mw_arrI (by decide) (by decide) (by decide) (sl_p (stL2 (t := 37) rfl (by omega)) (sl_v (sl_p (stU (by decide) (s3_0 h2)) (sl_v (sl_v sl_0))))) (st_p (stL2 (t := 37) rfl (by omega)) st_0) dX1_init_51 (fun hR => ?_)
  show J X B (cst E0 L 2 (updf (updf (updf (updf (fun j => dv (tyX1 j)) 3 (.inr (some (8, L.length + 1, 0)))) 4 (.inr (some (8, L.length + 5, 0)))) 5 (.inr (some (8, L.length + 18, 0)))) 6 (.inr (some (8, L.length + 36, 0)))) ((((([] ++ cX5 (L.length + 1)) ++ cX8 (L.length + 5)) ++ cX0 (L.length + 18)) ++ cX4 (L.length + 36)) ++ [.inr (0, 6, .inl fun _ => 0)]), addC κ 38 322) 53 [(0, .inr (some (8, L.length, 0))), (1, .inl (.int a1)), (2, .inr (some (2, a2, 0))), (3, .inl (.int a3)), (4, .inl (.int a4))] [.inr (some (8, L.length + 38, 0)), .inr (some (8, L.length, 0))]
  refine J_cPut O hname hR (C := RX1) (Tt := TX1) (N := 19) rfl rfl in_X1 tyX1 tyX1_ok nmX1 7 (by decide) (v := .inr (some (8, L.length + 38, 0))) (v' := .inr (some (8, L.length + 38, 0))) (clL (t := 38) rfl (by omega)) rfl (fun _ => ⟨rfl, rfl⟩) (Or.inr rfl) mw77 rfl dX1_init_53 (fun hR => ?_)
  refine J_aload_n O.mo dX1_init_56 0 rfl ?_
  refine J_iconst O.mo (v := 1) dX1_init_57 (by decide) ?_
  refine J_cPut O hname hR (C := RX1) (Tt := TX1) (N := 19) rfl rfl in_X1 tyX1 tyX1_ok nmX1 10 (by decide) (v := .inl (.int 1)) (v' := .inl (.int 1)) trivial rfl (fun _ => ⟨rfl, rfl⟩) (Or.inl rfl) mw252 rfl dX1_init_58 (fun hR => ?_)
  refine J_aload_n O.mo dX1_init_61 0 rfl ?_
  refine J_sipush O.mo (v := 255) dX1_init_62 (by decide) ?_
  refine J_cPut O hname hR (C := RX1) (Tt := TX1) (N := 19) rfl rfl in_X1 tyX1 tyX1_ok nmX1 14 (by decide) (v := .inl (.int 255)) (v' := .inl (.int 255)) trivial rfl (fun _ => ⟨rfl, rfl⟩) (Or.inl rfl) mw67 rfl dX1_init_65 (fun hR => ?_)
  refine J_aload_n O.mo dX1_init_68 0 rfl ?_
  refine J_iconst O.mo (v := (-1)) dX1_init_69 (by decide) ?_
  refine J_cPut O hname hR (C := RX1) (Tt := TX1) (N := 19) rfl rfl in_X1 tyX1 tyX1_ok nmX1 15 (by decide) (v := .inl (.int ((-1)))) (v' := .inl (.int ((-1)))) trivial rfl (fun _ => ⟨rfl, rfl⟩) (Or.inl rfl) mw66 rfl dX1_init_70 (fun hR => ?_)
  refine J_aload_n O.mo dX1_init_73 0 rfl ?_
  refine J_iload_n O.mo dX1_init_74 1 rfl ?_
  refine J_cPut O hname hR (C := RX1) (Tt := TX1) (N := 19) rfl rfl in_X1 tyX1 tyX1_ok nmX1 0 (by decide) (v := .inl (.int a1)) (v' := .inl (.int a1)) trivial rfl (fun _ => ⟨rfl, rfl⟩) (Or.inr rfl) mw68 rfl dX1_init_75 (fun hR => ?_)
  refine J_aload_n O.mo dX1_init_78 0 rfl ?_
  refine J_aload_n O.mo dX1_init_79 2 rfl ?_
  refine J_cPut O hname hR (C := RX1) (Tt := TX1) (N := 19) rfl rfl in_X1 tyX1 tyX1_ok nmX1 8 (by decide) (v := .inr (some (2, a2, 0))) (v' := .inr (some (2, a2, 0))) (fun z => absurd (show (2 : Nat) = 8 from z) (by decide)) rfl (fun _ => ⟨rfl, rfl⟩) (Or.inl rfl) mw69 rfl dX1_init_80 (fun hR => ?_)
  refine J_aload_n O.mo dX1_init_83 0 rfl ?_
  refine J_iload_n O.mo dX1_init_84 3 rfl ?_
  refine J_cPut O hname hR (C := RX1) (Tt := TX1) (N := 19) rfl rfl in_X1 tyX1 tyX1_ok nmX1 1 (by decide) (v := .inl (.int a3)) (v' := .inl (.int a3)) trivial rfl (fun _ => ⟨rfl, rfl⟩) (Or.inr rfl) mw559 rfl dX1_init_85 (fun hR => ?_)
  refine J_aload_n O.mo dX1_init_88 0 rfl ?_
  refine J_iload O.mo dX1_init_89 4 rfl ?_
  refine J_cPut O hname hR (C := RX1) (Tt := TX1) (N := 19) rfl rfl in_X1 tyX1 tyX1_ok nmX1 2 (by decide) (v := .inl (.int a4)) (v' := .inl (.int a4)) trivial rfl (fun _ => nf_b hb4) (Or.inr rfl) mw560 rfl dX1_init_91 (fun hR => ?_)
  exact hE _ _ dX1_init_94
def cX6 (n : Nat) (a1 : Nat) : List RC := .inl (7, (updf (updf (updf (fun j => dv (tyX6 j)) 0 (.inr (some (8, n + 1, 0)))) 4 (.inl (.int 1))) 1 (.inr (some (0, a1, 5))))) :: ([] ++ cX3 (n + 1))
theorem ok_X6 (n : Nat) (a1 : Nat) : aok (n + 5) (cX6 n a1) := aok_cons (show ∀ j, clA (n + 5) (_ : AV) from (updf_ok (updf_ok (updf_ok (fun j => dv_cl _ _) (fun _ => (by show n + 1 < n + 5; omega))) trivial) (fun z => absurd (show (0 : Nat) = 8 from z) (by decide)))) (aok_app aok_nil (aok_sub (ok_X3 (n + 1)) (by omega)))
set_option maxHeartbeats 4000000 in
set_option maxRecDepth 100000 in
theorem ci_X6 {l : Launch} (hfl : l.stackTraces = false) (a1 : Nat) {E0 : EE} {L : List RC} {κ : K} (h1 : PC 9 E0 0 a1 5) (hR : rawOK (upR E0 (L ++ [.inl (7, fun j => dv (tyX6 j))]))) : Con l yX6_init cX6_init 2 none 2 32 [.inr (some (8, L.length, 0)), .inr (some (0, a1, 5))] (upR E0 (L ++ [.inl (7, fun j => dv (tyX6 j))]), κ) (upR E0 (L ++ cX6 L.length a1), addC κ 4 53) none := by
  refine Con_ofI hfl (by decide +kernel) (Nat.le_of_ble_eq_true rfl) rfl rfl (fun X B g O hKP hmL hname hE => ?_)
  replace hname : B.2.2.2.2.2.2.2.2 X → MXn X = "<init>" := hname
  change KPok B (cst E0 L 7 (fun j => dv (tyX6 j)) []) at hKP
  change rawOK (cst E0 L 7 (fun j => dv (tyX6 j)) []) at hR
  show J X B (cst E0 L 7 (fun j => dv (tyX6 j)) [], addC κ 0 0) 0 [(0, .inr (some (8, L.length, 0))), (1, .inr (some (0, a1, 5)))] []
  refine J_aload_n O.mo dX6_init_0 0 rfl ?_
  refine J_callI O (KPc hKP) (as := []) (ci_X9_init hfl) rfl rfl (Or.inr mw561) mw542 mw543 mw544 pd_X9_init rfl (by decide) rfl (Nat.le_of_ble_eq_true rfl) (sl_p (stL2 (t := 0) rfl (by omega)) (sl_p (stU (by decide) (s9_0 h1)) sl_0)) st_0 dX6_init_1 ?_
  refine J_aload_n O.mo dX6_init_4 0 rfl ?_
  refine J_cNew O (KPc hKP) hR (d := 1) rfl (kd1 := 4) (C := RX3) (Tt := TX3) (N := 9) rfl rfl in_X3 tyX3 tyX3_ok mw562 mw522 mw137 (sl_p (stL2 (t := 0) rfl (by omega)) (sl_p (stU (by decide) (s9_0 h1)) sl_0)) (st_p (stL2 (t := 0) rfl (by omega)) st_0) dX6_init_5 (fun hR => ?_)
  show J X B (cst E0 L 7 (fun j => dv (tyX6 j)) ([] ++ [.inl (4, fun j => dv (tyX3 j))]), addC κ 1 9) 8 [(0, .inr (some (8, L.length, 0))), (1, .inr (some (0, a1, 5)))] [.inr (some (8, L.length + 1, 0)), .inr (some (8, L.length, 0))]
  refine J_dup O.mo dX6_init_8 rfl ?_
  refine J_cCall O (KPc hKP) hR (d := 1) rfl (cY := cX3) (len := 4) (fun _ => rfl) (by decide) (fun n => ok_X3 n) (as := []) (fun L2 hR2 => ci_X3 hfl hR2) rfl rfl (Or.inr mw563) mw524 mw137 mw525 pd_X3_init rfl (by decide) rfl (Nat.le_of_ble_eq_true rfl) (sl_p (stL2 (t := 1) rfl (by omega)) (sl_p (stU (by decide) (s9_0 h1)) sl_0)) (st_p (stL2 (t := 1) rfl (by omega)) (st_p (stL2 (t := 1) rfl (by omega)) st_0)) dX6_init_9 (fun hR => ?_)
  show J X B (cst E0 L 7 (fun j => dv (tyX6 j)) ([] ++ cX3 (L.length + 1)), addC κ 4 53) 12 [(0, .inr (some (8, L.length, 0))), (1, .inr (some (0, a1, 5)))] [.inr (some (8, L.length + 1, 0)), .inr (some (8, L.length, 0))]
  refine J_cPut O hname hR (C := RX6) (Tt := TX6) (N := 5) rfl rfl in_X6 tyX6 tyX6_ok nmX6 0 (by decide) (v := .inr (some (8, L.length + 1, 0))) (v' := .inr (some (8, L.length + 1, 0))) (clL (t := 4) rfl (by omega)) rfl (fun _ => ⟨rfl, rfl⟩) (Or.inr rfl) mw316 rfl dX6_init_12 (fun hR => ?_)
  refine J_aload_n O.mo dX6_init_15 0 rfl ?_
  refine J_iconst O.mo (v := 1) dX6_init_16 (by decide) ?_
  refine J_cPut O hname hR (C := RX6) (Tt := TX6) (N := 5) rfl rfl in_X6 tyX6 tyX6_ok nmX6 4 (by decide) (v := .inl (.int 1)) (v' := .inl (.int 1)) trivial rfl (fun _ => nf_b (Or.inr rfl)) (Or.inl rfl) mw218 rfl dX6_init_17 (fun hR => ?_)
  refine J_aload_n O.mo dX6_init_20 0 rfl ?_
  refine J_aload_n O.mo dX6_init_21 1 rfl ?_
  refine J_cPut O hname hR (C := RX6) (Tt := TX6) (N := 5) rfl rfl in_X6 tyX6 tyX6_ok nmX6 1 (by decide) (v := .inr (some (0, a1, 5))) (v' := .inr (some (0, a1, 5))) (fun z => absurd (show (0 : Nat) = 8 from z) (by decide)) rfl (fun _ => ⟨rfl, rfl⟩) (Or.inr rfl) mw214 rfl dX6_init_22 (fun hR => ?_)
  exact hE _ _ dX6_init_25
