theorem k10_0 {E : EE} {f i c : Nat} (h : PC 10 E f i c) : kd f (c) = 10 := PC_kd h 0 (by decide)
theorem l10_0 {E : EE} {f i c : Nat} (h : PC 10 E f i c) : liveC E f i (c) = true := PC_lv h 0 (by decide) (by decide)
theorem s10_0 {E : EE} {f i c : Nat} (h : PC 10 E f i c) : Stab E (.inr (some (f, i, c))) := PC_st h 0 (by decide) (by decide) (by decide)
set_option maxRecDepth 100000 in
theorem mw333 : Cond.fieldLink RX10 12 "GuestHall" "guests" "Ljava/util/ArrayList;" ∈ gwl := gwl_tb 104 rfl rfl
set_option maxRecDepth 100000 in
theorem mw334 : Cond.methodLink RX10 39 yJx4a65c_size_8abf5 ∈ gwl := gwl_tb 226 rfl rfl
set_option maxRecDepth 100000 in
theorem mw335 : Cond.instanceMethod yJx4a65c_size_8abf5 ∈ gwl := gwl_tb 227 rfl rfl
set_option maxRecDepth 100000 in
theorem mw336 : Cond.selects RJx4a65c yJx4a65c_size_8abf5 yJx4a65c_size_8abf5 ∈ gwl := gwl_tb 228 rfl rfl
set_option maxRecDepth 100000 in
theorem mw337 : Cond.code yJx4a65c_size_8abf5 cJx4a65c_size_8abf5 1 (some .int) ∈ gwl := gwl_tb 229 rfl rfl
set_option maxRecDepth 100000 in
theorem mw338 : Cond.methodLink RX10 261 yJx4a65c_get_915e3 ∈ gwl := gwl_tb 581 rfl rfl
set_option maxRecDepth 100000 in
theorem mw339 : Cond.instanceMethod yJx4a65c_get_915e3 ∈ gwl := gwl_tb 582 rfl rfl
set_option maxRecDepth 100000 in
theorem mw340 : Cond.selects RJx4a65c yJx4a65c_get_915e3 yJx4a65c_get_915e3 ∈ gwl := gwl_tb 583 rfl rfl
set_option maxRecDepth 100000 in
theorem mw341 : Cond.code yJx4a65c_get_915e3 cJx4a65c_get_915e3 2 (some (.object "java/lang/Object")) ∈ gwl := gwl_tb 584 rfl rfl
set_option maxRecDepth 100000 in
theorem mw342 : Cond.classLink RX10 52 RX1 ∈ gwl := gwl_tb 246 rfl rfl
set_option maxRecDepth 100000 in
theorem mw343 : Cond.fieldLink RX10 108 "GuestHall$Guest" "state" "LGuestHall$State;" ∈ gwl := gwl_tb 439 rfl rfl
set_option maxRecDepth 100000 in
theorem mw344 : Cond.fieldLink RX8 41 "GuestHall$Machine" "how" "I" ∈ gwl := gwl_tb 310 rfl rfl
set_option maxRecDepth 100000 in
theorem mw345 : Cond.methodLink RX8 52 yX8_rouse ∈ gwl := gwl_tb 683 rfl rfl
set_option maxRecDepth 100000 in
theorem mw346 : Cond.instanceMethod yX8_rouse ∈ gwl := gwl_tb 659 rfl rfl
set_option maxRecDepth 100000 in
theorem mw347 : Cond.selects RX8 yX8_rouse yX8_rouse ∈ gwl := gwl_tb 660 rfl rfl
set_option maxRecDepth 100000 in
theorem mw348 : Cond.code yX8_rouse cX8_rouse 1 none ∈ gwl := gwl_tb 661 rfl rfl
set_option maxRecDepth 100000 in
theorem mw349 : Cond.methodLink RX10 352 yX8_countTimerDown ∈ gwl := gwl_tb 679 rfl rfl
set_option maxRecDepth 100000 in
theorem mw350 : Cond.instanceMethod yX8_countTimerDown ∈ gwl := gwl_tb 680 rfl rfl
set_option maxRecDepth 100000 in
theorem mw351 : Cond.selects RX8 yX8_countTimerDown yX8_countTimerDown ∈ gwl := gwl_tb 681 rfl rfl
set_option maxRecDepth 100000 in
theorem mw352 : Cond.code yX8_countTimerDown cX8_countTimerDown 1 none ∈ gwl := gwl_tb 682 rfl rfl
set_option maxRecDepth 100000 in
theorem mw353 : Cond.fieldLink RX10 157 "GuestHall" "time" "I" ∈ gwl := gwl_tb 107 rfl rfl
set_option maxRecDepth 100000 in
theorem mw354 : Cond.methodLink RX10 355 yX1_advanceClock ∈ gwl := gwl_tb 845 rfl rfl
set_option maxRecDepth 100000 in
theorem mw355 : Cond.instanceMethod yX1_advanceClock ∈ gwl := gwl_tb 846 rfl rfl
set_option maxRecDepth 100000 in
theorem mw356 : Cond.selects RX1 yX1_advanceClock yX1_advanceClock ∈ gwl := gwl_tb 847 rfl rfl
set_option maxRecDepth 100000 in
theorem mw357 : Cond.code yX1_advanceClock cX1_advanceClock 1 none ∈ gwl := gwl_tb 848 rfl rfl
set_option maxRecDepth 100000 in
theorem mw358 : Cond.fieldLink RX10 372 "GuestHall$Host" "ranLast" "LGuestHall$Guest;" ∈ gwl := gwl_tb 84 rfl rfl
set_option maxRecDepth 100000 in
theorem mw359 : Cond.methodLink RX10 365 yX1_canRunOn ∈ gwl := gwl_tb 692 rfl rfl
set_option maxRecDepth 100000 in
theorem mw360 : Cond.instanceMethod yX1_canRunOn ∈ gwl := gwl_tb 693 rfl rfl
set_option maxRecDepth 100000 in
theorem mw361 : Cond.selects RX1 yX1_canRunOn yX1_canRunOn ∈ gwl := gwl_tb 694 rfl rfl
set_option maxRecDepth 100000 in
theorem mw362 : Cond.code yX1_canRunOn cX1_canRunOn 2 (some .boolean) ∈ gwl := gwl_tb 695 rfl rfl
set_option maxRecDepth 100000 in
theorem mw363 : Cond.fieldLink RX10 375 "GuestHall$Host" "row" "I" ∈ gwl := gwl_tb 85 rfl rfl
set_option maxRecDepth 100000 in
theorem mw364 : Cond.fieldLink RX10 377 "GuestHall$Guest" "weight" "I" ∈ gwl := gwl_tb 432 rfl rfl
set_option maxRecDepth 100000 in
theorem mw365 : Cond.fieldLink RX10 379 "GuestHall$Guest" "number" "I" ∈ gwl := gwl_tb 430 rfl rfl
set_option maxRecDepth 100000 in
theorem mw366 : Cond.fieldLink RX10 43 "GuestHall$Host" "hasFailed" "Z" ∈ gwl := gwl_tb 80 rfl rfl
set_option maxRecDepth 100000 in
theorem mw367 : Cond.fieldLink RX10 362 "GuestHall$Host" "tick" "I" ∈ gwl := gwl_tb 83 rfl rfl
set_option maxRecDepth 100000 in
theorem mw368 : Cond.methodLink RX10 369 yX1_runTick ∈ gwl := gwl_tb 696 rfl rfl
set_option maxRecDepth 100000 in
theorem mw369 : Cond.instanceMethod yX1_runTick ∈ gwl := gwl_tb 697 rfl rfl
set_option maxRecDepth 100000 in
theorem mw370 : Cond.selects RX1 yX1_runTick yX1_runTick ∈ gwl := gwl_tb 698 rfl rfl
set_option maxRecDepth 100000 in
theorem mw371 : Cond.code yX1_runTick cX1_runTick 1 none ∈ gwl := gwl_tb 699 rfl rfl
set_option maxRecDepth 100000 in
theorem mw372 : Cond.fieldLink RX10 291 "GuestHall$Guest" "stolen" "I" ∈ gwl := gwl_tb 452 rfl rfl
set_option maxRecDepth 100000 in
theorem mw373 : Cond.methodLink RX10 358 yX10_chooseFor ∈ gwl := gwl_tb 688 rfl rfl
set_option maxRecDepth 100000 in
theorem mw374 : Cond.instanceMethod yX10_chooseFor ∈ gwl := gwl_tb 690 rfl rfl
set_option maxRecDepth 100000 in
theorem mw375 : Cond.selects RX10 yX10_chooseFor yX10_chooseFor ∈ gwl := gwl_sl 8 rfl rfl
set_option maxRecDepth 100000 in
theorem mw376 : Cond.code yX10_chooseFor cX10_chooseFor 7 (some (.object "GuestHall$Guest")) ∈ gwl := gwl_tb 691 rfl rfl
set_option maxRecDepth 100000 in
theorem mw377 : Cond.fieldLink RX10 299 "GuestHall$Guest" "isSealed" "Z" ∈ gwl := gwl_tb 434 rfl rfl
set_option maxRecDepth 100000 in
theorem mw378 : Cond.fieldLink RX10 137 "GuestHall$State" "machine" "LGuestHall$Machine;" ∈ gwl := gwl_tb 353 rfl rfl
set_option maxRecDepth 100000 in
theorem mw379 : Cond.fieldLink RX10 305 "GuestHall$Machine" "words" "[I" ∈ gwl := gwl_tb 296 rfl rfl
set_option maxRecDepth 100000 in
theorem mw380 : Cond.methodLink RX10 380 yX10_arePagesAlike ∈ gwl := gwl_tb 864 rfl rfl
set_option maxRecDepth 100000 in
theorem mw381 : Cond.static yX10_arePagesAlike ∈ gwl := gwl_tb 865 rfl rfl
set_option maxRecDepth 100000 in
theorem mw382 : Cond.code yX10_arePagesAlike cX10_arePagesAlike 5 (some .boolean) ∈ gwl := gwl_tb 866 rfl rfl
set_option maxRecDepth 100000 in
theorem in_X10 : ∀ w ∈ u_ws RX10 TX10 4, w ∈ gwl := by
  intro w hw
  obtain ⟨k, hk, rfl⟩ := List.mem_map.mp hw
  replace hk := List.mem_range.mp hk
  clear hw
  revert k
  exact (tb_s (tb_s (tb_s (tb_s tb_0 (gwl_tb 108 rfl rfl)) (gwl_tb 110 rfl rfl)) (gwl_tb 112 rfl rfl)) (gwl_tb 114 rfl rfl))
theorem pd_Jx4a65c_size_8abf5 : (yJx4a65c_size_8abf5).cls ≠ "java/lang/invoke/MethodHandle" ∧ (yJx4a65c_size_8abf5).cls ≠ "java/lang/invoke/VarHandle" ∧ (parseMethodDescriptor (yJx4a65c_size_8abf5).desc).map (fun d => d.parameters.length) = some 0 := ⟨by decide +kernel, by decide +kernel, by decide +kernel⟩
theorem pd_Jx4a65c_get_915e3 : (yJx4a65c_get_915e3).cls ≠ "java/lang/invoke/MethodHandle" ∧ (yJx4a65c_get_915e3).cls ≠ "java/lang/invoke/VarHandle" ∧ (parseMethodDescriptor (yJx4a65c_get_915e3).desc).map (fun d => d.parameters.length) = some 1 := ⟨by decide +kernel, by decide +kernel, by decide +kernel⟩
theorem pd_X8_rouse : (yX8_rouse).cls ≠ "java/lang/invoke/MethodHandle" ∧ (yX8_rouse).cls ≠ "java/lang/invoke/VarHandle" ∧ (parseMethodDescriptor (yX8_rouse).desc).map (fun d => d.parameters.length) = some 0 := ⟨by decide +kernel, by decide +kernel, by decide +kernel⟩
theorem pd_X8_countTimerDown : (yX8_countTimerDown).cls ≠ "java/lang/invoke/MethodHandle" ∧ (yX8_countTimerDown).cls ≠ "java/lang/invoke/VarHandle" ∧ (parseMethodDescriptor (yX8_countTimerDown).desc).map (fun d => d.parameters.length) = some 0 := ⟨by decide +kernel, by decide +kernel, by decide +kernel⟩
theorem pd_X1_advanceClock : (yX1_advanceClock).cls ≠ "java/lang/invoke/MethodHandle" ∧ (yX1_advanceClock).cls ≠ "java/lang/invoke/VarHandle" ∧ (parseMethodDescriptor (yX1_advanceClock).desc).map (fun d => d.parameters.length) = some 0 := ⟨by decide +kernel, by decide +kernel, by decide +kernel⟩
theorem pd_X1_canRunOn : (yX1_canRunOn).cls ≠ "java/lang/invoke/MethodHandle" ∧ (yX1_canRunOn).cls ≠ "java/lang/invoke/VarHandle" ∧ (parseMethodDescriptor (yX1_canRunOn).desc).map (fun d => d.parameters.length) = some 1 := ⟨by decide +kernel, by decide +kernel, by decide +kernel⟩
theorem pd_X1_runTick : (yX1_runTick).cls ≠ "java/lang/invoke/MethodHandle" ∧ (yX1_runTick).cls ≠ "java/lang/invoke/VarHandle" ∧ (parseMethodDescriptor (yX1_runTick).desc).map (fun d => d.parameters.length) = some 0 := ⟨by decide +kernel, by decide +kernel, by decide +kernel⟩
theorem pd_X10_chooseFor : (yX10_chooseFor).cls ≠ "java/lang/invoke/MethodHandle" ∧ (yX10_chooseFor).cls ≠ "java/lang/invoke/VarHandle" ∧ (parseMethodDescriptor (yX10_chooseFor).desc).map (fun d => d.parameters.length) = some 1 := ⟨by decide +kernel, by decide +kernel, by decide +kernel⟩
theorem pd_X10_arePagesAlike : (yX10_arePagesAlike).cls ≠ "java/lang/invoke/MethodHandle" ∧ (yX10_arePagesAlike).cls ≠ "java/lang/invoke/VarHandle" ∧ (parseMethodDescriptor (yX10_arePagesAlike).desc).map (fun d => d.parameters.length) = some 4 := ⟨by decide +kernel, by decide +kernel, by decide +kernel⟩
def f_X8_rouse (E : EE) (κ : K) (f0 : Nat) (i0 : Nat) (c0 : Nat) : Option (K × Unit) := if kV κ f0 i0 (c0 + 1) 8 = 1 then bd (f_X8_isInterruptPending E κ f0 i0 c0) fun κ2 r4 => if r4 = 0 then some (κ2, ()) else nm (setV κ2 f0 i0 (c0 + 1) 8 0) fun κ6 => some (κ6, ()) else some (κ, ())
set_option maxHeartbeats 4000000 in
set_option maxRecDepth 100000 in
theorem w_X8_rouse {l0 : Launch} (hfl : l0.stackTraces = false) {X : MX} {B : BX (EE × K)} {g : GP} {E : EE} {κ' : K} {rr : Unit} {f0 : Nat} {i0 : Nat} {c0 : Nat} (O : CK l0 X B g cX8_rouse RX8 2 20) (hKP : KPok B E) (hmL : B.2.2.2.1 = 1) (hE : ∀ (pc : Nat) (lv : List (Nat × AV)), decode cX8_rouse pc = .ok (.return_, 1) → J X B (E, κ') pc lv []) (h0 : PC 9 E f0 i0 c0) : ∀ (κ : K), f_X8_rouse E κ f0 i0 c0 = some (κ', rr) → J X B (E, κ) 0 [(0, .inr (some (f0, i0, c0)))] [] := by
  intro κ h
  unfold f_X8_rouse at h
  refine J_aload_n O.mo dX8_rouse_0 0 rfl ?_
  refine J_getF O.co (kd0 := 9) (k9_0 h0) (l9_0 h0) (C := RX8) (T := TX8) (N := 10) rfl (by decide) rfl in_X8 0 (by decide) (v := .inr (some (f0, i0, c0 + 1))) rfl mw234 rfl dX8_rouse_1 ?_
  refine J_getF O.co (kd0 := 4) (k9_1 h0) (l9_1 h0) (C := RX3) (T := TX3) (N := 9) rfl (by decide) rfl in_X3 8 (by decide) (v := .inl (.int (kV κ f0 i0 (c0 + 1) 8))) rfl mw344 rfl dX8_rouse_4 ?_
  refine J_iconst O.mo (v := 1) dX8_rouse_7 (by decide) ?_
  refine J_icmp_ne O.mo (tgt := 26) dX8_rouse_8 (by decide) (fun hc1 => ?_) (fun hc1 => ?_)
  · replace h := (if_neg hc1).symm.trans h
    cases h
    exact hE _ _ dX8_rouse_26
  · replace h := (if_pos hc1).symm.trans h
    refine J_aload_n O.mo dX8_rouse_11 0 rfl ?_
    obtain ⟨κ2, r4, hq3, h⟩ := bd_some h
    refine J_callV O hKP (as := []) (rest := []) (r := (some (.inl (.int r4)))) (c_X8_isInterruptPending hfl h0 hq3) rfl (kd0 := 9) (k9_0 h0) (l9_0 h0) (T := TX8) (N := 10) rfl (by decide) mw233 mw122 mw123 mw124 mw125 pd_X8_isInterruptPending rfl (by decide) rfl (Nat.le_of_ble_eq_true rfl) (sl_p (s9_0 h0) sl_0) st_0 dX8_rouse_12 ?_
    show J X B (E, κ2) 15 [(0, .inr (some (f0, i0, c0)))] [.inl (.int r4)]
    refine J_if_eq O.mo (tgt := 26) dX8_rouse_15 (by decide) (fun hc5 => ?_) (fun hc5 => ?_)
    · replace h := (if_pos hc5).symm.trans h
      cases h
      exact hE _ _ dX8_rouse_26
    · replace h := (if_neg hc5).symm.trans h
      refine J_aload_n O.mo dX8_rouse_18 0 rfl ?_
      refine J_getF O.co (kd0 := 9) (k9_0 h0) (l9_0 h0) (C := RX8) (T := TX8) (N := 10) rfl (by decide) rfl in_X8 0 (by decide) (v := .inr (some (f0, i0, c0 + 1))) rfl mw234 rfl dX8_rouse_19 ?_
      refine J_iconst O.mo (v := 0) dX8_rouse_22 (by decide) ?_
      refine J_putI O.co (kd0 := 4) (k9_1 h0) (l9_1 h0) (C := RX3) (T := TX3) (N := 9) rfl (by decide) rfl in_X3 tyX3 tyX3_ok nmX3 8 (by decide) rfl rfl (x := 0) (Or.inl rfl) mw344 dX8_rouse_23 ?_
      refine nm_some (P := fun z => J X B (E, z) 26 [(0, .inr (some (f0, i0, c0)))] []) h (fun κ6 h => ?_)
      cases h
      exact hE _ _ dX8_rouse_26
theorem c_X8_rouse {l : Launch} (hfl : l.stackTraces = false) {E : EE} {κ κ' : K} {f0 : Nat} {i0 : Nat} {c0 : Nat} (h0 : PC 9 E f0 i0 c0) {rr : Unit} (h : f_X8_rouse E κ f0 i0 c0 = some (κ', rr)) : Con l yX8_rouse cX8_rouse 1 none 2 20 [.inr (some (f0, i0, c0))] (E, κ) (E, κ') none := by
  exact Con_of hfl (by decide +kernel) (Nat.le_of_ble_eq_true rfl) rfl rfl (fun X B g O hKP hmL hE => w_X8_rouse hfl O hKP hmL hE h0 _ h)
def f_X8_countTimerDown_b40 (E : EE) (f0 : Nat) (i0 : Nat) (c0 : Nat) (κ : K) : Option (K × Unit) := bd (f_X8_rouse E κ f0 i0 c0) fun κ2 _ => some (κ2, ())
def f_X8_countTimerDown_b37 (E : EE) (f0 : Nat) (i0 : Nat) (c0 : Nat) (κ : K) (xs0 : Int32) : Option (K × Unit) := gd (xs0 = 0 ∨ xs0 = 1) (nm (setV κ f0 i0 c0 7 xs0) fun κ7 => f_X8_countTimerDown_b40 E f0 i0 c0 κ7)
def f_X8_countTimerDown_b32 (E : EE) (f0 : Nat) (i0 : Nat) (c0 : Nat) (κ : K) : Option (K × Unit) := f_X8_countTimerDown_b37 E f0 i0 c0 κ 1
def f_X8_countTimerDown (E : EE) (κ : K) (f0 : Nat) (i0 : Nat) (c0 : Nat) : Option (K × Unit) := if kV κ f0 i0 c0 6 ≤ 0 then f_X8_countTimerDown_b40 E f0 i0 c0 κ else nm (setV κ f0 i0 c0 6 ((kV κ f0 i0 c0 6) - 1)) fun κ5 => if kV κ5 f0 i0 c0 7 = 0 then if kV κ5 f0 i0 c0 6 = 0 then f_X8_countTimerDown_b32 E f0 i0 c0 κ5 else f_X8_countTimerDown_b37 E f0 i0 c0 κ5 0 else f_X8_countTimerDown_b32 E f0 i0 c0 κ5
set_option maxHeartbeats 4000000 in
set_option maxRecDepth 100000 in
theorem w_X8_countTimerDown_b40 {l0 : Launch} (hfl : l0.stackTraces = false) {X : MX} {B : BX (EE × K)} {g : GP} {E : EE} {κ' : K} {rr : Unit} {f0 : Nat} {i0 : Nat} {c0 : Nat} (O : CK l0 X B g cX8_countTimerDown RX8 3 40) (hKP : KPok B E) (hmL : B.2.2.2.1 = 1) (hE : ∀ (pc : Nat) (lv : List (Nat × AV)), decode cX8_countTimerDown pc = .ok (.return_, 1) → J X B (E, κ') pc lv []) (h0 : PC 9 E f0 i0 c0) : ∀ (κ : K), f_X8_countTimerDown_b40 E f0 i0 c0 κ = some (κ', rr) → J X B (E, κ) 40 [(0, .inr (some (f0, i0, c0)))] [] := by
  intro κ h
  unfold f_X8_countTimerDown_b40 at h
  refine J_aload_n O.mo dX8_countTimerDown_40 0 rfl ?_
  refine J_sub [] rfl ?_
  obtain ⟨κ2, r4, hq3, h⟩ := bd_some h
  refine J_callV O hKP (as := []) (rest := []) (r := none) (c_X8_rouse hfl h0 hq3) rfl (kd0 := 9) (k9_0 h0) (l9_0 h0) (T := TX8) (N := 10) rfl (by decide) mw345 mw346 mw347 mw124 mw348 pd_X8_rouse rfl (by decide) rfl (Nat.le_of_ble_eq_true rfl) sl_0 st_0 dX8_countTimerDown_41 ?_
  show J X B (E, κ2) 44 [] []
  cases h
  exact hE _ _ dX8_countTimerDown_44
set_option maxHeartbeats 4000000 in
set_option maxRecDepth 100000 in
theorem w_X8_countTimerDown_b37 {l0 : Launch} (hfl : l0.stackTraces = false) {X : MX} {B : BX (EE × K)} {g : GP} {E : EE} {κ' : K} {rr : Unit} {f0 : Nat} {i0 : Nat} {c0 : Nat} (O : CK l0 X B g cX8_countTimerDown RX8 3 40) (hKP : KPok B E) (hmL : B.2.2.2.1 = 1) (hE : ∀ (pc : Nat) (lv : List (Nat × AV)), decode cX8_countTimerDown pc = .ok (.return_, 1) → J X B (E, κ') pc lv []) (h0 : PC 9 E f0 i0 c0) : ∀ (κ : K) (xs0 : Int32), f_X8_countTimerDown_b37 E f0 i0 c0 κ xs0 = some (κ', rr) → J X B (E, κ) 37 [(0, .inr (some (f0, i0, c0)))] [.inl (.int xs0), .inr (some (f0, i0, c0))] := by
  intro κ xs0 h
  unfold f_X8_countTimerDown_b37 at h
  obtain ⟨hg8, h⟩ := gd_some h
  refine J_putI O.co (kd0 := 9) (k9_0 h0) (l9_0 h0) (C := RX8) (T := TX8) (N := 10) rfl (by decide) rfl in_X8 tyX8 tyX8_ok nmX8 7 (by decide) rfl rfl (x := xs0) (Or.inr ⟨rfl, hg8⟩) mw119 dX8_countTimerDown_37 ?_
  refine nm_some (P := fun z => J X B (E, z) 40 [(0, .inr (some (f0, i0, c0)))] []) h (fun κ7 h => ?_)
  exact w_X8_countTimerDown_b40 hfl O hKP hmL hE h0 _ h
set_option maxHeartbeats 4000000 in
set_option maxRecDepth 100000 in
theorem w_X8_countTimerDown_b32 {l0 : Launch} (hfl : l0.stackTraces = false) {X : MX} {B : BX (EE × K)} {g : GP} {E : EE} {κ' : K} {rr : Unit} {f0 : Nat} {i0 : Nat} {c0 : Nat} (O : CK l0 X B g cX8_countTimerDown RX8 3 40) (hKP : KPok B E) (hmL : B.2.2.2.1 = 1) (hE : ∀ (pc : Nat) (lv : List (Nat × AV)), decode cX8_countTimerDown pc = .ok (.return_, 1) → J X B (E, κ') pc lv []) (h0 : PC 9 E f0 i0 c0) : ∀ (κ : K), f_X8_countTimerDown_b32 E f0 i0 c0 κ = some (κ', rr) → J X B (E, κ) 32 [(0, .inr (some (f0, i0, c0)))] [.inr (some (f0, i0, c0))] := by
  intro κ h
  unfold f_X8_countTimerDown_b32 at h
  refine J_iconst O.mo (v := 1) dX8_countTimerDown_32 (by decide) ?_
  refine J_goto O.mo (tgt := 37) dX8_countTimerDown_33 (by decide) ?_
  exact w_X8_countTimerDown_b37 hfl O hKP hmL hE h0 _ _ h
set_option maxHeartbeats 4000000 in
set_option maxRecDepth 100000 in
theorem w_X8_countTimerDown {l0 : Launch} (hfl : l0.stackTraces = false) {X : MX} {B : BX (EE × K)} {g : GP} {E : EE} {κ' : K} {rr : Unit} {f0 : Nat} {i0 : Nat} {c0 : Nat} (O : CK l0 X B g cX8_countTimerDown RX8 3 40) (hKP : KPok B E) (hmL : B.2.2.2.1 = 1) (hE : ∀ (pc : Nat) (lv : List (Nat × AV)), decode cX8_countTimerDown pc = .ok (.return_, 1) → J X B (E, κ') pc lv []) (h0 : PC 9 E f0 i0 c0) : ∀ (κ : K), f_X8_countTimerDown E κ f0 i0 c0 = some (κ', rr) → J X B (E, κ) 0 [(0, .inr (some (f0, i0, c0)))] [] := by
  intro κ h
  unfold f_X8_countTimerDown at h
  refine J_aload_n O.mo dX8_countTimerDown_0 0 rfl ?_
  refine J_getF O.co (kd0 := 9) (k9_0 h0) (l9_0 h0) (C := RX8) (T := TX8) (N := 10) rfl (by decide) rfl in_X8 6 (by decide) (v := .inl (.int (kV κ f0 i0 c0 6))) rfl mw270 rfl dX8_countTimerDown_1 ?_
  refine J_if_le O.mo (tgt := 40) dX8_countTimerDown_4 (by decide) (fun hc1 => ?_) (fun hc1 => ?_)
  · replace h := (if_pos hc1).symm.trans h
    exact w_X8_countTimerDown_b40 hfl O hKP hmL hE h0 _ h
  · replace h := (if_neg hc1).symm.trans h
    refine J_aload_n O.mo dX8_countTimerDown_7 0 rfl ?_
    refine J_dup O.mo dX8_countTimerDown_8 rfl ?_
    refine J_getF O.co (kd0 := 9) (k9_0 h0) (l9_0 h0) (C := RX8) (T := TX8) (N := 10) rfl (by decide) rfl in_X8 6 (by decide) (v := .inl (.int (kV κ f0 i0 c0 6))) rfl mw270 rfl dX8_countTimerDown_9 ?_
    refine J_iconst O.mo (v := 1) dX8_countTimerDown_12 (by decide) ?_
    refine J_isub O.mo dX8_countTimerDown_13 ?_
    refine J_putI O.co (kd0 := 9) (k9_0 h0) (l9_0 h0) (C := RX8) (T := TX8) (N := 10) rfl (by decide) rfl in_X8 tyX8 tyX8_ok nmX8 6 (by decide) rfl rfl (x := ((kV κ f0 i0 c0 6) - 1)) (Or.inl rfl) mw270 dX8_countTimerDown_14 ?_
    refine nm_some (P := fun z => J X B (E, z) 17 [(0, .inr (some (f0, i0, c0)))] []) h (fun κ5 h => ?_)
    refine J_aload_n O.mo dX8_countTimerDown_17 0 rfl ?_
    refine J_aload_n O.mo dX8_countTimerDown_18 0 rfl ?_
    refine J_getF O.co (kd0 := 9) (k9_0 h0) (l9_0 h0) (C := RX8) (T := TX8) (N := 10) rfl (by decide) rfl in_X8 7 (by decide) (v := .inl (.int (kV κ5 f0 i0 c0 7))) rfl mw119 rfl dX8_countTimerDown_19 ?_
    refine J_if_ne O.mo (tgt := 32) dX8_countTimerDown_22 (by decide) (fun hc6 => ?_) (fun hc6 => ?_)
    · replace h := (if_neg hc6).symm.trans h
      exact w_X8_countTimerDown_b32 hfl O hKP hmL hE h0 _ h
    · replace h := (if_pos hc6).symm.trans h
      refine J_aload_n O.mo dX8_countTimerDown_25 0 rfl ?_
      refine J_getF O.co (kd0 := 9) (k9_0 h0) (l9_0 h0) (C := RX8) (T := TX8) (N := 10) rfl (by decide) rfl in_X8 6 (by decide) (v := .inl (.int (kV κ5 f0 i0 c0 6))) rfl mw270 rfl dX8_countTimerDown_26 ?_
      refine J_if_ne O.mo (tgt := 36) dX8_countTimerDown_29 (by decide) (fun hc9 => ?_) (fun hc9 => ?_)
      · replace h := (if_neg hc9).symm.trans h
        refine J_iconst O.mo (v := 0) dX8_countTimerDown_36 (by decide) ?_
        exact w_X8_countTimerDown_b37 hfl O hKP hmL hE h0 _ _ h
      · replace h := (if_pos hc9).symm.trans h
        exact w_X8_countTimerDown_b32 hfl O hKP hmL hE h0 _ h
theorem c_X8_countTimerDown {l : Launch} (hfl : l.stackTraces = false) {E : EE} {κ κ' : K} {f0 : Nat} {i0 : Nat} {c0 : Nat} (h0 : PC 9 E f0 i0 c0) {rr : Unit} (h : f_X8_countTimerDown E κ f0 i0 c0 = some (κ', rr)) : Con l yX8_countTimerDown cX8_countTimerDown 1 none 3 40 [.inr (some (f0, i0, c0))] (E, κ) (E, κ') none := by
  exact Con_of hfl (by decide +kernel) (Nat.le_of_ble_eq_true rfl) rfl rfl (fun X B g O hKP hmL hE => w_X8_countTimerDown hfl O hKP hmL hE h0 _ h)
def f_X10_countTimersDown_b2 (E : EE) : Nat → K → Int32 → Option (K × Unit)
  | 0, _, _ => none
  | n + 1, κ, x1 => bd (f_Jx4a65c_size_8abf5_L1 E κ) fun κ1 r3 => if r3 ≤ x1 then some (κ1, ()) else bd (f_Jx4a65c_get_915e3_L1 E κ1 x1) fun κ5 r7 => gd (r7 < cntE E 0) (bd (f_X8_countTimerDown E κ5 0 r7 5) fun κ9 _ => nm (x1 + 1) fun y12 => f_X10_countTimersDown_b2 E n κ9 y12)
def f_X10_countTimersDown (E : EE) (κ : K) : Option (K × Unit) := f_X10_countTimersDown_b2 E FU κ 0
set_option maxHeartbeats 4000000 in
set_option maxRecDepth 100000 in
theorem w_X10_countTimersDown_b2 {l0 : Launch} (hfl : l0.stackTraces = false) {X : MX} {B : BX (EE × K)} {g : GP} {E : EE} {κ' : K} {rr : Unit} (O : CK l0 X B g cX10_countTimersDown RX10 4 64) (hKP : KPok B E) (hmL : B.2.2.2.1 = 2) (hE : ∀ (pc : Nat) (lv : List (Nat × AV)), decode cX10_countTimersDown pc = .ok (.return_, 1) → J X B (E, κ') pc lv []) (h0 : PC 10 E 4 0 0) : ∀ (n : Nat) (κ : K) (x1 : Int32), f_X10_countTimersDown_b2 E n κ x1 = some (κ', rr) → J X B (E, κ) 2 [(0, .inr (some (4, 0, 0))), (1, .inl (.int x1))] [] := by
  intro n
  induction n with
  | zero => intro κ x1 h; cases h
  | succ n ih =>
    intro κ x1 h
    rw [f_X10_countTimersDown_b2] at h
    refine J_iload_n O.mo dX10_countTimersDown_2 1 rfl ?_
    refine J_aload_n O.mo dX10_countTimersDown_3 0 rfl ?_
    refine J_getF O.co (kd0 := 10) (k10_0 h0) (l10_0 h0) (C := RX10) (T := TX10) (N := 4) rfl (by decide) rfl in_X10 0 (by decide) (v := .inr (some (4, 0, 1))) rfl mw333 rfl dX10_countTimersDown_4 ?_
    obtain ⟨κ1, r3, hq2, h⟩ := bd_some h
    refine J_callV O hKP (as := []) (rest := [.inl (.int x1)]) (r := (some (.inl (.int r3)))) (c_Jx4a65c_size_8abf5_L1 hfl h0 hq2) rfl (kd0 := 0) (k10_1 h0) (l10_1 h0) (T := TJx4a65c) (N := 3) rfl (by decide) mw334 mw335 mw336 mw45 mw337 pd_Jx4a65c_size_8abf5 rfl (by decide) rfl (Nat.le_of_ble_eq_true rfl) (sl_p (s10_0 h0) (sl_v sl_0)) (st_v st_0) dX10_countTimersDown_7 ?_
    show J X B (E, κ1) 10 [(0, .inr (some (4, 0, 0))), (1, .inl (.int x1))] [.inl (.int r3), .inl (.int x1)]
    refine J_icmp_ge O.mo (tgt := 36) dX10_countTimersDown_10 (by decide) (fun hc4 => ?_) (fun hc4 => ?_)
    · replace h := (if_pos hc4).symm.trans h
      cases h
      exact hE _ _ dX10_countTimersDown_36
    · replace h := (if_neg hc4).symm.trans h
      refine J_aload_n O.mo dX10_countTimersDown_13 0 rfl ?_
      refine J_getF O.co (kd0 := 10) (k10_0 h0) (l10_0 h0) (C := RX10) (T := TX10) (N := 4) rfl (by decide) rfl in_X10 0 (by decide) (v := .inr (some (4, 0, 1))) rfl mw333 rfl dX10_countTimersDown_14 ?_
      refine J_iload_n O.mo dX10_countTimersDown_17 1 rfl ?_
      obtain ⟨κ5, r7, hq6, h⟩ := bd_some h
      obtain ⟨hj8, h⟩ := gd_some h
      refine J_callV O hKP (as := [.inl (.int x1)]) (rest := []) (r := some (.inr (some (0, r7, 0)))) (c_Jx4a65c_get_915e3_L1 hfl h0 hq6) rfl (kd0 := 0) (k10_1 h0) (l10_1 h0) (T := TJx4a65c) (N := 3) rfl (by decide) mw338 mw339 mw340 mw45 mw341 pd_Jx4a65c_get_915e3 rfl (by decide) rfl (Nat.le_of_ble_eq_true rfl) (sl_p (s10_0 h0) (sl_v sl_0)) st_0 dX10_countTimersDown_18 ?_
      show J X B (E, κ5) 21 [(0, .inr (some (4, 0, 0))), (1, .inl (.int x1))] [.inr (some (0, r7, 0))]
      refine J_cast O (kd0 := 2) (k2_0 (⟨hj8, rfl⟩ : PC 2 E 0 r7 0)) (l2_0 (⟨hj8, rfl⟩ : PC 2 E 0 r7 0)) rfl (by decide) mw342 dX10_countTimersDown_21 ?_
      refine J_getF O.co (kd0 := 2) (k2_0 (⟨hj8, rfl⟩ : PC 2 E 0 r7 0)) (l2_0 (⟨hj8, rfl⟩ : PC 2 E 0 r7 0)) (C := RX1) (T := TX1) (N := 19) rfl (by decide) rfl in_X1 4 (by decide) (v := .inr (some (0, r7, 5))) rfl mw343 rfl dX10_countTimersDown_24 ?_
      obtain ⟨κ9, r11, hq10, h⟩ := bd_some h
      refine J_callV O hKP (as := []) (rest := []) (r := none) (c_X8_countTimerDown hfl (sub_2_5_9 (⟨hj8, rfl⟩ : PC 2 E 0 r7 0)) hq10) rfl (kd0 := 9) (k2_5 (⟨hj8, rfl⟩ : PC 2 E 0 r7 0)) (l2_5 (⟨hj8, rfl⟩ : PC 2 E 0 r7 0)) (T := TX8) (N := 10) rfl (by decide) mw349 mw350 mw351 mw124 mw352 pd_X8_countTimerDown rfl (by decide) rfl (Nat.le_of_ble_eq_true rfl) (sl_p (s10_0 h0) (sl_v sl_0)) st_0 dX10_countTimersDown_27 ?_
      show J X B (E, κ9) 30 [(0, .inr (some (4, 0, 0))), (1, .inl (.int x1))] []
      refine J_iinc O.mo (v := x1 + 1) (lv' := [(0, .inr (some (4, 0, 0)))]) dX10_countTimersDown_30 (by rw [hmL]; decide) 1 rfl (by rw [show Int32.ofInt (1) = (1 : Int32) from by decide]) rfl rfl ?_
      refine nm_some (P := fun z => J X B (E, κ9) 33 [(1, .inl (.int z)), (0, .inr (some (4, 0, 0)))] []) h (fun y12 h => ?_)
      refine J_goto O.mo (tgt := 2) dX10_countTimersDown_33 (by decide) ?_
      refine J_sub [1, 0] rfl ?_
      exact ih _ _ h
set_option maxHeartbeats 4000000 in
set_option maxRecDepth 100000 in
theorem w_X10_countTimersDown {l0 : Launch} (hfl : l0.stackTraces = false) {X : MX} {B : BX (EE × K)} {g : GP} {E : EE} {κ' : K} {rr : Unit} (O : CK l0 X B g cX10_countTimersDown RX10 4 64) (hKP : KPok B E) (hmL : B.2.2.2.1 = 2) (hE : ∀ (pc : Nat) (lv : List (Nat × AV)), decode cX10_countTimersDown pc = .ok (.return_, 1) → J X B (E, κ') pc lv []) (h0 : PC 10 E 4 0 0) : ∀ (κ : K), f_X10_countTimersDown E κ = some (κ', rr) → J X B (E, κ) 0 [(0, .inr (some (4, 0, 0)))] [] := by
  intro κ h
  unfold f_X10_countTimersDown at h
  refine J_iconst O.mo (v := 0) dX10_countTimersDown_0 (by decide) ?_
  refine J_istore_n O.mo (lv' := [(0, .inr (some (4, 0, 0)))]) dX10_countTimersDown_1 (by rw [hmL]; decide) rfl rfl ?_
  refine J_sub [1, 0] rfl ?_
  exact w_X10_countTimersDown_b2 hfl O hKP hmL hE h0 FU _ _ h
theorem c_X10_countTimersDown {l : Launch} (hfl : l.stackTraces = false) {E : EE} {κ κ' : K} (h0 : PC 10 E 4 0 0) {rr : Unit} (h : f_X10_countTimersDown E κ = some (κ', rr)) : Con l yX10_countTimersDown cX10_countTimersDown 2 none 4 64 [.inr (some (4, 0, 0))] (E, κ) (E, κ') none := by
  exact Con_of hfl (by decide +kernel) (Nat.le_of_ble_eq_true rfl) rfl rfl (fun X B g O hKP hmL hE => w_X10_countTimersDown hfl O hKP hmL hE h0 _ h)
def f_X10_endTick_b33 (E : EE) (κ : K) : Option (K × Unit) := nm (setV κ 4 0 0 3 ((kV κ 4 0 0 3) + 1)) fun κ5 => some (κ5, ())
def f_X10_endTick_b2 (E : EE) : Nat → K → Int32 → Option (K × Unit)
  | 0, _, _ => none
  | n + 1, κ, x1 => bd (f_Jx4a65c_size_8abf5_L1 E κ) fun κ1 r3 => if r3 ≤ x1 then f_X10_endTick_b33 E κ1 else bd (f_Jx4a65c_get_915e3_L1 E κ1 x1) fun κ6 r8 => gd (r8 < cntE E 0) (bd (f_X1_advanceClock E κ6 r8) fun κ10 _ => nm (x1 + 1) fun y13 => f_X10_endTick_b2 E n κ10 y13)
def f_X10_endTick (E : EE) (κ : K) : Option (K × Unit) := f_X10_endTick_b2 E FU κ 0
set_option maxHeartbeats 4000000 in
set_option maxRecDepth 100000 in
theorem w_X10_endTick_b33 {l0 : Launch} (hfl : l0.stackTraces = false) {X : MX} {B : BX (EE × K)} {g : GP} {E : EE} {κ' : K} {rr : Unit} (O : CK l0 X B g cX10_endTick RX10 4 64) (hKP : KPok B E) (hmL : B.2.2.2.1 = 2) (hE : ∀ (pc : Nat) (lv : List (Nat × AV)), decode cX10_endTick pc = .ok (.return_, 1) → J X B (E, κ') pc lv []) (h0 : PC 10 E 4 0 0) : ∀ (κ : K), f_X10_endTick_b33 E κ = some (κ', rr) → J X B (E, κ) 33 [(0, .inr (some (4, 0, 0)))] [] := by
  intro κ h
  unfold f_X10_endTick_b33 at h
  refine J_aload_n O.mo dX10_endTick_33 0 rfl ?_
  refine J_dup O.mo dX10_endTick_34 rfl ?_
  refine J_getF O.co (kd0 := 10) (k10_0 h0) (l10_0 h0) (C := RX10) (T := TX10) (N := 4) rfl (by decide) rfl in_X10 3 (by decide) (v := .inl (.int (kV κ 4 0 0 3))) rfl mw353 rfl dX10_endTick_35 ?_
  refine J_iconst O.mo (v := 1) dX10_endTick_38 (by decide) ?_
  refine J_iadd O.mo dX10_endTick_39 ?_
  refine J_putI O.co (kd0 := 10) (k10_0 h0) (l10_0 h0) (C := RX10) (T := TX10) (N := 4) rfl (by decide) rfl in_X10 tyX10 tyX10_ok nmX10 3 (by decide) rfl rfl (x := ((kV κ 4 0 0 3) + 1)) (Or.inl rfl) mw353 dX10_endTick_40 ?_
  refine nm_some (P := fun z => J X B (E, z) 43 [(0, .inr (some (4, 0, 0)))] []) h (fun κ5 h => ?_)
  cases h
  exact hE _ _ dX10_endTick_43
set_option maxHeartbeats 4000000 in
set_option maxRecDepth 100000 in
theorem w_X10_endTick_b2 {l0 : Launch} (hfl : l0.stackTraces = false) {X : MX} {B : BX (EE × K)} {g : GP} {E : EE} {κ' : K} {rr : Unit} (O : CK l0 X B g cX10_endTick RX10 4 64) (hKP : KPok B E) (hmL : B.2.2.2.1 = 2) (hE : ∀ (pc : Nat) (lv : List (Nat × AV)), decode cX10_endTick pc = .ok (.return_, 1) → J X B (E, κ') pc lv []) (h0 : PC 10 E 4 0 0) : ∀ (n : Nat) (κ : K) (x1 : Int32), f_X10_endTick_b2 E n κ x1 = some (κ', rr) → J X B (E, κ) 2 [(0, .inr (some (4, 0, 0))), (1, .inl (.int x1))] [] := by
  intro n
  induction n with
  | zero => intro κ x1 h; cases h
  | succ n ih =>
    intro κ x1 h
    rw [f_X10_endTick_b2] at h
    refine J_iload_n O.mo dX10_endTick_2 1 rfl ?_
    refine J_aload_n O.mo dX10_endTick_3 0 rfl ?_
    refine J_getF O.co (kd0 := 10) (k10_0 h0) (l10_0 h0) (C := RX10) (T := TX10) (N := 4) rfl (by decide) rfl in_X10 0 (by decide) (v := .inr (some (4, 0, 1))) rfl mw333 rfl dX10_endTick_4 ?_
    obtain ⟨κ1, r3, hq2, h⟩ := bd_some h
    refine J_callV O hKP (as := []) (rest := [.inl (.int x1)]) (r := (some (.inl (.int r3)))) (c_Jx4a65c_size_8abf5_L1 hfl h0 hq2) rfl (kd0 := 0) (k10_1 h0) (l10_1 h0) (T := TJx4a65c) (N := 3) rfl (by decide) mw334 mw335 mw336 mw45 mw337 pd_Jx4a65c_size_8abf5 rfl (by decide) rfl (Nat.le_of_ble_eq_true rfl) (sl_p (s10_0 h0) (sl_v sl_0)) (st_v st_0) dX10_endTick_7 ?_
    show J X B (E, κ1) 10 [(0, .inr (some (4, 0, 0))), (1, .inl (.int x1))] [.inl (.int r3), .inl (.int x1)]
    refine J_icmp_ge O.mo (tgt := 33) dX10_endTick_10 (by decide) (fun hc4 => ?_) (fun hc4 => ?_)
    · replace h := (if_pos hc4).symm.trans h
      refine J_sub [0] rfl ?_
      exact w_X10_endTick_b33 hfl O hKP hmL hE h0 _ h
    · replace h := (if_neg hc4).symm.trans h
      refine J_aload_n O.mo dX10_endTick_13 0 rfl ?_
      refine J_getF O.co (kd0 := 10) (k10_0 h0) (l10_0 h0) (C := RX10) (T := TX10) (N := 4) rfl (by decide) rfl in_X10 0 (by decide) (v := .inr (some (4, 0, 1))) rfl mw333 rfl dX10_endTick_14 ?_
      refine J_iload_n O.mo dX10_endTick_17 1 rfl ?_
      obtain ⟨κ6, r8, hq7, h⟩ := bd_some h
      obtain ⟨hj9, h⟩ := gd_some h
      refine J_callV O hKP (as := [.inl (.int x1)]) (rest := []) (r := some (.inr (some (0, r8, 0)))) (c_Jx4a65c_get_915e3_L1 hfl h0 hq7) rfl (kd0 := 0) (k10_1 h0) (l10_1 h0) (T := TJx4a65c) (N := 3) rfl (by decide) mw338 mw339 mw340 mw45 mw341 pd_Jx4a65c_get_915e3 rfl (by decide) rfl (Nat.le_of_ble_eq_true rfl) (sl_p (s10_0 h0) (sl_v sl_0)) st_0 dX10_endTick_18 ?_
      show J X B (E, κ6) 21 [(0, .inr (some (4, 0, 0))), (1, .inl (.int x1))] [.inr (some (0, r8, 0))]
      refine J_cast O (kd0 := 2) (k2_0 (⟨hj9, rfl⟩ : PC 2 E 0 r8 0)) (l2_0 (⟨hj9, rfl⟩ : PC 2 E 0 r8 0)) rfl (by decide) mw342 dX10_endTick_21 ?_
      obtain ⟨κ10, r12, hq11, h⟩ := bd_some h
      refine J_callV O hKP (as := []) (rest := []) (r := none) (c_X1_advanceClock hfl (⟨hj9, rfl⟩ : PC 2 E 0 r8 0) hq11) rfl (kd0 := 2) (k2_0 (⟨hj9, rfl⟩ : PC 2 E 0 r8 0)) (l2_0 (⟨hj9, rfl⟩ : PC 2 E 0 r8 0)) (T := TX1) (N := 19) rfl (by decide) mw354 mw355 mw356 mw74 mw357 pd_X1_advanceClock rfl (by decide) rfl (Nat.le_of_ble_eq_true rfl) (sl_p (s10_0 h0) (sl_v sl_0)) st_0 dX10_endTick_24 ?_
      show J X B (E, κ10) 27 [(0, .inr (some (4, 0, 0))), (1, .inl (.int x1))] []
      refine J_iinc O.mo (v := x1 + 1) (lv' := [(0, .inr (some (4, 0, 0)))]) dX10_endTick_27 (by rw [hmL]; decide) 1 rfl (by rw [show Int32.ofInt (1) = (1 : Int32) from by decide]) rfl rfl ?_
      refine nm_some (P := fun z => J X B (E, κ10) 30 [(1, .inl (.int z)), (0, .inr (some (4, 0, 0)))] []) h (fun y13 h => ?_)
      refine J_goto O.mo (tgt := 2) dX10_endTick_30 (by decide) ?_
      refine J_sub [1, 0] rfl ?_
      exact ih _ _ h
set_option maxHeartbeats 4000000 in
set_option maxRecDepth 100000 in
theorem w_X10_endTick {l0 : Launch} (hfl : l0.stackTraces = false) {X : MX} {B : BX (EE × K)} {g : GP} {E : EE} {κ' : K} {rr : Unit} (O : CK l0 X B g cX10_endTick RX10 4 64) (hKP : KPok B E) (hmL : B.2.2.2.1 = 2) (hE : ∀ (pc : Nat) (lv : List (Nat × AV)), decode cX10_endTick pc = .ok (.return_, 1) → J X B (E, κ') pc lv []) (h0 : PC 10 E 4 0 0) : ∀ (κ : K), f_X10_endTick E κ = some (κ', rr) → J X B (E, κ) 0 [(0, .inr (some (4, 0, 0)))] [] := by
  intro κ h
  unfold f_X10_endTick at h
  refine J_iconst O.mo (v := 0) dX10_endTick_0 (by decide) ?_
  refine J_istore_n O.mo (lv' := [(0, .inr (some (4, 0, 0)))]) dX10_endTick_1 (by rw [hmL]; decide) rfl rfl ?_
  refine J_sub [1, 0] rfl ?_
  exact w_X10_endTick_b2 hfl O hKP hmL hE h0 FU _ _ h
theorem c_X10_endTick {l : Launch} (hfl : l.stackTraces = false) {E : EE} {κ κ' : K} (h0 : PC 10 E 4 0 0) {rr : Unit} (h : f_X10_endTick E κ = some (κ', rr)) : Con l yX10_endTick cX10_endTick 2 none 4 64 [.inr (some (4, 0, 0))] (E, κ) (E, κ') none := by
  exact Con_of hfl (by decide +kernel) (Nat.le_of_ble_eq_true rfl) rfl rfl (fun X B g O hKP hmL hE => w_X10_endTick hfl O hKP hmL hE h0 _ h)
def f_X10_chooseFor_b121 (E : EE) (a1 : Nat) (κ : K) : Option (K × (Option Nat)) := some (κ, none)
def f_X10_chooseFor_b101 (E : EE) (a1 : Nat) (κ : K) (j6 : Nat) : Option (K × (Option Nat)) := nm (setP κ 2 a1 0 6 (some j6)) fun κ18 => nm (setV κ18 2 a1 0 7 1) fun κ19 => some (κ19, some j6)
def f_X10_chooseFor_b67 (E : EE) (a1 : Nat) : Nat → K → Int32 → Int32 → Int32 → Option (K × (Option Nat))
  | 0, _, _, _, _ => none
  | n + 1, κ, x3, x4, x5 => if x3 ≤ x5 then f_X10_chooseFor_b121 E a1 κ else gd (¬ x3 = 0) (bd (f_Jx4a65c_get_915e3_L1 E κ ((x4 + x5) - (x4 + x5) / x3 * x3)) fun κ9 r11 => gd (r11 < cntE E 0) (bd (f_X1_canRunOn E κ9 r11 a1) fun κ13 r15 => if r15 = 0 then nm (x5 + 1) fun y17 => f_X10_chooseFor_b67 E a1 n κ13 x3 x4 y17 else f_X10_chooseFor_b101 E a1 κ13 r11))
def f_X10_chooseFor_b62 (E : EE) (a1 : Nat) (κ : K) (x3 : Int32) (xs0 : Int32) : Option (K × (Option Nat)) := f_X10_chooseFor_b67 E a1 FU κ x3 xs0 0
def f_X10_chooseFor_b40 (E : EE) (a1 : Nat) (κ : K) : Option (K × (Option Nat)) := bd (f_Jx4a65c_size_8abf5_L1 E κ) fun κ4 r6 => f_X10_chooseFor_b62 E a1 κ4 r6 0
def f_X10_chooseFor_b40a (E : EE) (a1 : Nat) (κ : K) (j2 : Nat) : Option (K × (Option Nat)) := bd (f_Jx4a65c_size_8abf5_L1 E κ) fun κ21 r23 => f_X10_chooseFor_b62 E a1 κ21 r23 ((kV κ21 0 j2 0 0) + 1)
def f_X10_chooseFor (E : EE) (κ : K) (a1 : Nat) : Option (K × (Option Nat)) := optG (kP κ 2 a1 0 6) (cntE E 0) (f_X10_chooseFor_b40 E a1 κ) (fun j1 => if kV κ 0 j1 0 1 ≤ kV κ 2 a1 0 7 then f_X10_chooseFor_b40a E a1 κ j1 else bd (f_X1_canRunOn E κ j1 a1) fun κ24 r26 => if r26 = 0 then f_X10_chooseFor_b40a E a1 κ24 j1 else nm (setV κ24 2 a1 0 7 ((kV κ24 2 a1 0 7) + 1)) fun κ28 => some (κ28, some j1))
set_option maxHeartbeats 4000000 in
set_option maxRecDepth 100000 in
theorem w_X10_chooseFor_b121 {l0 : Launch} (hfl : l0.stackTraces = false) {X : MX} {B : BX (EE × K)} {g : GP} {E : EE} {κ' : K} {rr : Option Nat} {a1 : Nat} (O : CK l0 X B g cX10_chooseFor RX10 4 64) (hKP : KPok B E) (hmL : B.2.2.2.1 = 7) (hE : ∀ (pc : Nat) (lv : List (Nat × AV)), decode cX10_chooseFor pc = .ok (.areturn, 1) → J X B (E, κ') pc lv [.inr (rr.map fun j => (0, j, 0))]) (h0 : PC 10 E 4 0 0) (h1 : PC 3 E 2 a1 0) : ∀ (κ : K), f_X10_chooseFor_b121 E a1 κ = some (κ', rr) → J X B (E, κ) 121 [] [] := by
  intro κ h
  unfold f_X10_chooseFor_b121 at h
  refine J_null O.mo dX10_chooseFor_121 ?_
  cases h
  exact hE _ _ dX10_chooseFor_122
set_option maxHeartbeats 4000000 in
set_option maxRecDepth 100000 in
theorem w_X10_chooseFor_b101 {l0 : Launch} (hfl : l0.stackTraces = false) {X : MX} {B : BX (EE × K)} {g : GP} {E : EE} {κ' : K} {rr : Option Nat} {a1 : Nat} (O : CK l0 X B g cX10_chooseFor RX10 4 64) (hKP : KPok B E) (hmL : B.2.2.2.1 = 7) (hE : ∀ (pc : Nat) (lv : List (Nat × AV)), decode cX10_chooseFor pc = .ok (.areturn, 1) → J X B (E, κ') pc lv [.inr (rr.map fun j => (0, j, 0))]) (h0 : PC 10 E 4 0 0) (h1 : PC 3 E 2 a1 0) : ∀ (κ : K) (j6 : Nat) (p6 : PC 2 E 0 j6 0), f_X10_chooseFor_b101 E a1 κ j6 = some (κ', rr) → J X B (E, κ) 101 [(1, .inr (some (2, a1, 0))), (6, .inr (some (0, j6, 0)))] [] := by
  intro κ j6 p6 h
  unfold f_X10_chooseFor_b101 at h
  refine J_aload_n O.mo dX10_chooseFor_101 0 rfl ?_
  refine J_aload O.mo dX10_chooseFor_102 1 rfl ?_
  refine J_putP O.co (kd0 := 3) (k3_0 h1) (l3_0 h1) (C := RX2) (T := TX2) (N := 8) rfl (by decide) rfl in_X2 tyX2 tyX2_ok nmX2 6 (by decide) rfl rfl (o := (some j6)) (v := .inr (some (0, j6, 0))) rfl rfl mw358 dX10_chooseFor_104 ?_
  refine nm_some (P := fun z => J X B (E, z) 107 [(1, .inr (some (2, a1, 0))), (6, .inr (some (0, j6, 0)))] []) h (fun κ18 h => ?_)
  refine J_aload_n O.mo dX10_chooseFor_107 0 rfl ?_
  refine J_iconst O.mo (v := 1) dX10_chooseFor_108 (by decide) ?_
  refine J_putI O.co (kd0 := 3) (k3_0 h1) (l3_0 h1) (C := RX2) (T := TX2) (N := 8) rfl (by decide) rfl in_X2 tyX2 tyX2_ok nmX2 7 (by decide) rfl rfl (x := 1) (Or.inl rfl) mw363 dX10_chooseFor_109 ?_
  refine nm_some (P := fun z => J X B (E, z) 112 [(1, .inr (some (2, a1, 0))), (6, .inr (some (0, j6, 0)))] []) h (fun κ19 h => ?_)
  refine J_aload O.mo dX10_chooseFor_112 1 rfl ?_
  cases h
  exact hE _ _ dX10_chooseFor_114
set_option maxHeartbeats 4000000 in
set_option maxRecDepth 100000 in
theorem w_X10_chooseFor_b67 {l0 : Launch} (hfl : l0.stackTraces = false) {X : MX} {B : BX (EE × K)} {g : GP} {E : EE} {κ' : K} {rr : Option Nat} {a1 : Nat} (O : CK l0 X B g cX10_chooseFor RX10 4 64) (hKP : KPok B E) (hmL : B.2.2.2.1 = 7) (hE : ∀ (pc : Nat) (lv : List (Nat × AV)), decode cX10_chooseFor pc = .ok (.areturn, 1) → J X B (E, κ') pc lv [.inr (rr.map fun j => (0, j, 0))]) (h0 : PC 10 E 4 0 0) (h1 : PC 3 E 2 a1 0) : ∀ (n : Nat) (κ : K) (x3 : Int32) (x4 : Int32) (x5 : Int32), f_X10_chooseFor_b67 E a1 n κ x3 x4 x5 = some (κ', rr) → J X B (E, κ) 67 [(0, .inr (some (4, 0, 0))), (1, .inr (some (2, a1, 0))), (3, .inl (.int x3)), (4, .inl (.int x4)), (5, .inl (.int x5))] [] := by
  intro n
  induction n with
  | zero => intro κ x3 x4 x5 h; cases h
  | succ n ih =>
    intro κ x3 x4 x5 h
    rw [f_X10_chooseFor_b67] at h
    refine J_iload O.mo dX10_chooseFor_67 4 rfl ?_
    refine J_iload_n O.mo dX10_chooseFor_69 2 rfl ?_
    refine J_icmp_ge O.mo (tgt := 121) dX10_chooseFor_70 (by decide) (fun hc7 => ?_) (fun hc7 => ?_)
    · replace h := (if_pos hc7).symm.trans h
      refine J_sub [] rfl ?_
      exact w_X10_chooseFor_b121 hfl O hKP hmL hE h0 h1 _ h
    · replace h := (if_neg hc7).symm.trans h
      refine J_aload_n O.mo dX10_chooseFor_73 0 rfl ?_
      refine J_getF O.co (kd0 := 10) (k10_0 h0) (l10_0 h0) (C := RX10) (T := TX10) (N := 4) rfl (by decide) rfl in_X10 0 (by decide) (v := .inr (some (4, 0, 1))) rfl mw333 rfl dX10_chooseFor_74 ?_
      refine J_iload O.mo dX10_chooseFor_77 3 rfl ?_
      refine J_iload O.mo dX10_chooseFor_79 4 rfl ?_
      refine J_iadd O.mo dX10_chooseFor_81 ?_
      refine J_iload_n O.mo dX10_chooseFor_82 2 rfl ?_
      obtain ⟨hg8, h⟩ := gd_some h
      refine J_irem O.mo dX10_chooseFor_83 hg8 ?_
      obtain ⟨κ9, r11, hq10, h⟩ := bd_some h
      obtain ⟨hj12, h⟩ := gd_some h
      refine J_callV O hKP (as := [.inl (.int ((x4 + x5) - (x4 + x5) / x3 * x3))]) (rest := []) (r := some (.inr (some (0, r11, 0)))) (c_Jx4a65c_get_915e3_L1 hfl h0 hq10) rfl (kd0 := 0) (k10_1 h0) (l10_1 h0) (T := TJx4a65c) (N := 3) rfl (by decide) mw338 mw339 mw340 mw45 mw341 pd_Jx4a65c_get_915e3 rfl (by decide) rfl (Nat.le_of_ble_eq_true rfl) (sl_p (s10_0 h0) (sl_p (s3_0 h1) (sl_v (sl_v (sl_v sl_0))))) st_0 dX10_chooseFor_84 ?_
      show J X B (E, κ9) 87 [(0, .inr (some (4, 0, 0))), (1, .inr (some (2, a1, 0))), (3, .inl (.int x3)), (4, .inl (.int x4)), (5, .inl (.int x5))] [.inr (some (0, r11, 0))]
      refine J_cast O (kd0 := 2) (k2_0 (⟨hj12, rfl⟩ : PC 2 E 0 r11 0)) (l2_0 (⟨hj12, rfl⟩ : PC 2 E 0 r11 0)) rfl (by decide) mw342 dX10_chooseFor_87 ?_
      refine J_astore O.mo (lv' := [(0, .inr (some (4, 0, 0))), (1, .inr (some (2, a1, 0))), (3, .inl (.int x3)), (4, .inl (.int x4)), (5, .inl (.int x5))]) dX10_chooseFor_90 (by rw [hmL]; decide) rfl rfl ?_
      refine J_aload O.mo dX10_chooseFor_92 0 rfl ?_
      refine J_aload_n O.mo dX10_chooseFor_94 2 rfl ?_
      obtain ⟨κ13, r15, hq14, h⟩ := bd_some h
      refine J_callV O hKP (as := [.inr (some (2, a1, 0))]) (rest := []) (r := (some (.inl (.int r15)))) (c_X1_canRunOn hfl (⟨hj12, rfl⟩ : PC 2 E 0 r11 0) h1 hq14) rfl (kd0 := 2) (k2_0 (⟨hj12, rfl⟩ : PC 2 E 0 r11 0)) (l2_0 (⟨hj12, rfl⟩ : PC 2 E 0 r11 0)) (T := TX1) (N := 19) rfl (by decide) mw359 mw360 mw361 mw74 mw362 pd_X1_canRunOn rfl (by decide) rfl (Nat.le_of_ble_eq_true rfl) (sl_p (s2_0 (⟨hj12, rfl⟩ : PC 2 E 0 r11 0)) (sl_p (s10_0 h0) (sl_p (s3_0 h1) (sl_v (sl_v (sl_v sl_0)))))) st_0 dX10_chooseFor_95 ?_
      show J X B (E, κ13) 98 [(6, .inr (some (0, r11, 0))), (0, .inr (some (4, 0, 0))), (1, .inr (some (2, a1, 0))), (3, .inl (.int x3)), (4, .inl (.int x4)), (5, .inl (.int x5))] [.inl (.int r15)]
      refine J_if_eq O.mo (tgt := 115) dX10_chooseFor_98 (by decide) (fun hc16 => ?_) (fun hc16 => ?_)
      · replace h := (if_pos hc16).symm.trans h
        refine J_iinc O.mo (v := x5 + 1) (lv' := [(6, .inr (some (0, r11, 0))), (0, .inr (some (4, 0, 0))), (1, .inr (some (2, a1, 0))), (3, .inl (.int x3)), (4, .inl (.int x4))]) dX10_chooseFor_115 (by rw [hmL]; decide) 5 rfl (by rw [show Int32.ofInt (1) = (1 : Int32) from by decide]) rfl rfl ?_
        refine nm_some (P := fun z => J X B (E, κ13) 118 [(5, .inl (.int z)), (6, .inr (some (0, r11, 0))), (0, .inr (some (4, 0, 0))), (1, .inr (some (2, a1, 0))), (3, .inl (.int x3)), (4, .inl (.int x4))] []) h (fun y17 h => ?_)
        refine J_goto O.mo (tgt := 67) dX10_chooseFor_118 (by decide) ?_
        refine J_sub [2, 3, 4, 5, 0] rfl ?_
        exact ih _ _ _ _ h
      · replace h := (if_neg hc16).symm.trans h
        refine J_sub [2, 0] rfl ?_
        exact w_X10_chooseFor_b101 hfl O hKP hmL hE h0 h1 _ _ (⟨hj12, rfl⟩ : PC 2 E 0 r11 0) h
set_option maxHeartbeats 4000000 in
set_option maxRecDepth 100000 in
theorem w_X10_chooseFor_b62 {l0 : Launch} (hfl : l0.stackTraces = false) {X : MX} {B : BX (EE × K)} {g : GP} {E : EE} {κ' : K} {rr : Option Nat} {a1 : Nat} (O : CK l0 X B g cX10_chooseFor RX10 4 64) (hKP : KPok B E) (hmL : B.2.2.2.1 = 7) (hE : ∀ (pc : Nat) (lv : List (Nat × AV)), decode cX10_chooseFor pc = .ok (.areturn, 1) → J X B (E, κ') pc lv [.inr (rr.map fun j => (0, j, 0))]) (h0 : PC 10 E 4 0 0) (h1 : PC 3 E 2 a1 0) : ∀ (κ : K) (x3 : Int32) (xs0 : Int32), f_X10_chooseFor_b62 E a1 κ x3 xs0 = some (κ', rr) → J X B (E, κ) 62 [(0, .inr (some (4, 0, 0))), (1, .inr (some (2, a1, 0))), (3, .inl (.int x3))] [.inl (.int xs0)] := by
  intro κ x3 xs0 h
  unfold f_X10_chooseFor_b62 at h
  refine J_istore O.mo (lv' := [(0, .inr (some (4, 0, 0))), (1, .inr (some (2, a1, 0))), (3, .inl (.int x3))]) dX10_chooseFor_62 (by rw [hmL]; decide) rfl rfl ?_
  refine J_iconst O.mo (v := 0) dX10_chooseFor_64 (by decide) ?_
  refine J_istore O.mo (lv' := [(4, .inl (.int xs0)), (0, .inr (some (4, 0, 0))), (1, .inr (some (2, a1, 0))), (3, .inl (.int x3))]) dX10_chooseFor_65 (by rw [hmL]; decide) rfl rfl ?_
  refine J_sub [2, 3, 4, 1, 0] rfl ?_
  exact w_X10_chooseFor_b67 hfl O hKP hmL hE h0 h1 FU _ _ _ _ h
set_option maxHeartbeats 4000000 in
set_option maxRecDepth 100000 in
theorem w_X10_chooseFor_b40 {l0 : Launch} (hfl : l0.stackTraces = false) {X : MX} {B : BX (EE × K)} {g : GP} {E : EE} {κ' : K} {rr : Option Nat} {a1 : Nat} (O : CK l0 X B g cX10_chooseFor RX10 4 64) (hKP : KPok B E) (hmL : B.2.2.2.1 = 7) (hE : ∀ (pc : Nat) (lv : List (Nat × AV)), decode cX10_chooseFor pc = .ok (.areturn, 1) → J X B (E, κ') pc lv [.inr (rr.map fun j => (0, j, 0))]) (h0 : PC 10 E 4 0 0) (h1 : PC 3 E 2 a1 0) : ∀ (κ : K), f_X10_chooseFor_b40 E a1 κ = some (κ', rr) → J X B (E, κ) 40 [(0, .inr (some (4, 0, 0))), (1, .inr (some (2, a1, 0))), (2, .inr none)] [] := by
  intro κ h
  unfold f_X10_chooseFor_b40 at h
  refine J_aload_n O.mo dX10_chooseFor_40 0 rfl ?_
  refine J_getF O.co (kd0 := 10) (k10_0 h0) (l10_0 h0) (C := RX10) (T := TX10) (N := 4) rfl (by decide) rfl in_X10 0 (by decide) (v := .inr (some (4, 0, 1))) rfl mw333 rfl dX10_chooseFor_41 ?_
  obtain ⟨κ4, r6, hq5, h⟩ := bd_some h
  refine J_callV O hKP (as := []) (rest := []) (r := (some (.inl (.int r6)))) (c_Jx4a65c_size_8abf5_L1 hfl h0 hq5) rfl (kd0 := 0) (k10_1 h0) (l10_1 h0) (T := TJx4a65c) (N := 3) rfl (by decide) mw334 mw335 mw336 mw45 mw337 pd_Jx4a65c_size_8abf5 rfl (by decide) rfl (Nat.le_of_ble_eq_true rfl) (sl_p (s10_0 h0) (sl_p (s3_0 h1) (sl_n sl_0))) st_0 dX10_chooseFor_44 ?_
  show J X B (E, κ4) 47 [(0, .inr (some (4, 0, 0))), (1, .inr (some (2, a1, 0))), (2, .inr none)] [.inl (.int r6)]
  refine J_istore_n O.mo (lv' := [(0, .inr (some (4, 0, 0))), (1, .inr (some (2, a1, 0))), (2, .inr none)]) dX10_chooseFor_47 (by rw [hmL]; decide) rfl rfl ?_
  refine J_aload_n O.mo dX10_chooseFor_48 3 rfl ?_
  refine J_ifnonnullN O.mo dX10_chooseFor_49 ?_
  refine J_iconst O.mo (v := 0) dX10_chooseFor_52 (by decide) ?_
  refine J_goto O.mo (tgt := 62) dX10_chooseFor_53 (by decide) ?_
  refine J_sub [1, 2, 0] rfl ?_
  exact w_X10_chooseFor_b62 hfl O hKP hmL hE h0 h1 _ _ _ h
set_option maxHeartbeats 4000000 in
set_option maxRecDepth 100000 in
theorem w_X10_chooseFor_b40a {l0 : Launch} (hfl : l0.stackTraces = false) {X : MX} {B : BX (EE × K)} {g : GP} {E : EE} {κ' : K} {rr : Option Nat} {a1 : Nat} (O : CK l0 X B g cX10_chooseFor RX10 4 64) (hKP : KPok B E) (hmL : B.2.2.2.1 = 7) (hE : ∀ (pc : Nat) (lv : List (Nat × AV)), decode cX10_chooseFor pc = .ok (.areturn, 1) → J X B (E, κ') pc lv [.inr (rr.map fun j => (0, j, 0))]) (h0 : PC 10 E 4 0 0) (h1 : PC 3 E 2 a1 0) : ∀ (κ : K) (j2 : Nat) (p2 : PC 2 E 0 j2 0), f_X10_chooseFor_b40a E a1 κ j2 = some (κ', rr) → J X B (E, κ) 40 [(0, .inr (some (4, 0, 0))), (1, .inr (some (2, a1, 0))), (2, .inr (some (0, j2, 0)))] [] := by
  intro κ j2 p2 h
  unfold f_X10_chooseFor_b40a at h
  refine J_aload_n O.mo dX10_chooseFor_40 0 rfl ?_
  refine J_getF O.co (kd0 := 10) (k10_0 h0) (l10_0 h0) (C := RX10) (T := TX10) (N := 4) rfl (by decide) rfl in_X10 0 (by decide) (v := .inr (some (4, 0, 1))) rfl mw333 rfl dX10_chooseFor_41 ?_
  obtain ⟨κ21, r23, hq22, h⟩ := bd_some h
  refine J_callV O hKP (as := []) (rest := []) (r := (some (.inl (.int r23)))) (c_Jx4a65c_size_8abf5_L1 hfl h0 hq22) rfl (kd0 := 0) (k10_1 h0) (l10_1 h0) (T := TJx4a65c) (N := 3) rfl (by decide) mw334 mw335 mw336 mw45 mw337 pd_Jx4a65c_size_8abf5 rfl (by decide) rfl (Nat.le_of_ble_eq_true rfl) (sl_p (s10_0 h0) (sl_p (s3_0 h1) (sl_p (s2_0 p2) sl_0))) st_0 dX10_chooseFor_44 ?_
  show J X B (E, κ21) 47 [(0, .inr (some (4, 0, 0))), (1, .inr (some (2, a1, 0))), (2, .inr (some (0, j2, 0)))] [.inl (.int r23)]
  refine J_istore_n O.mo (lv' := [(0, .inr (some (4, 0, 0))), (1, .inr (some (2, a1, 0))), (2, .inr (some (0, j2, 0)))]) dX10_chooseFor_47 (by rw [hmL]; decide) rfl rfl ?_
  refine J_aload_n O.mo dX10_chooseFor_48 3 rfl ?_
  refine J_ifnonnull O.mo (tgt := 56) dX10_chooseFor_49 (by decide) ?_
  refine J_aload_n O.mo dX10_chooseFor_56 3 rfl ?_
  refine J_getF O.co (kd0 := 2) (k2_0 p2) (l2_0 p2) (C := RX1) (T := TX1) (N := 19) rfl (by decide) rfl in_X1 0 (by decide) (v := .inl (.int (kV κ21 0 j2 0 0))) rfl mw365 rfl dX10_chooseFor_57 ?_
  refine J_iconst O.mo (v := 1) dX10_chooseFor_60 (by decide) ?_
  refine J_iadd O.mo dX10_chooseFor_61 ?_
  refine J_sub [1, 2, 0] rfl ?_
  exact w_X10_chooseFor_b62 hfl O hKP hmL hE h0 h1 _ _ _ h
set_option maxHeartbeats 4000000 in
set_option maxRecDepth 100000 in
theorem w_X10_chooseFor {l0 : Launch} (hfl : l0.stackTraces = false) {X : MX} {B : BX (EE × K)} {g : GP} {E : EE} {κ' : K} {rr : Option Nat} {a1 : Nat} (O : CK l0 X B g cX10_chooseFor RX10 4 64) (hKP : KPok B E) (hmL : B.2.2.2.1 = 7) (hE : ∀ (pc : Nat) (lv : List (Nat × AV)), decode cX10_chooseFor pc = .ok (.areturn, 1) → J X B (E, κ') pc lv [.inr (rr.map fun j => (0, j, 0))]) (h0 : PC 10 E 4 0 0) (h1 : PC 3 E 2 a1 0) : ∀ (κ : K), f_X10_chooseFor E κ a1 = some (κ', rr) → J X B (E, κ) 0 [(0, .inr (some (4, 0, 0))), (1, .inr (some (2, a1, 0)))] [] := by
  intro κ h
  unfold f_X10_chooseFor at h
  refine J_aload_n O.mo dX10_chooseFor_0 1 rfl ?_
  replace h := optG_some h
  rcases h with ⟨ho3, h⟩ | ⟨j1, ho3, hj2, h⟩
  · refine J_getF O.co (kd0 := 3) (k3_0 h1) (l3_0 h1) (C := RX2) (T := TX2) (N := 8) rfl (by decide) rfl in_X2 6 (by decide) (v := .inr none) (by rw [ho3]; rfl) mw358 rfl dX10_chooseFor_1 ?_
    refine J_astore_n O.mo (lv' := [(0, .inr (some (4, 0, 0))), (1, .inr (some (2, a1, 0)))]) dX10_chooseFor_4 (by rw [hmL]; decide) rfl rfl ?_
    refine J_aload_n O.mo dX10_chooseFor_5 0 rfl ?_
    refine J_ifnullN O.mo (tgt := 40) dX10_chooseFor_6 (by decide) ?_
    refine J_sub [1, 2, 0] rfl ?_
    exact w_X10_chooseFor_b40 hfl O hKP hmL hE h0 h1 _ h
  · refine J_getF O.co (kd0 := 3) (k3_0 h1) (l3_0 h1) (C := RX2) (T := TX2) (N := 8) rfl (by decide) rfl in_X2 6 (by decide) (v := .inr (some (0, j1, 0))) (by rw [ho3]; rfl) mw358 rfl dX10_chooseFor_1 ?_
    refine J_astore_n O.mo (lv' := [(0, .inr (some (4, 0, 0))), (1, .inr (some (2, a1, 0)))]) dX10_chooseFor_4 (by rw [hmL]; decide) rfl rfl ?_
    refine J_aload_n O.mo dX10_chooseFor_5 0 rfl ?_
    refine J_ifnull O.mo dX10_chooseFor_6 ?_
    refine J_aload_n O.mo dX10_chooseFor_9 2 rfl ?_
    refine J_getF O.co (kd0 := 3) (k3_0 h1) (l3_0 h1) (C := RX2) (T := TX2) (N := 8) rfl (by decide) rfl in_X2 7 (by decide) (v := .inl (.int (kV κ 2 a1 0 7))) rfl mw363 rfl dX10_chooseFor_10 ?_
    refine J_aload_n O.mo dX10_chooseFor_13 0 rfl ?_
    refine J_getF O.co (kd0 := 2) (k2_0 (⟨hj2, rfl⟩ : PC 2 E 0 j1 0)) (l2_0 (⟨hj2, rfl⟩ : PC 2 E 0 j1 0)) (C := RX1) (T := TX1) (N := 19) rfl (by decide) rfl in_X1 1 (by decide) (v := .inl (.int (kV κ 0 j1 0 1))) rfl mw364 rfl dX10_chooseFor_14 ?_
    refine J_icmp_ge O.mo (tgt := 40) dX10_chooseFor_17 (by decide) (fun hc20 => ?_) (fun hc20 => ?_)
    · replace h := (if_pos hc20).symm.trans h
      refine J_sub [1, 2, 0] rfl ?_
      exact w_X10_chooseFor_b40a hfl O hKP hmL hE h0 h1 _ _ (⟨hj2, rfl⟩ : PC 2 E 0 j1 0) h
    · replace h := (if_neg hc20).symm.trans h
      refine J_aload_n O.mo dX10_chooseFor_20 0 rfl ?_
      refine J_aload_n O.mo dX10_chooseFor_21 2 rfl ?_
      obtain ⟨κ24, r26, hq25, h⟩ := bd_some h
      refine J_callV O hKP (as := [.inr (some (2, a1, 0))]) (rest := []) (r := (some (.inl (.int r26)))) (c_X1_canRunOn hfl (⟨hj2, rfl⟩ : PC 2 E 0 j1 0) h1 hq25) rfl (kd0 := 2) (k2_0 (⟨hj2, rfl⟩ : PC 2 E 0 j1 0)) (l2_0 (⟨hj2, rfl⟩ : PC 2 E 0 j1 0)) (T := TX1) (N := 19) rfl (by decide) mw359 mw360 mw361 mw74 mw362 pd_X1_canRunOn rfl (by decide) rfl (Nat.le_of_ble_eq_true rfl) (sl_p (s2_0 (⟨hj2, rfl⟩ : PC 2 E 0 j1 0)) (sl_p (s10_0 h0) (sl_p (s3_0 h1) sl_0))) st_0 dX10_chooseFor_22 ?_
      show J X B (E, κ24) 25 [(2, .inr (some (0, j1, 0))), (0, .inr (some (4, 0, 0))), (1, .inr (some (2, a1, 0)))] [.inl (.int r26)]
      refine J_if_eq O.mo (tgt := 40) dX10_chooseFor_25 (by decide) (fun hc27 => ?_) (fun hc27 => ?_)
      · replace h := (if_pos hc27).symm.trans h
        refine J_sub [1, 2, 0] rfl ?_
        exact w_X10_chooseFor_b40a hfl O hKP hmL hE h0 h1 _ _ (⟨hj2, rfl⟩ : PC 2 E 0 j1 0) h
      · replace h := (if_neg hc27).symm.trans h
        refine J_aload_n O.mo dX10_chooseFor_28 2 rfl ?_
        refine J_dup O.mo dX10_chooseFor_29 rfl ?_
        refine J_getF O.co (kd0 := 3) (k3_0 h1) (l3_0 h1) (C := RX2) (T := TX2) (N := 8) rfl (by decide) rfl in_X2 7 (by decide) (v := .inl (.int (kV κ24 2 a1 0 7))) rfl mw363 rfl dX10_chooseFor_30 ?_
        refine J_iconst O.mo (v := 1) dX10_chooseFor_33 (by decide) ?_
        refine J_iadd O.mo dX10_chooseFor_34 ?_
        refine J_putI O.co (kd0 := 3) (k3_0 h1) (l3_0 h1) (C := RX2) (T := TX2) (N := 8) rfl (by decide) rfl in_X2 tyX2 tyX2_ok nmX2 7 (by decide) rfl rfl (x := ((kV κ24 2 a1 0 7) + 1)) (Or.inl rfl) mw363 dX10_chooseFor_35 ?_
        refine nm_some (P := fun z => J X B (E, z) 38 [(2, .inr (some (0, j1, 0))), (0, .inr (some (4, 0, 0))), (1, .inr (some (2, a1, 0)))] []) h (fun κ28 h => ?_)
        refine J_aload_n O.mo dX10_chooseFor_38 0 rfl ?_
        cases h
        exact hE _ _ dX10_chooseFor_39
theorem c_X10_chooseFor {l : Launch} (hfl : l.stackTraces = false) {E : EE} {κ κ' : K} {a1 : Nat} (h0 : PC 10 E 4 0 0) (h1 : PC 3 E 2 a1 0) {rr : Option Nat} (h : f_X10_chooseFor E κ a1 = some (κ', rr)) : Con l yX10_chooseFor cX10_chooseFor 7 (some (.object "GuestHall$Guest")) 4 64 [.inr (some (4, 0, 0)), .inr (some (2, a1, 0))] (E, κ) (E, κ') (some (.inr (rr.map fun j => (0, j, 0)))) := by
  exact Con_of hfl (by decide +kernel) (Nat.le_of_ble_eq_true rfl) rfl ⟨_, rfl, Or.inl ⟨_, rfl⟩⟩ (fun X B g O hKP hmL hE => w_X10_chooseFor hfl O hKP hmL hE h0 h1 _ h)
def f_X10_giveTurn_b16 (E : EE) (a1 : Nat) (κ : K) : Option (K × Unit) := some (κ, ())
def f_X10_giveTurn_b90 (E : EE) (a1 : Nat) (κ : K) (j2 : Nat) : Option (K × Unit) := bd (f_X1_runTick E κ j2) fun κ13 _ => some (κ13, ())
def f_X10_giveTurn_b84 (E : EE) (a1 : Nat) (k34 : K → Nat → Int32 → Option (K × Unit)) (κ : K) (j2 : Nat) (x3 : Int32) : Option (K × Unit) := nm (x3 + 1) fun y21 => k34 κ j2 y21
def f_X10_giveTurn_b34 (E : EE) (a1 : Nat) : Nat → K → Nat → Int32 → Option (K × Unit)
  | 0, _, _, _ => none
  | n + 1, κ, j2, x3 => bd (f_Jx4a65c_size_8abf5_L1 E κ) fun κ9 r11 => if r11 ≤ x3 then f_X10_giveTurn_b90 E a1 κ9 j2 else bd (f_Jx4a65c_get_915e3_L1 E κ9 x3) fun κ16 r18 => gd (r18 < cntE E 0) (if r18 = j2 then f_X10_giveTurn_b84 E a1 (f_X10_giveTurn_b34 E a1 n) κ16 j2 x3 else bd (f_X1_canRunOn E κ16 r18 a1) fun κ22 r24 => if r24 = 0 then f_X10_giveTurn_b84 E a1 (f_X10_giveTurn_b34 E a1 n) κ22 j2 x3 else nm (setV κ22 0 r18 0 11 ((kV κ22 0 r18 0 11) + 1)) fun κ26 => f_X10_giveTurn_b84 E a1 (f_X10_giveTurn_b34 E a1 n) κ26 j2 x3)
def f_X10_giveTurn_b16a (E : EE) (a1 : Nat) (κ : K) (js0 : Nat) : Option (K × Unit) := nm (setV κ 2 a1 0 5 ((kV κ 4 0 0 3) + 1)) fun κ8 => f_X10_giveTurn_b34 E a1 FU κ8 js0 0
def f_X10_giveTurn (E : EE) (κ : K) (a1 : Nat) : Option (K × Unit) := if kV κ 2 a1 0 4 = 0 then bd (f_X10_chooseFor E κ a1) fun κ2 r4 => optG r4 (cntE E 0) (f_X10_giveTurn_b16 E a1 κ2) (fun j5 => f_X10_giveTurn_b16a E a1 κ2 j5) else f_X10_giveTurn_b16 E a1 κ
set_option maxHeartbeats 4000000 in
set_option maxRecDepth 100000 in
theorem w_X10_giveTurn_b16 {l0 : Launch} (hfl : l0.stackTraces = false) {X : MX} {B : BX (EE × K)} {g : GP} {E : EE} {κ' : K} {rr : Unit} {a1 : Nat} (O : CK l0 X B g cX10_giveTurn RX10 8 234) (hKP : KPok B E) (hmL : B.2.2.2.1 = 5) (hE : ∀ (pc : Nat) (lv : List (Nat × AV)), decode cX10_giveTurn pc = .ok (.return_, 1) → J X B (E, κ') pc lv []) (h0 : PC 10 E 4 0 0) (h1 : PC 3 E 2 a1 0) : ∀ (κ : K), f_X10_giveTurn_b16 E a1 κ = some (κ', rr) → J X B (E, κ) 16 [(0, .inr (some (4, 0, 0))), (1, .inr (some (2, a1, 0)))] [.inr none] := by
  intro κ h
  unfold f_X10_giveTurn_b16 at h
  refine J_astore_n O.mo (lv' := [(0, .inr (some (4, 0, 0))), (1, .inr (some (2, a1, 0)))]) dX10_giveTurn_16 (by rw [hmL]; decide) rfl rfl ?_
  refine J_aload_n O.mo dX10_giveTurn_17 0 rfl ?_
  refine J_ifnonnullN O.mo dX10_giveTurn_18 ?_
  cases h
  exact hE _ _ dX10_giveTurn_21
set_option maxHeartbeats 4000000 in
set_option maxRecDepth 100000 in
theorem w_X10_giveTurn_b90 {l0 : Launch} (hfl : l0.stackTraces = false) {X : MX} {B : BX (EE × K)} {g : GP} {E : EE} {κ' : K} {rr : Unit} {a1 : Nat} (O : CK l0 X B g cX10_giveTurn RX10 8 234) (hKP : KPok B E) (hmL : B.2.2.2.1 = 5) (hE : ∀ (pc : Nat) (lv : List (Nat × AV)), decode cX10_giveTurn pc = .ok (.return_, 1) → J X B (E, κ') pc lv []) (h0 : PC 10 E 4 0 0) (h1 : PC 3 E 2 a1 0) : ∀ (κ : K) (j2 : Nat) (p2 : PC 2 E 0 j2 0), f_X10_giveTurn_b90 E a1 κ j2 = some (κ', rr) → J X B (E, κ) 90 [(2, .inr (some (0, j2, 0)))] [] := by
  intro κ j2 p2 h
  unfold f_X10_giveTurn_b90 at h
  refine J_aload_n O.mo dX10_giveTurn_90 0 rfl ?_
  refine J_sub [] rfl ?_
  obtain ⟨κ13, r15, hq14, h⟩ := bd_some h
  refine J_callV O hKP (as := []) (rest := []) (r := none) (c_X1_runTick hfl p2 hq14) rfl (kd0 := 2) (k2_0 p2) (l2_0 p2) (T := TX1) (N := 19) rfl (by decide) mw368 mw369 mw370 mw74 mw371 pd_X1_runTick rfl (by decide) rfl (Nat.le_of_ble_eq_true rfl) sl_0 st_0 dX10_giveTurn_91 ?_
  show J X B (E, κ13) 94 [] []
  cases h
  exact hE _ _ dX10_giveTurn_94
set_option maxHeartbeats 4000000 in
set_option maxRecDepth 100000 in
theorem w_X10_giveTurn_b84 {l0 : Launch} (hfl : l0.stackTraces = false) {X : MX} {B : BX (EE × K)} {g : GP} {E : EE} {κ' : K} {rr : Unit} {a1 : Nat} (O : CK l0 X B g cX10_giveTurn RX10 8 234) (hKP : KPok B E) (hmL : B.2.2.2.1 = 5) (hE : ∀ (pc : Nat) (lv : List (Nat × AV)), decode cX10_giveTurn pc = .ok (.return_, 1) → J X B (E, κ') pc lv []) (h0 : PC 10 E 4 0 0) (h1 : PC 3 E 2 a1 0) {k34 : K → Nat → Int32 → Option (K × Unit)} (hk34 : ∀ (κ : K) (j2 : Nat) (x3 : Int32) (p2 : PC 2 E 0 j2 0), k34 κ j2 x3 = some (κ', rr) → J X B (E, κ) 34 [(0, .inr (some (4, 0, 0))), (1, .inr (some (2, a1, 0))), (2, .inr (some (0, j2, 0))), (3, .inl (.int x3))] []) : ∀ (κ : K) (j2 : Nat) (x3 : Int32) (p2 : PC 2 E 0 j2 0), f_X10_giveTurn_b84 E a1 k34 κ j2 x3 = some (κ', rr) → J X B (E, κ) 84 [(0, .inr (some (4, 0, 0))), (1, .inr (some (2, a1, 0))), (2, .inr (some (0, j2, 0))), (3, .inl (.int x3))] [] := by
  intro κ j2 x3 p2 h
  unfold f_X10_giveTurn_b84 at h
  refine J_iinc O.mo (v := x3 + 1) (lv' := [(0, .inr (some (4, 0, 0))), (1, .inr (some (2, a1, 0))), (2, .inr (some (0, j2, 0)))]) dX10_giveTurn_84 (by rw [hmL]; decide) 3 rfl (by rw [show Int32.ofInt (1) = (1 : Int32) from by decide]) rfl rfl ?_
  refine nm_some (P := fun z => J X B (E, κ) 87 [(3, .inl (.int z)), (0, .inr (some (4, 0, 0))), (1, .inr (some (2, a1, 0))), (2, .inr (some (0, j2, 0)))] []) h (fun y21 h => ?_)
  refine J_goto O.mo (tgt := 34) dX10_giveTurn_87 (by decide) ?_
  refine J_sub [1, 2, 3, 0] rfl ?_
  exact hk34 _ _ _ p2 h
set_option maxHeartbeats 4000000 in
set_option maxRecDepth 100000 in
theorem w_X10_giveTurn_b34 {l0 : Launch} (hfl : l0.stackTraces = false) {X : MX} {B : BX (EE × K)} {g : GP} {E : EE} {κ' : K} {rr : Unit} {a1 : Nat} (O : CK l0 X B g cX10_giveTurn RX10 8 234) (hKP : KPok B E) (hmL : B.2.2.2.1 = 5) (hE : ∀ (pc : Nat) (lv : List (Nat × AV)), decode cX10_giveTurn pc = .ok (.return_, 1) → J X B (E, κ') pc lv []) (h0 : PC 10 E 4 0 0) (h1 : PC 3 E 2 a1 0) : ∀ (n : Nat) (κ : K) (j2 : Nat) (x3 : Int32) (p2 : PC 2 E 0 j2 0), f_X10_giveTurn_b34 E a1 n κ j2 x3 = some (κ', rr) → J X B (E, κ) 34 [(0, .inr (some (4, 0, 0))), (1, .inr (some (2, a1, 0))), (2, .inr (some (0, j2, 0))), (3, .inl (.int x3))] [] := by
  intro n
  induction n with
  | zero => intro κ j2 x3 p2 h; cases h
  | succ n ih =>
    intro κ j2 x3 p2 h
    rw [f_X10_giveTurn_b34] at h
    refine J_iload_n O.mo dX10_giveTurn_34 3 rfl ?_
    refine J_aload_n O.mo dX10_giveTurn_35 0 rfl ?_
    refine J_getF O.co (kd0 := 10) (k10_0 h0) (l10_0 h0) (C := RX10) (T := TX10) (N := 4) rfl (by decide) rfl in_X10 0 (by decide) (v := .inr (some (4, 0, 1))) rfl mw333 rfl dX10_giveTurn_36 ?_
    obtain ⟨κ9, r11, hq10, h⟩ := bd_some h
    refine J_callV O hKP (as := []) (rest := [.inl (.int x3)]) (r := (some (.inl (.int r11)))) (c_Jx4a65c_size_8abf5_L1 hfl h0 hq10) rfl (kd0 := 0) (k10_1 h0) (l10_1 h0) (T := TJx4a65c) (N := 3) rfl (by decide) mw334 mw335 mw336 mw45 mw337 pd_Jx4a65c_size_8abf5 rfl (by decide) rfl (Nat.le_of_ble_eq_true rfl) (sl_p (s10_0 h0) (sl_p (s3_0 h1) (sl_p (s2_0 p2) (sl_v sl_0)))) (st_v st_0) dX10_giveTurn_39 ?_
    show J X B (E, κ9) 42 [(0, .inr (some (4, 0, 0))), (1, .inr (some (2, a1, 0))), (2, .inr (some (0, j2, 0))), (3, .inl (.int x3))] [.inl (.int r11), .inl (.int x3)]
    refine J_icmp_ge O.mo (tgt := 90) dX10_giveTurn_42 (by decide) (fun hc12 => ?_) (fun hc12 => ?_)
    · replace h := (if_pos hc12).symm.trans h
      refine J_sub [2] rfl ?_
      exact w_X10_giveTurn_b90 hfl O hKP hmL hE h0 h1 _ _ p2 h
    · replace h := (if_neg hc12).symm.trans h
      refine J_aload_n O.mo dX10_giveTurn_45 0 rfl ?_
      refine J_getF O.co (kd0 := 10) (k10_0 h0) (l10_0 h0) (C := RX10) (T := TX10) (N := 4) rfl (by decide) rfl in_X10 0 (by decide) (v := .inr (some (4, 0, 1))) rfl mw333 rfl dX10_giveTurn_46 ?_
      refine J_iload_n O.mo dX10_giveTurn_49 3 rfl ?_
      obtain ⟨κ16, r18, hq17, h⟩ := bd_some h
      obtain ⟨hj19, h⟩ := gd_some h
      refine J_callV O hKP (as := [.inl (.int x3)]) (rest := []) (r := some (.inr (some (0, r18, 0)))) (c_Jx4a65c_get_915e3_L1 hfl h0 hq17) rfl (kd0 := 0) (k10_1 h0) (l10_1 h0) (T := TJx4a65c) (N := 3) rfl (by decide) mw338 mw339 mw340 mw45 mw341 pd_Jx4a65c_get_915e3 rfl (by decide) rfl (Nat.le_of_ble_eq_true rfl) (sl_p (s10_0 h0) (sl_p (s3_0 h1) (sl_p (s2_0 p2) (sl_v sl_0)))) st_0 dX10_giveTurn_50 ?_
      show J X B (E, κ16) 53 [(0, .inr (some (4, 0, 0))), (1, .inr (some (2, a1, 0))), (2, .inr (some (0, j2, 0))), (3, .inl (.int x3))] [.inr (some (0, r18, 0))]
      refine J_cast O (kd0 := 2) (k2_0 (⟨hj19, rfl⟩ : PC 2 E 0 r18 0)) (l2_0 (⟨hj19, rfl⟩ : PC 2 E 0 r18 0)) rfl (by decide) mw342 dX10_giveTurn_53 ?_
      refine J_astore O.mo (lv' := [(0, .inr (some (4, 0, 0))), (1, .inr (some (2, a1, 0))), (2, .inr (some (0, j2, 0))), (3, .inl (.int x3))]) dX10_giveTurn_56 (by rw [hmL]; decide) rfl rfl ?_
      refine J_aload O.mo dX10_giveTurn_58 0 rfl ?_
      refine J_aload_n O.mo dX10_giveTurn_60 3 rfl ?_
      refine J_acmp_eq O.mo (O.acmp (l2_0 (⟨hj19, rfl⟩ : PC 2 E 0 r18 0))) (O.acmp (l2_0 p2)) dX10_giveTurn_61 (tgt := 84) (by decide) (fun hc20 => ?_) (fun hc20 => ?_)
      · have hc20 : r18 = j2 := by injection hc20 with _ z; injection z
        replace h := (if_pos hc20).symm.trans h
        refine J_sub [1, 2, 3, 4] rfl ?_
        exact w_X10_giveTurn_b84 hfl O hKP hmL hE h0 h1 ih _ _ _ p2 h
      · have hc20 : ¬ r18 = j2 := fun z => hc20 (by rw [z])
        replace h := (if_neg hc20).symm.trans h
        refine J_aload O.mo dX10_giveTurn_64 0 rfl ?_
        refine J_aload_n O.mo dX10_giveTurn_66 2 rfl ?_
        obtain ⟨κ22, r24, hq23, h⟩ := bd_some h
        refine J_callV O hKP (as := [.inr (some (2, a1, 0))]) (rest := []) (r := (some (.inl (.int r24)))) (c_X1_canRunOn hfl (⟨hj19, rfl⟩ : PC 2 E 0 r18 0) h1 hq23) rfl (kd0 := 2) (k2_0 (⟨hj19, rfl⟩ : PC 2 E 0 r18 0)) (l2_0 (⟨hj19, rfl⟩ : PC 2 E 0 r18 0)) (T := TX1) (N := 19) rfl (by decide) mw359 mw360 mw361 mw74 mw362 pd_X1_canRunOn rfl (by decide) rfl (Nat.le_of_ble_eq_true rfl) (sl_p (s2_0 (⟨hj19, rfl⟩ : PC 2 E 0 r18 0)) (sl_p (s10_0 h0) (sl_p (s3_0 h1) (sl_p (s2_0 p2) (sl_v sl_0))))) st_0 dX10_giveTurn_67 ?_
        show J X B (E, κ22) 70 [(4, .inr (some (0, r18, 0))), (0, .inr (some (4, 0, 0))), (1, .inr (some (2, a1, 0))), (2, .inr (some (0, j2, 0))), (3, .inl (.int x3))] [.inl (.int r24)]
        refine J_if_eq O.mo (tgt := 84) dX10_giveTurn_70 (by decide) (fun hc25 => ?_) (fun hc25 => ?_)
        · replace h := (if_pos hc25).symm.trans h
          refine J_sub [1, 2, 3, 4] rfl ?_
          exact w_X10_giveTurn_b84 hfl O hKP hmL hE h0 h1 ih _ _ _ p2 h
        · replace h := (if_neg hc25).symm.trans h
          refine J_aload O.mo dX10_giveTurn_73 0 rfl ?_
          refine J_dup O.mo dX10_giveTurn_75 rfl ?_
          refine J_getF O.co (kd0 := 2) (k2_0 (⟨hj19, rfl⟩ : PC 2 E 0 r18 0)) (l2_0 (⟨hj19, rfl⟩ : PC 2 E 0 r18 0)) (C := RX1) (T := TX1) (N := 19) rfl (by decide) rfl in_X1 11 (by decide) (v := .inl (.int (kV κ22 0 r18 0 11))) rfl mw372 rfl dX10_giveTurn_76 ?_
          refine J_iconst O.mo (v := 1) dX10_giveTurn_79 (by decide) ?_
          refine J_iadd O.mo dX10_giveTurn_80 ?_
          refine J_putI O.co (kd0 := 2) (k2_0 (⟨hj19, rfl⟩ : PC 2 E 0 r18 0)) (l2_0 (⟨hj19, rfl⟩ : PC 2 E 0 r18 0)) (C := RX1) (T := TX1) (N := 19) rfl (by decide) rfl in_X1 tyX1 tyX1_ok nmX1 11 (by decide) rfl rfl (x := ((kV κ22 0 r18 0 11) + 1)) (Or.inl rfl) mw372 dX10_giveTurn_81 ?_
          refine nm_some (P := fun z => J X B (E, z) 84 [(4, .inr (some (0, r18, 0))), (0, .inr (some (4, 0, 0))), (1, .inr (some (2, a1, 0))), (2, .inr (some (0, j2, 0))), (3, .inl (.int x3))] []) h (fun κ26 h => ?_)
          refine J_sub [1, 2, 3, 4] rfl ?_
          exact w_X10_giveTurn_b84 hfl O hKP hmL hE h0 h1 ih _ _ _ p2 h
set_option maxHeartbeats 4000000 in
set_option maxRecDepth 100000 in
theorem w_X10_giveTurn_b16a {l0 : Launch} (hfl : l0.stackTraces = false) {X : MX} {B : BX (EE × K)} {g : GP} {E : EE} {κ' : K} {rr : Unit} {a1 : Nat} (O : CK l0 X B g cX10_giveTurn RX10 8 234) (hKP : KPok B E) (hmL : B.2.2.2.1 = 5) (hE : ∀ (pc : Nat) (lv : List (Nat × AV)), decode cX10_giveTurn pc = .ok (.return_, 1) → J X B (E, κ') pc lv []) (h0 : PC 10 E 4 0 0) (h1 : PC 3 E 2 a1 0) : ∀ (κ : K) (js0 : Nat) (ps0 : PC 2 E 0 js0 0), f_X10_giveTurn_b16a E a1 κ js0 = some (κ', rr) → J X B (E, κ) 16 [(0, .inr (some (4, 0, 0))), (1, .inr (some (2, a1, 0)))] [.inr (some (0, js0, 0))] := by
  intro κ js0 ps0 h
  unfold f_X10_giveTurn_b16a at h
  refine J_astore_n O.mo (lv' := [(0, .inr (some (4, 0, 0))), (1, .inr (some (2, a1, 0)))]) dX10_giveTurn_16 (by rw [hmL]; decide) rfl rfl ?_
  refine J_aload_n O.mo dX10_giveTurn_17 0 rfl ?_
  refine J_ifnonnull O.mo (tgt := 22) dX10_giveTurn_18 (by decide) ?_
  refine J_aload_n O.mo dX10_giveTurn_22 2 rfl ?_
  refine J_aload_n O.mo dX10_giveTurn_23 1 rfl ?_
  refine J_getF O.co (kd0 := 10) (k10_0 h0) (l10_0 h0) (C := RX10) (T := TX10) (N := 4) rfl (by decide) rfl in_X10 3 (by decide) (v := .inl (.int (kV κ 4 0 0 3))) rfl mw353 rfl dX10_giveTurn_24 ?_
  refine J_iconst O.mo (v := 1) dX10_giveTurn_27 (by decide) ?_
  refine J_iadd O.mo dX10_giveTurn_28 ?_
  refine J_putI O.co (kd0 := 3) (k3_0 h1) (l3_0 h1) (C := RX2) (T := TX2) (N := 8) rfl (by decide) rfl in_X2 tyX2 tyX2_ok nmX2 5 (by decide) rfl rfl (x := ((kV κ 4 0 0 3) + 1)) (Or.inl rfl) mw367 dX10_giveTurn_29 ?_
  refine nm_some (P := fun z => J X B (E, z) 32 [(2, .inr (some (0, js0, 0))), (0, .inr (some (4, 0, 0))), (1, .inr (some (2, a1, 0)))] []) h (fun κ8 h => ?_)
  refine J_iconst O.mo (v := 0) dX10_giveTurn_32 (by decide) ?_
  refine J_istore_n O.mo (lv' := [(2, .inr (some (0, js0, 0))), (0, .inr (some (4, 0, 0))), (1, .inr (some (2, a1, 0)))]) dX10_giveTurn_33 (by rw [hmL]; decide) rfl rfl ?_
  refine J_sub [2, 3, 1, 0] rfl ?_
  exact w_X10_giveTurn_b34 hfl O hKP hmL hE h0 h1 FU _ _ _ ps0 h
set_option maxHeartbeats 4000000 in
set_option maxRecDepth 100000 in
theorem w_X10_giveTurn {l0 : Launch} (hfl : l0.stackTraces = false) {X : MX} {B : BX (EE × K)} {g : GP} {E : EE} {κ' : K} {rr : Unit} {a1 : Nat} (O : CK l0 X B g cX10_giveTurn RX10 8 234) (hKP : KPok B E) (hmL : B.2.2.2.1 = 5) (hE : ∀ (pc : Nat) (lv : List (Nat × AV)), decode cX10_giveTurn pc = .ok (.return_, 1) → J X B (E, κ') pc lv []) (h0 : PC 10 E 4 0 0) (h1 : PC 3 E 2 a1 0) : ∀ (κ : K), f_X10_giveTurn E κ a1 = some (κ', rr) → J X B (E, κ) 0 [(0, .inr (some (4, 0, 0))), (1, .inr (some (2, a1, 0)))] [] := by
  intro κ h
  unfold f_X10_giveTurn at h
  refine J_aload_n O.mo dX10_giveTurn_0 1 rfl ?_
  refine J_getF O.co (kd0 := 3) (k3_0 h1) (l3_0 h1) (C := RX2) (T := TX2) (N := 8) rfl (by decide) rfl in_X2 4 (by decide) (v := .inl (.int (kV κ 2 a1 0 4))) rfl mw366 rfl dX10_giveTurn_1 ?_
  refine J_if_eq O.mo (tgt := 11) dX10_giveTurn_4 (by decide) (fun hc1 => ?_) (fun hc1 => ?_)
  · replace h := (if_pos hc1).symm.trans h
    refine J_aload_n O.mo dX10_giveTurn_11 0 rfl ?_
    refine J_aload_n O.mo dX10_giveTurn_12 1 rfl ?_
    obtain ⟨κ2, r4, hq3, h⟩ := bd_some h
    replace h := optG_some h
    rcases h with ⟨ho7, h⟩ | ⟨j5, ho7, hj6, h⟩
    · subst ho7
      refine J_callV O hKP (as := [.inr (some (2, a1, 0))]) (rest := []) (r := some (.inr none)) (c_X10_chooseFor hfl h0 h1 hq3) rfl (kd0 := 10) (k10_0 h0) (l10_0 h0) (T := TX10) (N := 4) rfl (by decide) mw373 mw374 mw375 mw320 mw376 pd_X10_chooseFor rfl (by decide) rfl (Nat.le_of_ble_eq_true rfl) (sl_p (s10_0 h0) (sl_p (s3_0 h1) sl_0)) st_0 dX10_giveTurn_13 ?_
      show J X B (E, κ2) 16 [(0, .inr (some (4, 0, 0))), (1, .inr (some (2, a1, 0)))] [.inr none]
      exact w_X10_giveTurn_b16 hfl O hKP hmL hE h0 h1 _ h
    · subst ho7
      refine J_callV O hKP (as := [.inr (some (2, a1, 0))]) (rest := []) (r := some (.inr (some (0, j5, 0)))) (c_X10_chooseFor hfl h0 h1 hq3) rfl (kd0 := 10) (k10_0 h0) (l10_0 h0) (T := TX10) (N := 4) rfl (by decide) mw373 mw374 mw375 mw320 mw376 pd_X10_chooseFor rfl (by decide) rfl (Nat.le_of_ble_eq_true rfl) (sl_p (s10_0 h0) (sl_p (s3_0 h1) sl_0)) st_0 dX10_giveTurn_13 ?_
      show J X B (E, κ2) 16 [(0, .inr (some (4, 0, 0))), (1, .inr (some (2, a1, 0)))] [.inr (some (0, j5, 0))]
      exact w_X10_giveTurn_b16a hfl O hKP hmL hE h0 h1 _ _ (⟨hj6, rfl⟩ : PC 2 E 0 j5 0) h
  · replace h := (if_neg hc1).symm.trans h
    refine J_null O.mo dX10_giveTurn_7 ?_
    refine J_goto O.mo (tgt := 16) dX10_giveTurn_8 (by decide) ?_
    exact w_X10_giveTurn_b16 hfl O hKP hmL hE h0 h1 _ h
theorem c_X10_giveTurn {l : Launch} (hfl : l.stackTraces = false) {E : EE} {κ κ' : K} {a1 : Nat} (h0 : PC 10 E 4 0 0) (h1 : PC 3 E 2 a1 0) {rr : Unit} (h : f_X10_giveTurn E κ a1 = some (κ', rr)) : Con l yX10_giveTurn cX10_giveTurn 5 none 8 234 [.inr (some (4, 0, 0)), .inr (some (2, a1, 0))] (E, κ) (E, κ') none := by
  exact Con_of hfl (by decide +kernel) (Nat.le_of_ble_eq_true rfl) rfl rfl (fun X B g O hKP hmL hE => w_X10_giveTurn hfl O hKP hmL hE h0 h1 _ h)
def f_X10_arePagesAlike_b3 (E : EE) (a0 : Pl) (a2 : Pl) : Nat → K → Int32 → Int32 → Int32 → Option (K × Int32)
  | 0, _, _, _, _ => none
  | n + 1, κ, x1, x3, x4 => if 4 ≤ x4 then some (κ, 1) else tmpG (kA E κ a0) fun n3 ar4 => gd (¬ (((x1 * 4) + x4) < 0 ∨ n3 ≤ ((x1 * 4) + x4).toNatClampNeg)) (tmpG (kA E κ a2) fun n7 ar8 => gd (¬ (((x3 * 4) + x4) < 0 ∨ n7 ≤ ((x3 * 4) + x4).toNatClampNeg)) (if ar4 ((x1 * 4) + x4).toNatClampNeg = ar8 ((x3 * 4) + x4).toNatClampNeg then nm (x4 + 1) fun y11 => f_X10_arePagesAlike_b3 E a0 a2 n κ x1 x3 y11 else some (κ, 0)))
def f_X10_arePagesAlike_e (E : EE) (κ : K) (a0 : Pl) (a1 : Int32) (a2 : Pl) (a3 : Int32) : Option (K × Int32) := f_X10_arePagesAlike_b3 E a0 a2 FU κ a1 a3 0
def f_X10_arePagesAlike (E : EE) (κ : K) (a0 : Pl) (a1 : Int32) (a2 : Pl) (a3 : Int32) : Option (K × Int32) := bd (f_X10_arePagesAlike_e E κ a0 a1 a2 a3) fun κ x => gd (x = 0 ∨ x = 1) (some (κ, x))
set_option maxHeartbeats 4000000 in
set_option maxRecDepth 100000 in
theorem w_X10_arePagesAlike_b3 {l0 : Launch} (hfl : l0.stackTraces = false) {X : MX} {B : BX (EE × K)} {g : GP} {E : EE} {κ' : K} {rr : Int32} {a0 : Pl} {a2 : Pl} (O : CK l0 X B g cX10_arePagesAlike RX10 1 0) (hKP : KPok B E) (hmL : B.2.2.2.1 = 5) (hE : ∀ (pc : Nat) (lv : List (Nat × AV)), decode cX10_arePagesAlike pc = .ok (.ireturn, 1) → J X B (E, κ') pc lv [.inl (.int rr)]) : ∀ (n : Nat) (κ : K) (x1 : Int32) (x3 : Int32) (x4 : Int32), f_X10_arePagesAlike_b3 E a0 a2 n κ x1 x3 x4 = some (κ', rr) → J X B (E, κ) 3 [(0, .inr (some a0)), (1, .inl (.int x1)), (2, .inr (some a2)), (3, .inl (.int x3)), (4, .inl (.int x4))] [] := by
  intro n
  induction n with
  | zero => intro κ x1 x3 x4 h; cases h
  | succ n ih =>
    intro κ x1 x3 x4 h
    rw [f_X10_arePagesAlike_b3] at h
    refine J_iload O.mo dX10_arePagesAlike_3 4 rfl ?_
    refine J_iconst O.mo (v := 4) dX10_arePagesAlike_5 (by decide) ?_
    refine J_icmp_ge O.mo (tgt := 36) dX10_arePagesAlike_6 (by decide) (fun hc1 => ?_) (fun hc1 => ?_)
    · replace h := (if_pos hc1).symm.trans h
      refine J_iconst O.mo (v := 1) dX10_arePagesAlike_36 (by decide) ?_
      cases h
      exact hE _ _ dX10_arePagesAlike_37
    · replace h := (if_neg hc1).symm.trans h
      refine J_aload_n O.mo dX10_arePagesAlike_9 0 rfl ?_
      refine J_iload_n O.mo dX10_arePagesAlike_10 1 rfl ?_
      refine J_iconst O.mo (v := 4) dX10_arePagesAlike_11 (by decide) ?_
      refine J_imul O.mo dX10_arePagesAlike_12 ?_
      refine J_iload O.mo dX10_arePagesAlike_13 4 rfl ?_
      refine J_iadd O.mo dX10_arePagesAlike_15 ?_
      obtain ⟨n3, ar4, hA5, h⟩ := tmpG_some h
      obtain ⟨hg2, h⟩ := gd_some h
      refine J_iald O.co (g := ar4) (ct_A hA5) hg2 dX10_arePagesAlike_16 ?_
      refine J_aload_n O.mo dX10_arePagesAlike_17 2 rfl ?_
      refine J_iload_n O.mo dX10_arePagesAlike_18 3 rfl ?_
      refine J_iconst O.mo (v := 4) dX10_arePagesAlike_19 (by decide) ?_
      refine J_imul O.mo dX10_arePagesAlike_20 ?_
      refine J_iload O.mo dX10_arePagesAlike_21 4 rfl ?_
      refine J_iadd O.mo dX10_arePagesAlike_23 ?_
      obtain ⟨n7, ar8, hA9, h⟩ := tmpG_some h
      obtain ⟨hg6, h⟩ := gd_some h
      refine J_iald O.co (g := ar8) (ct_A hA9) hg6 dX10_arePagesAlike_24 ?_
      refine J_icmp_eq O.mo (tgt := 30) dX10_arePagesAlike_25 (by decide) (fun hc10 => ?_) (fun hc10 => ?_)
      · replace h := (if_pos hc10).symm.trans h
        refine J_iinc O.mo (v := x4 + 1) (lv' := [(0, .inr (some a0)), (1, .inl (.int x1)), (2, .inr (some a2)), (3, .inl (.int x3))]) dX10_arePagesAlike_30 (by rw [hmL]; decide) 4 rfl (by rw [show Int32.ofInt (1) = (1 : Int32) from by decide]) rfl rfl ?_
        refine nm_some (P := fun z => J X B (E, κ) 33 [(4, .inl (.int z)), (0, .inr (some a0)), (1, .inl (.int x1)), (2, .inr (some a2)), (3, .inl (.int x3))] []) h (fun y11 h => ?_)
        refine J_goto O.mo (tgt := 3) dX10_arePagesAlike_33 (by decide) ?_
        refine J_sub [1, 2, 3, 4, 0] rfl ?_
        exact ih _ _ _ _ h
      · replace h := (if_neg hc10).symm.trans h
        refine J_iconst O.mo (v := 0) dX10_arePagesAlike_28 (by decide) ?_
        cases h
        exact hE _ _ dX10_arePagesAlike_29
set_option maxHeartbeats 4000000 in
set_option maxRecDepth 100000 in
theorem w_X10_arePagesAlike_e {l0 : Launch} (hfl : l0.stackTraces = false) {X : MX} {B : BX (EE × K)} {g : GP} {E : EE} {κ' : K} {rr : Int32} {a0 : Pl} {a2 : Pl} (O : CK l0 X B g cX10_arePagesAlike RX10 1 0) (hKP : KPok B E) (hmL : B.2.2.2.1 = 5) (hE : ∀ (pc : Nat) (lv : List (Nat × AV)), decode cX10_arePagesAlike pc = .ok (.ireturn, 1) → J X B (E, κ') pc lv [.inl (.int rr)]) : ∀ (κ : K) (a1 : Int32) (a3 : Int32), f_X10_arePagesAlike_e E κ a0 a1 a2 a3 = some (κ', rr) → J X B (E, κ) 0 [(0, .inr (some a0)), (1, .inl (.int a1)), (2, .inr (some a2)), (3, .inl (.int a3))] [] := by
  intro κ a1 a3 h
  unfold f_X10_arePagesAlike_e at h
  refine J_iconst O.mo (v := 0) dX10_arePagesAlike_0 (by decide) ?_
  refine J_istore O.mo (lv' := [(0, .inr (some a0)), (1, .inl (.int a1)), (2, .inr (some a2)), (3, .inl (.int a3))]) dX10_arePagesAlike_1 (by rw [hmL]; decide) rfl rfl ?_
  refine J_sub [1, 2, 3, 4, 0] rfl ?_
  exact w_X10_arePagesAlike_b3 hfl O hKP hmL hE FU _ _ _ _ h
theorem c_X10_arePagesAlike {l : Launch} (hfl : l.stackTraces = false) {E : EE} {κ κ' : K} {a0 : Pl} {a1 : Int32} {a2 : Pl} {a3 : Int32} {rr : Int32} (h : f_X10_arePagesAlike E κ a0 a1 a2 a3 = some (κ', rr)) : Con l yX10_arePagesAlike cX10_arePagesAlike 5 (some .boolean) 1 0 [.inr (some a0), .inl (.int a1), .inr (some a2), .inl (.int a3)] (E, κ) (E, κ') (some (.inl (.int rr))) := by
  unfold f_X10_arePagesAlike at h
  obtain ⟨κ1, x1, q1, q2⟩ := bd_some h
  obtain ⟨hb, q3⟩ := gd_some q2
  cases q3
  exact Con_of hfl (by decide +kernel) (Nat.le_of_ble_eq_true rfl) rfl ⟨_, rfl, nar_b hb⟩ (fun X B g O hKP hmL hE => w_X10_arePagesAlike_e hfl O hKP hmL hE _ _ _ q1)
def f_X10_areAlike_e (E : EE) (κ : K) (a1 : Int32) (a2 : Int32) : Option (K × Int32) := if a1 = (-1) then some (κ, 0) else if a2 = (-1) then some (κ, 0) else bd (f_Jx4a65c_get_915e3_L1 E κ (a1 / 8)) fun κ3 r5 => gd (r5 < cntE E 0) (bd (f_Jx4a65c_get_915e3_L1 E κ3 (a2 / 8)) fun κ7 r9 => gd (r9 < cntE E 0) (if kV κ7 0 r5 0 2 = 0 then if kV κ7 0 r9 0 2 = 0 then bd (f_X10_arePagesAlike E κ7 (0, r5, 9) (a1 - a1 / 8 * 8) (0, r9, 9) (a2 - a2 / 8 * 8)) fun κ13 r15 => if r15 = 0 then some (κ13, 0) else some (κ13, 1) else some (κ7, 0) else some (κ7, 0)))
def f_X10_areAlike (E : EE) (κ : K) (a1 : Int32) (a2 : Int32) : Option (K × Int32) := bd (f_X10_areAlike_e E κ a1 a2) fun κ x => gd (x = 0 ∨ x = 1) (some (κ, x))
set_option maxHeartbeats 4000000 in
set_option maxRecDepth 100000 in
theorem w_X10_areAlike_e {l0 : Launch} (hfl : l0.stackTraces = false) {X : MX} {B : BX (EE × K)} {g : GP} {E : EE} {κ' : K} {rr : Int32} (O : CK l0 X B g cX10_areAlike RX10 4 64) (hKP : KPok B E) (hmL : B.2.2.2.1 = 5) (hE : ∀ (pc : Nat) (lv : List (Nat × AV)), decode cX10_areAlike pc = .ok (.ireturn, 1) → J X B (E, κ') pc lv [.inl (.int rr)]) (h0 : PC 10 E 4 0 0) : ∀ (κ : K) (a1 : Int32) (a2 : Int32), f_X10_areAlike_e E κ a1 a2 = some (κ', rr) → J X B (E, κ) 0 [(0, .inr (some (4, 0, 0))), (1, .inl (.int a1)), (2, .inl (.int a2))] [] := by
  intro κ a1 a2 h
  unfold f_X10_areAlike_e at h
  refine J_iload_n O.mo dX10_areAlike_0 1 rfl ?_
  refine J_iconst O.mo (v := (-1)) dX10_areAlike_1 (by decide) ?_
  refine J_icmp_eq O.mo (tgt := 10) dX10_areAlike_2 (by decide) (fun hc1 => ?_) (fun hc1 => ?_)
  · replace h := (if_pos hc1).symm.trans h
    refine J_iconst O.mo (v := 0) dX10_areAlike_10 (by decide) ?_
    cases h
    exact hE _ _ dX10_areAlike_11
  · replace h := (if_neg hc1).symm.trans h
    refine J_iload_n O.mo dX10_areAlike_5 2 rfl ?_
    refine J_iconst O.mo (v := (-1)) dX10_areAlike_6 (by decide) ?_
    refine J_icmp_ne O.mo (tgt := 12) dX10_areAlike_7 (by decide) (fun hc2 => ?_) (fun hc2 => ?_)
    · replace h := (if_neg hc2).symm.trans h
      refine J_aload_n O.mo dX10_areAlike_12 0 rfl ?_
      refine J_getF O.co (kd0 := 10) (k10_0 h0) (l10_0 h0) (C := RX10) (T := TX10) (N := 4) rfl (by decide) rfl in_X10 0 (by decide) (v := .inr (some (4, 0, 1))) rfl mw333 rfl dX10_areAlike_13 ?_
      refine J_iload_n O.mo dX10_areAlike_16 1 rfl ?_
      refine J_bipush O.mo (v := 8) dX10_areAlike_17 (by decide) ?_
      refine J_idiv O.mo dX10_areAlike_19 (by decide) ?_
      obtain ⟨κ3, r5, hq4, h⟩ := bd_some h
      obtain ⟨hj6, h⟩ := gd_some h
      refine J_callV O hKP (as := [.inl (.int (a1 / 8))]) (rest := []) (r := some (.inr (some (0, r5, 0)))) (c_Jx4a65c_get_915e3_L1 hfl h0 hq4) rfl (kd0 := 0) (k10_1 h0) (l10_1 h0) (T := TJx4a65c) (N := 3) rfl (by decide) mw338 mw339 mw340 mw45 mw341 pd_Jx4a65c_get_915e3 rfl (by decide) rfl (Nat.le_of_ble_eq_true rfl) (sl_p (s10_0 h0) (sl_v (sl_v sl_0))) st_0 dX10_areAlike_20 ?_
      show J X B (E, κ3) 23 [(0, .inr (some (4, 0, 0))), (1, .inl (.int a1)), (2, .inl (.int a2))] [.inr (some (0, r5, 0))]
      refine J_cast O (kd0 := 2) (k2_0 (⟨hj6, rfl⟩ : PC 2 E 0 r5 0)) (l2_0 (⟨hj6, rfl⟩ : PC 2 E 0 r5 0)) rfl (by decide) mw342 dX10_areAlike_23 ?_
      refine J_astore_n O.mo (lv' := [(0, .inr (some (4, 0, 0))), (1, .inl (.int a1)), (2, .inl (.int a2))]) dX10_areAlike_26 (by rw [hmL]; decide) rfl rfl ?_
      refine J_aload_n O.mo dX10_areAlike_27 1 rfl ?_
      refine J_getF O.co (kd0 := 10) (k10_0 h0) (l10_0 h0) (C := RX10) (T := TX10) (N := 4) rfl (by decide) rfl in_X10 0 (by decide) (v := .inr (some (4, 0, 1))) rfl mw333 rfl dX10_areAlike_28 ?_
      refine J_iload_n O.mo dX10_areAlike_31 3 rfl ?_
      refine J_bipush O.mo (v := 8) dX10_areAlike_32 (by decide) ?_
      refine J_idiv O.mo dX10_areAlike_34 (by decide) ?_
      refine J_sub [0, 2, 3] rfl ?_
      obtain ⟨κ7, r9, hq8, h⟩ := bd_some h
      obtain ⟨hj10, h⟩ := gd_some h
      refine J_callV O hKP (as := [.inl (.int (a2 / 8))]) (rest := []) (r := some (.inr (some (0, r9, 0)))) (c_Jx4a65c_get_915e3_L1 hfl h0 hq8) rfl (kd0 := 0) (k10_1 h0) (l10_1 h0) (T := TJx4a65c) (N := 3) rfl (by decide) mw338 mw339 mw340 mw45 mw341 pd_Jx4a65c_get_915e3 rfl (by decide) rfl (Nat.le_of_ble_eq_true rfl) (sl_p (s2_0 (⟨hj6, rfl⟩ : PC 2 E 0 r5 0)) (sl_v (sl_v sl_0))) st_0 dX10_areAlike_35 ?_
      show J X B (E, κ7) 38 [(3, .inr (some (0, r5, 0))), (1, .inl (.int a1)), (2, .inl (.int a2))] [.inr (some (0, r9, 0))]
      refine J_cast O (kd0 := 2) (k2_0 (⟨hj10, rfl⟩ : PC 2 E 0 r9 0)) (l2_0 (⟨hj10, rfl⟩ : PC 2 E 0 r9 0)) rfl (by decide) mw342 dX10_areAlike_38 ?_
      refine J_astore O.mo (lv' := [(3, .inr (some (0, r5, 0))), (1, .inl (.int a1)), (2, .inl (.int a2))]) dX10_areAlike_41 (by rw [hmL]; decide) rfl rfl ?_
      refine J_aload_n O.mo dX10_areAlike_43 1 rfl ?_
      refine J_getF O.co (kd0 := 2) (k2_0 (⟨hj6, rfl⟩ : PC 2 E 0 r5 0)) (l2_0 (⟨hj6, rfl⟩ : PC 2 E 0 r5 0)) (C := RX1) (T := TX1) (N := 19) rfl (by decide) rfl in_X1 2 (by decide) (v := .inl (.int (kV κ7 0 r5 0 2))) rfl mw377 rfl dX10_areAlike_44 ?_
      refine J_if_ne O.mo (tgt := 97) dX10_areAlike_47 (by decide) (fun hc11 => ?_) (fun hc11 => ?_)
      · replace h := (if_neg hc11).symm.trans h
        refine J_iconst O.mo (v := 0) dX10_areAlike_97 (by decide) ?_
        cases h
        exact hE _ _ dX10_areAlike_98
      · replace h := (if_pos hc11).symm.trans h
        refine J_aload O.mo dX10_areAlike_50 0 rfl ?_
        refine J_getF O.co (kd0 := 2) (k2_0 (⟨hj10, rfl⟩ : PC 2 E 0 r9 0)) (l2_0 (⟨hj10, rfl⟩ : PC 2 E 0 r9 0)) (C := RX1) (T := TX1) (N := 19) rfl (by decide) rfl in_X1 2 (by decide) (v := .inl (.int (kV κ7 0 r9 0 2))) rfl mw377 rfl dX10_areAlike_52 ?_
        refine J_if_ne O.mo (tgt := 97) dX10_areAlike_55 (by decide) (fun hc12 => ?_) (fun hc12 => ?_)
        · replace h := (if_neg hc12).symm.trans h
          refine J_iconst O.mo (v := 0) dX10_areAlike_97 (by decide) ?_
          cases h
          exact hE _ _ dX10_areAlike_98
        · replace h := (if_pos hc12).symm.trans h
          refine J_aload_n O.mo dX10_areAlike_58 1 rfl ?_
          refine J_getF O.co (kd0 := 2) (k2_0 (⟨hj6, rfl⟩ : PC 2 E 0 r5 0)) (l2_0 (⟨hj6, rfl⟩ : PC 2 E 0 r5 0)) (C := RX1) (T := TX1) (N := 19) rfl (by decide) rfl in_X1 4 (by decide) (v := .inr (some (0, r5, 5))) rfl mw343 rfl dX10_areAlike_59 ?_
          refine J_getF O.co (kd0 := 9) (k2_5 (⟨hj6, rfl⟩ : PC 2 E 0 r5 0)) (l2_5 (⟨hj6, rfl⟩ : PC 2 E 0 r5 0)) (C := RX8) (T := TX8) (N := 10) rfl (by decide) rfl in_X8 0 (by decide) (v := .inr (some (0, r5, 6))) rfl mw378 rfl dX10_areAlike_62 ?_
          refine J_getF O.co (kd0 := 4) (k2_6 (⟨hj6, rfl⟩ : PC 2 E 0 r5 0)) (l2_6 (⟨hj6, rfl⟩ : PC 2 E 0 r5 0)) (C := RX3) (T := TX3) (N := 9) rfl (by decide) rfl in_X3 2 (by decide) (v := .inr (some (0, r5, 9))) rfl mw379 rfl dX10_areAlike_65 ?_
          refine J_iload_n O.mo dX10_areAlike_68 2 rfl ?_
          refine J_bipush O.mo (v := 8) dX10_areAlike_69 (by decide) ?_
          refine J_irem O.mo dX10_areAlike_71 (by decide) ?_
          refine J_aload O.mo dX10_areAlike_72 0 rfl ?_
          refine J_getF O.co (kd0 := 2) (k2_0 (⟨hj10, rfl⟩ : PC 2 E 0 r9 0)) (l2_0 (⟨hj10, rfl⟩ : PC 2 E 0 r9 0)) (C := RX1) (T := TX1) (N := 19) rfl (by decide) rfl in_X1 4 (by decide) (v := .inr (some (0, r9, 5))) rfl mw343 rfl dX10_areAlike_74 ?_
          refine J_getF O.co (kd0 := 9) (k2_5 (⟨hj10, rfl⟩ : PC 2 E 0 r9 0)) (l2_5 (⟨hj10, rfl⟩ : PC 2 E 0 r9 0)) (C := RX8) (T := TX8) (N := 10) rfl (by decide) rfl in_X8 0 (by decide) (v := .inr (some (0, r9, 6))) rfl mw378 rfl dX10_areAlike_77 ?_
          refine J_getF O.co (kd0 := 4) (k2_6 (⟨hj10, rfl⟩ : PC 2 E 0 r9 0)) (l2_6 (⟨hj10, rfl⟩ : PC 2 E 0 r9 0)) (C := RX3) (T := TX3) (N := 9) rfl (by decide) rfl in_X3 2 (by decide) (v := .inr (some (0, r9, 9))) rfl mw379 rfl dX10_areAlike_80 ?_
          refine J_iload_n O.mo dX10_areAlike_83 3 rfl ?_
          refine J_bipush O.mo (v := 8) dX10_areAlike_84 (by decide) ?_
          refine J_irem O.mo dX10_areAlike_86 (by decide) ?_
          refine J_sub [] rfl ?_
          obtain ⟨κ13, r15, hq14, h⟩ := bd_some h
          refine J_callS O hKP (as := [.inr (some (0, r5, 9)), .inl (.int (a1 - a1 / 8 * 8)), .inr (some (0, r9, 9)), .inl (.int (a2 - a2 / 8 * 8))]) (rest := []) (r := (some (.inl (.int r15)))) (c_X10_arePagesAlike hfl hq14) rfl mw380 mw381 mw320 mw382 pd_X10_arePagesAlike rfl (by decide) rfl (Nat.le_of_ble_eq_true rfl) sl_0 st_0 dX10_areAlike_87 ?_
          show J X B (E, κ13) 90 [] [.inl (.int r15)]
          refine J_if_eq O.mo (tgt := 97) dX10_areAlike_90 (by decide) (fun hc16 => ?_) (fun hc16 => ?_)
          · replace h := (if_pos hc16).symm.trans h
            refine J_iconst O.mo (v := 0) dX10_areAlike_97 (by decide) ?_
            cases h
            exact hE _ _ dX10_areAlike_98
          · replace h := (if_neg hc16).symm.trans h
            refine J_iconst O.mo (v := 1) dX10_areAlike_93 (by decide) ?_
            refine J_goto O.mo (tgt := 98) dX10_areAlike_94 (by decide) ?_
            cases h
            exact hE _ _ dX10_areAlike_98
    · replace h := (if_pos hc2).symm.trans h
      refine J_iconst O.mo (v := 0) dX10_areAlike_10 (by decide) ?_
      cases h
      exact hE _ _ dX10_areAlike_11
theorem c_X10_areAlike {l : Launch} (hfl : l.stackTraces = false) {E : EE} {κ κ' : K} {a1 : Int32} {a2 : Int32} (h0 : PC 10 E 4 0 0) {rr : Int32} (h : f_X10_areAlike E κ a1 a2 = some (κ', rr)) : Con l yX10_areAlike cX10_areAlike 5 (some .boolean) 4 64 [.inr (some (4, 0, 0)), .inl (.int a1), .inl (.int a2)] (E, κ) (E, κ') (some (.inl (.int rr))) := by
  unfold f_X10_areAlike at h
  obtain ⟨κ1, x1, q1, q2⟩ := bd_some h
  obtain ⟨hb, q3⟩ := gd_some q2
  cases q3
  exact Con_of hfl (by decide +kernel) (Nat.le_of_ble_eq_true rfl) rfl ⟨_, rfl, nar_b hb⟩ (fun X B g O hKP hmL hE => w_X10_areAlike_e hfl O hKP hmL hE h0 _ _ _ q1)
