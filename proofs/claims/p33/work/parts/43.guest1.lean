theorem k2_5 {E : EE} {f i c : Nat} (h : PC 2 E f i c) : kd f (c + 5) = 9 := PC_kd h 5 (by decide)
theorem l2_5 {E : EE} {f i c : Nat} (h : PC 2 E f i c) : liveC E f i (c + 5) = true := PC_lv h 5 (by decide) (by decide)
theorem s2_5 {E : EE} {f i c : Nat} (h : PC 2 E f i c) : Stab E (.inr (some (f, i, c + 5))) := PC_st h 5 (by decide) (by decide) (by decide)
theorem k2_6 {E : EE} {f i c : Nat} (h : PC 2 E f i c) : kd f (c + 6) = 4 := PC_kd h 6 (by decide)
theorem l2_6 {E : EE} {f i c : Nat} (h : PC 2 E f i c) : liveC E f i (c + 6) = true := PC_lv h 6 (by decide) (by decide)
theorem s2_6 {E : EE} {f i c : Nat} (h : PC 2 E f i c) : Stab E (.inr (some (f, i, c + 6))) := PC_st h 6 (by decide) (by decide) (by decide)
theorem k2_10 {E : EE} {f i c : Nat} (h : PC 2 E f i c) : kd f (c + 10) = 5 := PC_kd h 10 (by decide)
theorem l2_10 {E : EE} {f i c : Nat} (h : PC 2 E f i c) : liveC E f i (c + 10) = true := PC_lv h 10 (by decide) (by decide)
theorem s2_10 {E : EE} {f i c : Nat} (h : PC 2 E f i c) : Stab E (.inr (some (f, i, c + 10))) := PC_st h 10 (by decide) (by decide) (by decide)
theorem k2_12 {E : EE} {f i c : Nat} (h : PC 2 E f i c) : kd f (c + 12) = 5 := PC_kd h 12 (by decide)
theorem l2_12 {E : EE} {f i c : Nat} (h : PC 2 E f i c) : liveC E f i (c + 12) = true := PC_lv h 12 (by decide) (by decide)
theorem s2_12 {E : EE} {f i c : Nat} (h : PC 2 E f i c) : Stab E (.inr (some (f, i, c + 12))) := PC_st h 12 (by decide) (by decide) (by decide)
theorem k2_14 {E : EE} {f i c : Nat} (h : PC 2 E f i c) : kd f (c + 14) = 5 := PC_kd h 14 (by decide)
theorem l2_14 {E : EE} {f i c : Nat} (h : PC 2 E f i c) : liveC E f i (c + 14) = true := PC_lv h 14 (by decide) (by decide)
theorem s2_14 {E : EE} {f i c : Nat} (h : PC 2 E f i c) : Stab E (.inr (some (f, i, c + 14))) := PC_st h 14 (by decide) (by decide) (by decide)
theorem k2_18 {E : EE} {f i c : Nat} (h : PC 2 E f i c) : kd f (c + 18) = 1 := PC_kd h 18 (by decide)
theorem l2_18 {E : EE} {f i c : Nat} (h : PC 2 E f i c) : liveC E f i (c + 18) = true := PC_lv h 18 (by decide) (by decide)
theorem s2_18 {E : EE} {f i c : Nat} (h : PC 2 E f i c) : Stab E (.inr (some (f, i, c + 18))) := PC_st h 18 (by decide) (by decide) (by decide)
theorem k2_34 {E : EE} {f i c : Nat} (h : PC 2 E f i c) : kd f (c + 34) = 5 := PC_kd h 34 (by decide)
theorem l2_34 {E : EE} {f i c : Nat} (h : PC 2 E f i c) : liveC E f i (c + 34) = true := PC_lv h 34 (by decide) (by decide)
theorem s2_34 {E : EE} {f i c : Nat} (h : PC 2 E f i c) : Stab E (.inr (some (f, i, c + 34))) := PC_st h 34 (by decide) (by decide) (by decide)
theorem k2_36 {E : EE} {f i c : Nat} (h : PC 2 E f i c) : kd f (c + 36) = 5 := PC_kd h 36 (by decide)
theorem l2_36 {E : EE} {f i c : Nat} (h : PC 2 E f i c) : liveC E f i (c + 36) = true := PC_lv h 36 (by decide) (by decide)
theorem s2_36 {E : EE} {f i c : Nat} (h : PC 2 E f i c) : Stab E (.inr (some (f, i, c + 36))) := PC_st h 36 (by decide) (by decide) (by decide)
theorem k2_38 {E : EE} {f i c : Nat} (h : PC 2 E f i c) : kd f (c + 38) = 20 := PC_kd h 38 (by decide)
theorem l2_38 {E : EE} {f i c : Nat} (h : PC 2 E f i c) : liveC E f i (c + 38) = true := PC_lv h 38 (by decide) (by decide)
theorem s2_38 {E : EE} {f i c : Nat} (h : PC 2 E f i c) : Stab E (.inr (some (f, i, c + 38))) := PC_st h 38 (by decide) (by decide) (by decide)
theorem n2_38 {E : EE} {f i c : Nat} (h : PC 2 E f i c) : sl f (c + 38) = 6 := PC_sl h 38 (by decide)
theorem k9_0 {E : EE} {f i c : Nat} (h : PC 9 E f i c) : kd f (c) = 9 := PC_kd h 0 (by decide)
theorem l9_0 {E : EE} {f i c : Nat} (h : PC 9 E f i c) : liveC E f i (c) = true := PC_lv h 0 (by decide) (by decide)
theorem s9_0 {E : EE} {f i c : Nat} (h : PC 9 E f i c) : Stab E (.inr (some (f, i, c))) := PC_st h 0 (by decide) (by decide) (by decide)
theorem sub_2_5_9 {E : EE} {f i c : Nat} (h : PC 2 E f i c) : PC 9 E f i (c + 5) := PC_sub h 9 5 (by decide +kernel)
theorem sub_2_10_5 {E : EE} {f i c : Nat} (h : PC 2 E f i c) : PC 5 E f i (c + 10) := PC_sub h 5 10 (by decide +kernel)
theorem sub_2_12_5 {E : EE} {f i c : Nat} (h : PC 2 E f i c) : PC 5 E f i (c + 12) := PC_sub h 5 12 (by decide +kernel)
theorem sub_2_14_5 {E : EE} {f i c : Nat} (h : PC 2 E f i c) : PC 5 E f i (c + 14) := PC_sub h 5 14 (by decide +kernel)
theorem sub_2_34_5 {E : EE} {f i c : Nat} (h : PC 2 E f i c) : PC 5 E f i (c + 34) := PC_sub h 5 34 (by decide +kernel)
theorem sub_2_36_5 {E : EE} {f i c : Nat} (h : PC 2 E f i c) : PC 5 E f i (c + 36) := PC_sub h 5 36 (by decide +kernel)
set_option maxRecDepth 100000 in
theorem mw63 : Cond.fieldLink RX1 21 "GuestHall$Guest" "state" "LGuestHall$State;" ∈ gwl := gwl_tb 437 rfl rfl
set_option maxRecDepth 100000 in
theorem mw64 : Cond.fieldLink RX1 67 "GuestHall$State" "machine" "LGuestHall$Machine;" ∈ gwl := gwl_tb 351 rfl rfl
set_option maxRecDepth 100000 in
theorem mw65 : Cond.fieldLink RX1 71 "GuestHall$Machine" "how" "I" ∈ gwl := gwl_tb 309 rfl rfl
set_option maxRecDepth 100000 in
theorem mw66 : Cond.fieldLink RX1 50 "GuestHall$Guest" "toSend" "I" ∈ gwl := gwl_tb 459 rfl rfl
set_option maxRecDepth 100000 in
theorem mw67 : Cond.fieldLink RX1 47 "GuestHall$Guest" "barePages" "I" ∈ gwl := gwl_tb 457 rfl rfl
set_option maxRecDepth 100000 in
theorem mw68 : Cond.fieldLink RX1 53 "GuestHall$Guest" "number" "I" ∈ gwl := gwl_tb 429 rfl rfl
set_option maxRecDepth 100000 in
theorem mw69 : Cond.fieldLink RX1 56 "GuestHall$Guest" "host" "LGuestHall$Host;" ∈ gwl := gwl_tb 446 rfl rfl
set_option maxRecDepth 100000 in
theorem mw70 : Cond.fieldLink RX1 76 "GuestHall$Host" "frameOfKey" "[I" ∈ gwl := gwl_tb 75 rfl rfl
set_option maxRecDepth 100000 in
theorem mw71 : Cond.methodLink RX1 81 yX1_keyOf ∈ gwl := gwl_tb 736 rfl rfl
set_option maxRecDepth 100000 in
theorem mw72 : Cond.instanceMethod yX1_keyOf ∈ gwl := gwl_tb 738 rfl rfl
set_option maxRecDepth 100000 in
theorem mw73 : Cond.selects RX1 yX1_keyOf yX1_keyOf ∈ gwl := gwl_sl 12 rfl rfl
set_option maxRecDepth 100000 in
theorem mw74 : Cond.initialized RX1 ∈ gwl := gwl_tb 14 rfl rfl
set_option maxRecDepth 100000 in
theorem mw75 : Cond.code yX1_keyOf cX1_keyOf 2 (some .int) ∈ gwl := gwl_tb 739 rfl rfl
set_option maxRecDepth 100000 in
theorem mw76 : Cond.fieldLink RX1 85 "GuestHall$Guest" "isPaused" "Z" ∈ gwl := gwl_tb 462 rfl rfl
set_option maxRecDepth 100000 in
theorem mw77 : Cond.fieldLink RX1 39 "GuestHall$Guest" "exits" "[I" ∈ gwl := gwl_tb 444 rfl rfl
set_option maxRecDepth 100000 in
theorem mw78 : Cond.methodLink RX1 132 yX1_isMoving ∈ gwl := gwl_tb 768 rfl rfl
set_option maxRecDepth 100000 in
theorem mw79 : Cond.instanceMethod yX1_isMoving ∈ gwl := gwl_tb 769 rfl rfl
set_option maxRecDepth 100000 in
theorem mw80 : Cond.selects RX1 yX1_isMoving yX1_isMoving ∈ gwl := gwl_tb 770 rfl rfl
set_option maxRecDepth 100000 in
theorem mw81 : Cond.code yX1_isMoving cX1_isMoving 1 (some .boolean) ∈ gwl := gwl_tb 771 rfl rfl
set_option maxRecDepth 100000 in
theorem mw82 : Cond.fieldLink RX1 123 "GuestHall$Host" "usedAt" "[I" ∈ gwl := gwl_tb 79 rfl rfl
set_option maxRecDepth 100000 in
theorem mw83 : Cond.fieldLink RX1 126 "GuestHall$Host" "tick" "I" ∈ gwl := gwl_tb 82 rfl rfl
set_option maxRecDepth 100000 in
theorem mw84 : Cond.methodLink RX1 129 yX1_sendAgain ∈ gwl := gwl_tb 764 rfl rfl
set_option maxRecDepth 100000 in
theorem mw85 : Cond.instanceMethod yX1_sendAgain ∈ gwl := gwl_tb 766 rfl rfl
set_option maxRecDepth 100000 in
theorem mw86 : Cond.selects RX1 yX1_sendAgain yX1_sendAgain ∈ gwl := gwl_sl 16 rfl rfl
set_option maxRecDepth 100000 in
theorem mw87 : Cond.code yX1_sendAgain cX1_sendAgain 2 none ∈ gwl := gwl_tb 767 rfl rfl
set_option maxRecDepth 100000 in
theorem mw88 : Cond.fieldLink RX1 117 "GuestHall$Host" "pagesIn" "[I" ∈ gwl := gwl_tb 77 rfl rfl
set_option maxRecDepth 100000 in
theorem mw89 : Cond.methodLink RX1 92 yX1_countExit ∈ gwl := gwl_tb 709 rfl rfl
set_option maxRecDepth 100000 in
theorem mw90 : Cond.instanceMethod yX1_countExit ∈ gwl := gwl_tb 710 rfl rfl
set_option maxRecDepth 100000 in
theorem mw91 : Cond.selects RX1 yX1_countExit yX1_countExit ∈ gwl := gwl_tb 711 rfl rfl
set_option maxRecDepth 100000 in
theorem mw92 : Cond.code yX1_countExit cX1_countExit 2 none ∈ gwl := gwl_tb 712 rfl rfl
set_option maxRecDepth 100000 in
theorem mw93 : Cond.methodLink RX1 120 yX2_leave ∈ gwl := gwl_tb 760 rfl rfl
set_option maxRecDepth 100000 in
theorem mw94 : Cond.instanceMethod yX2_leave ∈ gwl := gwl_tb 761 rfl rfl
set_option maxRecDepth 100000 in
theorem mw95 : Cond.selects RX2 yX2_leave yX2_leave ∈ gwl := gwl_tb 762 rfl rfl
set_option maxRecDepth 100000 in
theorem mw96 : Cond.code yX2_leave cX2_leave 3 none ∈ gwl := gwl_tb 763 rfl rfl
set_option maxRecDepth 100000 in
theorem mw97 : Cond.methodLink RX1 113 yX2_hold ∈ gwl := gwl_tb 744 rfl rfl
set_option maxRecDepth 100000 in
theorem mw98 : Cond.instanceMethod yX2_hold ∈ gwl := gwl_tb 745 rfl rfl
set_option maxRecDepth 100000 in
theorem mw99 : Cond.selects RX2 yX2_hold yX2_hold ∈ gwl := gwl_tb 746 rfl rfl
set_option maxRecDepth 100000 in
theorem mw100 : Cond.code yX2_hold cX2_hold 4 none ∈ gwl := gwl_tb 747 rfl rfl
set_option maxRecDepth 100000 in
theorem mw101 : Cond.methodLink RX1 109 yX1_isBare ∈ gwl := gwl_tb 740 rfl rfl
set_option maxRecDepth 100000 in
theorem mw102 : Cond.instanceMethod yX1_isBare ∈ gwl := gwl_tb 741 rfl rfl
set_option maxRecDepth 100000 in
theorem mw103 : Cond.selects RX1 yX1_isBare yX1_isBare ∈ gwl := gwl_tb 742 rfl rfl
set_option maxRecDepth 100000 in
theorem mw104 : Cond.code yX1_isBare cX1_isBare 2 (some .boolean) ∈ gwl := gwl_tb 743 rfl rfl
set_option maxRecDepth 100000 in
theorem mw105 : Cond.fieldLink RX1 106 "GuestHall$State" "clock" "I" ∈ gwl := gwl_tb 374 rfl rfl
set_option maxRecDepth 100000 in
theorem mw106 : Cond.fieldLink RX1 142 "GuestHall$State" "taken" "LGuestHall$Numbers;" ∈ gwl := gwl_tb 359 rfl rfl
set_option maxRecDepth 100000 in
theorem mw107 : Cond.methodLink RX1 145 yX4_add ∈ gwl := gwl_tb 792 rfl rfl
set_option maxRecDepth 100000 in
theorem mw108 : Cond.fieldLink RX1 135 "GuestHall$State" "inputs" "LGuestHall$Numbers;" ∈ gwl := gwl_tb 356 rfl rfl
set_option maxRecDepth 100000 in
theorem mw109 : Cond.methodLink RX1 138 yX4_takeFirst ∈ gwl := gwl_tb 802 rfl rfl
set_option maxRecDepth 100000 in
theorem mw110 : Cond.instanceMethod yX4_takeFirst ∈ gwl := gwl_tb 803 rfl rfl
set_option maxRecDepth 100000 in
theorem mw111 : Cond.selects RX4 yX4_takeFirst yX4_takeFirst ∈ gwl := gwl_tb 804 rfl rfl
set_option maxRecDepth 100000 in
theorem mw112 : Cond.code yX4_takeFirst cX4_takeFirst 2 (some .int) ∈ gwl := gwl_tb 805 rfl rfl
set_option maxRecDepth 100000 in
theorem mw113 : Cond.fieldLink RX1 151 "GuestHall$State" "said" "LGuestHall$Numbers;" ∈ gwl := gwl_tb 362 rfl rfl
set_option maxRecDepth 100000 in
theorem mw114 : Cond.fieldLink RX1 28 "GuestHall$Guest" "following" "LGuestHall$Following;" ∈ gwl := gwl_tb 440 rfl rfl
set_option maxRecDepth 100000 in
theorem mw115 : Cond.fieldLink RX1 154 "GuestHall$Following" "isOn" "Z" ∈ gwl := gwl_tb 409 rfl rfl
set_option maxRecDepth 100000 in
theorem mw116 : Cond.fieldLink RX1 35 "GuestHall$Guest" "wentOut" "LGuestHall$Numbers;" ∈ gwl := gwl_tb 442 rfl rfl
set_option maxRecDepth 100000 in
theorem mw117 : Cond.fieldLink RX1 157 "GuestHall$Following" "held" "LGuestHall$Numbers;" ∈ gwl := gwl_tb 416 rfl rfl
set_option maxRecDepth 100000 in
theorem mw118 : Cond.fieldLink RX1 148 "GuestHall$State" "timer" "I" ∈ gwl := gwl_tb 369 rfl rfl
set_option maxRecDepth 100000 in
theorem mw119 : Cond.fieldLink RX8 34 "GuestHall$State" "isTimerPending" "Z" ∈ gwl := gwl_tb 370 rfl rfl
set_option maxRecDepth 100000 in
theorem mw120 : Cond.fieldLink RX8 38 "GuestHall$State" "isSentPending" "Z" ∈ gwl := gwl_tb 371 rfl rfl
set_option maxRecDepth 100000 in
theorem mw121 : Cond.methodLink RX1 160 yX8_isInterruptPending ∈ gwl := gwl_tb 820 rfl rfl
set_option maxRecDepth 100000 in
theorem mw122 : Cond.instanceMethod yX8_isInterruptPending ∈ gwl := gwl_tb 663 rfl rfl
set_option maxRecDepth 100000 in
theorem mw123 : Cond.selects RX8 yX8_isInterruptPending yX8_isInterruptPending ∈ gwl := gwl_tb 664 rfl rfl
set_option maxRecDepth 100000 in
theorem mw124 : Cond.initialized RX8 ∈ gwl := gwl_tb 16 rfl rfl
set_option maxRecDepth 100000 in
theorem mw125 : Cond.code yX8_isInterruptPending cX8_isInterruptPending 1 (some .boolean) ∈ gwl := gwl_tb 665 rfl rfl
set_option maxRecDepth 100000 in
theorem in_X0 : ∀ w ∈ u_ws RX0 TX0 4, w ∈ gwl := by
  intro w hw
  obtain ⟨k, hk, rfl⟩ := List.mem_map.mp hw
  replace hk := List.mem_range.mp hk
  clear hw
  revert k
  exact (tb_s (tb_s (tb_s (tb_s tb_0 (gwl_tb 418 rfl rfl)) (gwl_tb 420 rfl rfl)) (gwl_tb 422 rfl rfl)) (gwl_tb 424 rfl rfl))
set_option maxRecDepth 100000 in
theorem in_X1 : ∀ w ∈ u_ws RX1 TX1 19, w ∈ gwl := by
  intro w hw
  obtain ⟨k, hk, rfl⟩ := List.mem_map.mp hw
  replace hk := List.mem_range.mp hk
  clear hw
  revert k
  exact (tb_s (tb_s (tb_s (tb_s (tb_s (tb_s (tb_s (tb_s (tb_s (tb_s (tb_s (tb_s (tb_s (tb_s (tb_s (tb_s (tb_s (tb_s (tb_s tb_0 (gwl_tb 467 rfl rfl)) (gwl_tb 469 rfl rfl)) (gwl_tb 471 rfl rfl)) (gwl_tb 473 rfl rfl)) (gwl_tb 475 rfl rfl)) (gwl_tb 477 rfl rfl)) (gwl_tb 479 rfl rfl)) (gwl_tb 481 rfl rfl)) (gwl_tb 483 rfl rfl)) (gwl_tb 485 rfl rfl)) (gwl_tb 487 rfl rfl)) (gwl_tb 489 rfl rfl)) (gwl_tb 491 rfl rfl)) (gwl_tb 493 rfl rfl)) (gwl_tb 495 rfl rfl)) (gwl_tb 497 rfl rfl)) (gwl_tb 499 rfl rfl)) (gwl_tb 501 rfl rfl)) (gwl_tb 503 rfl rfl))
set_option maxRecDepth 100000 in
theorem in_X3 : ∀ w ∈ u_ws RX3 TX3 9, w ∈ gwl := by
  intro w hw
  obtain ⟨k, hk, rfl⟩ := List.mem_map.mp hw
  replace hk := List.mem_range.mp hk
  clear hw
  revert k
  exact (tb_s (tb_s (tb_s (tb_s (tb_s (tb_s (tb_s (tb_s (tb_s tb_0 (gwl_tb 312 rfl rfl)) (gwl_tb 314 rfl rfl)) (gwl_tb 316 rfl rfl)) (gwl_tb 318 rfl rfl)) (gwl_tb 320 rfl rfl)) (gwl_tb 322 rfl rfl)) (gwl_tb 324 rfl rfl)) (gwl_tb 326 rfl rfl)) (gwl_tb 328 rfl rfl))
set_option maxRecDepth 100000 in
theorem in_X8 : ∀ w ∈ u_ws RX8 TX8 10, w ∈ gwl := by
  intro w hw
  obtain ⟨k, hk, rfl⟩ := List.mem_map.mp hw
  replace hk := List.mem_range.mp hk
  clear hw
  revert k
  exact (tb_s (tb_s (tb_s (tb_s (tb_s (tb_s (tb_s (tb_s (tb_s (tb_s tb_0 (gwl_tb 376 rfl rfl)) (gwl_tb 378 rfl rfl)) (gwl_tb 380 rfl rfl)) (gwl_tb 382 rfl rfl)) (gwl_tb 384 rfl rfl)) (gwl_tb 386 rfl rfl)) (gwl_tb 388 rfl rfl)) (gwl_tb 390 rfl rfl)) (gwl_tb 392 rfl rfl)) (gwl_tb 394 rfl rfl))
theorem pd_X1_keyOf : (yX1_keyOf).cls ≠ "java/lang/invoke/MethodHandle" ∧ (yX1_keyOf).cls ≠ "java/lang/invoke/VarHandle" ∧ (parseMethodDescriptor (yX1_keyOf).desc).map (fun d => d.parameters.length) = some 1 := ⟨by decide +kernel, by decide +kernel, by decide +kernel⟩
theorem pd_X1_isMoving : (yX1_isMoving).cls ≠ "java/lang/invoke/MethodHandle" ∧ (yX1_isMoving).cls ≠ "java/lang/invoke/VarHandle" ∧ (parseMethodDescriptor (yX1_isMoving).desc).map (fun d => d.parameters.length) = some 0 := ⟨by decide +kernel, by decide +kernel, by decide +kernel⟩
theorem pd_X1_sendAgain : (yX1_sendAgain).cls ≠ "java/lang/invoke/MethodHandle" ∧ (yX1_sendAgain).cls ≠ "java/lang/invoke/VarHandle" ∧ (parseMethodDescriptor (yX1_sendAgain).desc).map (fun d => d.parameters.length) = some 1 := ⟨by decide +kernel, by decide +kernel, by decide +kernel⟩
theorem pd_X1_countExit : (yX1_countExit).cls ≠ "java/lang/invoke/MethodHandle" ∧ (yX1_countExit).cls ≠ "java/lang/invoke/VarHandle" ∧ (parseMethodDescriptor (yX1_countExit).desc).map (fun d => d.parameters.length) = some 1 := ⟨by decide +kernel, by decide +kernel, by decide +kernel⟩
theorem pd_X2_leave : (yX2_leave).cls ≠ "java/lang/invoke/MethodHandle" ∧ (yX2_leave).cls ≠ "java/lang/invoke/VarHandle" ∧ (parseMethodDescriptor (yX2_leave).desc).map (fun d => d.parameters.length) = some 1 := ⟨by decide +kernel, by decide +kernel, by decide +kernel⟩
theorem pd_X2_hold : (yX2_hold).cls ≠ "java/lang/invoke/MethodHandle" ∧ (yX2_hold).cls ≠ "java/lang/invoke/VarHandle" ∧ (parseMethodDescriptor (yX2_hold).desc).map (fun d => d.parameters.length) = some 2 := ⟨by decide +kernel, by decide +kernel, by decide +kernel⟩
theorem pd_X1_isBare : (yX1_isBare).cls ≠ "java/lang/invoke/MethodHandle" ∧ (yX1_isBare).cls ≠ "java/lang/invoke/VarHandle" ∧ (parseMethodDescriptor (yX1_isBare).desc).map (fun d => d.parameters.length) = some 1 := ⟨by decide +kernel, by decide +kernel, by decide +kernel⟩
theorem pd_X4_takeFirst : (yX4_takeFirst).cls ≠ "java/lang/invoke/MethodHandle" ∧ (yX4_takeFirst).cls ≠ "java/lang/invoke/VarHandle" ∧ (parseMethodDescriptor (yX4_takeFirst).desc).map (fun d => d.parameters.length) = some 0 := ⟨by decide +kernel, by decide +kernel, by decide +kernel⟩
theorem pd_X8_isInterruptPending : (yX8_isInterruptPending).cls ≠ "java/lang/invoke/MethodHandle" ∧ (yX8_isInterruptPending).cls ≠ "java/lang/invoke/VarHandle" ∧ (parseMethodDescriptor (yX8_isInterruptPending).desc).map (fun d => d.parameters.length) = some 0 := ⟨by decide +kernel, by decide +kernel, by decide +kernel⟩
def f_X1_isDead_e (E : EE) (κ : K) (a0 : Nat) : Option (K × Int32) := if kV κ 0 a0 6 8 = 3 then some (κ, 1) else some (κ, 0)
def f_X1_isDead (E : EE) (κ : K) (a0 : Nat) : Option (K × Int32) := bd (f_X1_isDead_e E κ a0) fun κ x => gd (x = 0 ∨ x = 1) (some (κ, x))
set_option maxHeartbeats 4000000 in
set_option maxRecDepth 100000 in
theorem w_X1_isDead_e {l0 : Launch} (hfl : l0.stackTraces = false) {X : MX} {B : BX (EE × K)} {g : GP} {E : EE} {κ' : K} {rr : Int32} {a0 : Nat} (O : CK l0 X B g cX1_isDead RX1 1 0) (hKP : KPok B E) (hmL : B.2.2.2.1 = 1) (hE : ∀ (pc : Nat) (lv : List (Nat × AV)), decode cX1_isDead pc = .ok (.ireturn, 1) → J X B (E, κ') pc lv [.inl (.int rr)]) (h0 : PC 2 E 0 a0 0) : ∀ (κ : K), f_X1_isDead_e E κ a0 = some (κ', rr) → J X B (E, κ) 0 [(0, .inr (some (0, a0, 0)))] [] := by
  intro κ h
  unfold f_X1_isDead_e at h
  refine J_aload_n O.mo dX1_isDead_0 0 rfl ?_
  refine J_getF O.co (kd0 := 2) (k2_0 h0) (l2_0 h0) (C := RX1) (T := TX1) (N := 19) rfl (by decide) rfl in_X1 4 (by decide) (v := .inr (some (0, a0, 5))) rfl mw63 rfl dX1_isDead_1 ?_
  refine J_getF O.co (kd0 := 9) (k2_5 h0) (l2_5 h0) (C := RX8) (T := TX8) (N := 10) rfl (by decide) rfl in_X8 0 (by decide) (v := .inr (some (0, a0, 6))) rfl mw64 rfl dX1_isDead_4 ?_
  refine J_getF O.co (kd0 := 4) (k2_6 h0) (l2_6 h0) (C := RX3) (T := TX3) (N := 9) rfl (by decide) rfl in_X3 8 (by decide) (v := .inl (.int (kV κ 0 a0 6 8))) rfl mw65 rfl dX1_isDead_7 ?_
  refine J_iconst O.mo (v := 3) dX1_isDead_10 (by decide) ?_
  refine J_icmp_ne O.mo (tgt := 18) dX1_isDead_11 (by decide) (fun hc1 => ?_) (fun hc1 => ?_)
  · replace h := (if_neg hc1).symm.trans h
    refine J_iconst O.mo (v := 0) dX1_isDead_18 (by decide) ?_
    cases h
    exact hE _ _ dX1_isDead_19
  · replace h := (if_pos hc1).symm.trans h
    refine J_iconst O.mo (v := 1) dX1_isDead_14 (by decide) ?_
    refine J_goto O.mo (tgt := 19) dX1_isDead_15 (by decide) ?_
    cases h
    exact hE _ _ dX1_isDead_19
theorem c_X1_isDead {l : Launch} (hfl : l.stackTraces = false) {E : EE} {κ κ' : K} {a0 : Nat} (h0 : PC 2 E 0 a0 0) {rr : Int32} (h : f_X1_isDead E κ a0 = some (κ', rr)) : Con l yX1_isDead cX1_isDead 1 (some .boolean) 1 0 [.inr (some (0, a0, 0))] (E, κ) (E, κ') (some (.inl (.int rr))) := by
  unfold f_X1_isDead at h
  obtain ⟨κ1, x1, q1, q2⟩ := bd_some h
  obtain ⟨hb, q3⟩ := gd_some q2
  cases q3
  exact Con_of hfl (by decide +kernel) (Nat.le_of_ble_eq_true rfl) rfl ⟨_, rfl, nar_b hb⟩ (fun X B g O hKP hmL hE => w_X1_isDead_e hfl O hKP hmL hE h0 _ q1)
def f_X1_isMoving_e (E : EE) (κ : K) (a0 : Nat) : Option (K × Int32) := if kV κ 0 a0 0 15 = (-1) then some (κ, 0) else some (κ, 1)
def f_X1_isMoving (E : EE) (κ : K) (a0 : Nat) : Option (K × Int32) := bd (f_X1_isMoving_e E κ a0) fun κ x => gd (x = 0 ∨ x = 1) (some (κ, x))
set_option maxHeartbeats 4000000 in
set_option maxRecDepth 100000 in
theorem w_X1_isMoving_e {l0 : Launch} (hfl : l0.stackTraces = false) {X : MX} {B : BX (EE × K)} {g : GP} {E : EE} {κ' : K} {rr : Int32} {a0 : Nat} (O : CK l0 X B g cX1_isMoving RX1 1 0) (hKP : KPok B E) (hmL : B.2.2.2.1 = 1) (hE : ∀ (pc : Nat) (lv : List (Nat × AV)), decode cX1_isMoving pc = .ok (.ireturn, 1) → J X B (E, κ') pc lv [.inl (.int rr)]) (h0 : PC 2 E 0 a0 0) : ∀ (κ : K), f_X1_isMoving_e E κ a0 = some (κ', rr) → J X B (E, κ) 0 [(0, .inr (some (0, a0, 0)))] [] := by
  intro κ h
  unfold f_X1_isMoving_e at h
  refine J_aload_n O.mo dX1_isMoving_0 0 rfl ?_
  refine J_getF O.co (kd0 := 2) (k2_0 h0) (l2_0 h0) (C := RX1) (T := TX1) (N := 19) rfl (by decide) rfl in_X1 15 (by decide) (v := .inl (.int (kV κ 0 a0 0 15))) rfl mw66 rfl dX1_isMoving_1 ?_
  refine J_iconst O.mo (v := (-1)) dX1_isMoving_4 (by decide) ?_
  refine J_icmp_eq O.mo (tgt := 12) dX1_isMoving_5 (by decide) (fun hc1 => ?_) (fun hc1 => ?_)
  · replace h := (if_pos hc1).symm.trans h
    refine J_iconst O.mo (v := 0) dX1_isMoving_12 (by decide) ?_
    cases h
    exact hE _ _ dX1_isMoving_13
  · replace h := (if_neg hc1).symm.trans h
    refine J_iconst O.mo (v := 1) dX1_isMoving_8 (by decide) ?_
    refine J_goto O.mo (tgt := 13) dX1_isMoving_9 (by decide) ?_
    cases h
    exact hE _ _ dX1_isMoving_13
theorem c_X1_isMoving {l : Launch} (hfl : l.stackTraces = false) {E : EE} {κ κ' : K} {a0 : Nat} (h0 : PC 2 E 0 a0 0) {rr : Int32} (h : f_X1_isMoving E κ a0 = some (κ', rr)) : Con l yX1_isMoving cX1_isMoving 1 (some .boolean) 1 0 [.inr (some (0, a0, 0))] (E, κ) (E, κ') (some (.inl (.int rr))) := by
  unfold f_X1_isMoving at h
  obtain ⟨κ1, x1, q1, q2⟩ := bd_some h
  obtain ⟨hb, q3⟩ := gd_some q2
  cases q3
  exact Con_of hfl (by decide +kernel) (Nat.le_of_ble_eq_true rfl) rfl ⟨_, rfl, nar_b hb⟩ (fun X B g O hKP hmL hE => w_X1_isMoving_e hfl O hKP hmL hE h0 _ q1)
def f_X1_isBare_e (E : EE) (κ : K) (a0 : Nat) (a1 : Int32) : Option (K × Int32) := if (kV κ 0 a0 0 14) &&& (1 <<< (a1 &&& 31)) = 0 then some (κ, 0) else some (κ, 1)
def f_X1_isBare (E : EE) (κ : K) (a0 : Nat) (a1 : Int32) : Option (K × Int32) := bd (f_X1_isBare_e E κ a0 a1) fun κ x => gd (x = 0 ∨ x = 1) (some (κ, x))
set_option maxHeartbeats 4000000 in
set_option maxRecDepth 100000 in
theorem w_X1_isBare_e {l0 : Launch} (hfl : l0.stackTraces = false) {X : MX} {B : BX (EE × K)} {g : GP} {E : EE} {κ' : K} {rr : Int32} {a0 : Nat} (O : CK l0 X B g cX1_isBare RX1 1 0) (hKP : KPok B E) (hmL : B.2.2.2.1 = 2) (hE : ∀ (pc : Nat) (lv : List (Nat × AV)), decode cX1_isBare pc = .ok (.ireturn, 1) → J X B (E, κ') pc lv [.inl (.int rr)]) (h0 : PC 2 E 0 a0 0) : ∀ (κ : K) (a1 : Int32), f_X1_isBare_e E κ a0 a1 = some (κ', rr) → J X B (E, κ) 0 [(0, .inr (some (0, a0, 0))), (1, .inl (.int a1))] [] := by
  intro κ a1 h
  unfold f_X1_isBare_e at h
  refine J_aload_n O.mo dX1_isBare_0 0 rfl ?_
  refine J_getF O.co (kd0 := 2) (k2_0 h0) (l2_0 h0) (C := RX1) (T := TX1) (N := 19) rfl (by decide) rfl in_X1 14 (by decide) (v := .inl (.int (kV κ 0 a0 0 14))) rfl mw67 rfl dX1_isBare_1 ?_
  refine J_iconst O.mo (v := 1) dX1_isBare_4 (by decide) ?_
  refine J_iload_n O.mo dX1_isBare_5 1 rfl ?_
  refine J_ishl O.mo dX1_isBare_6 ?_
  refine J_iand O.mo dX1_isBare_7 ?_
  refine J_if_eq O.mo (tgt := 15) dX1_isBare_8 (by decide) (fun hc1 => ?_) (fun hc1 => ?_)
  · replace h := (if_pos hc1).symm.trans h
    refine J_iconst O.mo (v := 0) dX1_isBare_15 (by decide) ?_
    cases h
    exact hE _ _ dX1_isBare_16
  · replace h := (if_neg hc1).symm.trans h
    refine J_iconst O.mo (v := 1) dX1_isBare_11 (by decide) ?_
    refine J_goto O.mo (tgt := 16) dX1_isBare_12 (by decide) ?_
    cases h
    exact hE _ _ dX1_isBare_16
theorem c_X1_isBare {l : Launch} (hfl : l.stackTraces = false) {E : EE} {κ κ' : K} {a0 : Nat} {a1 : Int32} (h0 : PC 2 E 0 a0 0) {rr : Int32} (h : f_X1_isBare E κ a0 a1 = some (κ', rr)) : Con l yX1_isBare cX1_isBare 2 (some .boolean) 1 0 [.inr (some (0, a0, 0)), .inl (.int a1)] (E, κ) (E, κ') (some (.inl (.int rr))) := by
  unfold f_X1_isBare at h
  obtain ⟨κ1, x1, q1, q2⟩ := bd_some h
  obtain ⟨hb, q3⟩ := gd_some q2
  cases q3
  exact Con_of hfl (by decide +kernel) (Nat.le_of_ble_eq_true rfl) rfl ⟨_, rfl, nar_b hb⟩ (fun X B g O hKP hmL hE => w_X1_isBare_e hfl O hKP hmL hE h0 _ _ q1)
def f_X1_keyOf (E : EE) (κ : K) (a0 : Nat) (a1 : Int32) : Option (K × Int32) := some (κ, ((kV κ 0 a0 0 0) * 8) + a1)
set_option maxHeartbeats 4000000 in
set_option maxRecDepth 100000 in
theorem w_X1_keyOf {l0 : Launch} (hfl : l0.stackTraces = false) {X : MX} {B : BX (EE × K)} {g : GP} {E : EE} {κ' : K} {rr : Int32} {a0 : Nat} (O : CK l0 X B g cX1_keyOf RX1 1 0) (hKP : KPok B E) (hmL : B.2.2.2.1 = 2) (hE : ∀ (pc : Nat) (lv : List (Nat × AV)), decode cX1_keyOf pc = .ok (.ireturn, 1) → J X B (E, κ') pc lv [.inl (.int rr)]) (h0 : PC 2 E 0 a0 0) : ∀ (κ : K) (a1 : Int32), f_X1_keyOf E κ a0 a1 = some (κ', rr) → J X B (E, κ) 0 [(0, .inr (some (0, a0, 0))), (1, .inl (.int a1))] [] := by
  intro κ a1 h
  unfold f_X1_keyOf at h
  refine J_aload_n O.mo dX1_keyOf_0 0 rfl ?_
  refine J_getF O.co (kd0 := 2) (k2_0 h0) (l2_0 h0) (C := RX1) (T := TX1) (N := 19) rfl (by decide) rfl in_X1 0 (by decide) (v := .inl (.int (kV κ 0 a0 0 0))) rfl mw68 rfl dX1_keyOf_1 ?_
  refine J_bipush O.mo (v := 8) dX1_keyOf_4 (by decide) ?_
  refine J_imul O.mo dX1_keyOf_6 ?_
  refine J_iload_n O.mo dX1_keyOf_7 1 rfl ?_
  refine J_iadd O.mo dX1_keyOf_8 ?_
  cases h
  exact hE _ _ dX1_keyOf_9
theorem c_X1_keyOf {l : Launch} (hfl : l.stackTraces = false) {E : EE} {κ κ' : K} {a0 : Nat} {a1 : Int32} (h0 : PC 2 E 0 a0 0) {rr : Int32} (h : f_X1_keyOf E κ a0 a1 = some (κ', rr)) : Con l yX1_keyOf cX1_keyOf 2 (some .int) 1 0 [.inr (some (0, a0, 0)), .inl (.int a1)] (E, κ) (E, κ') (some (.inl (.int rr))) := by
  exact Con_of hfl (by decide +kernel) (Nat.le_of_ble_eq_true rfl) rfl ⟨_, rfl, rfl⟩ (fun X B g O hKP hmL hE => w_X1_keyOf hfl O hKP hmL hE h0 _ _ h)
def f_X1_frameFor (E : EE) (κ : K) (a0 : Nat) (a1 : Int32) : Option (K × Int32) := optG (kP κ 0 a0 0 8) (cntE E 2) (none) (fun j1 => bd (f_X1_keyOf E κ a0 a1) fun κ4 r6 => gd (¬ (r6 < 0 ∨ 40 ≤ r6.toNatClampNeg)) (some (κ4, (kV κ4 2 j1 1) r6.toNatClampNeg)))
set_option maxHeartbeats 4000000 in
set_option maxRecDepth 100000 in
theorem w_X1_frameFor {l0 : Launch} (hfl : l0.stackTraces = false) {X : MX} {B : BX (EE × K)} {g : GP} {E : EE} {κ' : K} {rr : Int32} {a0 : Nat} (O : CK l0 X B g cX1_frameFor RX1 2 21) (hKP : KPok B E) (hmL : B.2.2.2.1 = 2) (hE : ∀ (pc : Nat) (lv : List (Nat × AV)), decode cX1_frameFor pc = .ok (.ireturn, 1) → J X B (E, κ') pc lv [.inl (.int rr)]) (h0 : PC 2 E 0 a0 0) : ∀ (κ : K) (a1 : Int32), f_X1_frameFor E κ a0 a1 = some (κ', rr) → J X B (E, κ) 0 [(0, .inr (some (0, a0, 0))), (1, .inl (.int a1))] [] := by
  intro κ a1 h
  unfold f_X1_frameFor at h
  refine J_aload_n O.mo dX1_frameFor_0 0 rfl ?_
  replace h := optG_some h
  rcases h with ⟨ho3, h⟩ | ⟨j1, ho3, hj2, h⟩
  · cases h
  · refine J_getF O.co (kd0 := 2) (k2_0 h0) (l2_0 h0) (C := RX1) (T := TX1) (N := 19) rfl (by decide) rfl in_X1 8 (by decide) (v := .inr (some (2, j1, 0))) (by rw [ho3]; rfl) mw69 rfl dX1_frameFor_1 ?_
    refine J_getF O.co (kd0 := 3) (k3_0 (⟨hj2, rfl⟩ : PC 3 E 2 j1 0)) (l3_0 (⟨hj2, rfl⟩ : PC 3 E 2 j1 0)) (C := RX2) (T := TX2) (N := 8) rfl (by decide) rfl in_X2 1 (by decide) (v := .inr (some (2, j1, 1))) rfl mw70 rfl dX1_frameFor_4 ?_
    refine J_aload_n O.mo dX1_frameFor_7 0 rfl ?_
    refine J_iload_n O.mo dX1_frameFor_8 1 rfl ?_
    refine J_sub [] rfl ?_
    obtain ⟨κ4, r6, hq5, h⟩ := bd_some h
    refine J_callV O hKP (as := [.inl (.int a1)]) (rest := [.inr (some (2, j1, 1))]) (r := (some (.inl (.int r6)))) (c_X1_keyOf hfl h0 hq5) rfl (kd0 := 2) (k2_0 h0) (l2_0 h0) (T := TX1) (N := 19) rfl (by decide) mw71 mw72 mw73 mw74 mw75 pd_X1_keyOf rfl (by decide) rfl (Nat.le_of_ble_eq_true rfl) sl_0 (st_p (s3_1 (⟨hj2, rfl⟩ : PC 3 E 2 j1 0)) st_0) dX1_frameFor_9 ?_
    show J X B (E, κ4) 12 [] [.inl (.int r6), .inr (some (2, j1, 1))]
    obtain ⟨hg7, h⟩ := gd_some h
    refine J_iald O.co (g := (kV κ4 2 j1 1)) (ct_20n (l3_1 (⟨hj2, rfl⟩ : PC 3 E 2 j1 0)) (k3_1 (⟨hj2, rfl⟩ : PC 3 E 2 j1 0)) (n3_1 (⟨hj2, rfl⟩ : PC 3 E 2 j1 0))) hg7 dX1_frameFor_12 ?_
    cases h
    exact hE _ _ dX1_frameFor_13
theorem c_X1_frameFor {l : Launch} (hfl : l.stackTraces = false) {E : EE} {κ κ' : K} {a0 : Nat} {a1 : Int32} (h0 : PC 2 E 0 a0 0) {rr : Int32} (h : f_X1_frameFor E κ a0 a1 = some (κ', rr)) : Con l yX1_frameFor cX1_frameFor 2 (some .int) 2 21 [.inr (some (0, a0, 0)), .inl (.int a1)] (E, κ) (E, κ') (some (.inl (.int rr))) := by
  exact Con_of hfl (by decide +kernel) (Nat.le_of_ble_eq_true rfl) rfl ⟨_, rfl, rfl⟩ (fun X B g O hKP hmL hE => w_X1_frameFor hfl O hKP hmL hE h0 _ _ h)
def f_X1_canRunOn_e (E : EE) (κ : K) (a0 : Nat) (a1 : Nat) : Option (K × Int32) := optG (kP κ 0 a0 0 8) (cntE E 2) (none) (fun j1 => if j1 = a1 then if kV κ 0 a0 0 16 = 0 then if kV κ 0 a0 6 8 = 0 then some (κ, 1) else some (κ, 0) else some (κ, 0) else some (κ, 0))
def f_X1_canRunOn (E : EE) (κ : K) (a0 : Nat) (a1 : Nat) : Option (K × Int32) := bd (f_X1_canRunOn_e E κ a0 a1) fun κ x => gd (x = 0 ∨ x = 1) (some (κ, x))
set_option maxHeartbeats 4000000 in
set_option maxRecDepth 100000 in
theorem w_X1_canRunOn_e {l0 : Launch} (hfl : l0.stackTraces = false) {X : MX} {B : BX (EE × K)} {g : GP} {E : EE} {κ' : K} {rr : Int32} {a0 : Nat} {a1 : Nat} (O : CK l0 X B g cX1_canRunOn RX1 1 0) (hKP : KPok B E) (hmL : B.2.2.2.1 = 2) (hE : ∀ (pc : Nat) (lv : List (Nat × AV)), decode cX1_canRunOn pc = .ok (.ireturn, 1) → J X B (E, κ') pc lv [.inl (.int rr)]) (h0 : PC 2 E 0 a0 0) (h1 : PC 3 E 2 a1 0) : ∀ (κ : K), f_X1_canRunOn_e E κ a0 a1 = some (κ', rr) → J X B (E, κ) 0 [(0, .inr (some (0, a0, 0))), (1, .inr (some (2, a1, 0)))] [] := by
  intro κ h
  unfold f_X1_canRunOn_e at h
  refine J_aload_n O.mo dX1_canRunOn_0 0 rfl ?_
  replace h := optG_some h
  rcases h with ⟨ho3, h⟩ | ⟨j1, ho3, hj2, h⟩
  · cases h
  · refine J_getF O.co (kd0 := 2) (k2_0 h0) (l2_0 h0) (C := RX1) (T := TX1) (N := 19) rfl (by decide) rfl in_X1 8 (by decide) (v := .inr (some (2, j1, 0))) (by rw [ho3]; rfl) mw69 rfl dX1_canRunOn_1 ?_
    refine J_aload_n O.mo dX1_canRunOn_4 1 rfl ?_
    refine J_acmp_ne O.mo (O.acmp (l3_0 (⟨hj2, rfl⟩ : PC 3 E 2 j1 0))) (O.acmp (l3_0 h1)) dX1_canRunOn_5 (tgt := 32) (by decide) (fun hc4 => ?_) (fun hc4 => ?_)
    · have hc4 : ¬ j1 = a1 := fun z => hc4 (by rw [z])
      replace h := (if_neg hc4).symm.trans h
      refine J_iconst O.mo (v := 0) dX1_canRunOn_32 (by decide) ?_
      cases h
      exact hE _ _ dX1_canRunOn_33
    · have hc4 : j1 = a1 := by injection hc4 with _ z; injection z
      replace h := (if_pos hc4).symm.trans h
      refine J_aload_n O.mo dX1_canRunOn_8 0 rfl ?_
      refine J_getF O.co (kd0 := 2) (k2_0 h0) (l2_0 h0) (C := RX1) (T := TX1) (N := 19) rfl (by decide) rfl in_X1 16 (by decide) (v := .inl (.int (kV κ 0 a0 0 16))) rfl mw76 rfl dX1_canRunOn_9 ?_
      refine J_if_ne O.mo (tgt := 32) dX1_canRunOn_12 (by decide) (fun hc5 => ?_) (fun hc5 => ?_)
      · replace h := (if_neg hc5).symm.trans h
        refine J_iconst O.mo (v := 0) dX1_canRunOn_32 (by decide) ?_
        cases h
        exact hE _ _ dX1_canRunOn_33
      · replace h := (if_pos hc5).symm.trans h
        refine J_aload_n O.mo dX1_canRunOn_15 0 rfl ?_
        refine J_getF O.co (kd0 := 2) (k2_0 h0) (l2_0 h0) (C := RX1) (T := TX1) (N := 19) rfl (by decide) rfl in_X1 4 (by decide) (v := .inr (some (0, a0, 5))) rfl mw63 rfl dX1_canRunOn_16 ?_
        refine J_getF O.co (kd0 := 9) (k2_5 h0) (l2_5 h0) (C := RX8) (T := TX8) (N := 10) rfl (by decide) rfl in_X8 0 (by decide) (v := .inr (some (0, a0, 6))) rfl mw64 rfl dX1_canRunOn_19 ?_
        refine J_getF O.co (kd0 := 4) (k2_6 h0) (l2_6 h0) (C := RX3) (T := TX3) (N := 9) rfl (by decide) rfl in_X3 8 (by decide) (v := .inl (.int (kV κ 0 a0 6 8))) rfl mw65 rfl dX1_canRunOn_22 ?_
        refine J_if_ne O.mo (tgt := 32) dX1_canRunOn_25 (by decide) (fun hc6 => ?_) (fun hc6 => ?_)
        · replace h := (if_neg hc6).symm.trans h
          refine J_iconst O.mo (v := 0) dX1_canRunOn_32 (by decide) ?_
          cases h
          exact hE _ _ dX1_canRunOn_33
        · replace h := (if_pos hc6).symm.trans h
          refine J_iconst O.mo (v := 1) dX1_canRunOn_28 (by decide) ?_
          refine J_goto O.mo (tgt := 33) dX1_canRunOn_29 (by decide) ?_
          cases h
          exact hE _ _ dX1_canRunOn_33
theorem c_X1_canRunOn {l : Launch} (hfl : l.stackTraces = false) {E : EE} {κ κ' : K} {a0 : Nat} {a1 : Nat} (h0 : PC 2 E 0 a0 0) (h1 : PC 3 E 2 a1 0) {rr : Int32} (h : f_X1_canRunOn E κ a0 a1 = some (κ', rr)) : Con l yX1_canRunOn cX1_canRunOn 2 (some .boolean) 1 0 [.inr (some (0, a0, 0)), .inr (some (2, a1, 0))] (E, κ) (E, κ') (some (.inl (.int rr))) := by
  unfold f_X1_canRunOn at h
  obtain ⟨κ1, x1, q1, q2⟩ := bd_some h
  obtain ⟨hb, q3⟩ := gd_some q2
  cases q3
  exact Con_of hfl (by decide +kernel) (Nat.le_of_ble_eq_true rfl) rfl ⟨_, rfl, nar_b hb⟩ (fun X B g O hKP hmL hE => w_X1_canRunOn_e hfl O hKP hmL hE h0 h1 _ q1)
def f_X1_countExit (E : EE) (κ : K) (a0 : Nat) (a1 : Int32) : Option (K × Unit) := gd (¬ (a1 < 0 ∨ 6 ≤ a1.toNatClampNeg)) (gd (¬ (a1 < 0 ∨ 6 ≤ a1.toNatClampNeg)) (nm (setV κ 0 a0 38 a1.toNatClampNeg (((kV κ 0 a0 38) a1.toNatClampNeg) + 1)) fun κ3 => some (κ3, ())))
set_option maxHeartbeats 4000000 in
set_option maxRecDepth 100000 in
theorem w_X1_countExit {l0 : Launch} (hfl : l0.stackTraces = false) {X : MX} {B : BX (EE × K)} {g : GP} {E : EE} {κ' : K} {rr : Unit} {a0 : Nat} (O : CK l0 X B g cX1_countExit RX1 1 0) (hKP : KPok B E) (hmL : B.2.2.2.1 = 2) (hE : ∀ (pc : Nat) (lv : List (Nat × AV)), decode cX1_countExit pc = .ok (.return_, 1) → J X B (E, κ') pc lv []) (h0 : PC 2 E 0 a0 0) : ∀ (κ : K) (a1 : Int32), f_X1_countExit E κ a0 a1 = some (κ', rr) → J X B (E, κ) 0 [(0, .inr (some (0, a0, 0))), (1, .inl (.int a1))] [] := by
  intro κ a1 h
  unfold f_X1_countExit at h
  refine J_aload_n O.mo dX1_countExit_0 0 rfl ?_
  refine J_getF O.co (kd0 := 2) (k2_0 h0) (l2_0 h0) (C := RX1) (T := TX1) (N := 19) rfl (by decide) rfl in_X1 7 (by decide) (v := .inr (some (0, a0, 38))) rfl mw77 rfl dX1_countExit_1 ?_
  refine J_iload_n O.mo dX1_countExit_4 1 rfl ?_
  refine J_dup2 O.mo dX1_countExit_5 rfl rfl ?_
  obtain ⟨hg1, h⟩ := gd_some h
  refine J_iald O.co (g := (kV κ 0 a0 38)) (ct_20n (l2_38 h0) (k2_38 h0) (n2_38 h0)) hg1 dX1_countExit_6 ?_
  refine J_iconst O.mo (v := 1) dX1_countExit_7 (by decide) ?_
  refine J_iadd O.mo dX1_countExit_8 ?_
  obtain ⟨hg2, h⟩ := gd_some h
  refine row_20 O (l2_38 h0) (k2_38 h0) (n2_38 h0) hg2 (x := (((kV κ 0 a0 38) a1.toNatClampNeg) + 1)) dX1_countExit_9 ?_
  refine nm_some (P := fun z => J X B (E, z) 10 [(0, .inr (some (0, a0, 0))), (1, .inl (.int a1))] []) h (fun κ3 h => ?_)
  cases h
  exact hE _ _ dX1_countExit_10
theorem c_X1_countExit {l : Launch} (hfl : l.stackTraces = false) {E : EE} {κ κ' : K} {a0 : Nat} {a1 : Int32} (h0 : PC 2 E 0 a0 0) {rr : Unit} (h : f_X1_countExit E κ a0 a1 = some (κ', rr)) : Con l yX1_countExit cX1_countExit 2 none 1 0 [.inr (some (0, a0, 0)), .inl (.int a1)] (E, κ) (E, κ') none := by
  exact Con_of hfl (by decide +kernel) (Nat.le_of_ble_eq_true rfl) rfl rfl (fun X B g O hKP hmL hE => w_X1_countExit hfl O hKP hmL hE h0 _ _ h)
def f_X1_sendAgain (E : EE) (κ : K) (a0 : Nat) (a1 : Int32) : Option (K × Unit) := bd (f_X1_isMoving E κ a0) fun κ1 r3 => if r3 = 0 then some (κ1, ()) else nm (setV κ1 0 a0 0 15 ((kV κ1 0 a0 0 15) ||| (1 <<< (a1 &&& 31)))) fun κ5 => some (κ5, ())
set_option maxHeartbeats 4000000 in
set_option maxRecDepth 100000 in
theorem w_X1_sendAgain {l0 : Launch} (hfl : l0.stackTraces = false) {X : MX} {B : BX (EE × K)} {g : GP} {E : EE} {κ' : K} {rr : Unit} {a0 : Nat} (O : CK l0 X B g cX1_sendAgain RX1 2 20) (hKP : KPok B E) (hmL : B.2.2.2.1 = 2) (hE : ∀ (pc : Nat) (lv : List (Nat × AV)), decode cX1_sendAgain pc = .ok (.return_, 1) → J X B (E, κ') pc lv []) (h0 : PC 2 E 0 a0 0) : ∀ (κ : K) (a1 : Int32), f_X1_sendAgain E κ a0 a1 = some (κ', rr) → J X B (E, κ) 0 [(0, .inr (some (0, a0, 0))), (1, .inl (.int a1))] [] := by
  intro κ a1 h
  unfold f_X1_sendAgain at h
  refine J_aload_n O.mo dX1_sendAgain_0 0 rfl ?_
  obtain ⟨κ1, r3, hq2, h⟩ := bd_some h
  refine J_callV O hKP (as := []) (rest := []) (r := (some (.inl (.int r3)))) (c_X1_isMoving hfl h0 hq2) rfl (kd0 := 2) (k2_0 h0) (l2_0 h0) (T := TX1) (N := 19) rfl (by decide) mw78 mw79 mw80 mw74 mw81 pd_X1_isMoving rfl (by decide) rfl (Nat.le_of_ble_eq_true rfl) (sl_p (s2_0 h0) (sl_v sl_0)) st_0 dX1_sendAgain_1 ?_
  show J X B (E, κ1) 4 [(0, .inr (some (0, a0, 0))), (1, .inl (.int a1))] [.inl (.int r3)]
  refine J_if_eq O.mo (tgt := 19) dX1_sendAgain_4 (by decide) (fun hc4 => ?_) (fun hc4 => ?_)
  · replace h := (if_pos hc4).symm.trans h
    cases h
    exact hE _ _ dX1_sendAgain_19
  · replace h := (if_neg hc4).symm.trans h
    refine J_aload_n O.mo dX1_sendAgain_7 0 rfl ?_
    refine J_dup O.mo dX1_sendAgain_8 rfl ?_
    refine J_getF O.co (kd0 := 2) (k2_0 h0) (l2_0 h0) (C := RX1) (T := TX1) (N := 19) rfl (by decide) rfl in_X1 15 (by decide) (v := .inl (.int (kV κ1 0 a0 0 15))) rfl mw66 rfl dX1_sendAgain_9 ?_
    refine J_iconst O.mo (v := 1) dX1_sendAgain_12 (by decide) ?_
    refine J_iload_n O.mo dX1_sendAgain_13 1 rfl ?_
    refine J_ishl O.mo dX1_sendAgain_14 ?_
    refine J_ior O.mo dX1_sendAgain_15 ?_
    refine J_putI O.co (kd0 := 2) (k2_0 h0) (l2_0 h0) (C := RX1) (T := TX1) (N := 19) rfl (by decide) rfl in_X1 tyX1 tyX1_ok nmX1 15 (by decide) rfl rfl (x := ((kV κ1 0 a0 0 15) ||| (1 <<< (a1 &&& 31)))) (Or.inl rfl) mw66 dX1_sendAgain_16 ?_
    refine nm_some (P := fun z => J X B (E, z) 19 [(0, .inr (some (0, a0, 0))), (1, .inl (.int a1))] []) h (fun κ5 h => ?_)
    cases h
    exact hE _ _ dX1_sendAgain_19
theorem c_X1_sendAgain {l : Launch} (hfl : l.stackTraces = false) {E : EE} {κ κ' : K} {a0 : Nat} {a1 : Int32} (h0 : PC 2 E 0 a0 0) {rr : Unit} (h : f_X1_sendAgain E κ a0 a1 = some (κ', rr)) : Con l yX1_sendAgain cX1_sendAgain 2 none 2 20 [.inr (some (0, a0, 0)), .inl (.int a1)] (E, κ) (E, κ') none := by
  exact Con_of hfl (by decide +kernel) (Nat.le_of_ble_eq_true rfl) rfl rfl (fun X B g O hKP hmL hE => w_X1_sendAgain hfl O hKP hmL hE h0 _ _ h)
def f_X1_reach_b127 (E : EE) (a0 : Nat) (κ : K) (x1 : Int32) (x2 : Int32) : Option (K × Unit) := if x2 = 0 then some (κ, ()) else bd (f_X1_sendAgain E κ a0 x1) fun κ20 _ => some (κ20, ())
def f_X1_reach_b110 (E : EE) (a0 : Nat) (κ : K) (x1 : Int32) (x2 : Int32) (x4 : Int32) : Option (K × Unit) := optG (kP κ 0 a0 0 8) (cntE E 2) (none) (fun j11 => optG (kP κ 0 a0 0 8) (cntE E 2) (none) (fun j14 => gd (¬ (x4 < 0 ∨ 16 ≤ x4.toNatClampNeg)) (nm (setV κ 2 j11 3 x4.toNatClampNeg (kV κ 2 j14 0 5)) fun κ18 => f_X1_reach_b127 E a0 κ18 x1 x2)))
def f_X1_reach_b37 (E : EE) (a0 : Nat) (κ : K) (x1 : Int32) (x2 : Int32) (x3 : Int32) (xs0 : Int32) : Option (K × Unit) := bd (f_X1_countExit E κ a0 xs0) fun κ47 _ => nm (setV κ47 0 a0 0 14 ((kV κ47 0 a0 0 14) &&& ((1 <<< (x1 &&& 31)) ^^^ ((-1))))) fun κ50 => optG (kP κ50 0 a0 0 8) (cntE E 2) (none) (fun j51 => bd (f_X2_hold E κ50 j51 x3 ((-1))) fun κ54 _ => f_X1_reach_b127 E a0 κ54 x1 x2)
def f_X1_reach (E : EE) (κ : K) (a0 : Nat) (a1 : Int32) (a2 : Int32) : Option (K × Unit) := bd (f_X1_keyOf E κ a0 a1) fun κ1 r3 => optG (kP κ1 0 a0 0 8) (cntE E 2) (none) (fun j4 => gd (¬ (r3 < 0 ∨ 40 ≤ r3.toNatClampNeg)) (nm ((kV κ1 2 j4 1) r3.toNatClampNeg) fun y8 => if y8 = (-1) then bd (f_X1_isBare E κ1 a0 a1) fun κ43 r45 => if r45 = 0 then f_X1_reach_b37 E a0 κ43 a1 a2 r3 1 else f_X1_reach_b37 E a0 κ43 a1 a2 r3 0 else if a2 = 0 then f_X1_reach_b110 E a0 κ1 a1 a2 y8 else optG (kP κ1 0 a0 0 8) (cntE E 2) (none) (fun j23 => gd (¬ (y8 < 0 ∨ 16 ≤ y8.toNatClampNeg)) (if (kV κ1 2 j23 2) y8.toNatClampNeg ≤ 1 then f_X1_reach_b110 E a0 κ1 a1 a2 y8 else bd (f_X1_countExit E κ1 a0 2) fun κ28 _ => optG (kP κ28 0 a0 0 8) (cntE E 2) (none) (fun j31 => bd (f_X2_leave E κ28 j31 r3) fun κ34 _ => optG (kP κ34 0 a0 0 8) (cntE E 2) (none) (fun j37 => bd (f_X2_hold E κ34 j37 r3 y8) fun κ40 _ => f_X1_reach_b127 E a0 κ40 a1 a2))))))
set_option maxHeartbeats 4000000 in
set_option maxRecDepth 100000 in
theorem w_X1_reach_b127 {l0 : Launch} (hfl : l0.stackTraces = false) {X : MX} {B : BX (EE × K)} {g : GP} {E : EE} {κ' : K} {rr : Unit} {a0 : Nat} (O : CK l0 X B g cX1_reach RX1 3 46) (hKP : KPok B E) (hmL : B.2.2.2.1 = 5) (hE : ∀ (pc : Nat) (lv : List (Nat × AV)), decode cX1_reach pc = .ok (.return_, 1) → J X B (E, κ') pc lv []) (h0 : PC 2 E 0 a0 0) : ∀ (κ : K) (x1 : Int32) (x2 : Int32), f_X1_reach_b127 E a0 κ x1 x2 = some (κ', rr) → J X B (E, κ) 127 [(0, .inr (some (0, a0, 0))), (1, .inl (.int x1)), (2, .inl (.int x2))] [] := by
  intro κ x1 x2 h
  unfold f_X1_reach_b127 at h
  refine J_iload_n O.mo dX1_reach_127 2 rfl ?_
  refine J_if_eq O.mo (tgt := 136) dX1_reach_128 (by decide) (fun hc19 => ?_) (fun hc19 => ?_)
  · replace h := (if_pos hc19).symm.trans h
    cases h
    exact hE _ _ dX1_reach_136
  · replace h := (if_neg hc19).symm.trans h
    refine J_aload_n O.mo dX1_reach_131 0 rfl ?_
    refine J_iload_n O.mo dX1_reach_132 1 rfl ?_
    refine J_sub [] rfl ?_
    obtain ⟨κ20, r22, hq21, h⟩ := bd_some h
    refine J_callV O hKP (as := [.inl (.int x1)]) (rest := []) (r := none) (c_X1_sendAgain hfl h0 hq21) rfl (kd0 := 2) (k2_0 h0) (l2_0 h0) (T := TX1) (N := 19) rfl (by decide) mw84 mw85 mw86 mw74 mw87 pd_X1_sendAgain rfl (by decide) rfl (Nat.le_of_ble_eq_true rfl) sl_0 st_0 dX1_reach_133 ?_
    show J X B (E, κ20) 136 [] []
    cases h
    exact hE _ _ dX1_reach_136
set_option maxHeartbeats 4000000 in
set_option maxRecDepth 100000 in
theorem w_X1_reach_b110 {l0 : Launch} (hfl : l0.stackTraces = false) {X : MX} {B : BX (EE × K)} {g : GP} {E : EE} {κ' : K} {rr : Unit} {a0 : Nat} (O : CK l0 X B g cX1_reach RX1 3 46) (hKP : KPok B E) (hmL : B.2.2.2.1 = 5) (hE : ∀ (pc : Nat) (lv : List (Nat × AV)), decode cX1_reach pc = .ok (.return_, 1) → J X B (E, κ') pc lv []) (h0 : PC 2 E 0 a0 0) : ∀ (κ : K) (x1 : Int32) (x2 : Int32) (x4 : Int32), f_X1_reach_b110 E a0 κ x1 x2 x4 = some (κ', rr) → J X B (E, κ) 110 [(0, .inr (some (0, a0, 0))), (1, .inl (.int x1)), (2, .inl (.int x2)), (4, .inl (.int x4))] [] := by
  intro κ x1 x2 x4 h
  unfold f_X1_reach_b110 at h
  refine J_aload_n O.mo dX1_reach_110 0 rfl ?_
  replace h := optG_some h
  rcases h with ⟨ho13, h⟩ | ⟨j11, ho13, hj12, h⟩
  · cases h
  · refine J_getF O.co (kd0 := 2) (k2_0 h0) (l2_0 h0) (C := RX1) (T := TX1) (N := 19) rfl (by decide) rfl in_X1 8 (by decide) (v := .inr (some (2, j11, 0))) (by rw [ho13]; rfl) mw69 rfl dX1_reach_111 ?_
    refine J_getF O.co (kd0 := 3) (k3_0 (⟨hj12, rfl⟩ : PC 3 E 2 j11 0)) (l3_0 (⟨hj12, rfl⟩ : PC 3 E 2 j11 0)) (C := RX2) (T := TX2) (N := 8) rfl (by decide) rfl in_X2 3 (by decide) (v := .inr (some (2, j11, 3))) rfl mw82 rfl dX1_reach_114 ?_
    refine J_iload O.mo dX1_reach_117 3 rfl ?_
    refine J_aload_n O.mo dX1_reach_119 0 rfl ?_
    replace h := optG_some h
    rcases h with ⟨ho16, h⟩ | ⟨j14, ho16, hj15, h⟩
    · cases h
    · refine J_getF O.co (kd0 := 2) (k2_0 h0) (l2_0 h0) (C := RX1) (T := TX1) (N := 19) rfl (by decide) rfl in_X1 8 (by decide) (v := .inr (some (2, j14, 0))) (by rw [ho16]; rfl) mw69 rfl dX1_reach_120 ?_
      refine J_getF O.co (kd0 := 3) (k3_0 (⟨hj15, rfl⟩ : PC 3 E 2 j14 0)) (l3_0 (⟨hj15, rfl⟩ : PC 3 E 2 j14 0)) (C := RX2) (T := TX2) (N := 8) rfl (by decide) rfl in_X2 5 (by decide) (v := .inl (.int (kV κ 2 j14 0 5))) rfl mw83 rfl dX1_reach_123 ?_
      obtain ⟨hg17, h⟩ := gd_some h
      refine row_20 O (l3_3 (⟨hj12, rfl⟩ : PC 3 E 2 j11 0)) (k3_3 (⟨hj12, rfl⟩ : PC 3 E 2 j11 0)) (n3_3 (⟨hj12, rfl⟩ : PC 3 E 2 j11 0)) hg17 (x := (kV κ 2 j14 0 5)) dX1_reach_126 ?_
      refine nm_some (P := fun z => J X B (E, z) 127 [(0, .inr (some (0, a0, 0))), (1, .inl (.int x1)), (2, .inl (.int x2)), (4, .inl (.int x4))] []) h (fun κ18 h => ?_)
      refine J_sub [0, 1, 2] rfl ?_
      exact w_X1_reach_b127 hfl O hKP hmL hE h0 _ _ _ h
set_option maxHeartbeats 4000000 in
set_option maxRecDepth 100000 in
theorem w_X1_reach_b37 {l0 : Launch} (hfl : l0.stackTraces = false) {X : MX} {B : BX (EE × K)} {g : GP} {E : EE} {κ' : K} {rr : Unit} {a0 : Nat} (O : CK l0 X B g cX1_reach RX1 3 46) (hKP : KPok B E) (hmL : B.2.2.2.1 = 5) (hE : ∀ (pc : Nat) (lv : List (Nat × AV)), decode cX1_reach pc = .ok (.return_, 1) → J X B (E, κ') pc lv []) (h0 : PC 2 E 0 a0 0) : ∀ (κ : K) (x1 : Int32) (x2 : Int32) (x3 : Int32) (xs0 : Int32), f_X1_reach_b37 E a0 κ x1 x2 x3 xs0 = some (κ', rr) → J X B (E, κ) 37 [(0, .inr (some (0, a0, 0))), (1, .inl (.int x1)), (2, .inl (.int x2)), (3, .inl (.int x3))] [.inl (.int xs0), .inr (some (0, a0, 0))] := by
  intro κ x1 x2 x3 xs0 h
  unfold f_X1_reach_b37 at h
  obtain ⟨κ47, r49, hq48, h⟩ := bd_some h
  refine J_callV O hKP (as := [.inl (.int xs0)]) (rest := []) (r := none) (c_X1_countExit hfl h0 hq48) rfl (kd0 := 2) (k2_0 h0) (l2_0 h0) (T := TX1) (N := 19) rfl (by decide) mw89 mw90 mw91 mw74 mw92 pd_X1_countExit rfl (by decide) rfl (Nat.le_of_ble_eq_true rfl) (sl_p (s2_0 h0) (sl_v (sl_v (sl_v sl_0)))) st_0 dX1_reach_37 ?_
  show J X B (E, κ47) 40 [(0, .inr (some (0, a0, 0))), (1, .inl (.int x1)), (2, .inl (.int x2)), (3, .inl (.int x3))] []
  refine J_aload_n O.mo dX1_reach_40 0 rfl ?_
  refine J_dup O.mo dX1_reach_41 rfl ?_
  refine J_getF O.co (kd0 := 2) (k2_0 h0) (l2_0 h0) (C := RX1) (T := TX1) (N := 19) rfl (by decide) rfl in_X1 14 (by decide) (v := .inl (.int (kV κ47 0 a0 0 14))) rfl mw67 rfl dX1_reach_42 ?_
  refine J_iconst O.mo (v := 1) dX1_reach_45 (by decide) ?_
  refine J_iload_n O.mo dX1_reach_46 1 rfl ?_
  refine J_ishl O.mo dX1_reach_47 ?_
  refine J_iconst O.mo (v := (-1)) dX1_reach_48 (by decide) ?_
  refine J_ixor O.mo dX1_reach_49 ?_
  refine J_iand O.mo dX1_reach_50 ?_
  refine J_putI O.co (kd0 := 2) (k2_0 h0) (l2_0 h0) (C := RX1) (T := TX1) (N := 19) rfl (by decide) rfl in_X1 tyX1 tyX1_ok nmX1 14 (by decide) rfl rfl (x := ((kV κ47 0 a0 0 14) &&& ((1 <<< (x1 &&& 31)) ^^^ ((-1))))) (Or.inl rfl) mw67 dX1_reach_51 ?_
  refine nm_some (P := fun z => J X B (E, z) 54 [(0, .inr (some (0, a0, 0))), (1, .inl (.int x1)), (2, .inl (.int x2)), (3, .inl (.int x3))] []) h (fun κ50 h => ?_)
  refine J_aload_n O.mo dX1_reach_54 0 rfl ?_
  replace h := optG_some h
  rcases h with ⟨ho53, h⟩ | ⟨j51, ho53, hj52, h⟩
  · cases h
  · refine J_getF O.co (kd0 := 2) (k2_0 h0) (l2_0 h0) (C := RX1) (T := TX1) (N := 19) rfl (by decide) rfl in_X1 8 (by decide) (v := .inr (some (2, j51, 0))) (by rw [ho53]; rfl) mw69 rfl dX1_reach_55 ?_
    refine J_iload_n O.mo dX1_reach_58 3 rfl ?_
    refine J_iconst O.mo (v := (-1)) dX1_reach_59 (by decide) ?_
    refine J_sub [0, 1, 2] rfl ?_
    obtain ⟨κ54, r56, hq55, h⟩ := bd_some h
    refine J_callV O hKP (as := [.inl (.int x3), .inl (.int ((-1)))]) (rest := []) (r := none) (c_X2_hold hfl (⟨hj52, rfl⟩ : PC 3 E 2 j51 0) hq55) rfl (kd0 := 3) (k3_0 (⟨hj52, rfl⟩ : PC 3 E 2 j51 0)) (l3_0 (⟨hj52, rfl⟩ : PC 3 E 2 j51 0)) (T := TX2) (N := 8) rfl (by decide) mw97 mw98 mw99 mw10 mw100 pd_X2_hold rfl (by decide) rfl (Nat.le_of_ble_eq_true rfl) (sl_p (s2_0 h0) (sl_v (sl_v sl_0))) st_0 dX1_reach_60 ?_
    show J X B (E, κ54) 63 [(0, .inr (some (0, a0, 0))), (1, .inl (.int x1)), (2, .inl (.int x2))] []
    refine J_goto O.mo (tgt := 127) dX1_reach_63 (by decide) ?_
    exact w_X1_reach_b127 hfl O hKP hmL hE h0 _ _ _ h
set_option maxHeartbeats 4000000 in
set_option maxRecDepth 100000 in
theorem w_X1_reach {l0 : Launch} (hfl : l0.stackTraces = false) {X : MX} {B : BX (EE × K)} {g : GP} {E : EE} {κ' : K} {rr : Unit} {a0 : Nat} (O : CK l0 X B g cX1_reach RX1 3 46) (hKP : KPok B E) (hmL : B.2.2.2.1 = 5) (hE : ∀ (pc : Nat) (lv : List (Nat × AV)), decode cX1_reach pc = .ok (.return_, 1) → J X B (E, κ') pc lv []) (h0 : PC 2 E 0 a0 0) : ∀ (κ : K) (a1 : Int32) (a2 : Int32), f_X1_reach E κ a0 a1 a2 = some (κ', rr) → J X B (E, κ) 0 [(0, .inr (some (0, a0, 0))), (1, .inl (.int a1)), (2, .inl (.int a2))] [] := by
  intro κ a1 a2 h
  unfold f_X1_reach at h
  refine J_aload_n O.mo dX1_reach_0 0 rfl ?_
  refine J_iload_n O.mo dX1_reach_1 1 rfl ?_
  obtain ⟨κ1, r3, hq2, h⟩ := bd_some h
  refine J_callV O hKP (as := [.inl (.int a1)]) (rest := []) (r := (some (.inl (.int r3)))) (c_X1_keyOf hfl h0 hq2) rfl (kd0 := 2) (k2_0 h0) (l2_0 h0) (T := TX1) (N := 19) rfl (by decide) mw71 mw72 mw73 mw74 mw75 pd_X1_keyOf rfl (by decide) rfl (Nat.le_of_ble_eq_true rfl) (sl_p (s2_0 h0) (sl_v (sl_v sl_0))) st_0 dX1_reach_2 ?_
  show J X B (E, κ1) 5 [(0, .inr (some (0, a0, 0))), (1, .inl (.int a1)), (2, .inl (.int a2))] [.inl (.int r3)]
  refine J_istore_n O.mo (lv' := [(0, .inr (some (0, a0, 0))), (1, .inl (.int a1)), (2, .inl (.int a2))]) dX1_reach_5 (by rw [hmL]; decide) rfl rfl ?_
  refine J_aload_n O.mo dX1_reach_6 1 rfl ?_
  replace h := optG_some h
  rcases h with ⟨ho6, h⟩ | ⟨j4, ho6, hj5, h⟩
  · cases h
  · refine J_getF O.co (kd0 := 2) (k2_0 h0) (l2_0 h0) (C := RX1) (T := TX1) (N := 19) rfl (by decide) rfl in_X1 8 (by decide) (v := .inr (some (2, j4, 0))) (by rw [ho6]; rfl) mw69 rfl dX1_reach_7 ?_
    refine J_getF O.co (kd0 := 3) (k3_0 (⟨hj5, rfl⟩ : PC 3 E 2 j4 0)) (l3_0 (⟨hj5, rfl⟩ : PC 3 E 2 j4 0)) (C := RX2) (T := TX2) (N := 8) rfl (by decide) rfl in_X2 1 (by decide) (v := .inr (some (2, j4, 1))) rfl mw70 rfl dX1_reach_10 ?_
    refine J_iload_n O.mo dX1_reach_13 0 rfl ?_
    obtain ⟨hg7, h⟩ := gd_some h
    refine J_iald O.co (g := (kV κ1 2 j4 1)) (ct_20n (l3_1 (⟨hj5, rfl⟩ : PC 3 E 2 j4 0)) (k3_1 (⟨hj5, rfl⟩ : PC 3 E 2 j4 0)) (n3_1 (⟨hj5, rfl⟩ : PC 3 E 2 j4 0))) hg7 dX1_reach_14 ?_
    refine J_istore O.mo (lv' := [(3, .inl (.int r3)), (0, .inr (some (0, a0, 0))), (1, .inl (.int a1)), (2, .inl (.int a2))]) dX1_reach_15 (by rw [hmL]; decide) rfl rfl ?_
    refine nm_some (P := fun z => J X B (E, κ1) 17 [(4, .inl (.int z)), (3, .inl (.int r3)), (0, .inr (some (0, a0, 0))), (1, .inl (.int a1)), (2, .inl (.int a2))] []) h (fun y8 h => ?_)
    refine J_iload O.mo dX1_reach_17 0 rfl ?_
    refine J_iconst O.mo (v := (-1)) dX1_reach_19 (by decide) ?_
    refine J_icmp_ne O.mo (tgt := 66) dX1_reach_20 (by decide) (fun hc9 => ?_) (fun hc9 => ?_)
    · replace h := (if_neg hc9).symm.trans h
      refine J_iload_n O.mo dX1_reach_66 4 rfl ?_
      refine J_if_eq O.mo (tgt := 110) dX1_reach_67 (by decide) (fun hc10 => ?_) (fun hc10 => ?_)
      · replace h := (if_pos hc10).symm.trans h
        refine J_sub [2, 3, 4, 0] rfl ?_
        exact w_X1_reach_b110 hfl O hKP hmL hE h0 _ _ _ _ h
      · replace h := (if_neg hc10).symm.trans h
        refine J_aload_n O.mo dX1_reach_70 2 rfl ?_
        replace h := optG_some h
        rcases h with ⟨ho25, h⟩ | ⟨j23, ho25, hj24, h⟩
        · cases h
        · refine J_getF O.co (kd0 := 2) (k2_0 h0) (l2_0 h0) (C := RX1) (T := TX1) (N := 19) rfl (by decide) rfl in_X1 8 (by decide) (v := .inr (some (2, j23, 0))) (by rw [ho25]; rfl) mw69 rfl dX1_reach_71 ?_
          refine J_getF O.co (kd0 := 3) (k3_0 (⟨hj24, rfl⟩ : PC 3 E 2 j23 0)) (l3_0 (⟨hj24, rfl⟩ : PC 3 E 2 j23 0)) (C := RX2) (T := TX2) (N := 8) rfl (by decide) rfl in_X2 2 (by decide) (v := .inr (some (2, j23, 2))) rfl mw88 rfl dX1_reach_74 ?_
          refine J_iload O.mo dX1_reach_77 0 rfl ?_
          obtain ⟨hg26, h⟩ := gd_some h
          refine J_iald O.co (g := (kV κ1 2 j23 2)) (ct_20n (l3_2 (⟨hj24, rfl⟩ : PC 3 E 2 j23 0)) (k3_2 (⟨hj24, rfl⟩ : PC 3 E 2 j23 0)) (n3_2 (⟨hj24, rfl⟩ : PC 3 E 2 j23 0))) hg26 dX1_reach_79 ?_
          refine J_iconst O.mo (v := 1) dX1_reach_80 (by decide) ?_
          refine J_icmp_le O.mo (tgt := 110) dX1_reach_81 (by decide) (fun hc27 => ?_) (fun hc27 => ?_)
          · replace h := (if_pos hc27).symm.trans h
            refine J_sub [2, 3, 4, 0] rfl ?_
            exact w_X1_reach_b110 hfl O hKP hmL hE h0 _ _ _ _ h
          · replace h := (if_neg hc27).symm.trans h
            refine J_aload_n O.mo dX1_reach_84 2 rfl ?_
            refine J_iconst O.mo (v := 2) dX1_reach_85 (by decide) ?_
            obtain ⟨κ28, r30, hq29, h⟩ := bd_some h
            refine J_callV O hKP (as := [.inl (.int 2)]) (rest := []) (r := none) (c_X1_countExit hfl h0 hq29) rfl (kd0 := 2) (k2_0 h0) (l2_0 h0) (T := TX1) (N := 19) rfl (by decide) mw89 mw90 mw91 mw74 mw92 pd_X1_countExit rfl (by decide) rfl (Nat.le_of_ble_eq_true rfl) (sl_v (sl_v (sl_p (s2_0 h0) (sl_v (sl_v sl_0))))) st_0 dX1_reach_86 ?_
            show J X B (E, κ28) 89 [(4, .inl (.int y8)), (3, .inl (.int r3)), (0, .inr (some (0, a0, 0))), (1, .inl (.int a1)), (2, .inl (.int a2))] []
            refine J_aload_n O.mo dX1_reach_89 2 rfl ?_
            replace h := optG_some h
            rcases h with ⟨ho33, h⟩ | ⟨j31, ho33, hj32, h⟩
            · cases h
            · refine J_getF O.co (kd0 := 2) (k2_0 h0) (l2_0 h0) (C := RX1) (T := TX1) (N := 19) rfl (by decide) rfl in_X1 8 (by decide) (v := .inr (some (2, j31, 0))) (by rw [ho33]; rfl) mw69 rfl dX1_reach_90 ?_
              refine J_iload_n O.mo dX1_reach_93 1 rfl ?_
              obtain ⟨κ34, r36, hq35, h⟩ := bd_some h
              refine J_callV O hKP (as := [.inl (.int r3)]) (rest := []) (r := none) (c_X2_leave hfl (⟨hj32, rfl⟩ : PC 3 E 2 j31 0) hq35) rfl (kd0 := 3) (k3_0 (⟨hj32, rfl⟩ : PC 3 E 2 j31 0)) (l3_0 (⟨hj32, rfl⟩ : PC 3 E 2 j31 0)) (T := TX2) (N := 8) rfl (by decide) mw93 mw94 mw95 mw10 mw96 pd_X2_leave rfl (by decide) rfl (Nat.le_of_ble_eq_true rfl) (sl_v (sl_v (sl_p (s2_0 h0) (sl_v (sl_v sl_0))))) st_0 dX1_reach_94 ?_
              show J X B (E, κ34) 97 [(4, .inl (.int y8)), (3, .inl (.int r3)), (0, .inr (some (0, a0, 0))), (1, .inl (.int a1)), (2, .inl (.int a2))] []
              refine J_aload_n O.mo dX1_reach_97 2 rfl ?_
              replace h := optG_some h
              rcases h with ⟨ho39, h⟩ | ⟨j37, ho39, hj38, h⟩
              · cases h
              · refine J_getF O.co (kd0 := 2) (k2_0 h0) (l2_0 h0) (C := RX1) (T := TX1) (N := 19) rfl (by decide) rfl in_X1 8 (by decide) (v := .inr (some (2, j37, 0))) (by rw [ho39]; rfl) mw69 rfl dX1_reach_98 ?_
                refine J_iload_n O.mo dX1_reach_101 1 rfl ?_
                refine J_iload O.mo dX1_reach_102 0 rfl ?_
                refine J_sub [2, 3, 4] rfl ?_
                obtain ⟨κ40, r42, hq41, h⟩ := bd_some h
                refine J_callV O hKP (as := [.inl (.int r3), .inl (.int y8)]) (rest := []) (r := none) (c_X2_hold hfl (⟨hj38, rfl⟩ : PC 3 E 2 j37 0) hq41) rfl (kd0 := 3) (k3_0 (⟨hj38, rfl⟩ : PC 3 E 2 j37 0)) (l3_0 (⟨hj38, rfl⟩ : PC 3 E 2 j37 0)) (T := TX2) (N := 8) rfl (by decide) mw97 mw98 mw99 mw10 mw100 pd_X2_hold rfl (by decide) rfl (Nat.le_of_ble_eq_true rfl) (sl_p (s2_0 h0) (sl_v (sl_v sl_0))) st_0 dX1_reach_104 ?_
                show J X B (E, κ40) 107 [(0, .inr (some (0, a0, 0))), (1, .inl (.int a1)), (2, .inl (.int a2))] []
                refine J_goto O.mo (tgt := 127) dX1_reach_107 (by decide) ?_
                exact w_X1_reach_b127 hfl O hKP hmL hE h0 _ _ _ h
    · replace h := (if_pos hc9).symm.trans h
      refine J_aload_n O.mo dX1_reach_23 2 rfl ?_
      refine J_aload_n O.mo dX1_reach_24 2 rfl ?_
      refine J_iload_n O.mo dX1_reach_25 3 rfl ?_
      refine J_sub [1, 2, 3, 4] rfl ?_
      obtain ⟨κ43, r45, hq44, h⟩ := bd_some h
      refine J_callV O hKP (as := [.inl (.int a1)]) (rest := [.inr (some (0, a0, 0))]) (r := (some (.inl (.int r45)))) (c_X1_isBare hfl h0 hq44) rfl (kd0 := 2) (k2_0 h0) (l2_0 h0) (T := TX1) (N := 19) rfl (by decide) mw101 mw102 mw103 mw74 mw104 pd_X1_isBare rfl (by decide) rfl (Nat.le_of_ble_eq_true rfl) (sl_v (sl_p (s2_0 h0) (sl_v (sl_v sl_0)))) (st_p (s2_0 h0) st_0) dX1_reach_26 ?_
      show J X B (E, κ43) 29 [(3, .inl (.int r3)), (0, .inr (some (0, a0, 0))), (1, .inl (.int a1)), (2, .inl (.int a2))] [.inl (.int r45), .inr (some (0, a0, 0))]
      refine J_if_eq O.mo (tgt := 36) dX1_reach_29 (by decide) (fun hc46 => ?_) (fun hc46 => ?_)
      · replace h := (if_pos hc46).symm.trans h
        refine J_iconst O.mo (v := 1) dX1_reach_36 (by decide) ?_
        refine J_sub [1, 2, 3, 0] rfl ?_
        exact w_X1_reach_b37 hfl O hKP hmL hE h0 _ _ _ _ _ h
      · replace h := (if_neg hc46).symm.trans h
        refine J_iconst O.mo (v := 0) dX1_reach_32 (by decide) ?_
        refine J_goto O.mo (tgt := 37) dX1_reach_33 (by decide) ?_
        refine J_sub [1, 2, 3, 0] rfl ?_
        exact w_X1_reach_b37 hfl O hKP hmL hE h0 _ _ _ _ _ h
theorem c_X1_reach {l : Launch} (hfl : l.stackTraces = false) {E : EE} {κ κ' : K} {a0 : Nat} {a1 : Int32} {a2 : Int32} (h0 : PC 2 E 0 a0 0) {rr : Unit} (h : f_X1_reach E κ a0 a1 a2 = some (κ', rr)) : Con l yX1_reach cX1_reach 5 none 3 46 [.inr (some (0, a0, 0)), .inl (.int a1), .inl (.int a2)] (E, κ) (E, κ') none := by
  exact Con_of hfl (by decide +kernel) (Nat.le_of_ble_eq_true rfl) rfl rfl (fun X B g O hKP hmL hE => w_X1_reach hfl O hKP hmL hE h0 _ _ _ h)
def f_X1_giveBack (E : EE) (κ : K) (a0 : Nat) (a1 : Int32) : Option (K × Unit) := optG (kP κ 0 a0 0 8) (cntE E 2) (none) (fun j1 => bd (f_X1_keyOf E κ a0 a1) fun κ4 r6 => bd (f_X2_leave E κ4 j1 r6) fun κ7 _ => nm (setV κ7 0 a0 0 14 ((kV κ7 0 a0 0 14) ||| (1 <<< (a1 &&& 31)))) fun κ10 => bd (f_X1_sendAgain E κ10 a0 a1) fun κ11 _ => some (κ11, ()))
set_option maxHeartbeats 4000000 in
set_option maxRecDepth 100000 in
theorem w_X1_giveBack {l0 : Launch} (hfl : l0.stackTraces = false) {X : MX} {B : BX (EE × K)} {g : GP} {E : EE} {κ' : K} {rr : Unit} {a0 : Nat} (O : CK l0 X B g cX1_giveBack RX1 3 41) (hKP : KPok B E) (hmL : B.2.2.2.1 = 2) (hE : ∀ (pc : Nat) (lv : List (Nat × AV)), decode cX1_giveBack pc = .ok (.return_, 1) → J X B (E, κ') pc lv []) (h0 : PC 2 E 0 a0 0) : ∀ (κ : K) (a1 : Int32), f_X1_giveBack E κ a0 a1 = some (κ', rr) → J X B (E, κ) 0 [(0, .inr (some (0, a0, 0))), (1, .inl (.int a1))] [] := by
  intro κ a1 h
  unfold f_X1_giveBack at h
  refine J_aload_n O.mo dX1_giveBack_0 0 rfl ?_
  replace h := optG_some h
  rcases h with ⟨ho3, h⟩ | ⟨j1, ho3, hj2, h⟩
  · cases h
  · refine J_getF O.co (kd0 := 2) (k2_0 h0) (l2_0 h0) (C := RX1) (T := TX1) (N := 19) rfl (by decide) rfl in_X1 8 (by decide) (v := .inr (some (2, j1, 0))) (by rw [ho3]; rfl) mw69 rfl dX1_giveBack_1 ?_
    refine J_aload_n O.mo dX1_giveBack_4 0 rfl ?_
    refine J_iload_n O.mo dX1_giveBack_5 1 rfl ?_
    obtain ⟨κ4, r6, hq5, h⟩ := bd_some h
    refine J_callV O hKP (as := [.inl (.int a1)]) (rest := [.inr (some (2, j1, 0))]) (r := (some (.inl (.int r6)))) (c_X1_keyOf hfl h0 hq5) rfl (kd0 := 2) (k2_0 h0) (l2_0 h0) (T := TX1) (N := 19) rfl (by decide) mw71 mw72 mw73 mw74 mw75 pd_X1_keyOf rfl (by decide) rfl (Nat.le_of_ble_eq_true rfl) (sl_p (s2_0 h0) (sl_v sl_0)) (st_p (s3_0 (⟨hj2, rfl⟩ : PC 3 E 2 j1 0)) st_0) dX1_giveBack_6 ?_
    show J X B (E, κ4) 9 [(0, .inr (some (0, a0, 0))), (1, .inl (.int a1))] [.inl (.int r6), .inr (some (2, j1, 0))]
    obtain ⟨κ7, r9, hq8, h⟩ := bd_some h
    refine J_callV O hKP (as := [.inl (.int r6)]) (rest := []) (r := none) (c_X2_leave hfl (⟨hj2, rfl⟩ : PC 3 E 2 j1 0) hq8) rfl (kd0 := 3) (k3_0 (⟨hj2, rfl⟩ : PC 3 E 2 j1 0)) (l3_0 (⟨hj2, rfl⟩ : PC 3 E 2 j1 0)) (T := TX2) (N := 8) rfl (by decide) mw93 mw94 mw95 mw10 mw96 pd_X2_leave rfl (by decide) rfl (Nat.le_of_ble_eq_true rfl) (sl_p (s2_0 h0) (sl_v sl_0)) st_0 dX1_giveBack_9 ?_
    show J X B (E, κ7) 12 [(0, .inr (some (0, a0, 0))), (1, .inl (.int a1))] []
    refine J_aload_n O.mo dX1_giveBack_12 0 rfl ?_
    refine J_dup O.mo dX1_giveBack_13 rfl ?_
    refine J_getF O.co (kd0 := 2) (k2_0 h0) (l2_0 h0) (C := RX1) (T := TX1) (N := 19) rfl (by decide) rfl in_X1 14 (by decide) (v := .inl (.int (kV κ7 0 a0 0 14))) rfl mw67 rfl dX1_giveBack_14 ?_
    refine J_iconst O.mo (v := 1) dX1_giveBack_17 (by decide) ?_
    refine J_iload_n O.mo dX1_giveBack_18 1 rfl ?_
    refine J_ishl O.mo dX1_giveBack_19 ?_
    refine J_ior O.mo dX1_giveBack_20 ?_
    refine J_putI O.co (kd0 := 2) (k2_0 h0) (l2_0 h0) (C := RX1) (T := TX1) (N := 19) rfl (by decide) rfl in_X1 tyX1 tyX1_ok nmX1 14 (by decide) rfl rfl (x := ((kV κ7 0 a0 0 14) ||| (1 <<< (a1 &&& 31)))) (Or.inl rfl) mw67 dX1_giveBack_21 ?_
    refine nm_some (P := fun z => J X B (E, z) 24 [(0, .inr (some (0, a0, 0))), (1, .inl (.int a1))] []) h (fun κ10 h => ?_)
    refine J_aload_n O.mo dX1_giveBack_24 0 rfl ?_
    refine J_iload_n O.mo dX1_giveBack_25 1 rfl ?_
    refine J_sub [] rfl ?_
    obtain ⟨κ11, r13, hq12, h⟩ := bd_some h
    refine J_callV O hKP (as := [.inl (.int a1)]) (rest := []) (r := none) (c_X1_sendAgain hfl h0 hq12) rfl (kd0 := 2) (k2_0 h0) (l2_0 h0) (T := TX1) (N := 19) rfl (by decide) mw84 mw85 mw86 mw74 mw87 pd_X1_sendAgain rfl (by decide) rfl (Nat.le_of_ble_eq_true rfl) sl_0 st_0 dX1_giveBack_26 ?_
    show J X B (E, κ11) 29 [] []
    cases h
    exact hE _ _ dX1_giveBack_29
theorem c_X1_giveBack {l : Launch} (hfl : l.stackTraces = false) {E : EE} {κ κ' : K} {a0 : Nat} {a1 : Int32} (h0 : PC 2 E 0 a0 0) {rr : Unit} (h : f_X1_giveBack E κ a0 a1 = some (κ', rr)) : Con l yX1_giveBack cX1_giveBack 2 none 3 41 [.inr (some (0, a0, 0)), .inl (.int a1)] (E, κ) (E, κ') none := by
  exact Con_of hfl (by decide +kernel) (Nat.le_of_ble_eq_true rfl) rfl rfl (fun X B g O hKP hmL hE => w_X1_giveBack hfl O hKP hmL hE h0 _ _ h)
def f_X1_takeFrom_b24 (E : EE) (a0 : Nat) (κ : K) (xs0 : Int32) : Option (K × Int32) := bd (f_X4_add E κ 0 a0 12 xs0) fun κ2 _ => some (κ2, xs0)
def f_X1_takeFrom (E : EE) (κ : K) (a0 : Nat) (a1 : Int32) : Option (K × Int32) := if a1 = 0 then bd (f_X4_takeFirst E κ 0 a0 10) fun κ5 r7 => f_X1_takeFrom_b24 E a0 κ5 r7 else f_X1_takeFrom_b24 E a0 κ (kV κ 0 a0 5 9)
set_option maxHeartbeats 4000000 in
set_option maxRecDepth 100000 in
theorem w_X1_takeFrom_b24 {l0 : Launch} (hfl : l0.stackTraces = false) {X : MX} {B : BX (EE × K)} {g : GP} {E : EE} {κ' : K} {rr : Int32} {a0 : Nat} (O : CK l0 X B g cX1_takeFrom RX1 4 143) (hKP : KPok B E) (hmL : B.2.2.2.1 = 3) (hE : ∀ (pc : Nat) (lv : List (Nat × AV)), decode cX1_takeFrom pc = .ok (.ireturn, 1) → J X B (E, κ') pc lv [.inl (.int rr)]) (h0 : PC 2 E 0 a0 0) : ∀ (κ : K) (xs0 : Int32), f_X1_takeFrom_b24 E a0 κ xs0 = some (κ', rr) → J X B (E, κ) 24 [(0, .inr (some (0, a0, 0)))] [.inl (.int xs0)] := by
  intro κ xs0 h
  unfold f_X1_takeFrom_b24 at h
  refine J_istore_n O.mo (lv' := [(0, .inr (some (0, a0, 0)))]) dX1_takeFrom_24 (by rw [hmL]; decide) rfl rfl ?_
  refine J_aload_n O.mo dX1_takeFrom_25 1 rfl ?_
  refine J_getF O.co (kd0 := 2) (k2_0 h0) (l2_0 h0) (C := RX1) (T := TX1) (N := 19) rfl (by decide) rfl in_X1 4 (by decide) (v := .inr (some (0, a0, 5))) rfl mw63 rfl dX1_takeFrom_26 ?_
  refine J_getF O.co (kd0 := 9) (k2_5 h0) (l2_5 h0) (C := RX8) (T := TX8) (N := 10) rfl (by decide) rfl in_X8 2 (by decide) (v := .inr (some (0, a0, 12))) rfl mw106 rfl dX1_takeFrom_29 ?_
  refine J_iload_n O.mo dX1_takeFrom_32 0 rfl ?_
  refine J_sub [0] rfl ?_
  obtain ⟨κ2, r4, hq3, h⟩ := bd_some h
  refine J_callV O hKP (as := [.inl (.int xs0)]) (rest := []) (r := none) (c_X4_add hfl (sub_2_12_5 h0) hq3) rfl (kd0 := 5) (k2_12 h0) (l2_12 h0) (T := TX4) (N := 2) rfl (by decide) mw107 mw54 mw55 mw56 mw57 pd_X4_add rfl (by decide) rfl (Nat.le_of_ble_eq_true rfl) (sl_v sl_0) st_0 dX1_takeFrom_33 ?_
  show J X B (E, κ2) 36 [(2, .inl (.int xs0))] []
  refine J_iload_n O.mo dX1_takeFrom_36 0 rfl ?_
  cases h
  exact hE _ _ dX1_takeFrom_37
set_option maxHeartbeats 4000000 in
set_option maxRecDepth 100000 in
theorem w_X1_takeFrom {l0 : Launch} (hfl : l0.stackTraces = false) {X : MX} {B : BX (EE × K)} {g : GP} {E : EE} {κ' : K} {rr : Int32} {a0 : Nat} (O : CK l0 X B g cX1_takeFrom RX1 4 143) (hKP : KPok B E) (hmL : B.2.2.2.1 = 3) (hE : ∀ (pc : Nat) (lv : List (Nat × AV)), decode cX1_takeFrom pc = .ok (.ireturn, 1) → J X B (E, κ') pc lv [.inl (.int rr)]) (h0 : PC 2 E 0 a0 0) : ∀ (κ : K) (a1 : Int32), f_X1_takeFrom E κ a0 a1 = some (κ', rr) → J X B (E, κ) 0 [(0, .inr (some (0, a0, 0))), (1, .inl (.int a1))] [] := by
  intro κ a1 h
  unfold f_X1_takeFrom at h
  refine J_iload_n O.mo dX1_takeFrom_0 1 rfl ?_
  refine J_if_ne O.mo (tgt := 17) dX1_takeFrom_1 (by decide) (fun hc1 => ?_) (fun hc1 => ?_)
  · replace h := (if_neg hc1).symm.trans h
    refine J_aload_n O.mo dX1_takeFrom_17 0 rfl ?_
    refine J_getF O.co (kd0 := 2) (k2_0 h0) (l2_0 h0) (C := RX1) (T := TX1) (N := 19) rfl (by decide) rfl in_X1 4 (by decide) (v := .inr (some (0, a0, 5))) rfl mw63 rfl dX1_takeFrom_18 ?_
    refine J_getF O.co (kd0 := 9) (k2_5 h0) (l2_5 h0) (C := RX8) (T := TX8) (N := 10) rfl (by decide) rfl in_X8 9 (by decide) (v := .inl (.int (kV κ 0 a0 5 9))) rfl mw105 rfl dX1_takeFrom_21 ?_
    refine J_sub [0] rfl ?_
    exact w_X1_takeFrom_b24 hfl O hKP hmL hE h0 _ _ h
  · replace h := (if_pos hc1).symm.trans h
    refine J_aload_n O.mo dX1_takeFrom_4 0 rfl ?_
    refine J_getF O.co (kd0 := 2) (k2_0 h0) (l2_0 h0) (C := RX1) (T := TX1) (N := 19) rfl (by decide) rfl in_X1 4 (by decide) (v := .inr (some (0, a0, 5))) rfl mw63 rfl dX1_takeFrom_5 ?_
    refine J_getF O.co (kd0 := 9) (k2_5 h0) (l2_5 h0) (C := RX8) (T := TX8) (N := 10) rfl (by decide) rfl in_X8 1 (by decide) (v := .inr (some (0, a0, 10))) rfl mw108 rfl dX1_takeFrom_8 ?_
    refine J_sub [0] rfl ?_
    obtain ⟨κ5, r7, hq6, h⟩ := bd_some h
    refine J_callV O hKP (as := []) (rest := []) (r := (some (.inl (.int r7)))) (c_X4_takeFirst hfl (sub_2_10_5 h0) hq6) rfl (kd0 := 5) (k2_10 h0) (l2_10 h0) (T := TX4) (N := 2) rfl (by decide) mw109 mw110 mw111 mw56 mw112 pd_X4_takeFirst rfl (by decide) rfl (Nat.le_of_ble_eq_true rfl) (sl_p (s2_0 h0) sl_0) st_0 dX1_takeFrom_11 ?_
    show J X B (E, κ5) 14 [(0, .inr (some (0, a0, 0)))] [.inl (.int r7)]
    refine J_goto O.mo (tgt := 24) dX1_takeFrom_14 (by decide) ?_
    exact w_X1_takeFrom_b24 hfl O hKP hmL hE h0 _ _ h
theorem c_X1_takeFrom {l : Launch} (hfl : l.stackTraces = false) {E : EE} {κ κ' : K} {a0 : Nat} {a1 : Int32} (h0 : PC 2 E 0 a0 0) {rr : Int32} (h : f_X1_takeFrom E κ a0 a1 = some (κ', rr)) : Con l yX1_takeFrom cX1_takeFrom 3 (some .int) 4 143 [.inr (some (0, a0, 0)), .inl (.int a1)] (E, κ) (E, κ') (some (.inl (.int rr))) := by
  exact Con_of hfl (by decide +kernel) (Nat.le_of_ble_eq_true rfl) rfl ⟨_, rfl, rfl⟩ (fun X B g O hKP hmL hE => w_X1_takeFrom hfl O hKP hmL hE h0 _ _ h)
def f_X1_tell (E : EE) (κ : K) (a0 : Nat) (a1 : Int32) (a2 : Int32) : Option (K × Unit) := if a1 = 0 then bd (f_X4_add E κ 0 a0 14 a2) fun κ2 _ => if kV κ2 0 a0 18 0 = 0 then bd (f_X4_add E κ2 0 a0 36 a2) fun κ6 _ => some (κ6, ()) else bd (f_X4_add E κ2 0 a0 34 a2) fun κ9 _ => some (κ9, ()) else nm (setV κ 0 a0 5 6 a2) fun κ12 => some (κ12, ())
set_option maxHeartbeats 4000000 in
set_option maxRecDepth 100000 in
theorem w_X1_tell {l0 : Launch} (hfl : l0.stackTraces = false) {X : MX} {B : BX (EE × K)} {g : GP} {E : EE} {κ' : K} {rr : Unit} {a0 : Nat} (O : CK l0 X B g cX1_tell RX1 4 143) (hKP : KPok B E) (hmL : B.2.2.2.1 = 3) (hE : ∀ (pc : Nat) (lv : List (Nat × AV)), decode cX1_tell pc = .ok (.return_, 1) → J X B (E, κ') pc lv []) (h0 : PC 2 E 0 a0 0) : ∀ (κ : K) (a1 : Int32) (a2 : Int32), f_X1_tell E κ a0 a1 a2 = some (κ', rr) → J X B (E, κ) 0 [(0, .inr (some (0, a0, 0))), (1, .inl (.int a1)), (2, .inl (.int a2))] [] := by
  intro κ a1 a2 h
  unfold f_X1_tell at h
  refine J_iload_n O.mo dX1_tell_0 1 rfl ?_
  refine J_if_eq O.mo (tgt := 13) dX1_tell_1 (by decide) (fun hc1 => ?_) (fun hc1 => ?_)
  · replace h := (if_pos hc1).symm.trans h
    refine J_aload_n O.mo dX1_tell_13 0 rfl ?_
    refine J_getF O.co (kd0 := 2) (k2_0 h0) (l2_0 h0) (C := RX1) (T := TX1) (N := 19) rfl (by decide) rfl in_X1 4 (by decide) (v := .inr (some (0, a0, 5))) rfl mw63 rfl dX1_tell_14 ?_
    refine J_getF O.co (kd0 := 9) (k2_5 h0) (l2_5 h0) (C := RX8) (T := TX8) (N := 10) rfl (by decide) rfl in_X8 3 (by decide) (v := .inr (some (0, a0, 14))) rfl mw113 rfl dX1_tell_17 ?_
    refine J_iload_n O.mo dX1_tell_20 2 rfl ?_
    refine J_sub [0, 2] rfl ?_
    obtain ⟨κ2, r4, hq3, h⟩ := bd_some h
    refine J_callV O hKP (as := [.inl (.int a2)]) (rest := []) (r := none) (c_X4_add hfl (sub_2_14_5 h0) hq3) rfl (kd0 := 5) (k2_14 h0) (l2_14 h0) (T := TX4) (N := 2) rfl (by decide) mw107 mw54 mw55 mw56 mw57 pd_X4_add rfl (by decide) rfl (Nat.le_of_ble_eq_true rfl) (sl_p (s2_0 h0) (sl_v sl_0)) st_0 dX1_tell_21 ?_
    show J X B (E, κ2) 24 [(0, .inr (some (0, a0, 0))), (2, .inl (.int a2))] []
    refine J_aload_n O.mo dX1_tell_24 0 rfl ?_
    refine J_getF O.co (kd0 := 2) (k2_0 h0) (l2_0 h0) (C := RX1) (T := TX1) (N := 19) rfl (by decide) rfl in_X1 5 (by decide) (v := .inr (some (0, a0, 18))) rfl mw114 rfl dX1_tell_25 ?_
    refine J_getF O.co (kd0 := 1) (k2_18 h0) (l2_18 h0) (C := RX0) (T := TX0) (N := 4) rfl (by decide) rfl in_X0 0 (by decide) (v := .inl (.int (kV κ2 0 a0 18 0))) rfl mw115 rfl dX1_tell_28 ?_
    refine J_if_eq O.mo (tgt := 48) dX1_tell_31 (by decide) (fun hc5 => ?_) (fun hc5 => ?_)
    · replace h := (if_pos hc5).symm.trans h
      refine J_aload_n O.mo dX1_tell_48 0 rfl ?_
      refine J_getF O.co (kd0 := 2) (k2_0 h0) (l2_0 h0) (C := RX1) (T := TX1) (N := 19) rfl (by decide) rfl in_X1 6 (by decide) (v := .inr (some (0, a0, 36))) rfl mw116 rfl dX1_tell_49 ?_
      refine J_iload_n O.mo dX1_tell_52 1 rfl ?_
      refine J_sub [] rfl ?_
      obtain ⟨κ6, r8, hq7, h⟩ := bd_some h
      refine J_callV O hKP (as := [.inl (.int a2)]) (rest := []) (r := none) (c_X4_add hfl (sub_2_36_5 h0) hq7) rfl (kd0 := 5) (k2_36 h0) (l2_36 h0) (T := TX4) (N := 2) rfl (by decide) mw107 mw54 mw55 mw56 mw57 pd_X4_add rfl (by decide) rfl (Nat.le_of_ble_eq_true rfl) sl_0 st_0 dX1_tell_53 ?_
      show J X B (E, κ6) 56 [] []
      cases h
      exact hE _ _ dX1_tell_56
    · replace h := (if_neg hc5).symm.trans h
      refine J_aload_n O.mo dX1_tell_34 0 rfl ?_
      refine J_getF O.co (kd0 := 2) (k2_0 h0) (l2_0 h0) (C := RX1) (T := TX1) (N := 19) rfl (by decide) rfl in_X1 5 (by decide) (v := .inr (some (0, a0, 18))) rfl mw114 rfl dX1_tell_35 ?_
      refine J_getF O.co (kd0 := 1) (k2_18 h0) (l2_18 h0) (C := RX0) (T := TX0) (N := 4) rfl (by decide) rfl in_X0 3 (by decide) (v := .inr (some (0, a0, 34))) rfl mw117 rfl dX1_tell_38 ?_
      refine J_iload_n O.mo dX1_tell_41 1 rfl ?_
      refine J_sub [] rfl ?_
      obtain ⟨κ9, r11, hq10, h⟩ := bd_some h
      refine J_callV O hKP (as := [.inl (.int a2)]) (rest := []) (r := none) (c_X4_add hfl (sub_2_34_5 h0) hq10) rfl (kd0 := 5) (k2_34 h0) (l2_34 h0) (T := TX4) (N := 2) rfl (by decide) mw107 mw54 mw55 mw56 mw57 pd_X4_add rfl (by decide) rfl (Nat.le_of_ble_eq_true rfl) sl_0 st_0 dX1_tell_42 ?_
      show J X B (E, κ9) 45 [] []
      refine J_goto O.mo (tgt := 56) dX1_tell_45 (by decide) ?_
      cases h
      exact hE _ _ dX1_tell_56
  · replace h := (if_neg hc1).symm.trans h
    refine J_aload_n O.mo dX1_tell_4 0 rfl ?_
    refine J_getF O.co (kd0 := 2) (k2_0 h0) (l2_0 h0) (C := RX1) (T := TX1) (N := 19) rfl (by decide) rfl in_X1 4 (by decide) (v := .inr (some (0, a0, 5))) rfl mw63 rfl dX1_tell_5 ?_
    refine J_iload_n O.mo dX1_tell_8 2 rfl ?_
    refine J_putI O.co (kd0 := 9) (k2_5 h0) (l2_5 h0) (C := RX8) (T := TX8) (N := 10) rfl (by decide) rfl in_X8 tyX8 tyX8_ok nmX8 6 (by decide) rfl rfl (x := a2) (Or.inl rfl) mw118 dX1_tell_9 ?_
    refine nm_some (P := fun z => J X B (E, z) 12 [(0, .inr (some (0, a0, 0))), (1, .inl (.int a1)), (2, .inl (.int a2))] []) h (fun κ12 h => ?_)
    cases h
    exact hE _ _ dX1_tell_12
theorem c_X1_tell {l : Launch} (hfl : l.stackTraces = false) {E : EE} {κ κ' : K} {a0 : Nat} {a1 : Int32} {a2 : Int32} (h0 : PC 2 E 0 a0 0) {rr : Unit} (h : f_X1_tell E κ a0 a1 a2 = some (κ', rr)) : Con l yX1_tell cX1_tell 3 none 4 143 [.inr (some (0, a0, 0)), .inl (.int a1), .inl (.int a2)] (E, κ) (E, κ') none := by
  exact Con_of hfl (by decide +kernel) (Nat.le_of_ble_eq_true rfl) rfl rfl (fun X B g O hKP hmL hE => w_X1_tell hfl O hKP hmL hE h0 _ _ _ h)
def f_X8_isInterruptPending_b14 (E : EE) (f0 : Nat) (i0 : Nat) (c0 : Nat) (κ : K) : Option (K × Int32) := some (κ, 1)
def f_X8_isInterruptPending_e (E : EE) (κ : K) (f0 : Nat) (i0 : Nat) (c0 : Nat) : Option (K × Int32) := if kV κ f0 i0 c0 7 = 0 then if kV κ f0 i0 c0 8 = 0 then some (κ, 0) else f_X8_isInterruptPending_b14 E f0 i0 c0 κ else f_X8_isInterruptPending_b14 E f0 i0 c0 κ
def f_X8_isInterruptPending (E : EE) (κ : K) (f0 : Nat) (i0 : Nat) (c0 : Nat) : Option (K × Int32) := bd (f_X8_isInterruptPending_e E κ f0 i0 c0) fun κ x => gd (x = 0 ∨ x = 1) (some (κ, x))
set_option maxHeartbeats 4000000 in
set_option maxRecDepth 100000 in
theorem w_X8_isInterruptPending_b14 {l0 : Launch} (hfl : l0.stackTraces = false) {X : MX} {B : BX (EE × K)} {g : GP} {E : EE} {κ' : K} {rr : Int32} {f0 : Nat} {i0 : Nat} {c0 : Nat} (O : CK l0 X B g cX8_isInterruptPending RX8 1 0) (hKP : KPok B E) (hmL : B.2.2.2.1 = 1) (hE : ∀ (pc : Nat) (lv : List (Nat × AV)), decode cX8_isInterruptPending pc = .ok (.ireturn, 1) → J X B (E, κ') pc lv [.inl (.int rr)]) (h0 : PC 9 E f0 i0 c0) : ∀ (κ : K), f_X8_isInterruptPending_b14 E f0 i0 c0 κ = some (κ', rr) → J X B (E, κ) 14 [] [] := by
  intro κ h
  unfold f_X8_isInterruptPending_b14 at h
  refine J_iconst O.mo (v := 1) dX8_isInterruptPending_14 (by decide) ?_
  refine J_goto O.mo (tgt := 19) dX8_isInterruptPending_15 (by decide) ?_
  cases h
  exact hE _ _ dX8_isInterruptPending_19
set_option maxHeartbeats 4000000 in
set_option maxRecDepth 100000 in
theorem w_X8_isInterruptPending_e {l0 : Launch} (hfl : l0.stackTraces = false) {X : MX} {B : BX (EE × K)} {g : GP} {E : EE} {κ' : K} {rr : Int32} {f0 : Nat} {i0 : Nat} {c0 : Nat} (O : CK l0 X B g cX8_isInterruptPending RX8 1 0) (hKP : KPok B E) (hmL : B.2.2.2.1 = 1) (hE : ∀ (pc : Nat) (lv : List (Nat × AV)), decode cX8_isInterruptPending pc = .ok (.ireturn, 1) → J X B (E, κ') pc lv [.inl (.int rr)]) (h0 : PC 9 E f0 i0 c0) : ∀ (κ : K), f_X8_isInterruptPending_e E κ f0 i0 c0 = some (κ', rr) → J X B (E, κ) 0 [(0, .inr (some (f0, i0, c0)))] [] := by
  intro κ h
  unfold f_X8_isInterruptPending_e at h
  refine J_aload_n O.mo dX8_isInterruptPending_0 0 rfl ?_
  refine J_getF O.co (kd0 := 9) (k9_0 h0) (l9_0 h0) (C := RX8) (T := TX8) (N := 10) rfl (by decide) rfl in_X8 7 (by decide) (v := .inl (.int (kV κ f0 i0 c0 7))) rfl mw119 rfl dX8_isInterruptPending_1 ?_
  refine J_if_ne O.mo (tgt := 14) dX8_isInterruptPending_4 (by decide) (fun hc1 => ?_) (fun hc1 => ?_)
  · replace h := (if_neg hc1).symm.trans h
    refine J_sub [] rfl ?_
    exact w_X8_isInterruptPending_b14 hfl O hKP hmL hE h0 _ h
  · replace h := (if_pos hc1).symm.trans h
    refine J_aload_n O.mo dX8_isInterruptPending_7 0 rfl ?_
    refine J_getF O.co (kd0 := 9) (k9_0 h0) (l9_0 h0) (C := RX8) (T := TX8) (N := 10) rfl (by decide) rfl in_X8 8 (by decide) (v := .inl (.int (kV κ f0 i0 c0 8))) rfl mw120 rfl dX8_isInterruptPending_8 ?_
    refine J_if_eq O.mo (tgt := 18) dX8_isInterruptPending_11 (by decide) (fun hc2 => ?_) (fun hc2 => ?_)
    · replace h := (if_pos hc2).symm.trans h
      refine J_iconst O.mo (v := 0) dX8_isInterruptPending_18 (by decide) ?_
      cases h
      exact hE _ _ dX8_isInterruptPending_19
    · replace h := (if_neg hc2).symm.trans h
      refine J_sub [] rfl ?_
      exact w_X8_isInterruptPending_b14 hfl O hKP hmL hE h0 _ h
theorem c_X8_isInterruptPending {l : Launch} (hfl : l.stackTraces = false) {E : EE} {κ κ' : K} {f0 : Nat} {i0 : Nat} {c0 : Nat} (h0 : PC 9 E f0 i0 c0) {rr : Int32} (h : f_X8_isInterruptPending E κ f0 i0 c0 = some (κ', rr)) : Con l yX8_isInterruptPending cX8_isInterruptPending 1 (some .boolean) 1 0 [.inr (some (f0, i0, c0))] (E, κ) (E, κ') (some (.inl (.int rr))) := by
  unfold f_X8_isInterruptPending at h
  obtain ⟨κ1, x1, q1, q2⟩ := bd_some h
  obtain ⟨hb, q3⟩ := gd_some q2
  cases q3
  exact Con_of hfl (by decide +kernel) (Nat.le_of_ble_eq_true rfl) rfl ⟨_, rfl, nar_b hb⟩ (fun X B g O hKP hmL hE => w_X8_isInterruptPending_e hfl O hKP hmL hE h0 _ q1)
def f_X1_isInterruptPending_e (E : EE) (κ : K) (a0 : Nat) : Option (K × Int32) := bd (f_X8_isInterruptPending E κ 0 a0 5) fun κ1 r3 => some (κ1, r3)
def f_X1_isInterruptPending (E : EE) (κ : K) (a0 : Nat) : Option (K × Int32) := bd (f_X1_isInterruptPending_e E κ a0) fun κ x => gd (x = 0 ∨ x = 1) (some (κ, x))
set_option maxHeartbeats 4000000 in
set_option maxRecDepth 100000 in
theorem w_X1_isInterruptPending_e {l0 : Launch} (hfl : l0.stackTraces = false) {X : MX} {B : BX (EE × K)} {g : GP} {E : EE} {κ' : K} {rr : Int32} {a0 : Nat} (O : CK l0 X B g cX1_isInterruptPending RX1 2 20) (hKP : KPok B E) (hmL : B.2.2.2.1 = 1) (hE : ∀ (pc : Nat) (lv : List (Nat × AV)), decode cX1_isInterruptPending pc = .ok (.ireturn, 1) → J X B (E, κ') pc lv [.inl (.int rr)]) (h0 : PC 2 E 0 a0 0) : ∀ (κ : K), f_X1_isInterruptPending_e E κ a0 = some (κ', rr) → J X B (E, κ) 0 [(0, .inr (some (0, a0, 0)))] [] := by
  intro κ h
  unfold f_X1_isInterruptPending_e at h
  refine J_aload_n O.mo dX1_isInterruptPending_0 0 rfl ?_
  refine J_getF O.co (kd0 := 2) (k2_0 h0) (l2_0 h0) (C := RX1) (T := TX1) (N := 19) rfl (by decide) rfl in_X1 4 (by decide) (v := .inr (some (0, a0, 5))) rfl mw63 rfl dX1_isInterruptPending_1 ?_
  refine J_sub [] rfl ?_
  obtain ⟨κ1, r3, hq2, h⟩ := bd_some h
  refine J_callV O hKP (as := []) (rest := []) (r := (some (.inl (.int r3)))) (c_X8_isInterruptPending hfl (sub_2_5_9 h0) hq2) rfl (kd0 := 9) (k2_5 h0) (l2_5 h0) (T := TX8) (N := 10) rfl (by decide) mw121 mw122 mw123 mw124 mw125 pd_X8_isInterruptPending rfl (by decide) rfl (Nat.le_of_ble_eq_true rfl) sl_0 st_0 dX1_isInterruptPending_4 ?_
  show J X B (E, κ1) 7 [] [.inl (.int r3)]
  cases h
  exact hE _ _ dX1_isInterruptPending_7
theorem c_X1_isInterruptPending {l : Launch} (hfl : l.stackTraces = false) {E : EE} {κ κ' : K} {a0 : Nat} (h0 : PC 2 E 0 a0 0) {rr : Int32} (h : f_X1_isInterruptPending E κ a0 = some (κ', rr)) : Con l yX1_isInterruptPending cX1_isInterruptPending 1 (some .boolean) 2 20 [.inr (some (0, a0, 0))] (E, κ) (E, κ') (some (.inl (.int rr))) := by
  unfold f_X1_isInterruptPending at h
  obtain ⟨κ1, x1, q1, q2⟩ := bd_some h
  obtain ⟨hb, q3⟩ := gd_some q2
  cases q3
  exact Con_of hfl (by decide +kernel) (Nat.le_of_ble_eq_true rfl) rfl ⟨_, rfl, nar_b hb⟩ (fun X B g O hKP hmL hE => w_X1_isInterruptPending_e hfl O hKP hmL hE h0 _ q1)
