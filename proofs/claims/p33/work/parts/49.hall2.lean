theorem k10_3 {E : EE} {f i c : Nat} (h : PC 10 E f i c) : kd f (c + 3) = 25 := PC_kd h 3 (by decide)
theorem l10_3 {E : EE} {f i c : Nat} (h : PC 10 E f i c) : liveC E f i (c + 3) = true := PC_lv h 3 (by decide) (by decide)
theorem s10_3 {E : EE} {f i c : Nat} (h : PC 10 E f i c) : Stab E (.inr (some (f, i, c + 3))) := PC_st h 3 (by decide) (by decide) (by decide)
theorem n10_3 {E : EE} {f i c : Nat} (h : PC 10 E f i c) : sl f (c + 3) = 2 := PC_sl h 3 (by decide)
set_option maxRecDepth 100000 in
theorem mw383 : Cond.classLink "GuestHall" 347 "java/lang/IndexOutOfBoundsException" ∈ gwl := gwl_tb 142 rfl rfl
set_option maxRecDepth 100000 in
theorem mw384 : Cond.initialized "java/lang/IndexOutOfBoundsException" ∈ gwl := gwl_tb 10 rfl rfl
set_option maxRecDepth 100000 in
theorem mw385 : Cond.methodLink RX10 296 yX10_checkPlace ∈ gwl := gwl_tb 139 rfl rfl
set_option maxRecDepth 100000 in
theorem mw386 : Cond.static yX10_checkPlace ∈ gwl := gwl_tb 140 rfl rfl
set_option maxRecDepth 100000 in
theorem mw387 : Cond.code yX10_checkPlace cX10_checkPlace 2 none ∈ gwl := gwl_tb 141 rfl rfl
set_option maxRecDepth 100000 in
theorem mw388 : Cond.classLink "GuestHall" 32 "java/lang/IllegalArgumentException" ∈ gwl := gwl_tb 210 rfl rfl
set_option maxRecDepth 100000 in
theorem mw389 : Cond.initialized "java/lang/IllegalArgumentException" ∈ gwl := gwl_tb 11 rfl rfl
set_option maxRecDepth 100000 in
theorem mw390 : Cond.fieldLink "GuestHall" 65 "GuestHall" "A_NUMBERS" "[I" ∈ gwl := gwl_tb 595 rfl rfl
set_option maxRecDepth 100000 in
theorem mw391 : Cond.methodLink RX10 69 yX10_isOneOf ∈ gwl := gwl_tb 597 rfl rfl
set_option maxRecDepth 100000 in
theorem mw392 : Cond.static yX10_isOneOf ∈ gwl := gwl_tb 598 rfl rfl
set_option maxRecDepth 100000 in
theorem mw393 : Cond.code yX10_isOneOf cX10_isOneOf 2 (some .boolean) ∈ gwl := gwl_tb 599 rfl rfl
set_option maxRecDepth 100000 in
theorem mw394 : Cond.fieldLink "GuestHall" 73 "GuestHall" "B_NUMBERS" "[I" ∈ gwl := gwl_tb 600 rfl rfl
set_option maxRecDepth 100000 in
theorem mw395 : Cond.fieldLink RX10 78 "GuestHall$Guest" "program" "LGuestHall$Program;" ∈ gwl := gwl_tb 436 rfl rfl
set_option maxRecDepth 100000 in
theorem mw396 : Cond.fieldLink RX10 82 "GuestHall$Program" "size" "I" ∈ gwl := gwl_tb 269 rfl rfl
set_option maxRecDepth 100000 in
theorem mw397 : Cond.classLink "GuestHall" 47 "java/lang/IllegalStateException" ∈ gwl := gwl_tb 230 rfl rfl
set_option maxRecDepth 100000 in
theorem mw398 : Cond.initialized "java/lang/IllegalStateException" ∈ gwl := gwl_tb 12 rfl rfl
set_option maxRecDepth 100000 in
theorem mw399 : Cond.fieldLink RX10 87 "GuestHall$Guest" "ran" "I" ∈ gwl := gwl_tb 453 rfl rfl
set_option maxRecDepth 100000 in
theorem mw400 : Cond.fieldLink RX10 90 "GuestHall$Guest" "wasRestored" "Z" ∈ gwl := gwl_tb 463 rfl rfl
set_option maxRecDepth 100000 in
theorem mw401 : Cond.methodLink RX10 95 yX5_append ∈ gwl := gwl_tb 604 rfl rfl
set_option maxRecDepth 100000 in
theorem mw402 : Cond.instanceMethod yX5_append ∈ gwl := gwl_tb 605 rfl rfl
set_option maxRecDepth 100000 in
theorem mw403 : Cond.selects RX5 yX5_append yX5_append ∈ gwl := gwl_tb 606 rfl rfl
set_option maxRecDepth 100000 in
theorem mw404 : Cond.initialized RX5 ∈ gwl := gwl_tb 15 rfl rfl
set_option maxRecDepth 100000 in
theorem mw405 : Cond.code yX5_append cX5_append 4 (some .int) ∈ gwl := gwl_tb 607 rfl rfl
set_option maxRecDepth 100000 in
theorem mw406 : Cond.methodLink RX10 61 yX10_guestAt ∈ gwl := gwl_tb 577 rfl rfl
set_option maxRecDepth 100000 in
theorem mw407 : Cond.instanceMethod yX10_guestAt ∈ gwl := gwl_tb 579 rfl rfl
set_option maxRecDepth 100000 in
theorem mw408 : Cond.selects RX10 yX10_guestAt yX10_guestAt ∈ gwl := gwl_sl 5 rfl rfl
set_option maxRecDepth 100000 in
theorem mw409 : Cond.code yX10_guestAt cX10_guestAt 2 (some (.object "GuestHall$Guest")) ∈ gwl := gwl_tb 580 rfl rfl
set_option maxRecDepth 100000 in
theorem mw410 : Cond.fieldLink RX10 99 "GuestHall$Guest" "isPaused" "Z" ∈ gwl := gwl_tb 461 rfl rfl
set_option maxRecDepth 100000 in
theorem mw411 : Cond.fieldLink RX10 104 "GuestHall$Guest" "scale" "I" ∈ gwl := gwl_tb 451 rfl rfl
set_option maxRecDepth 100000 in
theorem mw412 : Cond.fieldLink RX10 112 "GuestHall$State" "inputs" "LGuestHall$Numbers;" ∈ gwl := gwl_tb 355 rfl rfl
set_option maxRecDepth 100000 in
theorem mw413 : Cond.fieldLink RX10 118 "GuestHall$Numbers" "size" "I" ∈ gwl := gwl_tb 343 rfl rfl
set_option maxRecDepth 100000 in
theorem mw414 : Cond.methodLink RX10 123 yX4_add ∈ gwl := gwl_tb 632 rfl rfl
set_option maxRecDepth 100000 in
theorem mw415 : Cond.fieldLink RX10 125 "GuestHall$Guest" "following" "LGuestHall$Following;" ∈ gwl := gwl_tb 441 rfl rfl
set_option maxRecDepth 100000 in
theorem mw416 : Cond.fieldLink RX10 129 "GuestHall$Following" "isOn" "Z" ∈ gwl := gwl_tb 408 rfl rfl
set_option maxRecDepth 100000 in
theorem mw417 : Cond.fieldLink RX10 134 "GuestHall$Following" "cameSince" "LGuestHall$Numbers;" ∈ gwl := gwl_tb 413 rfl rfl
set_option maxRecDepth 100000 in
theorem mw418 : Cond.methodLink RX10 141 yX3_hasEnded ∈ gwl := gwl_tb 653 rfl rfl
set_option maxRecDepth 100000 in
theorem mw419 : Cond.fieldLink RX10 149 "GuestHall$State" "isSentPending" "Z" ∈ gwl := gwl_tb 372 rfl rfl
set_option maxRecDepth 100000 in
theorem mw420 : Cond.methodLink RX10 152 yX8_rouse ∈ gwl := gwl_tb 658 rfl rfl
set_option maxRecDepth 100000 in
theorem mw421 : Cond.methodLink RX10 162 yX10_countTimersDown ∈ gwl := gwl_tb 675 rfl rfl
set_option maxRecDepth 100000 in
theorem mw422 : Cond.instanceMethod yX10_countTimersDown ∈ gwl := gwl_tb 677 rfl rfl
set_option maxRecDepth 100000 in
theorem mw423 : Cond.selects RX10 yX10_countTimersDown yX10_countTimersDown ∈ gwl := gwl_sl 6 rfl rfl
set_option maxRecDepth 100000 in
theorem mw424 : Cond.code yX10_countTimersDown cX10_countTimersDown 2 none ∈ gwl := gwl_tb 678 rfl rfl
set_option maxRecDepth 100000 in
theorem mw425 : Cond.fieldLink RX10 24 "GuestHall" "hosts" "[LGuestHall$Host;" ∈ gwl := gwl_tb 106 rfl rfl
set_option maxRecDepth 100000 in
theorem mw426 : Cond.methodLink RX10 169 yX10_endTick ∈ gwl := gwl_tb 841 rfl rfl
set_option maxRecDepth 100000 in
theorem mw427 : Cond.instanceMethod yX10_endTick ∈ gwl := gwl_tb 843 rfl rfl
set_option maxRecDepth 100000 in
theorem mw428 : Cond.selects RX10 yX10_endTick yX10_endTick ∈ gwl := gwl_sl 21 rfl rfl
set_option maxRecDepth 100000 in
theorem mw429 : Cond.code yX10_endTick cX10_endTick 2 none ∈ gwl := gwl_tb 844 rfl rfl
set_option maxRecDepth 100000 in
theorem mw430 : Cond.methodLink RX10 165 yX10_giveTurn ∈ gwl := gwl_tb 684 rfl rfl
set_option maxRecDepth 100000 in
theorem mw431 : Cond.instanceMethod yX10_giveTurn ∈ gwl := gwl_tb 686 rfl rfl
set_option maxRecDepth 100000 in
theorem mw432 : Cond.selects RX10 yX10_giveTurn yX10_giveTurn ∈ gwl := gwl_sl 7 rfl rfl
set_option maxRecDepth 100000 in
theorem mw433 : Cond.code yX10_giveTurn cX10_giveTurn 5 none ∈ gwl := gwl_tb 687 rfl rfl
set_option maxRecDepth 100000 in
theorem mw434 : Cond.methodLink RX10 172 yX2_keyIn ∈ gwl := gwl_tb 856 rfl rfl
set_option maxRecDepth 100000 in
theorem mw435 : Cond.instanceMethod yX2_keyIn ∈ gwl := gwl_tb 857 rfl rfl
set_option maxRecDepth 100000 in
theorem mw436 : Cond.selects RX2 yX2_keyIn yX2_keyIn ∈ gwl := gwl_tb 858 rfl rfl
set_option maxRecDepth 100000 in
theorem mw437 : Cond.code yX2_keyIn cX2_keyIn 3 (some .int) ∈ gwl := gwl_tb 859 rfl rfl
set_option maxRecDepth 100000 in
theorem mw438 : Cond.methodLink RX10 176 yX10_areAlike ∈ gwl := gwl_tb 860 rfl rfl
set_option maxRecDepth 100000 in
theorem mw439 : Cond.instanceMethod yX10_areAlike ∈ gwl := gwl_tb 862 rfl rfl
set_option maxRecDepth 100000 in
theorem mw440 : Cond.selects RX10 yX10_areAlike yX10_areAlike ∈ gwl := gwl_sl 22 rfl rfl
set_option maxRecDepth 100000 in
theorem mw441 : Cond.code yX10_areAlike cX10_areAlike 5 (some .boolean) ∈ gwl := gwl_tb 863 rfl rfl
set_option maxRecDepth 100000 in
theorem mw442 : Cond.methodLink RX10 179 yX2_merge ∈ gwl := gwl_tb 867 rfl rfl
set_option maxRecDepth 100000 in
theorem mw443 : Cond.instanceMethod yX2_merge ∈ gwl := gwl_tb 868 rfl rfl
set_option maxRecDepth 100000 in
theorem mw444 : Cond.selects RX2 yX2_merge yX2_merge ∈ gwl := gwl_tb 869 rfl rfl
set_option maxRecDepth 100000 in
theorem mw445 : Cond.code yX2_merge cX2_merge 3 none ∈ gwl := gwl_tb 870 rfl rfl
set_option maxRecDepth 100000 in
theorem mw446 : Cond.methodLink RX10 28 yX10_hostAt ∈ gwl := gwl_tb 135 rfl rfl
set_option maxRecDepth 100000 in
theorem mw447 : Cond.instanceMethod yX10_hostAt ∈ gwl := gwl_tb 137 rfl rfl
set_option maxRecDepth 100000 in
theorem mw448 : Cond.selects RX10 yX10_hostAt yX10_hostAt ∈ gwl := gwl_sl 0 rfl rfl
set_option maxRecDepth 100000 in
theorem mw449 : Cond.code yX10_hostAt cX10_hostAt 2 (some (.object "GuestHall$Host")) ∈ gwl := gwl_tb 138 rfl rfl
set_option maxRecDepth 100000 in
theorem mw450 : Cond.methodLink RX10 183 yX1_isMoving ∈ gwl := gwl_tb 879 rfl rfl
set_option maxRecDepth 100000 in
theorem mw451 : Cond.methodLink RX10 186 yX1_isDead ∈ gwl := gwl_tb 880 rfl rfl
set_option maxRecDepth 100000 in
theorem mw452 : Cond.instanceMethod yX1_isDead ∈ gwl := gwl_tb 881 rfl rfl
set_option maxRecDepth 100000 in
theorem mw453 : Cond.selects RX1 yX1_isDead yX1_isDead ∈ gwl := gwl_tb 882 rfl rfl
set_option maxRecDepth 100000 in
theorem mw454 : Cond.code yX1_isDead cX1_isDead 1 (some .boolean) ∈ gwl := gwl_tb 883 rfl rfl
set_option maxRecDepth 100000 in
theorem mw455 : Cond.fieldLink RX10 189 "GuestHall$Guest" "host" "LGuestHall$Host;" ∈ gwl := gwl_tb 447 rfl rfl
set_option maxRecDepth 100000 in
theorem mw456 : Cond.methodLink RX10 193 yX10_otherOf ∈ gwl := gwl_tb 884 rfl rfl
set_option maxRecDepth 100000 in
theorem mw457 : Cond.instanceMethod yX10_otherOf ∈ gwl := gwl_tb 886 rfl rfl
set_option maxRecDepth 100000 in
theorem mw458 : Cond.selects RX10 yX10_otherOf yX10_otherOf ∈ gwl := gwl_sl 23 rfl rfl
set_option maxRecDepth 100000 in
theorem mw459 : Cond.code yX10_otherOf cX10_otherOf 2 (some (.object "GuestHall$Host")) ∈ gwl := gwl_tb 887 rfl rfl
set_option maxRecDepth 100000 in
theorem mw460 : Cond.fieldLink RX10 199 "GuestHall$Guest" "barePages" "I" ∈ gwl := gwl_tb 458 rfl rfl
set_option maxRecDepth 100000 in
theorem mw461 : Cond.fieldLink RX10 202 "GuestHall$Guest" "toSend" "I" ∈ gwl := gwl_tb 460 rfl rfl
set_option maxRecDepth 100000 in
theorem mw462 : Cond.methodLink RX10 205 yJ6_bitCount_0f7a4 ∈ gwl := gwl_tb 889 rfl rfl
set_option maxRecDepth 100000 in
theorem mw463 : Cond.methodLink RX10 214 yX1_sendPages ∈ gwl := gwl_tb 904 rfl rfl
set_option maxRecDepth 100000 in
theorem mw464 : Cond.instanceMethod yX1_sendPages ∈ gwl := gwl_tb 905 rfl rfl
set_option maxRecDepth 100000 in
theorem mw465 : Cond.selects RX1 yX1_sendPages yX1_sendPages ∈ gwl := gwl_tb 906 rfl rfl
set_option maxRecDepth 100000 in
theorem mw466 : Cond.code yX1_sendPages cX1_sendPages 4 none ∈ gwl := gwl_tb 907 rfl rfl
set_option maxRecDepth 100000 in
theorem mw467 : Cond.fieldLink RX10 217 "GuestHall$Guest" "sent" "I" ∈ gwl := gwl_tb 455 rfl rfl
set_option maxRecDepth 100000 in
theorem mw468 : Cond.methodLink RX10 220 yX1_leaveFrames ∈ gwl := gwl_tb 915 rfl rfl
set_option maxRecDepth 100000 in
theorem mw469 : Cond.fieldLink RX10 16 "GuestHall" "snapshots" "Ljava/util/ArrayList;" ∈ gwl := gwl_tb 105 rfl rfl
set_option maxRecDepth 100000 in
theorem mw470 : Cond.classLink RX10 225 RX7 ∈ gwl := gwl_tb 927 rfl rfl
set_option maxRecDepth 100000 in
theorem mw471 : Cond.fieldLink RX10 238 "GuestHall$Snapshot" "owner" "LGuestHall$Guest;" ∈ gwl := gwl_tb 954 rfl rfl
set_option maxRecDepth 100000 in
theorem mw472 : Cond.fieldLink RX10 230 "GuestHall$Guest" "lastSnapshot" "LGuestHall$Snapshot;" ∈ gwl := gwl_tb 449 rfl rfl
set_option maxRecDepth 100000 in
theorem mw473 : Cond.fieldLink RX10 244 "GuestHall$Snapshot" "state" "LGuestHall$State;" ∈ gwl := gwl_tb 956 rfl rfl
set_option maxRecDepth 100000 in
theorem mw474 : Cond.methodLink RX10 245 yX1_goBackTo ∈ gwl := gwl_tb 978 rfl rfl
set_option maxRecDepth 100000 in
theorem mw475 : Cond.methodLink RX10 234 yX10_snapshotAt ∈ gwl := gwl_tb 973 rfl rfl
set_option maxRecDepth 100000 in
theorem mw476 : Cond.instanceMethod yX10_snapshotAt ∈ gwl := gwl_tb 975 rfl rfl
set_option maxRecDepth 100000 in
theorem mw477 : Cond.selects RX10 yX10_snapshotAt yX10_snapshotAt ∈ gwl := gwl_sl 24 rfl rfl
set_option maxRecDepth 100000 in
theorem mw478 : Cond.code yX10_snapshotAt cX10_snapshotAt 2 (some (.object "GuestHall$Snapshot")) ∈ gwl := gwl_tb 976 rfl rfl
set_option maxRecDepth 100000 in
theorem mw479 : Cond.methodLink RX10 254 yX1_letHeldOut ∈ gwl := gwl_tb 1010 rfl rfl
set_option maxRecDepth 100000 in
theorem mw480 : Cond.methodLink RX10 251 yX1_keepStep ∈ gwl := gwl_tb 997 rfl rfl
set_option maxRecDepth 100000 in
theorem mw481 : Cond.instanceMethod yX1_keepStep ∈ gwl := gwl_tb 998 rfl rfl
set_option maxRecDepth 100000 in
theorem mw482 : Cond.selects RX1 yX1_keepStep yX1_keepStep ∈ gwl := gwl_tb 999 rfl rfl
set_option maxRecDepth 100000 in
theorem mw483 : Cond.code yX1_keepStep cX1_keepStep 1 (some .int) ∈ gwl := gwl_tb 1000 rfl rfl
set_option maxRecDepth 100000 in
theorem mw484 : Cond.methodLink RX10 268 yX1_dieWithHost ∈ gwl := gwl_tb 1036 rfl rfl
set_option maxRecDepth 100000 in
theorem mw485 : Cond.instanceMethod yX1_dieWithHost ∈ gwl := gwl_tb 1037 rfl rfl
set_option maxRecDepth 100000 in
theorem mw486 : Cond.selects RX1 yX1_dieWithHost yX1_dieWithHost ∈ gwl := gwl_tb 1038 rfl rfl
set_option maxRecDepth 100000 in
theorem mw487 : Cond.code yX1_dieWithHost cX1_dieWithHost 1 none ∈ gwl := gwl_tb 1039 rfl rfl
set_option maxRecDepth 100000 in
theorem mw488 : Cond.methodLink RX10 265 yX1_goOnUpon ∈ gwl := gwl_tb 1027 rfl rfl
set_option maxRecDepth 100000 in
theorem mw489 : Cond.instanceMethod yX1_goOnUpon ∈ gwl := gwl_tb 1028 rfl rfl
set_option maxRecDepth 100000 in
theorem mw490 : Cond.selects RX1 yX1_goOnUpon yX1_goOnUpon ∈ gwl := gwl_tb 1029 rfl rfl
set_option maxRecDepth 100000 in
theorem mw491 : Cond.code yX1_goOnUpon cX1_goOnUpon 2 none ∈ gwl := gwl_tb 1030 rfl rfl
set_option maxRecDepth 100000 in
theorem in_X7 : ∀ w ∈ u_ws RX7 TX7 3, w ∈ gwl := by
  intro w hw
  obtain ⟨k, hk, rfl⟩ := List.mem_map.mp hw
  replace hk := List.mem_range.mp hk
  clear hw
  revert k
  exact (tb_s (tb_s (tb_s tb_0 (gwl_tb 959 rfl rfl)) (gwl_tb 961 rfl rfl)) (gwl_tb 963 rfl rfl))
theorem pd_X10_checkPlace : (yX10_checkPlace).cls ≠ "java/lang/invoke/MethodHandle" ∧ (yX10_checkPlace).cls ≠ "java/lang/invoke/VarHandle" ∧ (parseMethodDescriptor (yX10_checkPlace).desc).map (fun d => d.parameters.length) = some 2 := ⟨by decide +kernel, by decide +kernel, by decide +kernel⟩
theorem pd_X10_isOneOf : (yX10_isOneOf).cls ≠ "java/lang/invoke/MethodHandle" ∧ (yX10_isOneOf).cls ≠ "java/lang/invoke/VarHandle" ∧ (parseMethodDescriptor (yX10_isOneOf).desc).map (fun d => d.parameters.length) = some 2 := ⟨by decide +kernel, by decide +kernel, by decide +kernel⟩
theorem pd_X5_append : (yX5_append).cls ≠ "java/lang/invoke/MethodHandle" ∧ (yX5_append).cls ≠ "java/lang/invoke/VarHandle" ∧ (parseMethodDescriptor (yX5_append).desc).map (fun d => d.parameters.length) = some 3 := ⟨by decide +kernel, by decide +kernel, by decide +kernel⟩
theorem pd_X10_guestAt : (yX10_guestAt).cls ≠ "java/lang/invoke/MethodHandle" ∧ (yX10_guestAt).cls ≠ "java/lang/invoke/VarHandle" ∧ (parseMethodDescriptor (yX10_guestAt).desc).map (fun d => d.parameters.length) = some 1 := ⟨by decide +kernel, by decide +kernel, by decide +kernel⟩
theorem pd_X10_countTimersDown : (yX10_countTimersDown).cls ≠ "java/lang/invoke/MethodHandle" ∧ (yX10_countTimersDown).cls ≠ "java/lang/invoke/VarHandle" ∧ (parseMethodDescriptor (yX10_countTimersDown).desc).map (fun d => d.parameters.length) = some 0 := ⟨by decide +kernel, by decide +kernel, by decide +kernel⟩
theorem pd_X10_endTick : (yX10_endTick).cls ≠ "java/lang/invoke/MethodHandle" ∧ (yX10_endTick).cls ≠ "java/lang/invoke/VarHandle" ∧ (parseMethodDescriptor (yX10_endTick).desc).map (fun d => d.parameters.length) = some 0 := ⟨by decide +kernel, by decide +kernel, by decide +kernel⟩
theorem pd_X10_giveTurn : (yX10_giveTurn).cls ≠ "java/lang/invoke/MethodHandle" ∧ (yX10_giveTurn).cls ≠ "java/lang/invoke/VarHandle" ∧ (parseMethodDescriptor (yX10_giveTurn).desc).map (fun d => d.parameters.length) = some 1 := ⟨by decide +kernel, by decide +kernel, by decide +kernel⟩
theorem pd_X2_keyIn : (yX2_keyIn).cls ≠ "java/lang/invoke/MethodHandle" ∧ (yX2_keyIn).cls ≠ "java/lang/invoke/VarHandle" ∧ (parseMethodDescriptor (yX2_keyIn).desc).map (fun d => d.parameters.length) = some 1 := ⟨by decide +kernel, by decide +kernel, by decide +kernel⟩
theorem pd_X10_areAlike : (yX10_areAlike).cls ≠ "java/lang/invoke/MethodHandle" ∧ (yX10_areAlike).cls ≠ "java/lang/invoke/VarHandle" ∧ (parseMethodDescriptor (yX10_areAlike).desc).map (fun d => d.parameters.length) = some 2 := ⟨by decide +kernel, by decide +kernel, by decide +kernel⟩
theorem pd_X2_merge : (yX2_merge).cls ≠ "java/lang/invoke/MethodHandle" ∧ (yX2_merge).cls ≠ "java/lang/invoke/VarHandle" ∧ (parseMethodDescriptor (yX2_merge).desc).map (fun d => d.parameters.length) = some 2 := ⟨by decide +kernel, by decide +kernel, by decide +kernel⟩
theorem pd_X10_hostAt : (yX10_hostAt).cls ≠ "java/lang/invoke/MethodHandle" ∧ (yX10_hostAt).cls ≠ "java/lang/invoke/VarHandle" ∧ (parseMethodDescriptor (yX10_hostAt).desc).map (fun d => d.parameters.length) = some 1 := ⟨by decide +kernel, by decide +kernel, by decide +kernel⟩
theorem pd_X1_isDead : (yX1_isDead).cls ≠ "java/lang/invoke/MethodHandle" ∧ (yX1_isDead).cls ≠ "java/lang/invoke/VarHandle" ∧ (parseMethodDescriptor (yX1_isDead).desc).map (fun d => d.parameters.length) = some 0 := ⟨by decide +kernel, by decide +kernel, by decide +kernel⟩
theorem pd_X10_otherOf : (yX10_otherOf).cls ≠ "java/lang/invoke/MethodHandle" ∧ (yX10_otherOf).cls ≠ "java/lang/invoke/VarHandle" ∧ (parseMethodDescriptor (yX10_otherOf).desc).map (fun d => d.parameters.length) = some 1 := ⟨by decide +kernel, by decide +kernel, by decide +kernel⟩
theorem pd_X1_sendPages : (yX1_sendPages).cls ≠ "java/lang/invoke/MethodHandle" ∧ (yX1_sendPages).cls ≠ "java/lang/invoke/VarHandle" ∧ (parseMethodDescriptor (yX1_sendPages).desc).map (fun d => d.parameters.length) = some 1 := ⟨by decide +kernel, by decide +kernel, by decide +kernel⟩
theorem pd_X10_snapshotAt : (yX10_snapshotAt).cls ≠ "java/lang/invoke/MethodHandle" ∧ (yX10_snapshotAt).cls ≠ "java/lang/invoke/VarHandle" ∧ (parseMethodDescriptor (yX10_snapshotAt).desc).map (fun d => d.parameters.length) = some 1 := ⟨by decide +kernel, by decide +kernel, by decide +kernel⟩
theorem pd_X1_keepStep : (yX1_keepStep).cls ≠ "java/lang/invoke/MethodHandle" ∧ (yX1_keepStep).cls ≠ "java/lang/invoke/VarHandle" ∧ (parseMethodDescriptor (yX1_keepStep).desc).map (fun d => d.parameters.length) = some 0 := ⟨by decide +kernel, by decide +kernel, by decide +kernel⟩
theorem pd_X1_dieWithHost : (yX1_dieWithHost).cls ≠ "java/lang/invoke/MethodHandle" ∧ (yX1_dieWithHost).cls ≠ "java/lang/invoke/VarHandle" ∧ (parseMethodDescriptor (yX1_dieWithHost).desc).map (fun d => d.parameters.length) = some 0 := ⟨by decide +kernel, by decide +kernel, by decide +kernel⟩
theorem pd_X1_goOnUpon : (yX1_goOnUpon).cls ≠ "java/lang/invoke/MethodHandle" ∧ (yX1_goOnUpon).cls ≠ "java/lang/invoke/VarHandle" ∧ (parseMethodDescriptor (yX1_goOnUpon).desc).map (fun d => d.parameters.length) = some 1 := ⟨by decide +kernel, by decide +kernel, by decide +kernel⟩
theorem hat_351 : ∀ w ∈ vx_atS "GuestHall" 351 "java/lang/IndexOutOfBoundsException" thrN, w ∈ gwl ∨ w ∈ nwl := by decide +kernel
theorem hat_36 : ∀ w ∈ vx_atS "GuestHall" 36 "java/lang/IllegalArgumentException" thrN, w ∈ gwl ∨ w ∈ nwl := by decide +kernel
theorem hat_51 : ∀ w ∈ vx_atS "GuestHall" 51 "java/lang/IllegalStateException" thrN, w ∈ gwl ∨ w ∈ nwl := by decide +kernel
def f_X10_checkPlace_b9 (E : EE) (κ : K) : Option (K × (Unit ⊕ Nat)) := some (addC κ 1 6, .inr 1)
def f_X10_checkPlace (E : EE) (κ : K) (a0 : Int32) (a1 : Int32) : Option (K × (Unit ⊕ Nat)) := if a0 < 0 then f_X10_checkPlace_b9 E κ else if a0 < a1 then some (κ, .inl (())) else f_X10_checkPlace_b9 E κ
set_option maxHeartbeats 4000000 in
set_option maxRecDepth 100000 in
theorem w_X10_checkPlace_b9 {l0 : Launch} (hfl : l0.stackTraces = false) {X : MX} {B : BX (EE × K)} {g : GP} {E : EE} {κ' : K} {rs : (Unit ⊕ Nat)} (O : CK l0 X B g cX10_checkPlace RX10 6 82) (hKP : KPok B E) (hmL : B.2.2.2.1 = 2) (hE : ∀ rr : Unit, rs = .inl rr → ∀ (pc : Nat) (lv : List (Nat × AV)), decode cX10_checkPlace pc = .ok (.return_, 1) → J X B (E, κ') pc lv []) (hX : ∀ e, rs = .inr e → QXH X B g (E, κ') (.inr (exN e))) : ∀ (κ : K), f_X10_checkPlace_b9 E κ = some (κ', rs) → J X B (E, κ) 9 [] [] := by
  intro κ h
  unfold f_X10_checkPlace_b9 at h
  cases h
  exact J_throwW O (cls := "java/lang/IndexOutOfBoundsException") (hX _ rfl) (text := "no such number") (by decide +kernel) mw383 mw384 (by decide) hat_351 (by decide) (Nat.le_of_ble_eq_true rfl) rfl dX10_checkPlace_9 dX10_checkPlace_12 dX10_checkPlace_13 dX10_checkPlace_16 dX10_checkPlace_19
set_option maxHeartbeats 4000000 in
set_option maxRecDepth 100000 in
theorem w_X10_checkPlace {l0 : Launch} (hfl : l0.stackTraces = false) {X : MX} {B : BX (EE × K)} {g : GP} {E : EE} {κ' : K} {rs : (Unit ⊕ Nat)} (O : CK l0 X B g cX10_checkPlace RX10 6 82) (hKP : KPok B E) (hmL : B.2.2.2.1 = 2) (hE : ∀ rr : Unit, rs = .inl rr → ∀ (pc : Nat) (lv : List (Nat × AV)), decode cX10_checkPlace pc = .ok (.return_, 1) → J X B (E, κ') pc lv []) (hX : ∀ e, rs = .inr e → QXH X B g (E, κ') (.inr (exN e))) : ∀ (κ : K) (a0 : Int32) (a1 : Int32), f_X10_checkPlace E κ a0 a1 = some (κ', rs) → J X B (E, κ) 0 [(0, .inl (.int a0)), (1, .inl (.int a1))] [] := by
  intro κ a0 a1 h
  unfold f_X10_checkPlace at h
  refine J_iload_n O.mo dX10_checkPlace_0 0 rfl ?_
  refine J_if_lt O.mo (tgt := 9) dX10_checkPlace_1 (by decide) (fun hc1 => ?_) (fun hc1 => ?_)
  · replace h := (if_pos hc1).symm.trans h
    refine J_sub [] rfl ?_
    exact w_X10_checkPlace_b9 hfl O hKP hmL hE hX _ h
  · replace h := (if_neg hc1).symm.trans h
    refine J_iload_n O.mo dX10_checkPlace_4 0 rfl ?_
    refine J_iload_n O.mo dX10_checkPlace_5 1 rfl ?_
    refine J_icmp_lt O.mo (tgt := 20) dX10_checkPlace_6 (by decide) (fun hc2 => ?_) (fun hc2 => ?_)
    · replace h := (if_pos hc2).symm.trans h
      cases h
      exact hE _ rfl _ _ dX10_checkPlace_20
    · replace h := (if_neg hc2).symm.trans h
      refine J_sub [] rfl ?_
      exact w_X10_checkPlace_b9 hfl O hKP hmL hE hX _ h
theorem c_X10_checkPlace {l : Launch} (hfl : l.stackTraces = false) {E : EE} {κ κ' : K} {a0 : Int32} {a1 : Int32} {rs : (Unit ⊕ Nat)} (h : f_X10_checkPlace E κ a0 a1 = some (κ', rs)) : ConX l yX10_checkPlace cX10_checkPlace 2 none 6 82 [.inl (.int a0), .inl (.int a1)] (E, κ) (E, κ') (mapX (fun rr => none) rs) := by
  cases rs with
  | inl rr => exact ConX_of hfl (by decide +kernel) (Nat.le_of_ble_eq_true rfl) rfl rfl (fun X B g O hKP hmL hX hE => w_X10_checkPlace hfl O hKP hmL (fun rr hr => by cases hr; exact hE) (fun e hr => by cases hr) _ _ _ h)
  | inr e => exact ConX_of hfl (by decide +kernel) (Nat.le_of_ble_eq_true rfl) rfl trivial (fun X B g O hKP hmL hX hE => w_X10_checkPlace hfl O hKP hmL (fun rr hr => by cases hr) (fun e hr => by cases hr; exact hX) _ _ _ h)
def f_X10_guestAt (E : EE) (κ : K) (a1 : Int32) : Option (K × (Nat ⊕ Nat)) := bd (f_Jx4a65c_size_8abf5_L1 E κ) fun κ1 r3 => bx (f_X10_checkPlace E κ1 a1 r3) fun κ4 _ => bd (f_Jx4a65c_get_915e3_L1 E κ4 a1) fun κ9 r11 => gd (r11 < cntE E 0) (some (κ9, .inl r11))
set_option maxHeartbeats 4000000 in
set_option maxRecDepth 100000 in
theorem w_X10_guestAt {l0 : Launch} (hfl : l0.stackTraces = false) {X : MX} {B : BX (EE × K)} {g : GP} {E : EE} {κ' : K} {rs : (Nat ⊕ Nat)} (O : CK l0 X B g cX10_guestAt RX10 7 103) (hKP : KPok B E) (hmL : B.2.2.2.1 = 2) (hE : ∀ rr : Nat, rs = .inl rr → ∀ (pc : Nat) (lv : List (Nat × AV)), decode cX10_guestAt pc = .ok (.areturn, 1) → J X B (E, κ') pc lv [.inr (some (0, rr, 0))]) (hX : ∀ e, rs = .inr e → QXH X B g (E, κ') (.inr (exN e))) (h0 : PC 10 E 4 0 0) : ∀ (κ : K) (a1 : Int32), f_X10_guestAt E κ a1 = some (κ', rs) → J X B (E, κ) 0 [(0, .inr (some (4, 0, 0))), (1, .inl (.int a1))] [] := by
  intro κ a1 h
  unfold f_X10_guestAt at h
  refine J_iload_n O.mo dX10_guestAt_0 1 rfl ?_
  refine J_aload_n O.mo dX10_guestAt_1 0 rfl ?_
  refine J_getF O.co (kd0 := 10) (k10_0 h0) (l10_0 h0) (C := RX10) (T := TX10) (N := 4) rfl (by decide) rfl in_X10 0 (by decide) (v := .inr (some (4, 0, 1))) rfl mw333 rfl dX10_guestAt_2 ?_
  obtain ⟨κ1, r3, hq2, h⟩ := bd_some h
  refine J_callV O hKP (as := []) (rest := [.inl (.int a1)]) (r := (some (.inl (.int r3)))) (c_Jx4a65c_size_8abf5_L1 hfl h0 hq2) rfl (kd0 := 0) (k10_1 h0) (l10_1 h0) (T := TJx4a65c) (N := 3) rfl (by decide) mw334 mw335 mw336 mw45 mw337 pd_Jx4a65c_size_8abf5 rfl (by decide) rfl (Nat.le_of_ble_eq_true rfl) (sl_p (s10_0 h0) (sl_v sl_0)) (st_v st_0) dX10_guestAt_5 ?_
  show J X B (E, κ1) 8 [(0, .inr (some (4, 0, 0))), (1, .inl (.int a1))] [.inl (.int r3), .inl (.int a1)]
  rcases bx_some h with ⟨κ4, r6, hq5, h⟩ | ⟨e7, hq5, rfl⟩
  · refine J_callSX O hKP (as := [.inl (.int a1), .inl (.int r3)]) (rest := []) (r := .inl none) (c_X10_checkPlace hfl hq5) rfl mw385 mw386 mw320 mw387 pd_X10_checkPlace rfl (by decide) rfl (Nat.le_of_ble_eq_true rfl) (sl_p (s10_0 h0) (sl_v sl_0)) st_0 dX10_guestAt_8 (fun s hs => by cases hs) (fun v hv8 => ?_)
    cases hv8
    show J X B (E, κ4) 11 [(0, .inr (some (4, 0, 0))), (1, .inl (.int a1))] []
    refine J_aload_n O.mo dX10_guestAt_11 0 rfl ?_
    refine J_getF O.co (kd0 := 10) (k10_0 h0) (l10_0 h0) (C := RX10) (T := TX10) (N := 4) rfl (by decide) rfl in_X10 0 (by decide) (v := .inr (some (4, 0, 1))) rfl mw333 rfl dX10_guestAt_12 ?_
    refine J_iload_n O.mo dX10_guestAt_15 1 rfl ?_
    refine J_sub [] rfl ?_
    obtain ⟨κ9, r11, hq10, h⟩ := bd_some h
    obtain ⟨hj12, h⟩ := gd_some h
    refine J_callV O hKP (as := [.inl (.int a1)]) (rest := []) (r := some (.inr (some (0, r11, 0)))) (c_Jx4a65c_get_915e3_L1 hfl h0 hq10) rfl (kd0 := 0) (k10_1 h0) (l10_1 h0) (T := TJx4a65c) (N := 3) rfl (by decide) mw338 mw339 mw340 mw45 mw341 pd_Jx4a65c_get_915e3 rfl (by decide) rfl (Nat.le_of_ble_eq_true rfl) sl_0 st_0 dX10_guestAt_16 ?_
    show J X B (E, κ9) 19 [] [.inr (some (0, r11, 0))]
    refine J_cast O (kd0 := 2) (k2_0 (⟨hj12, rfl⟩ : PC 2 E 0 r11 0)) (l2_0 (⟨hj12, rfl⟩ : PC 2 E 0 r11 0)) rfl (by decide) mw342 dX10_guestAt_19 ?_
    cases h
    exact hE _ rfl _ _ dX10_guestAt_22
  · exact J_callSX O hKP (as := [.inl (.int a1), .inl (.int r3)]) (rest := []) (r := .inr (exN e7)) (c_X10_checkPlace hfl hq5) rfl mw385 mw386 mw320 mw387 pd_X10_checkPlace rfl (by decide) rfl (Nat.le_of_ble_eq_true rfl) (sl_p (s10_0 h0) (sl_v sl_0)) st_0 dX10_guestAt_8 (fun s hs => by cases hs; exact hX _ rfl) (fun v hs => by cases hs)
theorem c_X10_guestAt {l : Launch} (hfl : l.stackTraces = false) {E : EE} {κ κ' : K} {a1 : Int32} (h0 : PC 10 E 4 0 0) {rs : (Nat ⊕ Nat)} (h : f_X10_guestAt E κ a1 = some (κ', rs)) : ConX l yX10_guestAt cX10_guestAt 2 (some (.object "GuestHall$Guest")) 7 103 [.inr (some (4, 0, 0)), .inl (.int a1)] (E, κ) (E, κ') (mapX (fun rr => (some (.inr (some (0, rr, 0))))) rs) := by
  cases rs with
  | inl rr => exact ConX_of hfl (by decide +kernel) (Nat.le_of_ble_eq_true rfl) rfl ⟨_, rfl, Or.inl ⟨_, rfl⟩⟩ (fun X B g O hKP hmL hX hE => w_X10_guestAt hfl O hKP hmL (fun rr hr => by cases hr; exact hE) (fun e hr => by cases hr) h0 _ _ h)
  | inr e => exact ConX_of hfl (by decide +kernel) (Nat.le_of_ble_eq_true rfl) rfl trivial (fun X B g O hKP hmL hX hE => w_X10_guestAt hfl O hKP hmL (fun rr hr => by cases hr) (fun e hr => by cases hr; exact hX) h0 _ _ h)
def f_X10_isOneOf_b13 (E : EE) (κ : K) : Option (K × Int32) := some (κ, 1)
def f_X10_isOneOf_e (E : EE) (κ : K) (a0 : Int32) (a1 : Int32) : Option (K × Int32) := if a1 = 0 then f_X10_isOneOf_b13 E κ else if a0 < 0 then some (κ, 0) else if a1 ≤ a0 then some (κ, 0) else f_X10_isOneOf_b13 E κ
def f_X10_isOneOf (E : EE) (κ : K) (a0 : Int32) (a1 : Int32) : Option (K × Int32) := bd (f_X10_isOneOf_e E κ a0 a1) fun κ x => gd (x = 0 ∨ x = 1) (some (κ, x))
set_option maxHeartbeats 4000000 in
set_option maxRecDepth 100000 in
theorem w_X10_isOneOf_b13 {l0 : Launch} (hfl : l0.stackTraces = false) {X : MX} {B : BX (EE × K)} {g : GP} {E : EE} {κ' : K} {rr : Int32} (O : CK l0 X B g cX10_isOneOf RX10 1 0) (hKP : KPok B E) (hmL : B.2.2.2.1 = 2) (hE : ∀ (pc : Nat) (lv : List (Nat × AV)), decode cX10_isOneOf pc = .ok (.ireturn, 1) → J X B (E, κ') pc lv [.inl (.int rr)]) : ∀ (κ : K), f_X10_isOneOf_b13 E κ = some (κ', rr) → J X B (E, κ) 13 [] [] := by
  intro κ h
  unfold f_X10_isOneOf_b13 at h
  refine J_iconst O.mo (v := 1) dX10_isOneOf_13 (by decide) ?_
  refine J_goto O.mo (tgt := 18) dX10_isOneOf_14 (by decide) ?_
  cases h
  exact hE _ _ dX10_isOneOf_18
set_option maxHeartbeats 4000000 in
set_option maxRecDepth 100000 in
theorem w_X10_isOneOf_e {l0 : Launch} (hfl : l0.stackTraces = false) {X : MX} {B : BX (EE × K)} {g : GP} {E : EE} {κ' : K} {rr : Int32} (O : CK l0 X B g cX10_isOneOf RX10 1 0) (hKP : KPok B E) (hmL : B.2.2.2.1 = 2) (hE : ∀ (pc : Nat) (lv : List (Nat × AV)), decode cX10_isOneOf pc = .ok (.ireturn, 1) → J X B (E, κ') pc lv [.inl (.int rr)]) : ∀ (κ : K) (a0 : Int32) (a1 : Int32), f_X10_isOneOf_e E κ a0 a1 = some (κ', rr) → J X B (E, κ) 0 [(0, .inl (.int a0)), (1, .inl (.int a1))] [] := by
  intro κ a0 a1 h
  unfold f_X10_isOneOf_e at h
  refine J_iload_n O.mo dX10_isOneOf_0 1 rfl ?_
  refine J_if_eq O.mo (tgt := 13) dX10_isOneOf_1 (by decide) (fun hc1 => ?_) (fun hc1 => ?_)
  · replace h := (if_pos hc1).symm.trans h
    refine J_sub [] rfl ?_
    exact w_X10_isOneOf_b13 hfl O hKP hmL hE _ h
  · replace h := (if_neg hc1).symm.trans h
    refine J_iload_n O.mo dX10_isOneOf_4 0 rfl ?_
    refine J_if_lt O.mo (tgt := 17) dX10_isOneOf_5 (by decide) (fun hc2 => ?_) (fun hc2 => ?_)
    · replace h := (if_pos hc2).symm.trans h
      refine J_iconst O.mo (v := 0) dX10_isOneOf_17 (by decide) ?_
      cases h
      exact hE _ _ dX10_isOneOf_18
    · replace h := (if_neg hc2).symm.trans h
      refine J_iload_n O.mo dX10_isOneOf_8 0 rfl ?_
      refine J_iload_n O.mo dX10_isOneOf_9 1 rfl ?_
      refine J_icmp_ge O.mo (tgt := 17) dX10_isOneOf_10 (by decide) (fun hc3 => ?_) (fun hc3 => ?_)
      · replace h := (if_pos hc3).symm.trans h
        refine J_iconst O.mo (v := 0) dX10_isOneOf_17 (by decide) ?_
        cases h
        exact hE _ _ dX10_isOneOf_18
      · replace h := (if_neg hc3).symm.trans h
        refine J_sub [] rfl ?_
        exact w_X10_isOneOf_b13 hfl O hKP hmL hE _ h
theorem c_X10_isOneOf {l : Launch} (hfl : l.stackTraces = false) {E : EE} {κ κ' : K} {a0 : Int32} {a1 : Int32} {rr : Int32} (h : f_X10_isOneOf E κ a0 a1 = some (κ', rr)) : Con l yX10_isOneOf cX10_isOneOf 2 (some .boolean) 1 0 [.inl (.int a0), .inl (.int a1)] (E, κ) (E, κ') (some (.inl (.int rr))) := by
  unfold f_X10_isOneOf at h
  obtain ⟨κ1, x1, q1, q2⟩ := bd_some h
  obtain ⟨hb, q3⟩ := gd_some q2
  cases q3
  exact Con_of hfl (by decide +kernel) (Nat.le_of_ble_eq_true rfl) rfl ⟨_, rfl, nar_b hb⟩ (fun X B g O hKP hmL hE => w_X10_isOneOf_e hfl O hKP hmL hE _ _ _ q1)
def f_X10_instruct_b42 (E : EE) (κ : K) : Option (K × (Int32 ⊕ Nat)) := some (addC κ 1 6, .inr 2)
def f_X10_instruct_b81 (E : EE) (κ : K) : Option (K × (Int32 ⊕ Nat)) := some (addC κ 1 6, .inr 3)
def f_X10_instruct (E : EE) (κ : K) (a1 : Int32) (a2 : Int32) (a3 : Int32) (a4 : Int32) : Option (K × (Int32 ⊕ Nat)) := bx (f_X10_guestAt E κ a1) fun κ1 r3 => gd (r3 < cntE E 0) (if a2 < 0 then f_X10_instruct_b42 E κ1 else if 13 < a2 then f_X10_instruct_b42 E κ1 else gd (¬ (a2 < 0 ∨ 14 ≤ a2.toNatClampNeg)) (bd (f_X10_isOneOf E κ1 a3 (([4, 4, 4, 4, 4, 8, 4, 4, 0, 0, 0, 0, 0, 0] : List Int32).getD a2.toNatClampNeg 0)) fun κ10 r12 => if r12 = 0 then f_X10_instruct_b42 E κ10 else gd (¬ (a2 < 0 ∨ 14 ≤ a2.toNatClampNeg)) (bd (f_X10_isOneOf E κ10 a4 (([10000, 4, 4, 4, 24, 9, 2, 3, 0, 24, 2, 0, 8, 0] : List Int32).getD a2.toNatClampNeg 0)) fun κ15 r17 => if r17 = 0 then f_X10_instruct_b42 E κ15 else if 24 ≤ kV κ15 0 r3 1 3 then f_X10_instruct_b81 E κ15 else if 0 < kV κ15 0 r3 0 12 then f_X10_instruct_b81 E κ15 else if kV κ15 0 r3 0 17 = 0 then bd (f_X5_append E κ15 r3 a2 a3 a4) fun κ22 r24 => some (κ22, .inl r24) else f_X10_instruct_b81 E κ15)))
set_option maxHeartbeats 4000000 in
set_option maxRecDepth 100000 in
theorem w_X10_instruct_b42 {l0 : Launch} (hfl : l0.stackTraces = false) {X : MX} {B : BX (EE × K)} {g : GP} {E : EE} {κ' : K} {rs : (Int32 ⊕ Nat)} (O : CK l0 X B g cX10_instruct RX10 8 124) (hKP : KPok B E) (hmL : B.2.2.2.1 = 6) (hE : ∀ rr : Int32, rs = .inl rr → ∀ (pc : Nat) (lv : List (Nat × AV)), decode cX10_instruct pc = .ok (.ireturn, 1) → J X B (E, κ') pc lv [.inl (.int rr)]) (hX : ∀ e, rs = .inr e → QXH X B g (E, κ') (.inr (exN e))) (h0 : PC 10 E 4 0 0) : ∀ (κ : K), f_X10_instruct_b42 E κ = some (κ', rs) → J X B (E, κ) 42 [] [] := by
  intro κ h
  unfold f_X10_instruct_b42 at h
  cases h
  exact J_throw O (cls := "java/lang/IllegalArgumentException") (hX _ rfl) (text := "instruction") (by decide +kernel) mw388 mw389 (by decide) hat_36 (by decide) (Nat.le_of_ble_eq_true rfl) rfl dX10_instruct_42 dX10_instruct_45 dX10_instruct_46 dX10_instruct_48 dX10_instruct_51
set_option maxHeartbeats 4000000 in
set_option maxRecDepth 100000 in
theorem w_X10_instruct_b81 {l0 : Launch} (hfl : l0.stackTraces = false) {X : MX} {B : BX (EE × K)} {g : GP} {E : EE} {κ' : K} {rs : (Int32 ⊕ Nat)} (O : CK l0 X B g cX10_instruct RX10 8 124) (hKP : KPok B E) (hmL : B.2.2.2.1 = 6) (hE : ∀ rr : Int32, rs = .inl rr → ∀ (pc : Nat) (lv : List (Nat × AV)), decode cX10_instruct pc = .ok (.ireturn, 1) → J X B (E, κ') pc lv [.inl (.int rr)]) (hX : ∀ e, rs = .inr e → QXH X B g (E, κ') (.inr (exN e))) (h0 : PC 10 E 4 0 0) : ∀ (κ : K), f_X10_instruct_b81 E κ = some (κ', rs) → J X B (E, κ) 81 [] [] := by
  intro κ h
  unfold f_X10_instruct_b81 at h
  cases h
  exact J_throw O (cls := "java/lang/IllegalStateException") (hX _ rfl) (text := "the program is full, or in use") (by decide +kernel) mw397 mw398 (by decide) hat_51 (by decide) (Nat.le_of_ble_eq_true rfl) rfl dX10_instruct_81 dX10_instruct_84 dX10_instruct_85 dX10_instruct_87 dX10_instruct_90
set_option maxHeartbeats 4000000 in
set_option maxRecDepth 100000 in
theorem w_X10_instruct {l0 : Launch} (hfl : l0.stackTraces = false) {X : MX} {B : BX (EE × K)} {g : GP} {E : EE} {κ' : K} {rs : (Int32 ⊕ Nat)} (O : CK l0 X B g cX10_instruct RX10 8 124) (hKP : KPok B E) (hmL : B.2.2.2.1 = 6) (hE : ∀ rr : Int32, rs = .inl rr → ∀ (pc : Nat) (lv : List (Nat × AV)), decode cX10_instruct pc = .ok (.ireturn, 1) → J X B (E, κ') pc lv [.inl (.int rr)]) (hX : ∀ e, rs = .inr e → QXH X B g (E, κ') (.inr (exN e))) (h0 : PC 10 E 4 0 0) : ∀ (κ : K) (a1 : Int32) (a2 : Int32) (a3 : Int32) (a4 : Int32), f_X10_instruct E κ a1 a2 a3 a4 = some (κ', rs) → J X B (E, κ) 0 [(0, .inr (some (4, 0, 0))), (1, .inl (.int a1)), (2, .inl (.int a2)), (3, .inl (.int a3)), (4, .inl (.int a4))] [] := by
  intro κ a1 a2 a3 a4 h
  unfold f_X10_instruct at h
  refine J_aload_n O.mo dX10_instruct_0 0 rfl ?_
  refine J_iload_n O.mo dX10_instruct_1 1 rfl ?_
  refine J_sub [2, 3, 4] rfl ?_
  rcases bx_some h with ⟨κ1, r3, hq2, h⟩ | ⟨e4, hq2, rfl⟩
  · obtain ⟨hj6, h⟩ := gd_some h
    refine J_callVX O hKP (as := [.inl (.int a1)]) (rest := []) (r := .inl (some (.inr (some (0, r3, 0))))) (c_X10_guestAt hfl h0 hq2) rfl (kd0 := 10) (k10_0 h0) (l10_0 h0) (T := TX10) (N := 4) rfl (by decide) mw406 mw407 mw408 mw320 mw409 pd_X10_guestAt rfl (by decide) rfl (Nat.le_of_ble_eq_true rfl) (sl_v (sl_v (sl_v sl_0))) st_0 dX10_instruct_2 (fun s hs => by cases hs) (fun v hv5 => ?_)
    cases hv5
    show J X B (E, κ1) 5 [(2, .inl (.int a2)), (3, .inl (.int a3)), (4, .inl (.int a4))] [.inr (some (0, r3, 0))]
    refine J_astore O.mo (lv' := [(2, .inl (.int a2)), (3, .inl (.int a3)), (4, .inl (.int a4))]) dX10_instruct_5 (by rw [hmL]; decide) rfl rfl ?_
    refine J_iload_n O.mo dX10_instruct_7 1 rfl ?_
    refine J_if_lt O.mo (tgt := 42) dX10_instruct_8 (by decide) (fun hc7 => ?_) (fun hc7 => ?_)
    · replace h := (if_pos hc7).symm.trans h
      refine J_sub [] rfl ?_
      exact w_X10_instruct_b42 hfl O hKP hmL hE hX h0 _ h
    · replace h := (if_neg hc7).symm.trans h
      refine J_iload_n O.mo dX10_instruct_11 1 rfl ?_
      refine J_bipush O.mo (v := 13) dX10_instruct_12 (by decide) ?_
      refine J_icmp_gt O.mo (tgt := 42) dX10_instruct_14 (by decide) (fun hc8 => ?_) (fun hc8 => ?_)
      · replace h := (if_pos hc8).symm.trans h
        refine J_sub [] rfl ?_
        exact w_X10_instruct_b42 hfl O hKP hmL hE hX h0 _ h
      · replace h := (if_neg hc8).symm.trans h
        refine J_iload_n O.mo dX10_instruct_17 2 rfl ?_
        obtain ⟨hg9, h⟩ := gd_some h
        refine J_tabA O (j := a2) hg9 mw390 (q := 1) rfl dX10_instruct_18 (n := 1) (Or.inl ⟨_, rfl, rfl, dX10_instruct_21⟩) dX10_instruct_22 ?_
        obtain ⟨κ10, r12, hq11, h⟩ := bd_some h
        refine J_callS O hKP (as := [.inl (.int a3), .inl (.int (([4, 4, 4, 4, 4, 8, 4, 4, 0, 0, 0, 0, 0, 0] : List Int32).getD a2.toNatClampNeg 0))]) (rest := []) (r := (some (.inl (.int r12)))) (c_X10_isOneOf hfl hq11) rfl mw391 mw392 mw320 mw393 pd_X10_isOneOf rfl (by decide) rfl (Nat.le_of_ble_eq_true rfl) (sl_p (s2_0 (⟨hj6, rfl⟩ : PC 2 E 0 r3 0)) (sl_v (sl_v (sl_v sl_0)))) st_0 dX10_instruct_23 ?_
        show J X B (E, κ10) 26 [(5, .inr (some (0, r3, 0))), (2, .inl (.int a2)), (3, .inl (.int a3)), (4, .inl (.int a4))] [.inl (.int r12)]
        refine J_if_eq O.mo (tgt := 42) dX10_instruct_26 (by decide) (fun hc13 => ?_) (fun hc13 => ?_)
        · replace h := (if_pos hc13).symm.trans h
          refine J_sub [] rfl ?_
          exact w_X10_instruct_b42 hfl O hKP hmL hE hX h0 _ h
        · replace h := (if_neg hc13).symm.trans h
          refine J_iload O.mo dX10_instruct_29 3 rfl ?_
          obtain ⟨hg14, h⟩ := gd_some h
          refine J_tabB O (j := a2) hg14 mw394 (q := 1) rfl dX10_instruct_31 (n := 1) (Or.inl ⟨_, rfl, rfl, dX10_instruct_34⟩) dX10_instruct_35 ?_
          obtain ⟨κ15, r17, hq16, h⟩ := bd_some h
          refine J_callS O hKP (as := [.inl (.int a4), .inl (.int (([10000, 4, 4, 4, 24, 9, 2, 3, 0, 24, 2, 0, 8, 0] : List Int32).getD a2.toNatClampNeg 0))]) (rest := []) (r := (some (.inl (.int r17)))) (c_X10_isOneOf hfl hq16) rfl mw391 mw392 mw320 mw393 pd_X10_isOneOf rfl (by decide) rfl (Nat.le_of_ble_eq_true rfl) (sl_p (s2_0 (⟨hj6, rfl⟩ : PC 2 E 0 r3 0)) (sl_v (sl_v (sl_v sl_0)))) st_0 dX10_instruct_36 ?_
          show J X B (E, κ15) 39 [(5, .inr (some (0, r3, 0))), (2, .inl (.int a2)), (3, .inl (.int a3)), (4, .inl (.int a4))] [.inl (.int r17)]
          refine J_if_ne O.mo (tgt := 52) dX10_instruct_39 (by decide) (fun hc18 => ?_) (fun hc18 => ?_)
          · replace h := (if_neg hc18).symm.trans h
            refine J_aload O.mo dX10_instruct_52 0 rfl ?_
            refine J_getF O.co (kd0 := 2) (k2_0 (⟨hj6, rfl⟩ : PC 2 E 0 r3 0)) (l2_0 (⟨hj6, rfl⟩ : PC 2 E 0 r3 0)) (C := RX1) (T := TX1) (N := 19) rfl (by decide) rfl in_X1 3 (by decide) (v := .inr (some (0, r3, 1))) rfl mw395 rfl dX10_instruct_54 ?_
            refine J_getF O.co (kd0 := 6) (k2_1 (⟨hj6, rfl⟩ : PC 2 E 0 r3 0)) (l2_1 (⟨hj6, rfl⟩ : PC 2 E 0 r3 0)) (C := RX5) (T := TX5) (N := 4) rfl (by decide) rfl in_X5 3 (by decide) (v := .inl (.int (kV κ15 0 r3 1 3))) rfl mw396 rfl dX10_instruct_57 ?_
            refine J_bipush O.mo (v := 24) dX10_instruct_60 (by decide) ?_
            refine J_icmp_ge O.mo (tgt := 81) dX10_instruct_62 (by decide) (fun hc19 => ?_) (fun hc19 => ?_)
            · replace h := (if_pos hc19).symm.trans h
              refine J_sub [] rfl ?_
              exact w_X10_instruct_b81 hfl O hKP hmL hE hX h0 _ h
            · replace h := (if_neg hc19).symm.trans h
              refine J_aload O.mo dX10_instruct_65 0 rfl ?_
              refine J_getF O.co (kd0 := 2) (k2_0 (⟨hj6, rfl⟩ : PC 2 E 0 r3 0)) (l2_0 (⟨hj6, rfl⟩ : PC 2 E 0 r3 0)) (C := RX1) (T := TX1) (N := 19) rfl (by decide) rfl in_X1 12 (by decide) (v := .inl (.int (kV κ15 0 r3 0 12))) rfl mw399 rfl dX10_instruct_67 ?_
              refine J_if_gt O.mo (tgt := 81) dX10_instruct_70 (by decide) (fun hc20 => ?_) (fun hc20 => ?_)
              · replace h := (if_pos hc20).symm.trans h
                refine J_sub [] rfl ?_
                exact w_X10_instruct_b81 hfl O hKP hmL hE hX h0 _ h
              · replace h := (if_neg hc20).symm.trans h
                refine J_aload O.mo dX10_instruct_73 0 rfl ?_
                refine J_getF O.co (kd0 := 2) (k2_0 (⟨hj6, rfl⟩ : PC 2 E 0 r3 0)) (l2_0 (⟨hj6, rfl⟩ : PC 2 E 0 r3 0)) (C := RX1) (T := TX1) (N := 19) rfl (by decide) rfl in_X1 17 (by decide) (v := .inl (.int (kV κ15 0 r3 0 17))) rfl mw400 rfl dX10_instruct_75 ?_
                refine J_if_eq O.mo (tgt := 91) dX10_instruct_78 (by decide) (fun hc21 => ?_) (fun hc21 => ?_)
                · replace h := (if_pos hc21).symm.trans h
                  refine J_aload O.mo dX10_instruct_91 0 rfl ?_
                  refine J_getF O.co (kd0 := 2) (k2_0 (⟨hj6, rfl⟩ : PC 2 E 0 r3 0)) (l2_0 (⟨hj6, rfl⟩ : PC 2 E 0 r3 0)) (C := RX1) (T := TX1) (N := 19) rfl (by decide) rfl in_X1 3 (by decide) (v := .inr (some (0, r3, 1))) rfl mw395 rfl dX10_instruct_93 ?_
                  refine J_iload_n O.mo dX10_instruct_96 1 rfl ?_
                  refine J_iload_n O.mo dX10_instruct_97 2 rfl ?_
                  refine J_iload O.mo dX10_instruct_98 3 rfl ?_
                  refine J_sub [] rfl ?_
                  obtain ⟨κ22, r24, hq23, h⟩ := bd_some h
                  refine J_callV O hKP (as := [.inl (.int a2), .inl (.int a3), .inl (.int a4)]) (rest := []) (r := (some (.inl (.int r24)))) (c_X5_append hfl (sub_2_1_6 (⟨hj6, rfl⟩ : PC 2 E 0 r3 0)) hq23) rfl (kd0 := 6) (k2_1 (⟨hj6, rfl⟩ : PC 2 E 0 r3 0)) (l2_1 (⟨hj6, rfl⟩ : PC 2 E 0 r3 0)) (T := TX5) (N := 4) rfl (by decide) mw401 mw402 mw403 mw404 mw405 pd_X5_append rfl (by decide) rfl (Nat.le_of_ble_eq_true rfl) sl_0 st_0 dX10_instruct_100 ?_
                  show J X B (E, κ22) 103 [] [.inl (.int r24)]
                  cases h
                  exact hE _ rfl _ _ dX10_instruct_103
                · replace h := (if_neg hc21).symm.trans h
                  refine J_sub [] rfl ?_
                  exact w_X10_instruct_b81 hfl O hKP hmL hE hX h0 _ h
          · replace h := (if_pos hc18).symm.trans h
            refine J_sub [] rfl ?_
            exact w_X10_instruct_b42 hfl O hKP hmL hE hX h0 _ h
  · exact J_callVX O hKP (as := [.inl (.int a1)]) (rest := []) (r := .inr (exN e4)) (c_X10_guestAt hfl h0 hq2) rfl (kd0 := 10) (k10_0 h0) (l10_0 h0) (T := TX10) (N := 4) rfl (by decide) mw406 mw407 mw408 mw320 mw409 pd_X10_guestAt rfl (by decide) rfl (Nat.le_of_ble_eq_true rfl) (sl_v (sl_v (sl_v sl_0))) st_0 dX10_instruct_2 (fun s hs => by cases hs; exact hX _ rfl) (fun v hs => by cases hs)
theorem c_X10_instruct {l : Launch} (hfl : l.stackTraces = false) {E : EE} {κ κ' : K} {a1 : Int32} {a2 : Int32} {a3 : Int32} {a4 : Int32} (h0 : PC 10 E 4 0 0) {rs : (Int32 ⊕ Nat)} (h : f_X10_instruct E κ a1 a2 a3 a4 = some (κ', rs)) : ConX l yX10_instruct cX10_instruct 6 (some .int) 8 124 [.inr (some (4, 0, 0)), .inl (.int a1), .inl (.int a2), .inl (.int a3), .inl (.int a4)] (E, κ) (E, κ') (mapX (fun rr => (some (.inl (.int rr)))) rs) := by
  cases rs with
  | inl rr => exact ConX_of hfl (by decide +kernel) (Nat.le_of_ble_eq_true rfl) rfl ⟨_, rfl, rfl⟩ (fun X B g O hKP hmL hX hE => w_X10_instruct hfl O hKP hmL (fun rr hr => by cases hr; exact hE) (fun e hr => by cases hr) h0 _ _ _ _ _ h)
  | inr e => exact ConX_of hfl (by decide +kernel) (Nat.le_of_ble_eq_true rfl) rfl trivial (fun X B g O hKP hmL hX hE => w_X10_instruct hfl O hKP hmL (fun rr hr => by cases hr) (fun e hr => by cases hr; exact hX) h0 _ _ _ _ _ h)
def f_X10_pause_e (E : EE) (κ : K) (a1 : Int32) (a2 : Int32) : Option (K × (Int32 ⊕ Nat)) := bx (f_X10_guestAt E κ a1) fun κ1 r3 => gd (r3 < cntE E 0) (nm (kV κ1 0 r3 0 16) fun y7 => gd (a2 = 0 ∨ a2 = 1) (nm (setV κ1 0 r3 0 16 a2) fun κ8 => some (κ8, .inl y7)))
def f_X10_pause (E : EE) (κ : K) (a1 : Int32) (a2 : Int32) : Option (K × (Int32 ⊕ Nat)) := bx (f_X10_pause_e E κ a1 a2) fun κ x => gd (x = 0 ∨ x = 1) (some (κ, .inl x))
set_option maxHeartbeats 4000000 in
set_option maxRecDepth 100000 in
theorem w_X10_pause_e {l0 : Launch} (hfl : l0.stackTraces = false) {X : MX} {B : BX (EE × K)} {g : GP} {E : EE} {κ' : K} {rs : (Int32 ⊕ Nat)} (O : CK l0 X B g cX10_pause RX10 8 124) (hKP : KPok B E) (hmL : B.2.2.2.1 = 5) (hE : ∀ rr : Int32, rs = .inl rr → ∀ (pc : Nat) (lv : List (Nat × AV)), decode cX10_pause pc = .ok (.ireturn, 1) → J X B (E, κ') pc lv [.inl (.int rr)]) (hX : ∀ e, rs = .inr e → QXH X B g (E, κ') (.inr (exN e))) (h0 : PC 10 E 4 0 0) : ∀ (κ : K) (a1 : Int32) (a2 : Int32), f_X10_pause_e E κ a1 a2 = some (κ', rs) → J X B (E, κ) 0 [(0, .inr (some (4, 0, 0))), (1, .inl (.int a1)), (2, .inl (.int a2))] [] := by
  intro κ a1 a2 h
  unfold f_X10_pause_e at h
  refine J_aload_n O.mo dX10_pause_0 0 rfl ?_
  refine J_iload_n O.mo dX10_pause_1 1 rfl ?_
  refine J_sub [2] rfl ?_
  rcases bx_some h with ⟨κ1, r3, hq2, h⟩ | ⟨e4, hq2, rfl⟩
  · obtain ⟨hj6, h⟩ := gd_some h
    refine J_callVX O hKP (as := [.inl (.int a1)]) (rest := []) (r := .inl (some (.inr (some (0, r3, 0))))) (c_X10_guestAt hfl h0 hq2) rfl (kd0 := 10) (k10_0 h0) (l10_0 h0) (T := TX10) (N := 4) rfl (by decide) mw406 mw407 mw408 mw320 mw409 pd_X10_guestAt rfl (by decide) rfl (Nat.le_of_ble_eq_true rfl) (sl_v sl_0) st_0 dX10_pause_2 (fun s hs => by cases hs) (fun v hv5 => ?_)
    cases hv5
    show J X B (E, κ1) 5 [(2, .inl (.int a2))] [.inr (some (0, r3, 0))]
    refine J_astore_n O.mo (lv' := [(2, .inl (.int a2))]) dX10_pause_5 (by rw [hmL]; decide) rfl rfl ?_
    refine J_aload_n O.mo dX10_pause_6 0 rfl ?_
    refine J_getF O.co (kd0 := 2) (k2_0 (⟨hj6, rfl⟩ : PC 2 E 0 r3 0)) (l2_0 (⟨hj6, rfl⟩ : PC 2 E 0 r3 0)) (C := RX1) (T := TX1) (N := 19) rfl (by decide) rfl in_X1 16 (by decide) (v := .inl (.int (kV κ1 0 r3 0 16))) rfl mw410 rfl dX10_pause_7 ?_
    refine J_istore O.mo (lv' := [(3, .inr (some (0, r3, 0))), (2, .inl (.int a2))]) dX10_pause_10 (by rw [hmL]; decide) rfl rfl ?_
    refine nm_some (P := fun z => J X B (E, κ1) 12 [(4, .inl (.int z)), (3, .inr (some (0, r3, 0))), (2, .inl (.int a2))] []) h (fun y7 h => ?_)
    refine J_aload_n O.mo dX10_pause_12 1 rfl ?_
    refine J_iload_n O.mo dX10_pause_13 2 rfl ?_
    obtain ⟨hg9, h⟩ := gd_some h
    refine J_putI O.co (kd0 := 2) (k2_0 (⟨hj6, rfl⟩ : PC 2 E 0 r3 0)) (l2_0 (⟨hj6, rfl⟩ : PC 2 E 0 r3 0)) (C := RX1) (T := TX1) (N := 19) rfl (by decide) rfl in_X1 tyX1 tyX1_ok nmX1 16 (by decide) rfl rfl (x := a2) (Or.inr ⟨rfl, hg9⟩) mw410 dX10_pause_14 ?_
    refine nm_some (P := fun z => J X B (E, z) 17 [(4, .inl (.int y7)), (3, .inr (some (0, r3, 0))), (2, .inl (.int a2))] []) h (fun κ8 h => ?_)
    refine J_iload O.mo dX10_pause_17 0 rfl ?_
    cases h
    exact hE _ rfl _ _ dX10_pause_19
  · exact J_callVX O hKP (as := [.inl (.int a1)]) (rest := []) (r := .inr (exN e4)) (c_X10_guestAt hfl h0 hq2) rfl (kd0 := 10) (k10_0 h0) (l10_0 h0) (T := TX10) (N := 4) rfl (by decide) mw406 mw407 mw408 mw320 mw409 pd_X10_guestAt rfl (by decide) rfl (Nat.le_of_ble_eq_true rfl) (sl_v sl_0) st_0 dX10_pause_2 (fun s hs => by cases hs; exact hX _ rfl) (fun v hs => by cases hs)
theorem c_X10_pause {l : Launch} (hfl : l.stackTraces = false) {E : EE} {κ κ' : K} {a1 : Int32} {a2 : Int32} (h0 : PC 10 E 4 0 0) {rs : (Int32 ⊕ Nat)} (h : f_X10_pause E κ a1 a2 = some (κ', rs)) : ConX l yX10_pause cX10_pause 5 (some .boolean) 8 124 [.inr (some (4, 0, 0)), .inl (.int a1), .inl (.int a2)] (E, κ) (E, κ') (mapX (fun rr => (some (.inl (.int rr)))) rs) := by
  unfold f_X10_pause at h
  rcases bx_some h with ⟨κ1, x1, q1, q2⟩ | ⟨e1, q1, rfl⟩
  · obtain ⟨hb, q3⟩ := gd_some q2
    cases q3
    exact ConX_of hfl (by decide +kernel) (Nat.le_of_ble_eq_true rfl) rfl ⟨_, rfl, nar_b hb⟩ (fun X B g O hKP hmL hX hE => w_X10_pause_e hfl O hKP hmL (fun rr hr => by cases hr; exact hE) (fun e hr => by cases hr) h0 _ _ _ q1)
  · exact ConX_of hfl (by decide +kernel) (Nat.le_of_ble_eq_true rfl) rfl trivial (fun X B g O hKP hmL hX hE => w_X10_pause_e hfl O hKP hmL (fun rr hr => by cases hr) (fun e hr => by cases hr; exact hX) h0 _ _ _ q1)
def f_X10_scale_b16 (E : EE) (κ : K) : Option (K × (Int32 ⊕ Nat)) := some (addC κ 1 6, .inr 2)
def f_X10_scale (E : EE) (κ : K) (a1 : Int32) (a2 : Int32) : Option (K × (Int32 ⊕ Nat)) := bx (f_X10_guestAt E κ a1) fun κ1 r3 => gd (r3 < cntE E 0) (if a2 < 1 then f_X10_scale_b16 E κ1 else if a2 ≤ 3 then nm (kV κ1 0 r3 0 10) fun y9 => nm (setV κ1 0 r3 0 10 a2) fun κ10 => some (κ10, .inl y9) else f_X10_scale_b16 E κ1)
set_option maxHeartbeats 4000000 in
set_option maxRecDepth 100000 in
theorem w_X10_scale_b16 {l0 : Launch} (hfl : l0.stackTraces = false) {X : MX} {B : BX (EE × K)} {g : GP} {E : EE} {κ' : K} {rs : (Int32 ⊕ Nat)} (O : CK l0 X B g cX10_scale RX10 8 124) (hKP : KPok B E) (hmL : B.2.2.2.1 = 5) (hE : ∀ rr : Int32, rs = .inl rr → ∀ (pc : Nat) (lv : List (Nat × AV)), decode cX10_scale pc = .ok (.ireturn, 1) → J X B (E, κ') pc lv [.inl (.int rr)]) (hX : ∀ e, rs = .inr e → QXH X B g (E, κ') (.inr (exN e))) (h0 : PC 10 E 4 0 0) : ∀ (κ : K), f_X10_scale_b16 E κ = some (κ', rs) → J X B (E, κ) 16 [] [] := by
  intro κ h
  unfold f_X10_scale_b16 at h
  cases h
  exact J_throw O (cls := "java/lang/IllegalArgumentException") (hX _ rfl) (text := "scale") (by decide +kernel) mw388 mw389 (by decide) hat_36 (by decide) (Nat.le_of_ble_eq_true rfl) rfl dX10_scale_16 dX10_scale_19 dX10_scale_20 dX10_scale_22 dX10_scale_25
set_option maxHeartbeats 4000000 in
set_option maxRecDepth 100000 in
theorem w_X10_scale {l0 : Launch} (hfl : l0.stackTraces = false) {X : MX} {B : BX (EE × K)} {g : GP} {E : EE} {κ' : K} {rs : (Int32 ⊕ Nat)} (O : CK l0 X B g cX10_scale RX10 8 124) (hKP : KPok B E) (hmL : B.2.2.2.1 = 5) (hE : ∀ rr : Int32, rs = .inl rr → ∀ (pc : Nat) (lv : List (Nat × AV)), decode cX10_scale pc = .ok (.ireturn, 1) → J X B (E, κ') pc lv [.inl (.int rr)]) (hX : ∀ e, rs = .inr e → QXH X B g (E, κ') (.inr (exN e))) (h0 : PC 10 E 4 0 0) : ∀ (κ : K) (a1 : Int32) (a2 : Int32), f_X10_scale E κ a1 a2 = some (κ', rs) → J X B (E, κ) 0 [(0, .inr (some (4, 0, 0))), (1, .inl (.int a1)), (2, .inl (.int a2))] [] := by
  intro κ a1 a2 h
  unfold f_X10_scale at h
  refine J_aload_n O.mo dX10_scale_0 0 rfl ?_
  refine J_iload_n O.mo dX10_scale_1 1 rfl ?_
  refine J_sub [2] rfl ?_
  rcases bx_some h with ⟨κ1, r3, hq2, h⟩ | ⟨e4, hq2, rfl⟩
  · obtain ⟨hj6, h⟩ := gd_some h
    refine J_callVX O hKP (as := [.inl (.int a1)]) (rest := []) (r := .inl (some (.inr (some (0, r3, 0))))) (c_X10_guestAt hfl h0 hq2) rfl (kd0 := 10) (k10_0 h0) (l10_0 h0) (T := TX10) (N := 4) rfl (by decide) mw406 mw407 mw408 mw320 mw409 pd_X10_guestAt rfl (by decide) rfl (Nat.le_of_ble_eq_true rfl) (sl_v sl_0) st_0 dX10_scale_2 (fun s hs => by cases hs) (fun v hv5 => ?_)
    cases hv5
    show J X B (E, κ1) 5 [(2, .inl (.int a2))] [.inr (some (0, r3, 0))]
    refine J_astore_n O.mo (lv' := [(2, .inl (.int a2))]) dX10_scale_5 (by rw [hmL]; decide) rfl rfl ?_
    refine J_iload_n O.mo dX10_scale_6 1 rfl ?_
    refine J_iconst O.mo (v := 1) dX10_scale_7 (by decide) ?_
    refine J_icmp_lt O.mo (tgt := 16) dX10_scale_8 (by decide) (fun hc7 => ?_) (fun hc7 => ?_)
    · replace h := (if_pos hc7).symm.trans h
      refine J_sub [] rfl ?_
      exact w_X10_scale_b16 hfl O hKP hmL hE hX h0 _ h
    · replace h := (if_neg hc7).symm.trans h
      refine J_iload_n O.mo dX10_scale_11 1 rfl ?_
      refine J_iconst O.mo (v := 3) dX10_scale_12 (by decide) ?_
      refine J_icmp_le O.mo (tgt := 26) dX10_scale_13 (by decide) (fun hc8 => ?_) (fun hc8 => ?_)
      · replace h := (if_pos hc8).symm.trans h
        refine J_aload_n O.mo dX10_scale_26 0 rfl ?_
        refine J_getF O.co (kd0 := 2) (k2_0 (⟨hj6, rfl⟩ : PC 2 E 0 r3 0)) (l2_0 (⟨hj6, rfl⟩ : PC 2 E 0 r3 0)) (C := RX1) (T := TX1) (N := 19) rfl (by decide) rfl in_X1 10 (by decide) (v := .inl (.int (kV κ1 0 r3 0 10))) rfl mw411 rfl dX10_scale_27 ?_
        refine J_istore O.mo (lv' := [(3, .inr (some (0, r3, 0))), (2, .inl (.int a2))]) dX10_scale_30 (by rw [hmL]; decide) rfl rfl ?_
        refine nm_some (P := fun z => J X B (E, κ1) 32 [(4, .inl (.int z)), (3, .inr (some (0, r3, 0))), (2, .inl (.int a2))] []) h (fun y9 h => ?_)
        refine J_aload_n O.mo dX10_scale_32 1 rfl ?_
        refine J_iload_n O.mo dX10_scale_33 2 rfl ?_
        refine J_putI O.co (kd0 := 2) (k2_0 (⟨hj6, rfl⟩ : PC 2 E 0 r3 0)) (l2_0 (⟨hj6, rfl⟩ : PC 2 E 0 r3 0)) (C := RX1) (T := TX1) (N := 19) rfl (by decide) rfl in_X1 tyX1 tyX1_ok nmX1 10 (by decide) rfl rfl (x := a2) (Or.inl rfl) mw411 dX10_scale_34 ?_
        refine nm_some (P := fun z => J X B (E, z) 37 [(4, .inl (.int y9)), (3, .inr (some (0, r3, 0))), (2, .inl (.int a2))] []) h (fun κ10 h => ?_)
        refine J_iload O.mo dX10_scale_37 0 rfl ?_
        cases h
        exact hE _ rfl _ _ dX10_scale_39
      · replace h := (if_neg hc8).symm.trans h
        refine J_sub [] rfl ?_
        exact w_X10_scale_b16 hfl O hKP hmL hE hX h0 _ h
  · exact J_callVX O hKP (as := [.inl (.int a1)]) (rest := []) (r := .inr (exN e4)) (c_X10_guestAt hfl h0 hq2) rfl (kd0 := 10) (k10_0 h0) (l10_0 h0) (T := TX10) (N := 4) rfl (by decide) mw406 mw407 mw408 mw320 mw409 pd_X10_guestAt rfl (by decide) rfl (Nat.le_of_ble_eq_true rfl) (sl_v sl_0) st_0 dX10_scale_2 (fun s hs => by cases hs; exact hX _ rfl) (fun v hs => by cases hs)
theorem c_X10_scale {l : Launch} (hfl : l.stackTraces = false) {E : EE} {κ κ' : K} {a1 : Int32} {a2 : Int32} (h0 : PC 10 E 4 0 0) {rs : (Int32 ⊕ Nat)} (h : f_X10_scale E κ a1 a2 = some (κ', rs)) : ConX l yX10_scale cX10_scale 5 (some .int) 8 124 [.inr (some (4, 0, 0)), .inl (.int a1), .inl (.int a2)] (E, κ) (E, κ') (mapX (fun rr => (some (.inl (.int rr)))) rs) := by
  cases rs with
  | inl rr => exact ConX_of hfl (by decide +kernel) (Nat.le_of_ble_eq_true rfl) rfl ⟨_, rfl, rfl⟩ (fun X B g O hKP hmL hX hE => w_X10_scale hfl O hKP hmL (fun rr hr => by cases hr; exact hE) (fun e hr => by cases hr) h0 _ _ _ h)
  | inr e => exact ConX_of hfl (by decide +kernel) (Nat.le_of_ble_eq_true rfl) rfl trivial (fun X B g O hKP hmL hX hE => w_X10_scale hfl O hKP hmL (fun rr hr => by cases hr) (fun e hr => by cases hr; exact hX) h0 _ _ _ h)
def f_X10_input_b17 (E : EE) (κ : K) : Option (K × (Int32 ⊕ Nat)) := some (addC κ 1 6, .inr 2)
def f_X10_input_b84 (E : EE) (κ : K) (j3 : Nat) : Option (K × (Int32 ⊕ Nat)) := some (κ, .inl (kV κ 0 j3 10 1))
def f_X10_input (E : EE) (κ : K) (a1 : Int32) (a2 : Int32) : Option (K × (Int32 ⊕ Nat)) := bx (f_X10_guestAt E κ a1) fun κ1 r3 => gd (r3 < cntE E 0) (if a2 < 0 then f_X10_input_b17 E κ1 else if a2 < 10000 then if kV κ1 0 r3 10 1 < 20 then bd (f_X4_add E κ1 0 r3 10 a2) fun κ10 _ => if kV κ10 0 r3 18 0 = 0 then f_X10_input_b84 E κ10 r3 else bd (f_X4_add E κ10 0 r3 32 a2) fun κ14 _ => f_X10_input_b84 E κ14 r3 else some (addC κ1 1 6, .inr 3) else f_X10_input_b17 E κ1)
set_option maxHeartbeats 4000000 in
set_option maxRecDepth 100000 in
theorem w_X10_input_b17 {l0 : Launch} (hfl : l0.stackTraces = false) {X : MX} {B : BX (EE × K)} {g : GP} {E : EE} {κ' : K} {rs : (Int32 ⊕ Nat)} (O : CK l0 X B g cX10_input RX10 8 143) (hKP : KPok B E) (hmL : B.2.2.2.1 = 4) (hE : ∀ rr : Int32, rs = .inl rr → ∀ (pc : Nat) (lv : List (Nat × AV)), decode cX10_input pc = .ok (.ireturn, 1) → J X B (E, κ') pc lv [.inl (.int rr)]) (hX : ∀ e, rs = .inr e → QXH X B g (E, κ') (.inr (exN e))) (h0 : PC 10 E 4 0 0) : ∀ (κ : K), f_X10_input_b17 E κ = some (κ', rs) → J X B (E, κ) 17 [] [] := by
  intro κ h
  unfold f_X10_input_b17 at h
  cases h
  exact J_throw O (cls := "java/lang/IllegalArgumentException") (hX _ rfl) (text := "value") (by decide +kernel) mw388 mw389 (by decide) hat_36 (by decide) (Nat.le_of_ble_eq_true rfl) rfl dX10_input_17 dX10_input_20 dX10_input_21 dX10_input_23 dX10_input_26
set_option maxHeartbeats 4000000 in
set_option maxRecDepth 100000 in
theorem w_X10_input_b84 {l0 : Launch} (hfl : l0.stackTraces = false) {X : MX} {B : BX (EE × K)} {g : GP} {E : EE} {κ' : K} {rs : (Int32 ⊕ Nat)} (O : CK l0 X B g cX10_input RX10 8 143) (hKP : KPok B E) (hmL : B.2.2.2.1 = 4) (hE : ∀ rr : Int32, rs = .inl rr → ∀ (pc : Nat) (lv : List (Nat × AV)), decode cX10_input pc = .ok (.ireturn, 1) → J X B (E, κ') pc lv [.inl (.int rr)]) (hX : ∀ e, rs = .inr e → QXH X B g (E, κ') (.inr (exN e))) (h0 : PC 10 E 4 0 0) : ∀ (κ : K) (j3 : Nat) (p3 : PC 2 E 0 j3 0), f_X10_input_b84 E κ j3 = some (κ', rs) → J X B (E, κ) 84 [(3, .inr (some (0, j3, 0)))] [] := by
  intro κ j3 p3 h
  unfold f_X10_input_b84 at h
  refine J_aload_n O.mo dX10_input_84 0 rfl ?_
  refine J_getF O.co (kd0 := 2) (k2_0 p3) (l2_0 p3) (C := RX1) (T := TX1) (N := 19) rfl (by decide) rfl in_X1 4 (by decide) (v := .inr (some (0, j3, 5))) rfl mw343 rfl dX10_input_85 ?_
  refine J_getF O.co (kd0 := 9) (k2_5 p3) (l2_5 p3) (C := RX8) (T := TX8) (N := 10) rfl (by decide) rfl in_X8 1 (by decide) (v := .inr (some (0, j3, 10))) rfl mw412 rfl dX10_input_88 ?_
  refine J_getF O.co (kd0 := 5) (k2_10 p3) (l2_10 p3) (C := RX4) (T := TX4) (N := 2) rfl (by decide) rfl in_X4 1 (by decide) (v := .inl (.int (kV κ 0 j3 10 1))) rfl mw413 rfl dX10_input_91 ?_
  cases h
  exact hE _ rfl _ _ dX10_input_94
set_option maxHeartbeats 4000000 in
set_option maxRecDepth 100000 in
theorem w_X10_input {l0 : Launch} (hfl : l0.stackTraces = false) {X : MX} {B : BX (EE × K)} {g : GP} {E : EE} {κ' : K} {rs : (Int32 ⊕ Nat)} (O : CK l0 X B g cX10_input RX10 8 143) (hKP : KPok B E) (hmL : B.2.2.2.1 = 4) (hE : ∀ rr : Int32, rs = .inl rr → ∀ (pc : Nat) (lv : List (Nat × AV)), decode cX10_input pc = .ok (.ireturn, 1) → J X B (E, κ') pc lv [.inl (.int rr)]) (hX : ∀ e, rs = .inr e → QXH X B g (E, κ') (.inr (exN e))) (h0 : PC 10 E 4 0 0) : ∀ (κ : K) (a1 : Int32) (a2 : Int32), f_X10_input E κ a1 a2 = some (κ', rs) → J X B (E, κ) 0 [(0, .inr (some (4, 0, 0))), (1, .inl (.int a1)), (2, .inl (.int a2))] [] := by
  intro κ a1 a2 h
  unfold f_X10_input at h
  refine J_aload_n O.mo dX10_input_0 0 rfl ?_
  refine J_iload_n O.mo dX10_input_1 1 rfl ?_
  refine J_sub [2] rfl ?_
  rcases bx_some h with ⟨κ1, r3, hq2, h⟩ | ⟨e4, hq2, rfl⟩
  · obtain ⟨hj6, h⟩ := gd_some h
    refine J_callVX O hKP (as := [.inl (.int a1)]) (rest := []) (r := .inl (some (.inr (some (0, r3, 0))))) (c_X10_guestAt hfl h0 hq2) rfl (kd0 := 10) (k10_0 h0) (l10_0 h0) (T := TX10) (N := 4) rfl (by decide) mw406 mw407 mw408 mw320 mw409 pd_X10_guestAt rfl (by decide) rfl (Nat.le_of_ble_eq_true rfl) (sl_v sl_0) st_0 dX10_input_2 (fun s hs => by cases hs) (fun v hv5 => ?_)
    cases hv5
    show J X B (E, κ1) 5 [(2, .inl (.int a2))] [.inr (some (0, r3, 0))]
    refine J_astore_n O.mo (lv' := [(2, .inl (.int a2))]) dX10_input_5 (by rw [hmL]; decide) rfl rfl ?_
    refine J_iload_n O.mo dX10_input_6 1 rfl ?_
    refine J_if_lt O.mo (tgt := 17) dX10_input_7 (by decide) (fun hc7 => ?_) (fun hc7 => ?_)
    · replace h := (if_pos hc7).symm.trans h
      refine J_sub [] rfl ?_
      exact w_X10_input_b17 hfl O hKP hmL hE hX h0 _ h
    · replace h := (if_neg hc7).symm.trans h
      refine J_iload_n O.mo dX10_input_10 1 rfl ?_
      refine J_sipush O.mo (v := 10000) dX10_input_11 (by decide) ?_
      refine J_icmp_lt O.mo (tgt := 27) dX10_input_14 (by decide) (fun hc8 => ?_) (fun hc8 => ?_)
      · replace h := (if_pos hc8).symm.trans h
        refine J_aload_n O.mo dX10_input_27 0 rfl ?_
        refine J_getF O.co (kd0 := 2) (k2_0 (⟨hj6, rfl⟩ : PC 2 E 0 r3 0)) (l2_0 (⟨hj6, rfl⟩ : PC 2 E 0 r3 0)) (C := RX1) (T := TX1) (N := 19) rfl (by decide) rfl in_X1 4 (by decide) (v := .inr (some (0, r3, 5))) rfl mw343 rfl dX10_input_28 ?_
        refine J_getF O.co (kd0 := 9) (k2_5 (⟨hj6, rfl⟩ : PC 2 E 0 r3 0)) (l2_5 (⟨hj6, rfl⟩ : PC 2 E 0 r3 0)) (C := RX8) (T := TX8) (N := 10) rfl (by decide) rfl in_X8 1 (by decide) (v := .inr (some (0, r3, 10))) rfl mw412 rfl dX10_input_31 ?_
        refine J_getF O.co (kd0 := 5) (k2_10 (⟨hj6, rfl⟩ : PC 2 E 0 r3 0)) (l2_10 (⟨hj6, rfl⟩ : PC 2 E 0 r3 0)) (C := RX4) (T := TX4) (N := 2) rfl (by decide) rfl in_X4 1 (by decide) (v := .inl (.int (kV κ1 0 r3 10 1))) rfl mw413 rfl dX10_input_34 ?_
        refine J_bipush O.mo (v := 20) dX10_input_37 (by decide) ?_
        refine J_icmp_lt O.mo (tgt := 52) dX10_input_39 (by decide) (fun hc9 => ?_) (fun hc9 => ?_)
        · replace h := (if_pos hc9).symm.trans h
          refine J_aload_n O.mo dX10_input_52 0 rfl ?_
          refine J_getF O.co (kd0 := 2) (k2_0 (⟨hj6, rfl⟩ : PC 2 E 0 r3 0)) (l2_0 (⟨hj6, rfl⟩ : PC 2 E 0 r3 0)) (C := RX1) (T := TX1) (N := 19) rfl (by decide) rfl in_X1 4 (by decide) (v := .inr (some (0, r3, 5))) rfl mw343 rfl dX10_input_53 ?_
          refine J_getF O.co (kd0 := 9) (k2_5 (⟨hj6, rfl⟩ : PC 2 E 0 r3 0)) (l2_5 (⟨hj6, rfl⟩ : PC 2 E 0 r3 0)) (C := RX8) (T := TX8) (N := 10) rfl (by decide) rfl in_X8 1 (by decide) (v := .inr (some (0, r3, 10))) rfl mw412 rfl dX10_input_56 ?_
          refine J_iload_n O.mo dX10_input_59 1 rfl ?_
          obtain ⟨κ10, r12, hq11, h⟩ := bd_some h
          refine J_callV O hKP (as := [.inl (.int a2)]) (rest := []) (r := none) (c_X4_add hfl (sub_2_10_5 (⟨hj6, rfl⟩ : PC 2 E 0 r3 0)) hq11) rfl (kd0 := 5) (k2_10 (⟨hj6, rfl⟩ : PC 2 E 0 r3 0)) (l2_10 (⟨hj6, rfl⟩ : PC 2 E 0 r3 0)) (T := TX4) (N := 2) rfl (by decide) mw414 mw54 mw55 mw56 mw57 pd_X4_add rfl (by decide) rfl (Nat.le_of_ble_eq_true rfl) (sl_p (s2_0 (⟨hj6, rfl⟩ : PC 2 E 0 r3 0)) (sl_v sl_0)) st_0 dX10_input_60 ?_
          show J X B (E, κ10) 63 [(3, .inr (some (0, r3, 0))), (2, .inl (.int a2))] []
          refine J_aload_n O.mo dX10_input_63 0 rfl ?_
          refine J_getF O.co (kd0 := 2) (k2_0 (⟨hj6, rfl⟩ : PC 2 E 0 r3 0)) (l2_0 (⟨hj6, rfl⟩ : PC 2 E 0 r3 0)) (C := RX1) (T := TX1) (N := 19) rfl (by decide) rfl in_X1 5 (by decide) (v := .inr (some (0, r3, 18))) rfl mw415 rfl dX10_input_64 ?_
          refine J_getF O.co (kd0 := 1) (k2_18 (⟨hj6, rfl⟩ : PC 2 E 0 r3 0)) (l2_18 (⟨hj6, rfl⟩ : PC 2 E 0 r3 0)) (C := RX0) (T := TX0) (N := 4) rfl (by decide) rfl in_X0 0 (by decide) (v := .inl (.int (kV κ10 0 r3 18 0))) rfl mw416 rfl dX10_input_67 ?_
          refine J_if_eq O.mo (tgt := 84) dX10_input_70 (by decide) (fun hc13 => ?_) (fun hc13 => ?_)
          · replace h := (if_pos hc13).symm.trans h
            refine J_sub [0] rfl ?_
            exact w_X10_input_b84 hfl O hKP hmL hE hX h0 _ _ (⟨hj6, rfl⟩ : PC 2 E 0 r3 0) h
          · replace h := (if_neg hc13).symm.trans h
            refine J_aload_n O.mo dX10_input_73 0 rfl ?_
            refine J_getF O.co (kd0 := 2) (k2_0 (⟨hj6, rfl⟩ : PC 2 E 0 r3 0)) (l2_0 (⟨hj6, rfl⟩ : PC 2 E 0 r3 0)) (C := RX1) (T := TX1) (N := 19) rfl (by decide) rfl in_X1 5 (by decide) (v := .inr (some (0, r3, 18))) rfl mw415 rfl dX10_input_74 ?_
            refine J_getF O.co (kd0 := 1) (k2_18 (⟨hj6, rfl⟩ : PC 2 E 0 r3 0)) (l2_18 (⟨hj6, rfl⟩ : PC 2 E 0 r3 0)) (C := RX0) (T := TX0) (N := 4) rfl (by decide) rfl in_X0 2 (by decide) (v := .inr (some (0, r3, 32))) rfl mw417 rfl dX10_input_77 ?_
            refine J_iload_n O.mo dX10_input_80 1 rfl ?_
            refine J_sub [0] rfl ?_
            obtain ⟨κ14, r16, hq15, h⟩ := bd_some h
            refine J_callV O hKP (as := [.inl (.int a2)]) (rest := []) (r := none) (c_X4_add hfl (sub_2_32_5 (⟨hj6, rfl⟩ : PC 2 E 0 r3 0)) hq15) rfl (kd0 := 5) (k2_32 (⟨hj6, rfl⟩ : PC 2 E 0 r3 0)) (l2_32 (⟨hj6, rfl⟩ : PC 2 E 0 r3 0)) (T := TX4) (N := 2) rfl (by decide) mw414 mw54 mw55 mw56 mw57 pd_X4_add rfl (by decide) rfl (Nat.le_of_ble_eq_true rfl) (sl_p (s2_0 (⟨hj6, rfl⟩ : PC 2 E 0 r3 0)) sl_0) st_0 dX10_input_81 ?_
            show J X B (E, κ14) 84 [(3, .inr (some (0, r3, 0)))] []
            exact w_X10_input_b84 hfl O hKP hmL hE hX h0 _ _ (⟨hj6, rfl⟩ : PC 2 E 0 r3 0) h
        · replace h := (if_neg hc9).symm.trans h
          cases h
          exact J_throw O (cls := "java/lang/IllegalStateException") (hX _ rfl) (text := "too many inputs") (by decide +kernel) mw397 mw398 (by decide) hat_51 (by decide) (Nat.le_of_ble_eq_true rfl) rfl dX10_input_42 dX10_input_45 dX10_input_46 dX10_input_48 dX10_input_51
      · replace h := (if_neg hc8).symm.trans h
        refine J_sub [] rfl ?_
        exact w_X10_input_b17 hfl O hKP hmL hE hX h0 _ h
  · exact J_callVX O hKP (as := [.inl (.int a1)]) (rest := []) (r := .inr (exN e4)) (c_X10_guestAt hfl h0 hq2) rfl (kd0 := 10) (k10_0 h0) (l10_0 h0) (T := TX10) (N := 4) rfl (by decide) mw406 mw407 mw408 mw320 mw409 pd_X10_guestAt rfl (by decide) rfl (Nat.le_of_ble_eq_true rfl) (sl_v sl_0) st_0 dX10_input_2 (fun s hs => by cases hs; exact hX _ rfl) (fun v hs => by cases hs)
theorem c_X10_input {l : Launch} (hfl : l.stackTraces = false) {E : EE} {κ κ' : K} {a1 : Int32} {a2 : Int32} (h0 : PC 10 E 4 0 0) {rs : (Int32 ⊕ Nat)} (h : f_X10_input E κ a1 a2 = some (κ', rs)) : ConX l yX10_input cX10_input 4 (some .int) 8 143 [.inr (some (4, 0, 0)), .inl (.int a1), .inl (.int a2)] (E, κ) (E, κ') (mapX (fun rr => (some (.inl (.int rr)))) rs) := by
  cases rs with
  | inl rr => exact ConX_of hfl (by decide +kernel) (Nat.le_of_ble_eq_true rfl) rfl ⟨_, rfl, rfl⟩ (fun X B g O hKP hmL hX hE => w_X10_input hfl O hKP hmL (fun rr hr => by cases hr; exact hE) (fun e hr => by cases hr) h0 _ _ _ h)
  | inr e => exact ConX_of hfl (by decide +kernel) (Nat.le_of_ble_eq_true rfl) rfl trivial (fun X B g O hKP hmL hX hE => w_X10_input hfl O hKP hmL (fun rr hr => by cases hr) (fun e hr => by cases hr; exact hX) h0 _ _ _ h)
def f_X10_send_e (E : EE) (κ : K) (a1 : Int32) : Option (K × (Int32 ⊕ Nat)) := bx (f_X10_guestAt E κ a1) fun κ1 r3 => gd (r3 < cntE E 0) (bd (f_X3_hasEnded E κ1 0 r3 6) fun κ7 r9 => if r9 = 0 then nm (kV κ7 0 r3 5 8) fun y11 => nm (setV κ7 0 r3 5 8 1) fun κ12 => bd (f_X8_rouse E κ12 0 r3 5) fun κ13 _ => some (κ13, .inl y11) else some (addC κ7 1 6, .inr 3))
def f_X10_send (E : EE) (κ : K) (a1 : Int32) : Option (K × (Int32 ⊕ Nat)) := bx (f_X10_send_e E κ a1) fun κ x => gd (x = 0 ∨ x = 1) (some (κ, .inl x))
set_option maxHeartbeats 4000000 in
set_option maxRecDepth 100000 in
theorem w_X10_send_e {l0 : Launch} (hfl : l0.stackTraces = false) {X : MX} {B : BX (EE × K)} {g : GP} {E : EE} {κ' : K} {rs : (Int32 ⊕ Nat)} (O : CK l0 X B g cX10_send RX10 8 124) (hKP : KPok B E) (hmL : B.2.2.2.1 = 4) (hE : ∀ rr : Int32, rs = .inl rr → ∀ (pc : Nat) (lv : List (Nat × AV)), decode cX10_send pc = .ok (.ireturn, 1) → J X B (E, κ') pc lv [.inl (.int rr)]) (hX : ∀ e, rs = .inr e → QXH X B g (E, κ') (.inr (exN e))) (h0 : PC 10 E 4 0 0) : ∀ (κ : K) (a1 : Int32), f_X10_send_e E κ a1 = some (κ', rs) → J X B (E, κ) 0 [(0, .inr (some (4, 0, 0))), (1, .inl (.int a1))] [] := by
  intro κ a1 h
  unfold f_X10_send_e at h
  refine J_aload_n O.mo dX10_send_0 0 rfl ?_
  refine J_iload_n O.mo dX10_send_1 1 rfl ?_
  refine J_sub [] rfl ?_
  rcases bx_some h with ⟨κ1, r3, hq2, h⟩ | ⟨e4, hq2, rfl⟩
  · obtain ⟨hj6, h⟩ := gd_some h
    refine J_callVX O hKP (as := [.inl (.int a1)]) (rest := []) (r := .inl (some (.inr (some (0, r3, 0))))) (c_X10_guestAt hfl h0 hq2) rfl (kd0 := 10) (k10_0 h0) (l10_0 h0) (T := TX10) (N := 4) rfl (by decide) mw406 mw407 mw408 mw320 mw409 pd_X10_guestAt rfl (by decide) rfl (Nat.le_of_ble_eq_true rfl) sl_0 st_0 dX10_send_2 (fun s hs => by cases hs) (fun v hv5 => ?_)
    cases hv5
    show J X B (E, κ1) 5 [] [.inr (some (0, r3, 0))]
    refine J_getF O.co (kd0 := 2) (k2_0 (⟨hj6, rfl⟩ : PC 2 E 0 r3 0)) (l2_0 (⟨hj6, rfl⟩ : PC 2 E 0 r3 0)) (C := RX1) (T := TX1) (N := 19) rfl (by decide) rfl in_X1 4 (by decide) (v := .inr (some (0, r3, 5))) rfl mw343 rfl dX10_send_5 ?_
    refine J_astore_n O.mo (lv' := []) dX10_send_8 (by rw [hmL]; decide) rfl rfl ?_
    refine J_aload_n O.mo dX10_send_9 0 rfl ?_
    refine J_getF O.co (kd0 := 9) (k2_5 (⟨hj6, rfl⟩ : PC 2 E 0 r3 0)) (l2_5 (⟨hj6, rfl⟩ : PC 2 E 0 r3 0)) (C := RX8) (T := TX8) (N := 10) rfl (by decide) rfl in_X8 0 (by decide) (v := .inr (some (0, r3, 6))) rfl mw378 rfl dX10_send_10 ?_
    obtain ⟨κ7, r9, hq8, h⟩ := bd_some h
    refine J_callV O hKP (as := []) (rest := []) (r := (some (.inl (.int r9)))) (c_X3_hasEnded hfl (sub_2_6_4 (⟨hj6, rfl⟩ : PC 2 E 0 r3 0)) hq8) rfl (kd0 := 4) (k2_6 (⟨hj6, rfl⟩ : PC 2 E 0 r3 0)) (l2_6 (⟨hj6, rfl⟩ : PC 2 E 0 r3 0)) (T := TX3) (N := 9) rfl (by decide) mw418 mw323 mw324 mw137 mw325 pd_X3_hasEnded rfl (by decide) rfl (Nat.le_of_ble_eq_true rfl) (sl_p (s2_5 (⟨hj6, rfl⟩ : PC 2 E 0 r3 0)) sl_0) st_0 dX10_send_13 ?_
    show J X B (E, κ7) 16 [(2, .inr (some (0, r3, 5)))] [.inl (.int r9)]
    refine J_if_eq O.mo (tgt := 29) dX10_send_16 (by decide) (fun hc10 => ?_) (fun hc10 => ?_)
    · replace h := (if_pos hc10).symm.trans h
      refine J_aload_n O.mo dX10_send_29 0 rfl ?_
      refine J_getF O.co (kd0 := 9) (k2_5 (⟨hj6, rfl⟩ : PC 2 E 0 r3 0)) (l2_5 (⟨hj6, rfl⟩ : PC 2 E 0 r3 0)) (C := RX8) (T := TX8) (N := 10) rfl (by decide) rfl in_X8 8 (by decide) (v := .inl (.int (kV κ7 0 r3 5 8))) rfl mw419 rfl dX10_send_30 ?_
      refine J_istore_n O.mo (lv' := [(2, .inr (some (0, r3, 5)))]) dX10_send_33 (by rw [hmL]; decide) rfl rfl ?_
      refine nm_some (P := fun z => J X B (E, κ7) 34 [(3, .inl (.int z)), (2, .inr (some (0, r3, 5)))] []) h (fun y11 h => ?_)
      refine J_aload_n O.mo dX10_send_34 1 rfl ?_
      refine J_iconst O.mo (v := 1) dX10_send_35 (by decide) ?_
      refine J_putI O.co (kd0 := 9) (k2_5 (⟨hj6, rfl⟩ : PC 2 E 0 r3 0)) (l2_5 (⟨hj6, rfl⟩ : PC 2 E 0 r3 0)) (C := RX8) (T := TX8) (N := 10) rfl (by decide) rfl in_X8 tyX8 tyX8_ok nmX8 8 (by decide) rfl rfl (x := 1) (Or.inr ⟨rfl, Or.inr rfl⟩) mw419 dX10_send_36 ?_
      refine nm_some (P := fun z => J X B (E, z) 39 [(3, .inl (.int y11)), (2, .inr (some (0, r3, 5)))] []) h (fun κ12 h => ?_)
      refine J_aload_n O.mo dX10_send_39 1 rfl ?_
      refine J_sub [0] rfl ?_
      obtain ⟨κ13, r15, hq14, h⟩ := bd_some h
      refine J_callV O hKP (as := []) (rest := []) (r := none) (c_X8_rouse hfl (sub_2_5_9 (⟨hj6, rfl⟩ : PC 2 E 0 r3 0)) hq14) rfl (kd0 := 9) (k2_5 (⟨hj6, rfl⟩ : PC 2 E 0 r3 0)) (l2_5 (⟨hj6, rfl⟩ : PC 2 E 0 r3 0)) (T := TX8) (N := 10) rfl (by decide) mw420 mw346 mw347 mw124 mw348 pd_X8_rouse rfl (by decide) rfl (Nat.le_of_ble_eq_true rfl) (sl_v sl_0) st_0 dX10_send_40 ?_
      show J X B (E, κ13) 43 [(3, .inl (.int y11))] []
      refine J_iload_n O.mo dX10_send_43 0 rfl ?_
      cases h
      exact hE _ rfl _ _ dX10_send_44
    · replace h := (if_neg hc10).symm.trans h
      cases h
      exact J_throw O (cls := "java/lang/IllegalStateException") (hX _ rfl) (text := "stopped or dead") (by decide +kernel) mw397 mw398 (by decide) hat_51 (by decide) (Nat.le_of_ble_eq_true rfl) rfl dX10_send_19 dX10_send_22 dX10_send_23 dX10_send_25 dX10_send_28
  · exact J_callVX O hKP (as := [.inl (.int a1)]) (rest := []) (r := .inr (exN e4)) (c_X10_guestAt hfl h0 hq2) rfl (kd0 := 10) (k10_0 h0) (l10_0 h0) (T := TX10) (N := 4) rfl (by decide) mw406 mw407 mw408 mw320 mw409 pd_X10_guestAt rfl (by decide) rfl (Nat.le_of_ble_eq_true rfl) sl_0 st_0 dX10_send_2 (fun s hs => by cases hs; exact hX _ rfl) (fun v hs => by cases hs)
theorem c_X10_send {l : Launch} (hfl : l.stackTraces = false) {E : EE} {κ κ' : K} {a1 : Int32} (h0 : PC 10 E 4 0 0) {rs : (Int32 ⊕ Nat)} (h : f_X10_send E κ a1 = some (κ', rs)) : ConX l yX10_send cX10_send 4 (some .boolean) 8 124 [.inr (some (4, 0, 0)), .inl (.int a1)] (E, κ) (E, κ') (mapX (fun rr => (some (.inl (.int rr)))) rs) := by
  unfold f_X10_send at h
  rcases bx_some h with ⟨κ1, x1, q1, q2⟩ | ⟨e1, q1, rfl⟩
  · obtain ⟨hb, q3⟩ := gd_some q2
    cases q3
    exact ConX_of hfl (by decide +kernel) (Nat.le_of_ble_eq_true rfl) rfl ⟨_, rfl, nar_b hb⟩ (fun X B g O hKP hmL hX hE => w_X10_send_e hfl O hKP hmL (fun rr hr => by cases hr; exact hE) (fun e hr => by cases hr) h0 _ _ q1)
  · exact ConX_of hfl (by decide +kernel) (Nat.le_of_ble_eq_true rfl) rfl trivial (fun X B g O hKP hmL hX hE => w_X10_send_e hfl O hKP hmL (fun rr hr => by cases hr) (fun e hr => by cases hr; exact hX) h0 _ _ q1)
def f_X10_tick_b11 (E : EE) (κ : K) : Option (K × (Int32 ⊕ Nat)) := some (addC κ 1 6, .inr 2)
def f_X10_tick_b101 (E : EE) (κ : K) : Option (K × (Int32 ⊕ Nat)) := some (κ, .inl (kV κ 4 0 0 3))
def f_X10_tick_b91 (E : EE) (k45 : K → Int32 → Int32 → Option (K × (Int32 ⊕ Nat))) (κ : K) (x1 : Int32) (x2 : Int32) : Option (K × (Int32 ⊕ Nat)) := bd (f_X10_endTick E κ) fun κ10 _ => nm (x2 + 1) fun y13 => k45 κ10 x1 y13
def f_X10_tick_b66 (E : EE) (k45 : K → Int32 → Int32 → Option (K × (Int32 ⊕ Nat))) : Nat → K → Int32 → Int32 → Int32 → Int32 → Option (K × (Int32 ⊕ Nat))
  | 0, _, _, _, _, _ => none
  | n + 1, κ, x1, x2, x4, x5 => if x4 ≤ x5 then f_X10_tick_b91 E k45 κ x1 x2 else gd (¬ (x5 < 0 ∨ 2 ≤ x5.toNatClampNeg)) (nm (x5.toNatClampNeg) fun j16 => gd (j16 < cntE E 2) (bd (f_X10_giveTurn E κ j16) fun κ17 _ => nm (x5 + 1) fun y20 => f_X10_tick_b66 E k45 n κ17 x1 x2 x4 y20))
def f_X10_tick_b45 (E : EE) : Nat → K → Int32 → Int32 → Option (K × (Int32 ⊕ Nat))
  | 0, _, _, _ => none
  | n + 1, κ, x1, x2 => if x1 ≤ x2 then f_X10_tick_b101 E κ else bd (f_X10_countTimersDown E κ) fun κ5 _ => nm (nI 2) fun y8 => f_X10_tick_b66 E (f_X10_tick_b45 E n) FU κ5 x1 x2 y8 0
def f_X10_tick (E : EE) (κ : K) (a1 : Int32) : Option (K × (Int32 ⊕ Nat)) := if a1 < 1 then f_X10_tick_b11 E κ else if a1 ≤ 100 then if (kV κ 4 0 0 3) + a1 ≤ 3000 then f_X10_tick_b45 E FU κ a1 0 else some (addC κ 1 6, .inr 3) else f_X10_tick_b11 E κ
set_option maxHeartbeats 4000000 in
set_option maxRecDepth 100000 in
theorem w_X10_tick_b11 {l0 : Launch} (hfl : l0.stackTraces = false) {X : MX} {B : BX (EE × K)} {g : GP} {E : EE} {κ' : K} {rs : (Int32 ⊕ Nat)} (O : CK l0 X B g cX10_tick RX10 9 258) (hKP : KPok B E) (hmL : B.2.2.2.1 = 7) (hE : ∀ rr : Int32, rs = .inl rr → ∀ (pc : Nat) (lv : List (Nat × AV)), decode cX10_tick pc = .ok (.ireturn, 1) → J X B (E, κ') pc lv [.inl (.int rr)]) (hX : ∀ e, rs = .inr e → QXH X B g (E, κ') (.inr (exN e))) (h0 : PC 10 E 4 0 0) : ∀ (κ : K), f_X10_tick_b11 E κ = some (κ', rs) → J X B (E, κ) 11 [] [] := by
  intro κ h
  unfold f_X10_tick_b11 at h
  cases h
  exact J_throw O (cls := "java/lang/IllegalArgumentException") (hX _ rfl) (text := "ticks") (by decide +kernel) mw388 mw389 (by decide) hat_36 (by decide) (Nat.le_of_ble_eq_true rfl) rfl dX10_tick_11 dX10_tick_14 dX10_tick_15 dX10_tick_17 dX10_tick_20
set_option maxHeartbeats 4000000 in
set_option maxRecDepth 100000 in
theorem w_X10_tick_b101 {l0 : Launch} (hfl : l0.stackTraces = false) {X : MX} {B : BX (EE × K)} {g : GP} {E : EE} {κ' : K} {rs : (Int32 ⊕ Nat)} (O : CK l0 X B g cX10_tick RX10 9 258) (hKP : KPok B E) (hmL : B.2.2.2.1 = 7) (hE : ∀ rr : Int32, rs = .inl rr → ∀ (pc : Nat) (lv : List (Nat × AV)), decode cX10_tick pc = .ok (.ireturn, 1) → J X B (E, κ') pc lv [.inl (.int rr)]) (hX : ∀ e, rs = .inr e → QXH X B g (E, κ') (.inr (exN e))) (h0 : PC 10 E 4 0 0) : ∀ (κ : K), f_X10_tick_b101 E κ = some (κ', rs) → J X B (E, κ) 101 [(0, .inr (some (4, 0, 0)))] [] := by
  intro κ h
  unfold f_X10_tick_b101 at h
  refine J_aload_n O.mo dX10_tick_101 0 rfl ?_
  refine J_getF O.co (kd0 := 10) (k10_0 h0) (l10_0 h0) (C := RX10) (T := TX10) (N := 4) rfl (by decide) rfl in_X10 3 (by decide) (v := .inl (.int (kV κ 4 0 0 3))) rfl mw353 rfl dX10_tick_102 ?_
  cases h
  exact hE _ rfl _ _ dX10_tick_105
set_option maxHeartbeats 4000000 in
set_option maxRecDepth 100000 in
theorem w_X10_tick_b91 {l0 : Launch} (hfl : l0.stackTraces = false) {X : MX} {B : BX (EE × K)} {g : GP} {E : EE} {κ' : K} {rs : (Int32 ⊕ Nat)} (O : CK l0 X B g cX10_tick RX10 9 258) (hKP : KPok B E) (hmL : B.2.2.2.1 = 7) (hE : ∀ rr : Int32, rs = .inl rr → ∀ (pc : Nat) (lv : List (Nat × AV)), decode cX10_tick pc = .ok (.ireturn, 1) → J X B (E, κ') pc lv [.inl (.int rr)]) (hX : ∀ e, rs = .inr e → QXH X B g (E, κ') (.inr (exN e))) (h0 : PC 10 E 4 0 0) {k45 : K → Int32 → Int32 → Option (K × (Int32 ⊕ Nat))} (hk45 : ∀ (κ : K) (x1 : Int32) (x2 : Int32), k45 κ x1 x2 = some (κ', rs) → J X B (E, κ) 45 [(0, .inr (some (4, 0, 0))), (1, .inl (.int x1)), (2, .inl (.int x2))] []) : ∀ (κ : K) (x1 : Int32) (x2 : Int32), f_X10_tick_b91 E k45 κ x1 x2 = some (κ', rs) → J X B (E, κ) 91 [(0, .inr (some (4, 0, 0))), (1, .inl (.int x1)), (2, .inl (.int x2))] [] := by
  intro κ x1 x2 h
  unfold f_X10_tick_b91 at h
  refine J_aload_n O.mo dX10_tick_91 0 rfl ?_
  obtain ⟨κ10, r12, hq11, h⟩ := bd_some h
  refine J_callV O hKP (as := []) (rest := []) (r := none) (c_X10_endTick hfl h0 hq11) rfl (kd0 := 10) (k10_0 h0) (l10_0 h0) (T := TX10) (N := 4) rfl (by decide) mw426 mw427 mw428 mw320 mw429 pd_X10_endTick rfl (by decide) rfl (Nat.le_of_ble_eq_true rfl) (sl_p (s10_0 h0) (sl_v (sl_v sl_0))) st_0 dX10_tick_92 ?_
  show J X B (E, κ10) 95 [(0, .inr (some (4, 0, 0))), (1, .inl (.int x1)), (2, .inl (.int x2))] []
  refine J_iinc O.mo (v := x2 + 1) (lv' := [(0, .inr (some (4, 0, 0))), (1, .inl (.int x1))]) dX10_tick_95 (by rw [hmL]; decide) 2 rfl (by rw [show Int32.ofInt (1) = (1 : Int32) from by decide]) rfl rfl ?_
  refine nm_some (P := fun z => J X B (E, κ10) 98 [(2, .inl (.int z)), (0, .inr (some (4, 0, 0))), (1, .inl (.int x1))] []) h (fun y13 h => ?_)
  refine J_goto O.mo (tgt := 45) dX10_tick_98 (by decide) ?_
  refine J_sub [1, 2, 0] rfl ?_
  exact hk45 _ _ _ h
set_option maxHeartbeats 4000000 in
set_option maxRecDepth 100000 in
theorem w_X10_tick_b66 {l0 : Launch} (hfl : l0.stackTraces = false) {X : MX} {B : BX (EE × K)} {g : GP} {E : EE} {κ' : K} {rs : (Int32 ⊕ Nat)} (O : CK l0 X B g cX10_tick RX10 9 258) (hKP : KPok B E) (hmL : B.2.2.2.1 = 7) (hE : ∀ rr : Int32, rs = .inl rr → ∀ (pc : Nat) (lv : List (Nat × AV)), decode cX10_tick pc = .ok (.ireturn, 1) → J X B (E, κ') pc lv [.inl (.int rr)]) (hX : ∀ e, rs = .inr e → QXH X B g (E, κ') (.inr (exN e))) (h0 : PC 10 E 4 0 0) {k45 : K → Int32 → Int32 → Option (K × (Int32 ⊕ Nat))} (hk45 : ∀ (κ : K) (x1 : Int32) (x2 : Int32), k45 κ x1 x2 = some (κ', rs) → J X B (E, κ) 45 [(0, .inr (some (4, 0, 0))), (1, .inl (.int x1)), (2, .inl (.int x2))] []) : ∀ (n : Nat) (κ : K) (x1 : Int32) (x2 : Int32) (x4 : Int32) (x5 : Int32), f_X10_tick_b66 E k45 n κ x1 x2 x4 x5 = some (κ', rs) → J X B (E, κ) 66 [(0, .inr (some (4, 0, 0))), (1, .inl (.int x1)), (2, .inl (.int x2)), (3, .inr (some (4, 0, 3))), (4, .inl (.int x4)), (5, .inl (.int x5))] [] := by
  intro n
  induction n with
  | zero => intro κ x1 x2 x4 x5 h; cases h
  | succ n ih =>
    intro κ x1 x2 x4 x5 h
    rw [f_X10_tick_b66] at h
    refine J_iload O.mo dX10_tick_66 5 rfl ?_
    refine J_iload O.mo dX10_tick_68 4 rfl ?_
    refine J_icmp_ge O.mo (tgt := 91) dX10_tick_70 (by decide) (fun hc9 => ?_) (fun hc9 => ?_)
    · replace h := (if_pos hc9).symm.trans h
      refine J_sub [0, 1, 2] rfl ?_
      exact w_X10_tick_b91 hfl O hKP hmL hE hX h0 hk45 _ _ _ h
    · replace h := (if_neg hc9).symm.trans h
      refine J_aload_n O.mo dX10_tick_73 3 rfl ?_
      refine J_iload O.mo dX10_tick_74 5 rfl ?_
      obtain ⟨hg14, h⟩ := gd_some h
      refine J_aaldH O.co (l10_3 h0) (k10_3 h0) hg14 dX10_tick_76 ?_
      refine nm_some (P := fun z => J X B (E, κ) 77 [(0, .inr (some (4, 0, 0))), (1, .inl (.int x1)), (2, .inl (.int x2)), (3, .inr (some (4, 0, 3))), (4, .inl (.int x4)), (5, .inl (.int x5))] [.inr (some (2, z, 0))]) h (fun j16 h => ?_)
      obtain ⟨hj15, h⟩ := gd_some h
      refine J_astore O.mo (lv' := [(0, .inr (some (4, 0, 0))), (1, .inl (.int x1)), (2, .inl (.int x2)), (3, .inr (some (4, 0, 3))), (4, .inl (.int x4)), (5, .inl (.int x5))]) dX10_tick_77 (by rw [hmL]; decide) rfl rfl ?_
      refine J_aload_n O.mo dX10_tick_79 1 rfl ?_
      refine J_aload O.mo dX10_tick_80 0 rfl ?_
      refine J_sub [1, 2, 3, 4, 5, 6] rfl ?_
      obtain ⟨κ17, r19, hq18, h⟩ := bd_some h
      refine J_callV O hKP (as := [.inr (some (2, j16, 0))]) (rest := []) (r := none) (c_X10_giveTurn hfl h0 (⟨hj15, rfl⟩ : PC 3 E 2 j16 0) hq18) rfl (kd0 := 10) (k10_0 h0) (l10_0 h0) (T := TX10) (N := 4) rfl (by decide) mw430 mw431 mw432 mw320 mw433 pd_X10_giveTurn rfl (by decide) rfl (Nat.le_of_ble_eq_true rfl) (sl_p (s10_0 h0) (sl_v (sl_v (sl_p (s10_3 h0) (sl_v (sl_v sl_0)))))) st_0 dX10_tick_82 ?_
      show J X B (E, κ17) 85 [(0, .inr (some (4, 0, 0))), (1, .inl (.int x1)), (2, .inl (.int x2)), (3, .inr (some (4, 0, 3))), (4, .inl (.int x4)), (5, .inl (.int x5))] []
      refine J_iinc O.mo (v := x5 + 1) (lv' := [(0, .inr (some (4, 0, 0))), (1, .inl (.int x1)), (2, .inl (.int x2)), (3, .inr (some (4, 0, 3))), (4, .inl (.int x4))]) dX10_tick_85 (by rw [hmL]; decide) 5 rfl (by rw [show Int32.ofInt (1) = (1 : Int32) from by decide]) rfl rfl ?_
      refine nm_some (P := fun z => J X B (E, κ17) 88 [(5, .inl (.int z)), (0, .inr (some (4, 0, 0))), (1, .inl (.int x1)), (2, .inl (.int x2)), (3, .inr (some (4, 0, 3))), (4, .inl (.int x4))] []) h (fun y20 h => ?_)
      refine J_goto O.mo (tgt := 66) dX10_tick_88 (by decide) ?_
      refine J_sub [1, 2, 3, 4, 5, 0] rfl ?_
      exact ih _ _ _ _ _ h
set_option maxHeartbeats 4000000 in
set_option maxRecDepth 100000 in
theorem w_X10_tick_b45 {l0 : Launch} (hfl : l0.stackTraces = false) {X : MX} {B : BX (EE × K)} {g : GP} {E : EE} {κ' : K} {rs : (Int32 ⊕ Nat)} (O : CK l0 X B g cX10_tick RX10 9 258) (hKP : KPok B E) (hmL : B.2.2.2.1 = 7) (hE : ∀ rr : Int32, rs = .inl rr → ∀ (pc : Nat) (lv : List (Nat × AV)), decode cX10_tick pc = .ok (.ireturn, 1) → J X B (E, κ') pc lv [.inl (.int rr)]) (hX : ∀ e, rs = .inr e → QXH X B g (E, κ') (.inr (exN e))) (h0 : PC 10 E 4 0 0) : ∀ (n : Nat) (κ : K) (x1 : Int32) (x2 : Int32), f_X10_tick_b45 E n κ x1 x2 = some (κ', rs) → J X B (E, κ) 45 [(0, .inr (some (4, 0, 0))), (1, .inl (.int x1)), (2, .inl (.int x2))] [] := by
  intro n
  induction n with
  | zero => intro κ x1 x2 h; cases h
  | succ n ih =>
    intro κ x1 x2 h
    rw [f_X10_tick_b45] at h
    refine J_iload_n O.mo dX10_tick_45 2 rfl ?_
    refine J_iload_n O.mo dX10_tick_46 1 rfl ?_
    refine J_icmp_ge O.mo (tgt := 101) dX10_tick_47 (by decide) (fun hc4 => ?_) (fun hc4 => ?_)
    · replace h := (if_pos hc4).symm.trans h
      refine J_sub [0] rfl ?_
      exact w_X10_tick_b101 hfl O hKP hmL hE hX h0 _ h
    · replace h := (if_neg hc4).symm.trans h
      refine J_aload_n O.mo dX10_tick_50 0 rfl ?_
      obtain ⟨κ5, r7, hq6, h⟩ := bd_some h
      refine J_callV O hKP (as := []) (rest := []) (r := none) (c_X10_countTimersDown hfl h0 hq6) rfl (kd0 := 10) (k10_0 h0) (l10_0 h0) (T := TX10) (N := 4) rfl (by decide) mw421 mw422 mw423 mw320 mw424 pd_X10_countTimersDown rfl (by decide) rfl (Nat.le_of_ble_eq_true rfl) (sl_p (s10_0 h0) (sl_v (sl_v sl_0))) st_0 dX10_tick_51 ?_
      show J X B (E, κ5) 54 [(0, .inr (some (4, 0, 0))), (1, .inl (.int x1)), (2, .inl (.int x2))] []
      refine J_aload_n O.mo dX10_tick_54 0 rfl ?_
      refine J_getF O.co (kd0 := 10) (k10_0 h0) (l10_0 h0) (C := RX10) (T := TX10) (N := 4) rfl (by decide) rfl in_X10 2 (by decide) (v := .inr (some (4, 0, 3))) rfl mw425 rfl dX10_tick_55 ?_
      refine J_astore_n O.mo (lv' := [(0, .inr (some (4, 0, 0))), (1, .inl (.int x1)), (2, .inl (.int x2))]) dX10_tick_58 (by rw [hmL]; decide) rfl rfl ?_
      refine J_aload_n O.mo dX10_tick_59 0 rfl ?_
      refine J_alenH O.co (n := 2) (g := fun _ => none) (fun ad => ⟨_, ct_25 (l10_3 h0) (k10_3 h0) ad⟩) dX10_tick_60 ?_
      refine J_istore O.mo (lv' := [(3, .inr (some (4, 0, 3))), (0, .inr (some (4, 0, 0))), (1, .inl (.int x1)), (2, .inl (.int x2))]) dX10_tick_61 (by rw [hmL]; decide) rfl rfl ?_
      refine nm_some (P := fun z => J X B (E, κ5) 63 [(4, .inl (.int z)), (3, .inr (some (4, 0, 3))), (0, .inr (some (4, 0, 0))), (1, .inl (.int x1)), (2, .inl (.int x2))] []) h (fun y8 h => ?_)
      refine J_iconst O.mo (v := 0) dX10_tick_63 (by decide) ?_
      refine J_istore O.mo (lv' := [(4, .inl (.int y8)), (3, .inr (some (4, 0, 3))), (0, .inr (some (4, 0, 0))), (1, .inl (.int x1)), (2, .inl (.int x2))]) dX10_tick_64 (by rw [hmL]; decide) rfl rfl ?_
      refine J_sub [3, 4, 5, 2, 1, 0] rfl ?_
      exact w_X10_tick_b66 hfl O hKP hmL hE hX h0 ih FU _ _ _ _ _ h
set_option maxHeartbeats 4000000 in
set_option maxRecDepth 100000 in
theorem w_X10_tick {l0 : Launch} (hfl : l0.stackTraces = false) {X : MX} {B : BX (EE × K)} {g : GP} {E : EE} {κ' : K} {rs : (Int32 ⊕ Nat)} (O : CK l0 X B g cX10_tick RX10 9 258) (hKP : KPok B E) (hmL : B.2.2.2.1 = 7) (hE : ∀ rr : Int32, rs = .inl rr → ∀ (pc : Nat) (lv : List (Nat × AV)), decode cX10_tick pc = .ok (.ireturn, 1) → J X B (E, κ') pc lv [.inl (.int rr)]) (hX : ∀ e, rs = .inr e → QXH X B g (E, κ') (.inr (exN e))) (h0 : PC 10 E 4 0 0) : ∀ (κ : K) (a1 : Int32), f_X10_tick E κ a1 = some (κ', rs) → J X B (E, κ) 0 [(0, .inr (some (4, 0, 0))), (1, .inl (.int a1))] [] := by
  intro κ a1 h
  unfold f_X10_tick at h
  refine J_iload_n O.mo dX10_tick_0 1 rfl ?_
  refine J_iconst O.mo (v := 1) dX10_tick_1 (by decide) ?_
  refine J_icmp_lt O.mo (tgt := 11) dX10_tick_2 (by decide) (fun hc1 => ?_) (fun hc1 => ?_)
  · replace h := (if_pos hc1).symm.trans h
    refine J_sub [] rfl ?_
    exact w_X10_tick_b11 hfl O hKP hmL hE hX h0 _ h
  · replace h := (if_neg hc1).symm.trans h
    refine J_iload_n O.mo dX10_tick_5 1 rfl ?_
    refine J_bipush O.mo (v := 100) dX10_tick_6 (by decide) ?_
    refine J_icmp_le O.mo (tgt := 21) dX10_tick_8 (by decide) (fun hc2 => ?_) (fun hc2 => ?_)
    · replace h := (if_pos hc2).symm.trans h
      refine J_aload_n O.mo dX10_tick_21 0 rfl ?_
      refine J_getF O.co (kd0 := 10) (k10_0 h0) (l10_0 h0) (C := RX10) (T := TX10) (N := 4) rfl (by decide) rfl in_X10 3 (by decide) (v := .inl (.int (kV κ 4 0 0 3))) rfl mw353 rfl dX10_tick_22 ?_
      refine J_iload_n O.mo dX10_tick_25 1 rfl ?_
      refine J_iadd O.mo dX10_tick_26 ?_
      refine J_sipush O.mo (v := 3000) dX10_tick_27 (by decide) ?_
      refine J_icmp_le O.mo (tgt := 43) dX10_tick_30 (by decide) (fun hc3 => ?_) (fun hc3 => ?_)
      · replace h := (if_pos hc3).symm.trans h
        refine J_iconst O.mo (v := 0) dX10_tick_43 (by decide) ?_
        refine J_istore_n O.mo (lv' := [(0, .inr (some (4, 0, 0))), (1, .inl (.int a1))]) dX10_tick_44 (by rw [hmL]; decide) rfl rfl ?_
        refine J_sub [1, 2, 0] rfl ?_
        exact w_X10_tick_b45 hfl O hKP hmL hE hX h0 FU _ _ _ h
      · replace h := (if_neg hc3).symm.trans h
        cases h
        exact J_throw O (cls := "java/lang/IllegalStateException") (hX _ rfl) (text := "too late") (by decide +kernel) mw397 mw398 (by decide) hat_51 (by decide) (Nat.le_of_ble_eq_true rfl) rfl dX10_tick_33 dX10_tick_36 dX10_tick_37 dX10_tick_39 dX10_tick_42
    · replace h := (if_neg hc2).symm.trans h
      refine J_sub [] rfl ?_
      exact w_X10_tick_b11 hfl O hKP hmL hE hX h0 _ h
theorem c_X10_tick {l : Launch} (hfl : l.stackTraces = false) {E : EE} {κ κ' : K} {a1 : Int32} (h0 : PC 10 E 4 0 0) {rs : (Int32 ⊕ Nat)} (h : f_X10_tick E κ a1 = some (κ', rs)) : ConX l yX10_tick cX10_tick 7 (some .int) 9 258 [.inr (some (4, 0, 0)), .inl (.int a1)] (E, κ) (E, κ') (mapX (fun rr => (some (.inl (.int rr)))) rs) := by
  cases rs with
  | inl rr => exact ConX_of hfl (by decide +kernel) (Nat.le_of_ble_eq_true rfl) rfl ⟨_, rfl, rfl⟩ (fun X B g O hKP hmL hX hE => w_X10_tick hfl O hKP hmL (fun rr hr => by cases hr; exact hE) (fun e hr => by cases hr) h0 _ _ h)
  | inr e => exact ConX_of hfl (by decide +kernel) (Nat.le_of_ble_eq_true rfl) rfl trivial (fun X B g O hKP hmL hX hE => w_X10_tick hfl O hKP hmL (fun rr hr => by cases hr) (fun e hr => by cases hr; exact hX) h0 _ _ h)
def f_X10_hostAt (E : EE) (κ : K) (a1 : Int32) : Option (K × (Nat ⊕ Nat)) := bx (f_X10_checkPlace E κ a1 2) fun κ1 _ => gd (¬ (a1 < 0 ∨ 2 ≤ a1.toNatClampNeg)) (nm (a1.toNatClampNeg) fun j8 => gd (j8 < cntE E 2) (some (κ1, .inl j8)))
set_option maxHeartbeats 4000000 in
set_option maxRecDepth 100000 in
theorem w_X10_hostAt {l0 : Launch} (hfl : l0.stackTraces = false) {X : MX} {B : BX (EE × K)} {g : GP} {E : EE} {κ' : K} {rs : (Nat ⊕ Nat)} (O : CK l0 X B g cX10_hostAt RX10 7 103) (hKP : KPok B E) (hmL : B.2.2.2.1 = 2) (hE : ∀ rr : Nat, rs = .inl rr → ∀ (pc : Nat) (lv : List (Nat × AV)), decode cX10_hostAt pc = .ok (.areturn, 1) → J X B (E, κ') pc lv [.inr (some (2, rr, 0))]) (hX : ∀ e, rs = .inr e → QXH X B g (E, κ') (.inr (exN e))) (h0 : PC 10 E 4 0 0) : ∀ (κ : K) (a1 : Int32), f_X10_hostAt E κ a1 = some (κ', rs) → J X B (E, κ) 0 [(0, .inr (some (4, 0, 0))), (1, .inl (.int a1))] [] := by
  intro κ a1 h
  unfold f_X10_hostAt at h
  refine J_iload_n O.mo dX10_hostAt_0 1 rfl ?_
  refine J_iconst O.mo (v := 2) dX10_hostAt_1 (by decide) ?_
  rcases bx_some h with ⟨κ1, r3, hq2, h⟩ | ⟨e4, hq2, rfl⟩
  · refine J_callSX O hKP (as := [.inl (.int a1), .inl (.int 2)]) (rest := []) (r := .inl none) (c_X10_checkPlace hfl hq2) rfl mw385 mw386 mw320 mw387 pd_X10_checkPlace rfl (by decide) rfl (Nat.le_of_ble_eq_true rfl) (sl_p (s10_0 h0) (sl_v sl_0)) st_0 dX10_hostAt_2 (fun s hs => by cases hs) (fun v hv5 => ?_)
    cases hv5
    show J X B (E, κ1) 5 [(0, .inr (some (4, 0, 0))), (1, .inl (.int a1))] []
    refine J_aload_n O.mo dX10_hostAt_5 0 rfl ?_
    refine J_getF O.co (kd0 := 10) (k10_0 h0) (l10_0 h0) (C := RX10) (T := TX10) (N := 4) rfl (by decide) rfl in_X10 2 (by decide) (v := .inr (some (4, 0, 3))) rfl mw425 rfl dX10_hostAt_6 ?_
    refine J_iload_n O.mo dX10_hostAt_9 1 rfl ?_
    obtain ⟨hg6, h⟩ := gd_some h
    refine J_aaldH O.co (l10_3 h0) (k10_3 h0) hg6 dX10_hostAt_10 ?_
    refine nm_some (P := fun z => J X B (E, κ1) 11 [(0, .inr (some (4, 0, 0))), (1, .inl (.int a1))] [.inr (some (2, z, 0))]) h (fun j8 h => ?_)
    obtain ⟨hj7, h⟩ := gd_some h
    cases h
    exact hE _ rfl _ _ dX10_hostAt_11
  · exact J_callSX O hKP (as := [.inl (.int a1), .inl (.int 2)]) (rest := []) (r := .inr (exN e4)) (c_X10_checkPlace hfl hq2) rfl mw385 mw386 mw320 mw387 pd_X10_checkPlace rfl (by decide) rfl (Nat.le_of_ble_eq_true rfl) (sl_p (s10_0 h0) (sl_v sl_0)) st_0 dX10_hostAt_2 (fun s hs => by cases hs; exact hX _ rfl) (fun v hs => by cases hs)
theorem c_X10_hostAt {l : Launch} (hfl : l.stackTraces = false) {E : EE} {κ κ' : K} {a1 : Int32} (h0 : PC 10 E 4 0 0) {rs : (Nat ⊕ Nat)} (h : f_X10_hostAt E κ a1 = some (κ', rs)) : ConX l yX10_hostAt cX10_hostAt 2 (some (.object "GuestHall$Host")) 7 103 [.inr (some (4, 0, 0)), .inl (.int a1)] (E, κ) (E, κ') (mapX (fun rr => (some (.inr (some (2, rr, 0))))) rs) := by
  cases rs with
  | inl rr => exact ConX_of hfl (by decide +kernel) (Nat.le_of_ble_eq_true rfl) rfl ⟨_, rfl, Or.inl ⟨_, rfl⟩⟩ (fun X B g O hKP hmL hX hE => w_X10_hostAt hfl O hKP hmL (fun rr hr => by cases hr; exact hE) (fun e hr => by cases hr) h0 _ _ h)
  | inr e => exact ConX_of hfl (by decide +kernel) (Nat.le_of_ble_eq_true rfl) rfl trivial (fun X B g O hKP hmL hX hE => w_X10_hostAt hfl O hKP hmL (fun rr hr => by cases hr) (fun e hr => by cases hr; exact hX) h0 _ _ h)
def f_X10_share_b67 (E : EE) (k11 : K → Nat → Int32 → Int32 → Option (K × (Int32 ⊕ Nat))) (κ : K) (j2 : Nat) (x3 : Int32) (x4 : Int32) : Option (K × (Int32 ⊕ Nat)) := nm (x4 + 1) fun y10 => k11 κ j2 x3 y10
def f_X10_share_b61 (E : EE) (k11 : K → Nat → Int32 → Int32 → Option (K × (Int32 ⊕ Nat))) (k24 : K → Nat → Int32 → Int32 → Int32 → Option (K × (Int32 ⊕ Nat))) (κ : K) (j2 : Nat) (x3 : Int32) (x4 : Int32) (x5 : Int32) : Option (K × (Int32 ⊕ Nat)) := nm (x5 + 1) fun y21 => k24 κ j2 x3 x4 y21
def f_X10_share_b24 (E : EE) (k11 : K → Nat → Int32 → Int32 → Option (K × (Int32 ⊕ Nat))) : Nat → K → Nat → Int32 → Int32 → Int32 → Option (K × (Int32 ⊕ Nat))
  | 0, _, _, _, _, _ => none
  | n + 1, κ, j2, x3, x4, x5 => if 16 ≤ x5 then f_X10_share_b67 E k11 κ j2 x3 x4 else bd (f_X2_keyIn E κ j2 x4) fun κ11 r13 => bd (f_X2_keyIn E κ11 j2 x5) fun κ14 r16 => bd (f_X10_areAlike E κ14 r13 r16) fun κ17 r19 => if r19 = 0 then f_X10_share_b61 E k11 (f_X10_share_b24 E k11 n) κ17 j2 x3 x4 x5 else bd (f_X2_merge E κ17 j2 x4 x5) fun κ22 _ => nm (x3 + 1) fun y25 => f_X10_share_b61 E k11 (f_X10_share_b24 E k11 n) κ22 j2 y25 x4 x5
def f_X10_share_b11 (E : EE) : Nat → K → Nat → Int32 → Int32 → Option (K × (Int32 ⊕ Nat))
  | 0, _, _, _, _ => none
  | n + 1, κ, j2, x3, x4 => if 16 ≤ x4 then some (κ, .inl x3) else nm (x4 + 1) fun y8 => f_X10_share_b24 E (f_X10_share_b11 E n) FU κ j2 x3 x4 y8
def f_X10_share (E : EE) (κ : K) (a1 : Int32) : Option (K × (Int32 ⊕ Nat)) := bx (f_X10_hostAt E κ a1) fun κ1 r3 => gd (r3 < cntE E 2) (f_X10_share_b11 E FU κ1 r3 0 0)
set_option maxHeartbeats 4000000 in
set_option maxRecDepth 100000 in
theorem w_X10_share_b67 {l0 : Launch} (hfl : l0.stackTraces = false) {X : MX} {B : BX (EE × K)} {g : GP} {E : EE} {κ' : K} {rs : (Int32 ⊕ Nat)} (O : CK l0 X B g cX10_share RX10 8 124) (hKP : KPok B E) (hmL : B.2.2.2.1 = 6) (hE : ∀ rr : Int32, rs = .inl rr → ∀ (pc : Nat) (lv : List (Nat × AV)), decode cX10_share pc = .ok (.ireturn, 1) → J X B (E, κ') pc lv [.inl (.int rr)]) (hX : ∀ e, rs = .inr e → QXH X B g (E, κ') (.inr (exN e))) (h0 : PC 10 E 4 0 0) {k11 : K → Nat → Int32 → Int32 → Option (K × (Int32 ⊕ Nat))} (hk11 : ∀ (κ : K) (j2 : Nat) (x3 : Int32) (x4 : Int32) (p2 : PC 3 E 2 j2 0), k11 κ j2 x3 x4 = some (κ', rs) → J X B (E, κ) 11 [(0, .inr (some (4, 0, 0))), (2, .inr (some (2, j2, 0))), (3, .inl (.int x3)), (4, .inl (.int x4))] []) : ∀ (κ : K) (j2 : Nat) (x3 : Int32) (x4 : Int32) (p2 : PC 3 E 2 j2 0), f_X10_share_b67 E k11 κ j2 x3 x4 = some (κ', rs) → J X B (E, κ) 67 [(0, .inr (some (4, 0, 0))), (2, .inr (some (2, j2, 0))), (3, .inl (.int x3)), (4, .inl (.int x4))] [] := by
  intro κ j2 x3 x4 p2 h
  unfold f_X10_share_b67 at h
  refine J_iinc O.mo (v := x4 + 1) (lv' := [(0, .inr (some (4, 0, 0))), (2, .inr (some (2, j2, 0))), (3, .inl (.int x3))]) dX10_share_67 (by rw [hmL]; decide) 3 rfl (by rw [show Int32.ofInt (1) = (1 : Int32) from by decide]) rfl rfl ?_
  refine nm_some (P := fun z => J X B (E, κ) 70 [(4, .inl (.int z)), (0, .inr (some (4, 0, 0))), (2, .inr (some (2, j2, 0))), (3, .inl (.int x3))] []) h (fun y10 h => ?_)
  refine J_goto O.mo (tgt := 11) dX10_share_70 (by decide) ?_
  refine J_sub [1, 2, 3, 0] rfl ?_
  exact hk11 _ _ _ _ p2 h
set_option maxHeartbeats 4000000 in
set_option maxRecDepth 100000 in
theorem w_X10_share_b61 {l0 : Launch} (hfl : l0.stackTraces = false) {X : MX} {B : BX (EE × K)} {g : GP} {E : EE} {κ' : K} {rs : (Int32 ⊕ Nat)} (O : CK l0 X B g cX10_share RX10 8 124) (hKP : KPok B E) (hmL : B.2.2.2.1 = 6) (hE : ∀ rr : Int32, rs = .inl rr → ∀ (pc : Nat) (lv : List (Nat × AV)), decode cX10_share pc = .ok (.ireturn, 1) → J X B (E, κ') pc lv [.inl (.int rr)]) (hX : ∀ e, rs = .inr e → QXH X B g (E, κ') (.inr (exN e))) (h0 : PC 10 E 4 0 0) {k11 : K → Nat → Int32 → Int32 → Option (K × (Int32 ⊕ Nat))} {k24 : K → Nat → Int32 → Int32 → Int32 → Option (K × (Int32 ⊕ Nat))} (hk11 : ∀ (κ : K) (j2 : Nat) (x3 : Int32) (x4 : Int32) (p2 : PC 3 E 2 j2 0), k11 κ j2 x3 x4 = some (κ', rs) → J X B (E, κ) 11 [(0, .inr (some (4, 0, 0))), (2, .inr (some (2, j2, 0))), (3, .inl (.int x3)), (4, .inl (.int x4))] []) (hk24 : ∀ (κ : K) (j2 : Nat) (x3 : Int32) (x4 : Int32) (x5 : Int32) (p2 : PC 3 E 2 j2 0), k24 κ j2 x3 x4 x5 = some (κ', rs) → J X B (E, κ) 24 [(0, .inr (some (4, 0, 0))), (2, .inr (some (2, j2, 0))), (3, .inl (.int x3)), (4, .inl (.int x4)), (5, .inl (.int x5))] []) : ∀ (κ : K) (j2 : Nat) (x3 : Int32) (x4 : Int32) (x5 : Int32) (p2 : PC 3 E 2 j2 0), f_X10_share_b61 E k11 k24 κ j2 x3 x4 x5 = some (κ', rs) → J X B (E, κ) 61 [(0, .inr (some (4, 0, 0))), (2, .inr (some (2, j2, 0))), (3, .inl (.int x3)), (4, .inl (.int x4)), (5, .inl (.int x5))] [] := by
  intro κ j2 x3 x4 x5 p2 h
  unfold f_X10_share_b61 at h
  refine J_iinc O.mo (v := x5 + 1) (lv' := [(0, .inr (some (4, 0, 0))), (2, .inr (some (2, j2, 0))), (3, .inl (.int x3)), (4, .inl (.int x4))]) dX10_share_61 (by rw [hmL]; decide) 4 rfl (by rw [show Int32.ofInt (1) = (1 : Int32) from by decide]) rfl rfl ?_
  refine nm_some (P := fun z => J X B (E, κ) 64 [(5, .inl (.int z)), (0, .inr (some (4, 0, 0))), (2, .inr (some (2, j2, 0))), (3, .inl (.int x3)), (4, .inl (.int x4))] []) h (fun y21 h => ?_)
  refine J_goto O.mo (tgt := 24) dX10_share_64 (by decide) ?_
  refine J_sub [1, 2, 3, 4, 0] rfl ?_
  exact hk24 _ _ _ _ _ p2 h
set_option maxHeartbeats 4000000 in
set_option maxRecDepth 100000 in
theorem w_X10_share_b24 {l0 : Launch} (hfl : l0.stackTraces = false) {X : MX} {B : BX (EE × K)} {g : GP} {E : EE} {κ' : K} {rs : (Int32 ⊕ Nat)} (O : CK l0 X B g cX10_share RX10 8 124) (hKP : KPok B E) (hmL : B.2.2.2.1 = 6) (hE : ∀ rr : Int32, rs = .inl rr → ∀ (pc : Nat) (lv : List (Nat × AV)), decode cX10_share pc = .ok (.ireturn, 1) → J X B (E, κ') pc lv [.inl (.int rr)]) (hX : ∀ e, rs = .inr e → QXH X B g (E, κ') (.inr (exN e))) (h0 : PC 10 E 4 0 0) {k11 : K → Nat → Int32 → Int32 → Option (K × (Int32 ⊕ Nat))} (hk11 : ∀ (κ : K) (j2 : Nat) (x3 : Int32) (x4 : Int32) (p2 : PC 3 E 2 j2 0), k11 κ j2 x3 x4 = some (κ', rs) → J X B (E, κ) 11 [(0, .inr (some (4, 0, 0))), (2, .inr (some (2, j2, 0))), (3, .inl (.int x3)), (4, .inl (.int x4))] []) : ∀ (n : Nat) (κ : K) (j2 : Nat) (x3 : Int32) (x4 : Int32) (x5 : Int32) (p2 : PC 3 E 2 j2 0), f_X10_share_b24 E k11 n κ j2 x3 x4 x5 = some (κ', rs) → J X B (E, κ) 24 [(0, .inr (some (4, 0, 0))), (2, .inr (some (2, j2, 0))), (3, .inl (.int x3)), (4, .inl (.int x4)), (5, .inl (.int x5))] [] := by
  intro n
  induction n with
  | zero => intro κ j2 x3 x4 x5 p2 h; cases h
  | succ n ih =>
    intro κ j2 x3 x4 x5 p2 h
    rw [f_X10_share_b24] at h
    refine J_iload O.mo dX10_share_24 4 rfl ?_
    refine J_bipush O.mo (v := 16) dX10_share_26 (by decide) ?_
    refine J_icmp_ge O.mo (tgt := 67) dX10_share_28 (by decide) (fun hc9 => ?_) (fun hc9 => ?_)
    · replace h := (if_pos hc9).symm.trans h
      refine J_sub [0, 1, 2, 3] rfl ?_
      exact w_X10_share_b67 hfl O hKP hmL hE hX h0 hk11 _ _ _ _ p2 h
    · replace h := (if_neg hc9).symm.trans h
      refine J_aload_n O.mo dX10_share_31 0 rfl ?_
      refine J_aload_n O.mo dX10_share_32 1 rfl ?_
      refine J_iload O.mo dX10_share_33 3 rfl ?_
      obtain ⟨κ11, r13, hq12, h⟩ := bd_some h
      refine J_callV O hKP (as := [.inl (.int x4)]) (rest := [.inr (some (4, 0, 0))]) (r := (some (.inl (.int r13)))) (c_X2_keyIn hfl p2 hq12) rfl (kd0 := 3) (k3_0 p2) (l3_0 p2) (T := TX2) (N := 8) rfl (by decide) mw434 mw435 mw436 mw10 mw437 pd_X2_keyIn rfl (by decide) rfl (Nat.le_of_ble_eq_true rfl) (sl_p (s10_0 h0) (sl_p (s3_0 p2) (sl_v (sl_v (sl_v sl_0))))) (st_p (s10_0 h0) st_0) dX10_share_35 ?_
      show J X B (E, κ11) 38 [(0, .inr (some (4, 0, 0))), (2, .inr (some (2, j2, 0))), (3, .inl (.int x3)), (4, .inl (.int x4)), (5, .inl (.int x5))] [.inl (.int r13), .inr (some (4, 0, 0))]
      refine J_aload_n O.mo dX10_share_38 1 rfl ?_
      refine J_iload O.mo dX10_share_39 4 rfl ?_
      obtain ⟨κ14, r16, hq15, h⟩ := bd_some h
      refine J_callV O hKP (as := [.inl (.int x5)]) (rest := [.inl (.int r13), .inr (some (4, 0, 0))]) (r := (some (.inl (.int r16)))) (c_X2_keyIn hfl p2 hq15) rfl (kd0 := 3) (k3_0 p2) (l3_0 p2) (T := TX2) (N := 8) rfl (by decide) mw434 mw435 mw436 mw10 mw437 pd_X2_keyIn rfl (by decide) rfl (Nat.le_of_ble_eq_true rfl) (sl_p (s10_0 h0) (sl_p (s3_0 p2) (sl_v (sl_v (sl_v sl_0))))) (st_v (st_p (s10_0 h0) st_0)) dX10_share_41 ?_
      show J X B (E, κ14) 44 [(0, .inr (some (4, 0, 0))), (2, .inr (some (2, j2, 0))), (3, .inl (.int x3)), (4, .inl (.int x4)), (5, .inl (.int x5))] [.inl (.int r16), .inl (.int r13), .inr (some (4, 0, 0))]
      obtain ⟨κ17, r19, hq18, h⟩ := bd_some h
      refine J_callV O hKP (as := [.inl (.int r13), .inl (.int r16)]) (rest := []) (r := (some (.inl (.int r19)))) (c_X10_areAlike hfl h0 hq18) rfl (kd0 := 10) (k10_0 h0) (l10_0 h0) (T := TX10) (N := 4) rfl (by decide) mw438 mw439 mw440 mw320 mw441 pd_X10_areAlike rfl (by decide) rfl (Nat.le_of_ble_eq_true rfl) (sl_p (s10_0 h0) (sl_p (s3_0 p2) (sl_v (sl_v (sl_v sl_0))))) st_0 dX10_share_44 ?_
      show J X B (E, κ17) 47 [(0, .inr (some (4, 0, 0))), (2, .inr (some (2, j2, 0))), (3, .inl (.int x3)), (4, .inl (.int x4)), (5, .inl (.int x5))] [.inl (.int r19)]
      refine J_if_eq O.mo (tgt := 61) dX10_share_47 (by decide) (fun hc20 => ?_) (fun hc20 => ?_)
      · replace h := (if_pos hc20).symm.trans h
        exact w_X10_share_b61 hfl O hKP hmL hE hX h0 hk11 ih _ _ _ _ _ p2 h
      · replace h := (if_neg hc20).symm.trans h
        refine J_aload_n O.mo dX10_share_50 1 rfl ?_
        refine J_iload O.mo dX10_share_51 3 rfl ?_
        refine J_iload O.mo dX10_share_53 4 rfl ?_
        obtain ⟨κ22, r24, hq23, h⟩ := bd_some h
        refine J_callV O hKP (as := [.inl (.int x4), .inl (.int x5)]) (rest := []) (r := none) (c_X2_merge hfl p2 hq23) rfl (kd0 := 3) (k3_0 p2) (l3_0 p2) (T := TX2) (N := 8) rfl (by decide) mw442 mw443 mw444 mw10 mw445 pd_X2_merge rfl (by decide) rfl (Nat.le_of_ble_eq_true rfl) (sl_p (s10_0 h0) (sl_p (s3_0 p2) (sl_v (sl_v (sl_v sl_0))))) st_0 dX10_share_55 ?_
        show J X B (E, κ22) 58 [(0, .inr (some (4, 0, 0))), (2, .inr (some (2, j2, 0))), (3, .inl (.int x3)), (4, .inl (.int x4)), (5, .inl (.int x5))] []
        refine J_iinc O.mo (v := x3 + 1) (lv' := [(0, .inr (some (4, 0, 0))), (2, .inr (some (2, j2, 0))), (4, .inl (.int x4)), (5, .inl (.int x5))]) dX10_share_58 (by rw [hmL]; decide) 2 rfl (by rw [show Int32.ofInt (1) = (1 : Int32) from by decide]) rfl rfl ?_
        refine nm_some (P := fun z => J X B (E, κ22) 61 [(3, .inl (.int z)), (0, .inr (some (4, 0, 0))), (2, .inr (some (2, j2, 0))), (4, .inl (.int x4)), (5, .inl (.int x5))] []) h (fun y25 h => ?_)
        refine J_sub [1, 2, 0, 3, 4] rfl ?_
        exact w_X10_share_b61 hfl O hKP hmL hE hX h0 hk11 ih _ _ _ _ _ p2 h
set_option maxHeartbeats 4000000 in
set_option maxRecDepth 100000 in
theorem w_X10_share_b11 {l0 : Launch} (hfl : l0.stackTraces = false) {X : MX} {B : BX (EE × K)} {g : GP} {E : EE} {κ' : K} {rs : (Int32 ⊕ Nat)} (O : CK l0 X B g cX10_share RX10 8 124) (hKP : KPok B E) (hmL : B.2.2.2.1 = 6) (hE : ∀ rr : Int32, rs = .inl rr → ∀ (pc : Nat) (lv : List (Nat × AV)), decode cX10_share pc = .ok (.ireturn, 1) → J X B (E, κ') pc lv [.inl (.int rr)]) (hX : ∀ e, rs = .inr e → QXH X B g (E, κ') (.inr (exN e))) (h0 : PC 10 E 4 0 0) : ∀ (n : Nat) (κ : K) (j2 : Nat) (x3 : Int32) (x4 : Int32) (p2 : PC 3 E 2 j2 0), f_X10_share_b11 E n κ j2 x3 x4 = some (κ', rs) → J X B (E, κ) 11 [(0, .inr (some (4, 0, 0))), (2, .inr (some (2, j2, 0))), (3, .inl (.int x3)), (4, .inl (.int x4))] [] := by
  intro n
  induction n with
  | zero => intro κ j2 x3 x4 p2 h; cases h
  | succ n ih =>
    intro κ j2 x3 x4 p2 h
    rw [f_X10_share_b11] at h
    refine J_iload O.mo dX10_share_11 3 rfl ?_
    refine J_bipush O.mo (v := 16) dX10_share_13 (by decide) ?_
    refine J_icmp_ge O.mo (tgt := 73) dX10_share_15 (by decide) (fun hc7 => ?_) (fun hc7 => ?_)
    · replace h := (if_pos hc7).symm.trans h
      refine J_iload_n O.mo dX10_share_73 2 rfl ?_
      cases h
      exact hE _ rfl _ _ dX10_share_74
    · replace h := (if_neg hc7).symm.trans h
      refine J_iload O.mo dX10_share_18 3 rfl ?_
      refine J_iconst O.mo (v := 1) dX10_share_20 (by decide) ?_
      refine J_iadd O.mo dX10_share_21 ?_
      refine J_istore O.mo (lv' := [(0, .inr (some (4, 0, 0))), (2, .inr (some (2, j2, 0))), (3, .inl (.int x3)), (4, .inl (.int x4))]) dX10_share_22 (by rw [hmL]; decide) rfl rfl ?_
      refine nm_some (P := fun z => J X B (E, κ) 24 [(5, .inl (.int z)), (0, .inr (some (4, 0, 0))), (2, .inr (some (2, j2, 0))), (3, .inl (.int x3)), (4, .inl (.int x4))] []) h (fun y8 h => ?_)
      refine J_sub [1, 2, 3, 4, 0] rfl ?_
      exact w_X10_share_b24 hfl O hKP hmL hE hX h0 ih FU _ _ _ _ _ p2 h
set_option maxHeartbeats 4000000 in
set_option maxRecDepth 100000 in
theorem w_X10_share {l0 : Launch} (hfl : l0.stackTraces = false) {X : MX} {B : BX (EE × K)} {g : GP} {E : EE} {κ' : K} {rs : (Int32 ⊕ Nat)} (O : CK l0 X B g cX10_share RX10 8 124) (hKP : KPok B E) (hmL : B.2.2.2.1 = 6) (hE : ∀ rr : Int32, rs = .inl rr → ∀ (pc : Nat) (lv : List (Nat × AV)), decode cX10_share pc = .ok (.ireturn, 1) → J X B (E, κ') pc lv [.inl (.int rr)]) (hX : ∀ e, rs = .inr e → QXH X B g (E, κ') (.inr (exN e))) (h0 : PC 10 E 4 0 0) : ∀ (κ : K) (a1 : Int32), f_X10_share E κ a1 = some (κ', rs) → J X B (E, κ) 0 [(0, .inr (some (4, 0, 0))), (1, .inl (.int a1))] [] := by
  intro κ a1 h
  unfold f_X10_share at h
  refine J_aload_n O.mo dX10_share_0 0 rfl ?_
  refine J_iload_n O.mo dX10_share_1 1 rfl ?_
  refine J_sub [0] rfl ?_
  rcases bx_some h with ⟨κ1, r3, hq2, h⟩ | ⟨e4, hq2, rfl⟩
  · obtain ⟨hj6, h⟩ := gd_some h
    refine J_callVX O hKP (as := [.inl (.int a1)]) (rest := []) (r := .inl (some (.inr (some (2, r3, 0))))) (c_X10_hostAt hfl h0 hq2) rfl (kd0 := 10) (k10_0 h0) (l10_0 h0) (T := TX10) (N := 4) rfl (by decide) mw446 mw447 mw448 mw320 mw449 pd_X10_hostAt rfl (by decide) rfl (Nat.le_of_ble_eq_true rfl) (sl_p (s10_0 h0) sl_0) st_0 dX10_share_2 (fun s hs => by cases hs) (fun v hv5 => ?_)
    cases hv5
    show J X B (E, κ1) 5 [(0, .inr (some (4, 0, 0)))] [.inr (some (2, r3, 0))]
    refine J_astore_n O.mo (lv' := [(0, .inr (some (4, 0, 0)))]) dX10_share_5 (by rw [hmL]; decide) rfl rfl ?_
    refine J_iconst O.mo (v := 0) dX10_share_6 (by decide) ?_
    refine J_istore_n O.mo (lv' := [(2, .inr (some (2, r3, 0))), (0, .inr (some (4, 0, 0)))]) dX10_share_7 (by rw [hmL]; decide) rfl rfl ?_
    refine J_iconst O.mo (v := 0) dX10_share_8 (by decide) ?_
    refine J_istore O.mo (lv' := [(3, .inl (.int 0)), (2, .inr (some (2, r3, 0))), (0, .inr (some (4, 0, 0)))]) dX10_share_9 (by rw [hmL]; decide) rfl rfl ?_
    refine J_sub [3, 2, 1, 0] rfl ?_
    exact w_X10_share_b11 hfl O hKP hmL hE hX h0 FU _ _ _ _ (⟨hj6, rfl⟩ : PC 3 E 2 r3 0) h
  · exact J_callVX O hKP (as := [.inl (.int a1)]) (rest := []) (r := .inr (exN e4)) (c_X10_hostAt hfl h0 hq2) rfl (kd0 := 10) (k10_0 h0) (l10_0 h0) (T := TX10) (N := 4) rfl (by decide) mw446 mw447 mw448 mw320 mw449 pd_X10_hostAt rfl (by decide) rfl (Nat.le_of_ble_eq_true rfl) (sl_p (s10_0 h0) sl_0) st_0 dX10_share_2 (fun s hs => by cases hs; exact hX _ rfl) (fun v hs => by cases hs)
theorem c_X10_share {l : Launch} (hfl : l.stackTraces = false) {E : EE} {κ κ' : K} {a1 : Int32} (h0 : PC 10 E 4 0 0) {rs : (Int32 ⊕ Nat)} (h : f_X10_share E κ a1 = some (κ', rs)) : ConX l yX10_share cX10_share 6 (some .int) 8 124 [.inr (some (4, 0, 0)), .inl (.int a1)] (E, κ) (E, κ') (mapX (fun rr => (some (.inl (.int rr)))) rs) := by
  cases rs with
  | inl rr => exact ConX_of hfl (by decide +kernel) (Nat.le_of_ble_eq_true rfl) rfl ⟨_, rfl, rfl⟩ (fun X B g O hKP hmL hX hE => w_X10_share hfl O hKP hmL (fun rr hr => by cases hr; exact hE) (fun e hr => by cases hr) h0 _ _ h)
  | inr e => exact ConX_of hfl (by decide +kernel) (Nat.le_of_ble_eq_true rfl) rfl trivial (fun X B g O hKP hmL hX hE => w_X10_share hfl O hKP hmL (fun rr hr => by cases hr) (fun e hr => by cases hr; exact hX) h0 _ _ h)
def f_X10_otherOf_b25 (E : EE) (a1 : Nat) (κ : K) : Option (K × Nat) := some (κ, 0)
def f_X10_otherOf_b25a (E : EE) (a1 : Nat) (κ : K) : Option (K × Nat) := some (κ, 1)
def f_X10_otherOf (E : EE) (κ : K) (a1 : Nat) : Option (K × Nat) := gd (0 < cntE E 2) (if a1 = 0 then gd (1 < cntE E 2) (f_X10_otherOf_b25a E a1 κ) else gd (0 < cntE E 2) (f_X10_otherOf_b25 E a1 κ))
set_option maxHeartbeats 4000000 in
set_option maxRecDepth 100000 in
theorem w_X10_otherOf_b25 {l0 : Launch} (hfl : l0.stackTraces = false) {X : MX} {B : BX (EE × K)} {g : GP} {E : EE} {κ' : K} {rr : Nat} {a1 : Nat} (O : CK l0 X B g cX10_otherOf RX10 1 0) (hKP : KPok B E) (hmL : B.2.2.2.1 = 2) (hE : ∀ (pc : Nat) (lv : List (Nat × AV)), decode cX10_otherOf pc = .ok (.areturn, 1) → J X B (E, κ') pc lv [.inr (some (2, rr, 0))]) (h0 : PC 10 E 4 0 0) (h1 : PC 3 E 2 a1 0) : ∀ (κ : K), f_X10_otherOf_b25 E a1 κ = some (κ', rr) → J X B (E, κ) 25 [] [.inr (some (2, 0, 0))] := by
  intro κ h
  unfold f_X10_otherOf_b25 at h
  cases h
  exact hE _ _ dX10_otherOf_25
set_option maxHeartbeats 4000000 in
set_option maxRecDepth 100000 in
theorem w_X10_otherOf_b25a {l0 : Launch} (hfl : l0.stackTraces = false) {X : MX} {B : BX (EE × K)} {g : GP} {E : EE} {κ' : K} {rr : Nat} {a1 : Nat} (O : CK l0 X B g cX10_otherOf RX10 1 0) (hKP : KPok B E) (hmL : B.2.2.2.1 = 2) (hE : ∀ (pc : Nat) (lv : List (Nat × AV)), decode cX10_otherOf pc = .ok (.areturn, 1) → J X B (E, κ') pc lv [.inr (some (2, rr, 0))]) (h0 : PC 10 E 4 0 0) (h1 : PC 3 E 2 a1 0) : ∀ (κ : K), f_X10_otherOf_b25a E a1 κ = some (κ', rr) → J X B (E, κ) 25 [] [.inr (some (2, 1, 0))] := by
  intro κ h
  unfold f_X10_otherOf_b25a at h
  cases h
  exact hE _ _ dX10_otherOf_25
set_option maxHeartbeats 4000000 in
set_option maxRecDepth 100000 in
theorem w_X10_otherOf {l0 : Launch} (hfl : l0.stackTraces = false) {X : MX} {B : BX (EE × K)} {g : GP} {E : EE} {κ' : K} {rr : Nat} {a1 : Nat} (O : CK l0 X B g cX10_otherOf RX10 1 0) (hKP : KPok B E) (hmL : B.2.2.2.1 = 2) (hE : ∀ (pc : Nat) (lv : List (Nat × AV)), decode cX10_otherOf pc = .ok (.areturn, 1) → J X B (E, κ') pc lv [.inr (some (2, rr, 0))]) (h0 : PC 10 E 4 0 0) (h1 : PC 3 E 2 a1 0) : ∀ (κ : K), f_X10_otherOf E κ a1 = some (κ', rr) → J X B (E, κ) 0 [(0, .inr (some (4, 0, 0))), (1, .inr (some (2, a1, 0)))] [] := by
  intro κ h
  unfold f_X10_otherOf at h
  refine J_aload_n O.mo dX10_otherOf_0 1 rfl ?_
  refine J_aload_n O.mo dX10_otherOf_1 0 rfl ?_
  refine J_getF O.co (kd0 := 10) (k10_0 h0) (l10_0 h0) (C := RX10) (T := TX10) (N := 4) rfl (by decide) rfl in_X10 2 (by decide) (v := .inr (some (4, 0, 3))) rfl mw425 rfl dX10_otherOf_2 ?_
  refine J_iconst O.mo (v := 0) dX10_otherOf_5 (by decide) ?_
  refine J_aaldH O.co (l10_3 h0) (k10_3 h0) (show ¬ ((0 : Int32) < 0 ∨ 2 ≤ (0 : Int32).toNatClampNeg) from by decide) dX10_otherOf_6 ?_
  obtain ⟨hj1, h⟩ := gd_some h
  show J X B (E, κ) 7 [(0, .inr (some (4, 0, 0))), (1, .inr (some (2, a1, 0)))] [.inr (some (2, 0, 0)), .inr (some (2, a1, 0))]
  refine J_acmp_ne O.mo (O.acmp (l3_0 h1)) (O.acmp (l3_0 (⟨hj1, rfl⟩ : PC 3 E 2 0 0))) dX10_otherOf_7 (tgt := 19) (by decide) (fun hc2 => ?_) (fun hc2 => ?_)
  · have hc2 : ¬ a1 = 0 := fun z => hc2 (by rw [z])
    replace h := (if_neg hc2).symm.trans h
    refine J_aload_n O.mo dX10_otherOf_19 0 rfl ?_
    refine J_getF O.co (kd0 := 10) (k10_0 h0) (l10_0 h0) (C := RX10) (T := TX10) (N := 4) rfl (by decide) rfl in_X10 2 (by decide) (v := .inr (some (4, 0, 3))) rfl mw425 rfl dX10_otherOf_20 ?_
    refine J_iconst O.mo (v := 0) dX10_otherOf_23 (by decide) ?_
    refine J_aaldH O.co (l10_3 h0) (k10_3 h0) (show ¬ ((0 : Int32) < 0 ∨ 2 ≤ (0 : Int32).toNatClampNeg) from by decide) dX10_otherOf_24 ?_
    obtain ⟨hj3, h⟩ := gd_some h
    show J X B (E, κ) 25 [(0, .inr (some (4, 0, 0))), (1, .inr (some (2, a1, 0)))] [.inr (some (2, 0, 0))]
    refine J_sub [] rfl ?_
    exact w_X10_otherOf_b25 hfl O hKP hmL hE h0 h1 _ h
  · have hc2 : a1 = 0 := by injection hc2 with _ z; injection z
    replace h := (if_pos hc2).symm.trans h
    refine J_aload_n O.mo dX10_otherOf_10 0 rfl ?_
    refine J_getF O.co (kd0 := 10) (k10_0 h0) (l10_0 h0) (C := RX10) (T := TX10) (N := 4) rfl (by decide) rfl in_X10 2 (by decide) (v := .inr (some (4, 0, 3))) rfl mw425 rfl dX10_otherOf_11 ?_
    refine J_iconst O.mo (v := 1) dX10_otherOf_14 (by decide) ?_
    refine J_aaldH O.co (l10_3 h0) (k10_3 h0) (show ¬ ((1 : Int32) < 0 ∨ 2 ≤ (1 : Int32).toNatClampNeg) from by decide) dX10_otherOf_15 ?_
    obtain ⟨hj4, h⟩ := gd_some h
    show J X B (E, κ) 16 [(0, .inr (some (4, 0, 0))), (1, .inr (some (2, a1, 0)))] [.inr (some (2, 1, 0))]
    refine J_goto O.mo (tgt := 25) dX10_otherOf_16 (by decide) ?_
    refine J_sub [] rfl ?_
    exact w_X10_otherOf_b25a hfl O hKP hmL hE h0 h1 _ h
theorem c_X10_otherOf {l : Launch} (hfl : l.stackTraces = false) {E : EE} {κ κ' : K} {a1 : Nat} (h0 : PC 10 E 4 0 0) (h1 : PC 3 E 2 a1 0) {rr : Nat} (h : f_X10_otherOf E κ a1 = some (κ', rr)) : Con l yX10_otherOf cX10_otherOf 2 (some (.object "GuestHall$Host")) 1 0 [.inr (some (4, 0, 0)), .inr (some (2, a1, 0))] (E, κ) (E, κ') (some (.inr (some (2, rr, 0)))) := by
  exact Con_of hfl (by decide +kernel) (Nat.le_of_ble_eq_true rfl) rfl ⟨_, rfl, Or.inl ⟨_, rfl⟩⟩ (fun X B g O hKP hmL hE => w_X10_otherOf hfl O hKP hmL hE h0 h1 _ h)
def f_X10_move_b34 (E : EE) (κ : K) : Option (K × (Int32 ⊕ Nat)) := some (addC κ 1 6, .inr 3)
def f_X10_move (E : EE) (κ : K) (a1 : Int32) : Option (K × (Int32 ⊕ Nat)) := bx (f_X10_guestAt E κ a1) fun κ1 r3 => gd (r3 < cntE E 0) (bd (f_X1_isMoving E κ1 r3) fun κ7 r9 => if r9 = 0 then bd (f_X1_isDead E κ7 r3) fun κ11 r13 => if r13 = 0 then optG (kP κ11 0 r3 0 8) (cntE E 2) (none) (fun j15 => bd (f_X10_otherOf E κ11 j15) fun κ18 r20 => gd (r20 < cntE E 2) (if kV κ18 2 r20 0 4 = 0 then nm (setV κ18 0 r3 0 15 (255 &&& ((kV κ18 0 r3 0 14) ^^^ ((-1))))) fun κ23 => bd (f_J6_bitCount_0f7a4 E κ23 (kV κ23 0 r3 0 15)) fun κ24 r26 => some (κ24, .inl r26) else f_X10_move_b34 E κ18)) else f_X10_move_b34 E κ11 else f_X10_move_b34 E κ7)
set_option maxHeartbeats 4000000 in
set_option maxRecDepth 100000 in
theorem w_X10_move_b34 {l0 : Launch} (hfl : l0.stackTraces = false) {X : MX} {B : BX (EE × K)} {g : GP} {E : EE} {κ' : K} {rs : (Int32 ⊕ Nat)} (O : CK l0 X B g cX10_move RX10 8 124) (hKP : KPok B E) (hmL : B.2.2.2.1 = 3) (hE : ∀ rr : Int32, rs = .inl rr → ∀ (pc : Nat) (lv : List (Nat × AV)), decode cX10_move pc = .ok (.ireturn, 1) → J X B (E, κ') pc lv [.inl (.int rr)]) (hX : ∀ e, rs = .inr e → QXH X B g (E, κ') (.inr (exN e))) (h0 : PC 10 E 4 0 0) : ∀ (κ : K), f_X10_move_b34 E κ = some (κ', rs) → J X B (E, κ) 34 [] [] := by
  intro κ h
  unfold f_X10_move_b34 at h
  cases h
  exact J_throw O (cls := "java/lang/IllegalStateException") (hX _ rfl) (text := "moving, dead, or nowhere to go") (by decide +kernel) mw397 mw398 (by decide) hat_51 (by decide) (Nat.le_of_ble_eq_true rfl) rfl dX10_move_34 dX10_move_37 dX10_move_38 dX10_move_40 dX10_move_43
set_option maxHeartbeats 4000000 in
set_option maxRecDepth 100000 in
theorem w_X10_move {l0 : Launch} (hfl : l0.stackTraces = false) {X : MX} {B : BX (EE × K)} {g : GP} {E : EE} {κ' : K} {rs : (Int32 ⊕ Nat)} (O : CK l0 X B g cX10_move RX10 8 124) (hKP : KPok B E) (hmL : B.2.2.2.1 = 3) (hE : ∀ rr : Int32, rs = .inl rr → ∀ (pc : Nat) (lv : List (Nat × AV)), decode cX10_move pc = .ok (.ireturn, 1) → J X B (E, κ') pc lv [.inl (.int rr)]) (hX : ∀ e, rs = .inr e → QXH X B g (E, κ') (.inr (exN e))) (h0 : PC 10 E 4 0 0) : ∀ (κ : K) (a1 : Int32), f_X10_move E κ a1 = some (κ', rs) → J X B (E, κ) 0 [(0, .inr (some (4, 0, 0))), (1, .inl (.int a1))] [] := by
  intro κ a1 h
  unfold f_X10_move at h
  refine J_aload_n O.mo dX10_move_0 0 rfl ?_
  refine J_iload_n O.mo dX10_move_1 1 rfl ?_
  refine J_sub [0] rfl ?_
  rcases bx_some h with ⟨κ1, r3, hq2, h⟩ | ⟨e4, hq2, rfl⟩
  · obtain ⟨hj6, h⟩ := gd_some h
    refine J_callVX O hKP (as := [.inl (.int a1)]) (rest := []) (r := .inl (some (.inr (some (0, r3, 0))))) (c_X10_guestAt hfl h0 hq2) rfl (kd0 := 10) (k10_0 h0) (l10_0 h0) (T := TX10) (N := 4) rfl (by decide) mw406 mw407 mw408 mw320 mw409 pd_X10_guestAt rfl (by decide) rfl (Nat.le_of_ble_eq_true rfl) (sl_p (s10_0 h0) sl_0) st_0 dX10_move_2 (fun s hs => by cases hs) (fun v hv5 => ?_)
    cases hv5
    show J X B (E, κ1) 5 [(0, .inr (some (4, 0, 0)))] [.inr (some (0, r3, 0))]
    refine J_astore_n O.mo (lv' := [(0, .inr (some (4, 0, 0)))]) dX10_move_5 (by rw [hmL]; decide) rfl rfl ?_
    refine J_aload_n O.mo dX10_move_6 0 rfl ?_
    obtain ⟨κ7, r9, hq8, h⟩ := bd_some h
    refine J_callV O hKP (as := []) (rest := []) (r := (some (.inl (.int r9)))) (c_X1_isMoving hfl (⟨hj6, rfl⟩ : PC 2 E 0 r3 0) hq8) rfl (kd0 := 2) (k2_0 (⟨hj6, rfl⟩ : PC 2 E 0 r3 0)) (l2_0 (⟨hj6, rfl⟩ : PC 2 E 0 r3 0)) (T := TX1) (N := 19) rfl (by decide) mw450 mw79 mw80 mw74 mw81 pd_X1_isMoving rfl (by decide) rfl (Nat.le_of_ble_eq_true rfl) (sl_p (s2_0 (⟨hj6, rfl⟩ : PC 2 E 0 r3 0)) (sl_p (s10_0 h0) sl_0)) st_0 dX10_move_7 ?_
    show J X B (E, κ7) 10 [(2, .inr (some (0, r3, 0))), (0, .inr (some (4, 0, 0)))] [.inl (.int r9)]
    refine J_if_ne O.mo (tgt := 34) dX10_move_10 (by decide) (fun hc10 => ?_) (fun hc10 => ?_)
    · replace h := (if_neg hc10).symm.trans h
      refine J_sub [] rfl ?_
      exact w_X10_move_b34 hfl O hKP hmL hE hX h0 _ h
    · replace h := (if_pos hc10).symm.trans h
      refine J_aload_n O.mo dX10_move_13 0 rfl ?_
      obtain ⟨κ11, r13, hq12, h⟩ := bd_some h
      refine J_callV O hKP (as := []) (rest := []) (r := (some (.inl (.int r13)))) (c_X1_isDead hfl (⟨hj6, rfl⟩ : PC 2 E 0 r3 0) hq12) rfl (kd0 := 2) (k2_0 (⟨hj6, rfl⟩ : PC 2 E 0 r3 0)) (l2_0 (⟨hj6, rfl⟩ : PC 2 E 0 r3 0)) (T := TX1) (N := 19) rfl (by decide) mw451 mw452 mw453 mw74 mw454 pd_X1_isDead rfl (by decide) rfl (Nat.le_of_ble_eq_true rfl) (sl_p (s2_0 (⟨hj6, rfl⟩ : PC 2 E 0 r3 0)) (sl_p (s10_0 h0) sl_0)) st_0 dX10_move_14 ?_
      show J X B (E, κ11) 17 [(2, .inr (some (0, r3, 0))), (0, .inr (some (4, 0, 0)))] [.inl (.int r13)]
      refine J_if_ne O.mo (tgt := 34) dX10_move_17 (by decide) (fun hc14 => ?_) (fun hc14 => ?_)
      · replace h := (if_neg hc14).symm.trans h
        refine J_sub [] rfl ?_
        exact w_X10_move_b34 hfl O hKP hmL hE hX h0 _ h
      · replace h := (if_pos hc14).symm.trans h
        refine J_aload_n O.mo dX10_move_20 1 rfl ?_
        refine J_aload_n O.mo dX10_move_21 0 rfl ?_
        replace h := optG_some h
        rcases h with ⟨ho17, h⟩ | ⟨j15, ho17, hj16, h⟩
        · cases h
        · refine J_getF O.co (kd0 := 2) (k2_0 (⟨hj6, rfl⟩ : PC 2 E 0 r3 0)) (l2_0 (⟨hj6, rfl⟩ : PC 2 E 0 r3 0)) (C := RX1) (T := TX1) (N := 19) rfl (by decide) rfl in_X1 8 (by decide) (v := .inr (some (2, j15, 0))) (by rw [ho17]; rfl) mw455 rfl dX10_move_22 ?_
          refine J_sub [0] rfl ?_
          obtain ⟨κ18, r20, hq19, h⟩ := bd_some h
          obtain ⟨hj21, h⟩ := gd_some h
          refine J_callV O hKP (as := [.inr (some (2, j15, 0))]) (rest := []) (r := some (.inr (some (2, r20, 0)))) (c_X10_otherOf hfl h0 (⟨hj16, rfl⟩ : PC 3 E 2 j15 0) hq19) rfl (kd0 := 10) (k10_0 h0) (l10_0 h0) (T := TX10) (N := 4) rfl (by decide) mw456 mw457 mw458 mw320 mw459 pd_X10_otherOf rfl (by decide) rfl (Nat.le_of_ble_eq_true rfl) (sl_p (s2_0 (⟨hj6, rfl⟩ : PC 2 E 0 r3 0)) sl_0) st_0 dX10_move_25 ?_
          show J X B (E, κ18) 28 [(2, .inr (some (0, r3, 0)))] [.inr (some (2, r20, 0))]
          refine J_getF O.co (kd0 := 3) (k3_0 (⟨hj21, rfl⟩ : PC 3 E 2 r20 0)) (l3_0 (⟨hj21, rfl⟩ : PC 3 E 2 r20 0)) (C := RX2) (T := TX2) (N := 8) rfl (by decide) rfl in_X2 4 (by decide) (v := .inl (.int (kV κ18 2 r20 0 4))) rfl mw366 rfl dX10_move_28 ?_
          refine J_if_eq O.mo (tgt := 44) dX10_move_31 (by decide) (fun hc22 => ?_) (fun hc22 => ?_)
          · replace h := (if_pos hc22).symm.trans h
            refine J_aload_n O.mo dX10_move_44 0 rfl ?_
            refine J_sipush O.mo (v := 255) dX10_move_45 (by decide) ?_
            refine J_aload_n O.mo dX10_move_48 0 rfl ?_
            refine J_getF O.co (kd0 := 2) (k2_0 (⟨hj6, rfl⟩ : PC 2 E 0 r3 0)) (l2_0 (⟨hj6, rfl⟩ : PC 2 E 0 r3 0)) (C := RX1) (T := TX1) (N := 19) rfl (by decide) rfl in_X1 14 (by decide) (v := .inl (.int (kV κ18 0 r3 0 14))) rfl mw460 rfl dX10_move_49 ?_
            refine J_iconst O.mo (v := (-1)) dX10_move_52 (by decide) ?_
            refine J_ixor O.mo dX10_move_53 ?_
            refine J_iand O.mo dX10_move_54 ?_
            refine J_putI O.co (kd0 := 2) (k2_0 (⟨hj6, rfl⟩ : PC 2 E 0 r3 0)) (l2_0 (⟨hj6, rfl⟩ : PC 2 E 0 r3 0)) (C := RX1) (T := TX1) (N := 19) rfl (by decide) rfl in_X1 tyX1 tyX1_ok nmX1 15 (by decide) rfl rfl (x := (255 &&& ((kV κ18 0 r3 0 14) ^^^ ((-1))))) (Or.inl rfl) mw461 dX10_move_55 ?_
            refine nm_some (P := fun z => J X B (E, z) 58 [(2, .inr (some (0, r3, 0)))] []) h (fun κ23 h => ?_)
            refine J_aload_n O.mo dX10_move_58 0 rfl ?_
            refine J_getF O.co (kd0 := 2) (k2_0 (⟨hj6, rfl⟩ : PC 2 E 0 r3 0)) (l2_0 (⟨hj6, rfl⟩ : PC 2 E 0 r3 0)) (C := RX1) (T := TX1) (N := 19) rfl (by decide) rfl in_X1 15 (by decide) (v := .inl (.int (kV κ23 0 r3 0 15))) rfl mw461 rfl dX10_move_59 ?_
            refine J_sub [] rfl ?_
            obtain ⟨κ24, r26, hq25, h⟩ := bd_some h
            refine J_callS O hKP (as := [.inl (.int (kV κ23 0 r3 0 15))]) (rest := []) (r := (some (.inl (.int r26)))) (c_J6_bitCount_0f7a4 hfl hq25) rfl mw462 mw279 mw280 mw281 pd_J6_bitCount_0f7a4 rfl (by decide) rfl (Nat.le_of_ble_eq_true rfl) sl_0 st_0 dX10_move_62 ?_
            show J X B (E, κ24) 65 [] [.inl (.int r26)]
            cases h
            exact hE _ rfl _ _ dX10_move_65
          · replace h := (if_neg hc22).symm.trans h
            refine J_sub [] rfl ?_
            exact w_X10_move_b34 hfl O hKP hmL hE hX h0 _ h
  · exact J_callVX O hKP (as := [.inl (.int a1)]) (rest := []) (r := .inr (exN e4)) (c_X10_guestAt hfl h0 hq2) rfl (kd0 := 10) (k10_0 h0) (l10_0 h0) (T := TX10) (N := 4) rfl (by decide) mw406 mw407 mw408 mw320 mw409 pd_X10_guestAt rfl (by decide) rfl (Nat.le_of_ble_eq_true rfl) (sl_p (s10_0 h0) sl_0) st_0 dX10_move_2 (fun s hs => by cases hs; exact hX _ rfl) (fun v hs => by cases hs)
theorem c_X10_move {l : Launch} (hfl : l.stackTraces = false) {E : EE} {κ κ' : K} {a1 : Int32} (h0 : PC 10 E 4 0 0) {rs : (Int32 ⊕ Nat)} (h : f_X10_move E κ a1 = some (κ', rs)) : ConX l yX10_move cX10_move 3 (some .int) 8 124 [.inr (some (4, 0, 0)), .inl (.int a1)] (E, κ) (E, κ') (mapX (fun rr => (some (.inl (.int rr)))) rs) := by
  cases rs with
  | inl rr => exact ConX_of hfl (by decide +kernel) (Nat.le_of_ble_eq_true rfl) rfl ⟨_, rfl, rfl⟩ (fun X B g O hKP hmL hX hE => w_X10_move hfl O hKP hmL (fun rr hr => by cases hr; exact hE) (fun e hr => by cases hr) h0 _ _ h)
  | inr e => exact ConX_of hfl (by decide +kernel) (Nat.le_of_ble_eq_true rfl) rfl trivial (fun X B g O hKP hmL hX hE => w_X10_move hfl O hKP hmL (fun rr hr => by cases hr) (fun e hr => by cases hr; exact hX) h0 _ _ h)
def f_X10_round_b17 (E : EE) (κ : K) : Option (K × (Int32 ⊕ Nat)) := some (addC κ 1 6, .inr 2)
def f_X10_round (E : EE) (κ : K) (a1 : Int32) (a2 : Int32) : Option (K × (Int32 ⊕ Nat)) := bx (f_X10_guestAt E κ a1) fun κ1 r3 => gd (r3 < cntE E 0) (if a2 < 1 then f_X10_round_b17 E κ1 else if a2 ≤ 8 then bd (f_X1_isMoving E κ1 r3) fun κ9 r11 => if r11 = 0 then some (addC κ9 1 6, .inr 3) else bd (f_X1_sendPages E κ9 r3 a2) fun κ13 _ => bd (f_J6_bitCount_0f7a4 E κ13 (kV κ13 0 r3 0 15)) fun κ16 r18 => some (κ16, .inl r18) else f_X10_round_b17 E κ1)
set_option maxHeartbeats 4000000 in
set_option maxRecDepth 100000 in
theorem w_X10_round_b17 {l0 : Launch} (hfl : l0.stackTraces = false) {X : MX} {B : BX (EE × K)} {g : GP} {E : EE} {κ' : K} {rs : (Int32 ⊕ Nat)} (O : CK l0 X B g cX10_round RX10 8 124) (hKP : KPok B E) (hmL : B.2.2.2.1 = 4) (hE : ∀ rr : Int32, rs = .inl rr → ∀ (pc : Nat) (lv : List (Nat × AV)), decode cX10_round pc = .ok (.ireturn, 1) → J X B (E, κ') pc lv [.inl (.int rr)]) (hX : ∀ e, rs = .inr e → QXH X B g (E, κ') (.inr (exN e))) (h0 : PC 10 E 4 0 0) : ∀ (κ : K), f_X10_round_b17 E κ = some (κ', rs) → J X B (E, κ) 17 [] [] := by
  intro κ h
  unfold f_X10_round_b17 at h
  cases h
  exact J_throw O (cls := "java/lang/IllegalArgumentException") (hX _ rfl) (text := "pages") (by decide +kernel) mw388 mw389 (by decide) hat_36 (by decide) (Nat.le_of_ble_eq_true rfl) rfl dX10_round_17 dX10_round_20 dX10_round_21 dX10_round_23 dX10_round_26
set_option maxHeartbeats 4000000 in
set_option maxRecDepth 100000 in
theorem w_X10_round {l0 : Launch} (hfl : l0.stackTraces = false) {X : MX} {B : BX (EE × K)} {g : GP} {E : EE} {κ' : K} {rs : (Int32 ⊕ Nat)} (O : CK l0 X B g cX10_round RX10 8 124) (hKP : KPok B E) (hmL : B.2.2.2.1 = 4) (hE : ∀ rr : Int32, rs = .inl rr → ∀ (pc : Nat) (lv : List (Nat × AV)), decode cX10_round pc = .ok (.ireturn, 1) → J X B (E, κ') pc lv [.inl (.int rr)]) (hX : ∀ e, rs = .inr e → QXH X B g (E, κ') (.inr (exN e))) (h0 : PC 10 E 4 0 0) : ∀ (κ : K) (a1 : Int32) (a2 : Int32), f_X10_round E κ a1 a2 = some (κ', rs) → J X B (E, κ) 0 [(0, .inr (some (4, 0, 0))), (1, .inl (.int a1)), (2, .inl (.int a2))] [] := by
  intro κ a1 a2 h
  unfold f_X10_round at h
  refine J_aload_n O.mo dX10_round_0 0 rfl ?_
  refine J_iload_n O.mo dX10_round_1 1 rfl ?_
  refine J_sub [2] rfl ?_
  rcases bx_some h with ⟨κ1, r3, hq2, h⟩ | ⟨e4, hq2, rfl⟩
  · obtain ⟨hj6, h⟩ := gd_some h
    refine J_callVX O hKP (as := [.inl (.int a1)]) (rest := []) (r := .inl (some (.inr (some (0, r3, 0))))) (c_X10_guestAt hfl h0 hq2) rfl (kd0 := 10) (k10_0 h0) (l10_0 h0) (T := TX10) (N := 4) rfl (by decide) mw406 mw407 mw408 mw320 mw409 pd_X10_guestAt rfl (by decide) rfl (Nat.le_of_ble_eq_true rfl) (sl_v sl_0) st_0 dX10_round_2 (fun s hs => by cases hs) (fun v hv5 => ?_)
    cases hv5
    show J X B (E, κ1) 5 [(2, .inl (.int a2))] [.inr (some (0, r3, 0))]
    refine J_astore_n O.mo (lv' := [(2, .inl (.int a2))]) dX10_round_5 (by rw [hmL]; decide) rfl rfl ?_
    refine J_iload_n O.mo dX10_round_6 1 rfl ?_
    refine J_iconst O.mo (v := 1) dX10_round_7 (by decide) ?_
    refine J_icmp_lt O.mo (tgt := 17) dX10_round_8 (by decide) (fun hc7 => ?_) (fun hc7 => ?_)
    · replace h := (if_pos hc7).symm.trans h
      refine J_sub [] rfl ?_
      exact w_X10_round_b17 hfl O hKP hmL hE hX h0 _ h
    · replace h := (if_neg hc7).symm.trans h
      refine J_iload_n O.mo dX10_round_11 1 rfl ?_
      refine J_bipush O.mo (v := 8) dX10_round_12 (by decide) ?_
      refine J_icmp_le O.mo (tgt := 27) dX10_round_14 (by decide) (fun hc8 => ?_) (fun hc8 => ?_)
      · replace h := (if_pos hc8).symm.trans h
        refine J_aload_n O.mo dX10_round_27 0 rfl ?_
        obtain ⟨κ9, r11, hq10, h⟩ := bd_some h
        refine J_callV O hKP (as := []) (rest := []) (r := (some (.inl (.int r11)))) (c_X1_isMoving hfl (⟨hj6, rfl⟩ : PC 2 E 0 r3 0) hq10) rfl (kd0 := 2) (k2_0 (⟨hj6, rfl⟩ : PC 2 E 0 r3 0)) (l2_0 (⟨hj6, rfl⟩ : PC 2 E 0 r3 0)) (T := TX1) (N := 19) rfl (by decide) mw450 mw79 mw80 mw74 mw81 pd_X1_isMoving rfl (by decide) rfl (Nat.le_of_ble_eq_true rfl) (sl_p (s2_0 (⟨hj6, rfl⟩ : PC 2 E 0 r3 0)) (sl_v sl_0)) st_0 dX10_round_28 ?_
        show J X B (E, κ9) 31 [(3, .inr (some (0, r3, 0))), (2, .inl (.int a2))] [.inl (.int r11)]
        refine J_if_ne O.mo (tgt := 44) dX10_round_31 (by decide) (fun hc12 => ?_) (fun hc12 => ?_)
        · replace h := (if_neg hc12).symm.trans h
          refine J_aload_n O.mo dX10_round_44 0 rfl ?_
          refine J_iload_n O.mo dX10_round_45 1 rfl ?_
          refine J_sub [0] rfl ?_
          obtain ⟨κ13, r15, hq14, h⟩ := bd_some h
          refine J_callV O hKP (as := [.inl (.int a2)]) (rest := []) (r := none) (c_X1_sendPages hfl (⟨hj6, rfl⟩ : PC 2 E 0 r3 0) hq14) rfl (kd0 := 2) (k2_0 (⟨hj6, rfl⟩ : PC 2 E 0 r3 0)) (l2_0 (⟨hj6, rfl⟩ : PC 2 E 0 r3 0)) (T := TX1) (N := 19) rfl (by decide) mw463 mw464 mw465 mw74 mw466 pd_X1_sendPages rfl (by decide) rfl (Nat.le_of_ble_eq_true rfl) (sl_p (s2_0 (⟨hj6, rfl⟩ : PC 2 E 0 r3 0)) sl_0) st_0 dX10_round_46 ?_
          show J X B (E, κ13) 49 [(3, .inr (some (0, r3, 0)))] []
          refine J_aload_n O.mo dX10_round_49 0 rfl ?_
          refine J_getF O.co (kd0 := 2) (k2_0 (⟨hj6, rfl⟩ : PC 2 E 0 r3 0)) (l2_0 (⟨hj6, rfl⟩ : PC 2 E 0 r3 0)) (C := RX1) (T := TX1) (N := 19) rfl (by decide) rfl in_X1 15 (by decide) (v := .inl (.int (kV κ13 0 r3 0 15))) rfl mw461 rfl dX10_round_50 ?_
          refine J_sub [] rfl ?_
          obtain ⟨κ16, r18, hq17, h⟩ := bd_some h
          refine J_callS O hKP (as := [.inl (.int (kV κ13 0 r3 0 15))]) (rest := []) (r := (some (.inl (.int r18)))) (c_J6_bitCount_0f7a4 hfl hq17) rfl mw462 mw279 mw280 mw281 pd_J6_bitCount_0f7a4 rfl (by decide) rfl (Nat.le_of_ble_eq_true rfl) sl_0 st_0 dX10_round_53 ?_
          show J X B (E, κ16) 56 [] [.inl (.int r18)]
          cases h
          exact hE _ rfl _ _ dX10_round_56
        · replace h := (if_pos hc12).symm.trans h
          cases h
          exact J_throw O (cls := "java/lang/IllegalStateException") (hX _ rfl) (text := "not moving") (by decide +kernel) mw397 mw398 (by decide) hat_51 (by decide) (Nat.le_of_ble_eq_true rfl) rfl dX10_round_34 dX10_round_37 dX10_round_38 dX10_round_40 dX10_round_43
      · replace h := (if_neg hc8).symm.trans h
        refine J_sub [] rfl ?_
        exact w_X10_round_b17 hfl O hKP hmL hE hX h0 _ h
  · exact J_callVX O hKP (as := [.inl (.int a1)]) (rest := []) (r := .inr (exN e4)) (c_X10_guestAt hfl h0 hq2) rfl (kd0 := 10) (k10_0 h0) (l10_0 h0) (T := TX10) (N := 4) rfl (by decide) mw406 mw407 mw408 mw320 mw409 pd_X10_guestAt rfl (by decide) rfl (Nat.le_of_ble_eq_true rfl) (sl_v sl_0) st_0 dX10_round_2 (fun s hs => by cases hs; exact hX _ rfl) (fun v hs => by cases hs)
theorem c_X10_round {l : Launch} (hfl : l.stackTraces = false) {E : EE} {κ κ' : K} {a1 : Int32} {a2 : Int32} (h0 : PC 10 E 4 0 0) {rs : (Int32 ⊕ Nat)} (h : f_X10_round E κ a1 a2 = some (κ', rs)) : ConX l yX10_round cX10_round 4 (some .int) 8 124 [.inr (some (4, 0, 0)), .inl (.int a1), .inl (.int a2)] (E, κ) (E, κ') (mapX (fun rr => (some (.inl (.int rr)))) rs) := by
  cases rs with
  | inl rr => exact ConX_of hfl (by decide +kernel) (Nat.le_of_ble_eq_true rfl) rfl ⟨_, rfl, rfl⟩ (fun X B g O hKP hmL hX hE => w_X10_round hfl O hKP hmL (fun rr hr => by cases hr; exact hE) (fun e hr => by cases hr) h0 _ _ _ h)
  | inr e => exact ConX_of hfl (by decide +kernel) (Nat.le_of_ble_eq_true rfl) rfl trivial (fun X B g O hKP hmL hX hE => w_X10_round hfl O hKP hmL (fun rr hr => by cases hr) (fun e hr => by cases hr; exact hX) h0 _ _ _ h)
def f_X10_land_b55 (E : EE) (κ : K) (j3 : Nat) (x4 : Int32) : Option (K × (Int32 ⊕ Nat)) := nm (setV κ 0 j3 0 15 ((-1))) fun κ13 => some (κ13, .inl ((kV κ13 0 j3 0 13) - x4))
def f_X10_land (E : EE) (κ : K) (a1 : Int32) (a2 : Int32) : Option (K × (Int32 ⊕ Nat)) := bx (f_X10_guestAt E κ a1) fun κ1 r3 => gd (r3 < cntE E 0) (bd (f_X1_isMoving E κ1 r3) fun κ7 r9 => if r9 = 0 then some (addC κ7 1 6, .inr 3) else nm (kV κ7 0 r3 0 13) fun y11 => if a2 = 0 then f_X10_land_b55 E κ7 r3 y11 else bd (f_X1_sendPages E κ7 r3 8) fun κ14 _ => bd (f_X1_leaveFrames E κ14 r3) fun κ17 _ => optG (kP κ17 0 r3 0 8) (cntE E 2) (none) (fun j20 => bd (f_X10_otherOf E κ17 j20) fun κ23 r25 => gd (r25 < cntE E 2) (nm (setP κ23 0 r3 0 8 (some r25)) fun κ27 => f_X10_land_b55 E κ27 r3 y11)))
set_option maxHeartbeats 4000000 in
set_option maxRecDepth 100000 in
theorem w_X10_land_b55 {l0 : Launch} (hfl : l0.stackTraces = false) {X : MX} {B : BX (EE × K)} {g : GP} {E : EE} {κ' : K} {rs : (Int32 ⊕ Nat)} (O : CK l0 X B g cX10_land RX10 8 124) (hKP : KPok B E) (hmL : B.2.2.2.1 = 5) (hE : ∀ rr : Int32, rs = .inl rr → ∀ (pc : Nat) (lv : List (Nat × AV)), decode cX10_land pc = .ok (.ireturn, 1) → J X B (E, κ') pc lv [.inl (.int rr)]) (hX : ∀ e, rs = .inr e → QXH X B g (E, κ') (.inr (exN e))) (h0 : PC 10 E 4 0 0) : ∀ (κ : K) (j3 : Nat) (x4 : Int32) (p3 : PC 2 E 0 j3 0), f_X10_land_b55 E κ j3 x4 = some (κ', rs) → J X B (E, κ) 55 [(3, .inr (some (0, j3, 0))), (4, .inl (.int x4))] [] := by
  intro κ j3 x4 p3 h
  unfold f_X10_land_b55 at h
  refine J_aload_n O.mo dX10_land_55 0 rfl ?_
  refine J_iconst O.mo (v := (-1)) dX10_land_56 (by decide) ?_
  refine J_putI O.co (kd0 := 2) (k2_0 p3) (l2_0 p3) (C := RX1) (T := TX1) (N := 19) rfl (by decide) rfl in_X1 tyX1 tyX1_ok nmX1 15 (by decide) rfl rfl (x := ((-1))) (Or.inl rfl) mw461 dX10_land_57 ?_
  refine nm_some (P := fun z => J X B (E, z) 60 [(3, .inr (some (0, j3, 0))), (4, .inl (.int x4))] []) h (fun κ13 h => ?_)
  refine J_aload_n O.mo dX10_land_60 0 rfl ?_
  refine J_getF O.co (kd0 := 2) (k2_0 p3) (l2_0 p3) (C := RX1) (T := TX1) (N := 19) rfl (by decide) rfl in_X1 13 (by decide) (v := .inl (.int (kV κ13 0 j3 0 13))) rfl mw467 rfl dX10_land_61 ?_
  refine J_iload O.mo dX10_land_64 1 rfl ?_
  refine J_isub O.mo dX10_land_66 ?_
  cases h
  exact hE _ rfl _ _ dX10_land_67
set_option maxHeartbeats 4000000 in
set_option maxRecDepth 100000 in
theorem w_X10_land {l0 : Launch} (hfl : l0.stackTraces = false) {X : MX} {B : BX (EE × K)} {g : GP} {E : EE} {κ' : K} {rs : (Int32 ⊕ Nat)} (O : CK l0 X B g cX10_land RX10 8 124) (hKP : KPok B E) (hmL : B.2.2.2.1 = 5) (hE : ∀ rr : Int32, rs = .inl rr → ∀ (pc : Nat) (lv : List (Nat × AV)), decode cX10_land pc = .ok (.ireturn, 1) → J X B (E, κ') pc lv [.inl (.int rr)]) (hX : ∀ e, rs = .inr e → QXH X B g (E, κ') (.inr (exN e))) (h0 : PC 10 E 4 0 0) : ∀ (κ : K) (a1 : Int32) (a2 : Int32), f_X10_land E κ a1 a2 = some (κ', rs) → J X B (E, κ) 0 [(0, .inr (some (4, 0, 0))), (1, .inl (.int a1)), (2, .inl (.int a2))] [] := by
  intro κ a1 a2 h
  unfold f_X10_land at h
  refine J_aload_n O.mo dX10_land_0 0 rfl ?_
  refine J_iload_n O.mo dX10_land_1 1 rfl ?_
  refine J_sub [0, 2] rfl ?_
  rcases bx_some h with ⟨κ1, r3, hq2, h⟩ | ⟨e4, hq2, rfl⟩
  · obtain ⟨hj6, h⟩ := gd_some h
    refine J_callVX O hKP (as := [.inl (.int a1)]) (rest := []) (r := .inl (some (.inr (some (0, r3, 0))))) (c_X10_guestAt hfl h0 hq2) rfl (kd0 := 10) (k10_0 h0) (l10_0 h0) (T := TX10) (N := 4) rfl (by decide) mw406 mw407 mw408 mw320 mw409 pd_X10_guestAt rfl (by decide) rfl (Nat.le_of_ble_eq_true rfl) (sl_p (s10_0 h0) (sl_v sl_0)) st_0 dX10_land_2 (fun s hs => by cases hs) (fun v hv5 => ?_)
    cases hv5
    show J X B (E, κ1) 5 [(0, .inr (some (4, 0, 0))), (2, .inl (.int a2))] [.inr (some (0, r3, 0))]
    refine J_astore_n O.mo (lv' := [(0, .inr (some (4, 0, 0))), (2, .inl (.int a2))]) dX10_land_5 (by rw [hmL]; decide) rfl rfl ?_
    refine J_aload_n O.mo dX10_land_6 0 rfl ?_
    obtain ⟨κ7, r9, hq8, h⟩ := bd_some h
    refine J_callV O hKP (as := []) (rest := []) (r := (some (.inl (.int r9)))) (c_X1_isMoving hfl (⟨hj6, rfl⟩ : PC 2 E 0 r3 0) hq8) rfl (kd0 := 2) (k2_0 (⟨hj6, rfl⟩ : PC 2 E 0 r3 0)) (l2_0 (⟨hj6, rfl⟩ : PC 2 E 0 r3 0)) (T := TX1) (N := 19) rfl (by decide) mw450 mw79 mw80 mw74 mw81 pd_X1_isMoving rfl (by decide) rfl (Nat.le_of_ble_eq_true rfl) (sl_p (s2_0 (⟨hj6, rfl⟩ : PC 2 E 0 r3 0)) (sl_p (s10_0 h0) (sl_v sl_0))) st_0 dX10_land_7 ?_
    show J X B (E, κ7) 10 [(3, .inr (some (0, r3, 0))), (0, .inr (some (4, 0, 0))), (2, .inl (.int a2))] [.inl (.int r9)]
    refine J_if_ne O.mo (tgt := 23) dX10_land_10 (by decide) (fun hc10 => ?_) (fun hc10 => ?_)
    · replace h := (if_neg hc10).symm.trans h
      refine J_aload_n O.mo dX10_land_23 0 rfl ?_
      refine J_getF O.co (kd0 := 2) (k2_0 (⟨hj6, rfl⟩ : PC 2 E 0 r3 0)) (l2_0 (⟨hj6, rfl⟩ : PC 2 E 0 r3 0)) (C := RX1) (T := TX1) (N := 19) rfl (by decide) rfl in_X1 13 (by decide) (v := .inl (.int (kV κ7 0 r3 0 13))) rfl mw467 rfl dX10_land_24 ?_
      refine J_istore O.mo (lv' := [(3, .inr (some (0, r3, 0))), (0, .inr (some (4, 0, 0))), (2, .inl (.int a2))]) dX10_land_27 (by rw [hmL]; decide) rfl rfl ?_
      refine nm_some (P := fun z => J X B (E, κ7) 29 [(4, .inl (.int z)), (3, .inr (some (0, r3, 0))), (0, .inr (some (4, 0, 0))), (2, .inl (.int a2))] []) h (fun y11 h => ?_)
      refine J_iload_n O.mo dX10_land_29 3 rfl ?_
      refine J_if_eq O.mo (tgt := 55) dX10_land_30 (by decide) (fun hc12 => ?_) (fun hc12 => ?_)
      · replace h := (if_pos hc12).symm.trans h
        refine J_sub [1, 0] rfl ?_
        exact w_X10_land_b55 hfl O hKP hmL hE hX h0 _ _ _ (⟨hj6, rfl⟩ : PC 2 E 0 r3 0) h
      · replace h := (if_neg hc12).symm.trans h
        refine J_aload_n O.mo dX10_land_33 1 rfl ?_
        refine J_bipush O.mo (v := 8) dX10_land_34 (by decide) ?_
        refine J_sub [0, 1, 2] rfl ?_
        obtain ⟨κ14, r16, hq15, h⟩ := bd_some h
        refine J_callV O hKP (as := [.inl (.int 8)]) (rest := []) (r := none) (c_X1_sendPages hfl (⟨hj6, rfl⟩ : PC 2 E 0 r3 0) hq15) rfl (kd0 := 2) (k2_0 (⟨hj6, rfl⟩ : PC 2 E 0 r3 0)) (l2_0 (⟨hj6, rfl⟩ : PC 2 E 0 r3 0)) (T := TX1) (N := 19) rfl (by decide) mw463 mw464 mw465 mw74 mw466 pd_X1_sendPages rfl (by decide) rfl (Nat.le_of_ble_eq_true rfl) (sl_v (sl_p (s2_0 (⟨hj6, rfl⟩ : PC 2 E 0 r3 0)) (sl_p (s10_0 h0) sl_0))) st_0 dX10_land_36 ?_
        show J X B (E, κ14) 39 [(4, .inl (.int y11)), (3, .inr (some (0, r3, 0))), (0, .inr (some (4, 0, 0)))] []
        refine J_aload_n O.mo dX10_land_39 1 rfl ?_
        obtain ⟨κ17, r19, hq18, h⟩ := bd_some h
        refine J_callV O hKP (as := []) (rest := []) (r := none) (c_X1_leaveFrames hfl (⟨hj6, rfl⟩ : PC 2 E 0 r3 0) hq18) rfl (kd0 := 2) (k2_0 (⟨hj6, rfl⟩ : PC 2 E 0 r3 0)) (l2_0 (⟨hj6, rfl⟩ : PC 2 E 0 r3 0)) (T := TX1) (N := 19) rfl (by decide) mw468 mw255 mw256 mw74 mw257 pd_X1_leaveFrames rfl (by decide) rfl (Nat.le_of_ble_eq_true rfl) (sl_v (sl_p (s2_0 (⟨hj6, rfl⟩ : PC 2 E 0 r3 0)) (sl_p (s10_0 h0) sl_0))) st_0 dX10_land_40 ?_
        show J X B (E, κ17) 43 [(4, .inl (.int y11)), (3, .inr (some (0, r3, 0))), (0, .inr (some (4, 0, 0)))] []
        refine J_aload_n O.mo dX10_land_43 1 rfl ?_
        refine J_aload_n O.mo dX10_land_44 2 rfl ?_
        refine J_aload_n O.mo dX10_land_45 1 rfl ?_
        replace h := optG_some h
        rcases h with ⟨ho22, h⟩ | ⟨j20, ho22, hj21, h⟩
        · cases h
        · refine J_getF O.co (kd0 := 2) (k2_0 (⟨hj6, rfl⟩ : PC 2 E 0 r3 0)) (l2_0 (⟨hj6, rfl⟩ : PC 2 E 0 r3 0)) (C := RX1) (T := TX1) (N := 19) rfl (by decide) rfl in_X1 8 (by decide) (v := .inr (some (2, j20, 0))) (by rw [ho22]; rfl) mw455 rfl dX10_land_46 ?_
          refine J_sub [0, 1] rfl ?_
          obtain ⟨κ23, r25, hq24, h⟩ := bd_some h
          obtain ⟨hj26, h⟩ := gd_some h
          refine J_callV O hKP (as := [.inr (some (2, j20, 0))]) (rest := [.inr (some (0, r3, 0))]) (r := some (.inr (some (2, r25, 0)))) (c_X10_otherOf hfl h0 (⟨hj21, rfl⟩ : PC 3 E 2 j20 0) hq24) rfl (kd0 := 10) (k10_0 h0) (l10_0 h0) (T := TX10) (N := 4) rfl (by decide) mw456 mw457 mw458 mw320 mw459 pd_X10_otherOf rfl (by decide) rfl (Nat.le_of_ble_eq_true rfl) (sl_v (sl_p (s2_0 (⟨hj6, rfl⟩ : PC 2 E 0 r3 0)) sl_0)) (st_p (s2_0 (⟨hj6, rfl⟩ : PC 2 E 0 r3 0)) st_0) dX10_land_49 ?_
          show J X B (E, κ23) 52 [(4, .inl (.int y11)), (3, .inr (some (0, r3, 0)))] [.inr (some (2, r25, 0)), .inr (some (0, r3, 0))]
          refine J_putP O.co (kd0 := 2) (k2_0 (⟨hj6, rfl⟩ : PC 2 E 0 r3 0)) (l2_0 (⟨hj6, rfl⟩ : PC 2 E 0 r3 0)) (C := RX1) (T := TX1) (N := 19) rfl (by decide) rfl in_X1 tyX1 tyX1_ok nmX1 8 (by decide) rfl rfl (o := (some r25)) (v := .inr (some (2, r25, 0))) rfl rfl mw455 dX10_land_52 ?_
          refine nm_some (P := fun z => J X B (E, z) 55 [(4, .inl (.int y11)), (3, .inr (some (0, r3, 0)))] []) h (fun κ27 h => ?_)
          refine J_sub [1, 0] rfl ?_
          exact w_X10_land_b55 hfl O hKP hmL hE hX h0 _ _ _ (⟨hj6, rfl⟩ : PC 2 E 0 r3 0) h
    · replace h := (if_pos hc10).symm.trans h
      cases h
      exact J_throw O (cls := "java/lang/IllegalStateException") (hX _ rfl) (text := "not moving") (by decide +kernel) mw397 mw398 (by decide) hat_51 (by decide) (Nat.le_of_ble_eq_true rfl) rfl dX10_land_13 dX10_land_16 dX10_land_17 dX10_land_19 dX10_land_22
  · exact J_callVX O hKP (as := [.inl (.int a1)]) (rest := []) (r := .inr (exN e4)) (c_X10_guestAt hfl h0 hq2) rfl (kd0 := 10) (k10_0 h0) (l10_0 h0) (T := TX10) (N := 4) rfl (by decide) mw406 mw407 mw408 mw320 mw409 pd_X10_guestAt rfl (by decide) rfl (Nat.le_of_ble_eq_true rfl) (sl_p (s10_0 h0) (sl_v sl_0)) st_0 dX10_land_2 (fun s hs => by cases hs; exact hX _ rfl) (fun v hs => by cases hs)
theorem c_X10_land {l : Launch} (hfl : l.stackTraces = false) {E : EE} {κ κ' : K} {a1 : Int32} {a2 : Int32} (h0 : PC 10 E 4 0 0) {rs : (Int32 ⊕ Nat)} (h : f_X10_land E κ a1 a2 = some (κ', rs)) : ConX l yX10_land cX10_land 5 (some .int) 8 124 [.inr (some (4, 0, 0)), .inl (.int a1), .inl (.int a2)] (E, κ) (E, κ') (mapX (fun rr => (some (.inl (.int rr)))) rs) := by
  cases rs with
  | inl rr => exact ConX_of hfl (by decide +kernel) (Nat.le_of_ble_eq_true rfl) rfl ⟨_, rfl, rfl⟩ (fun X B g O hKP hmL hX hE => w_X10_land hfl O hKP hmL (fun rr hr => by cases hr; exact hE) (fun e hr => by cases hr) h0 _ _ _ h)
  | inr e => exact ConX_of hfl (by decide +kernel) (Nat.le_of_ble_eq_true rfl) rfl trivial (fun X B g O hKP hmL hX hE => w_X10_land hfl O hKP hmL (fun rr hr => by cases hr) (fun e hr => by cases hr; exact hX) h0 _ _ _ h)
def f_X10_snapshotAt (E : EE) (κ : K) (a1 : Int32) : Option (K × (Nat ⊕ Nat)) := bd (f_Jx4a65c_size_8abf5_L2 E κ) fun κ1 r3 => bx (f_X10_checkPlace E κ1 a1 r3) fun κ4 _ => bd (f_Jx4a65c_get_915e3_L2 E κ4 a1) fun κ9 r11 => gd (r11 < cntE E 1) (some (κ9, .inl r11))
set_option maxHeartbeats 4000000 in
set_option maxRecDepth 100000 in
theorem w_X10_snapshotAt {l0 : Launch} (hfl : l0.stackTraces = false) {X : MX} {B : BX (EE × K)} {g : GP} {E : EE} {κ' : K} {rs : (Nat ⊕ Nat)} (O : CK l0 X B g cX10_snapshotAt RX10 7 103) (hKP : KPok B E) (hmL : B.2.2.2.1 = 2) (hE : ∀ rr : Nat, rs = .inl rr → ∀ (pc : Nat) (lv : List (Nat × AV)), decode cX10_snapshotAt pc = .ok (.areturn, 1) → J X B (E, κ') pc lv [.inr (some (1, rr, 0))]) (hX : ∀ e, rs = .inr e → QXH X B g (E, κ') (.inr (exN e))) (h0 : PC 10 E 4 0 0) : ∀ (κ : K) (a1 : Int32), f_X10_snapshotAt E κ a1 = some (κ', rs) → J X B (E, κ) 0 [(0, .inr (some (4, 0, 0))), (1, .inl (.int a1))] [] := by
  intro κ a1 h
  unfold f_X10_snapshotAt at h
  refine J_iload_n O.mo dX10_snapshotAt_0 1 rfl ?_
  refine J_aload_n O.mo dX10_snapshotAt_1 0 rfl ?_
  refine J_getF O.co (kd0 := 10) (k10_0 h0) (l10_0 h0) (C := RX10) (T := TX10) (N := 4) rfl (by decide) rfl in_X10 1 (by decide) (v := .inr (some (4, 0, 2))) rfl mw469 rfl dX10_snapshotAt_2 ?_
  obtain ⟨κ1, r3, hq2, h⟩ := bd_some h
  refine J_callV O hKP (as := []) (rest := [.inl (.int a1)]) (r := (some (.inl (.int r3)))) (c_Jx4a65c_size_8abf5_L2 hfl h0 hq2) rfl (kd0 := 0) (k10_2 h0) (l10_2 h0) (T := TJx4a65c) (N := 3) rfl (by decide) mw334 mw335 mw336 mw45 mw337 pd_Jx4a65c_size_8abf5 rfl (by decide) rfl (Nat.le_of_ble_eq_true rfl) (sl_p (s10_0 h0) (sl_v sl_0)) (st_v st_0) dX10_snapshotAt_5 ?_
  show J X B (E, κ1) 8 [(0, .inr (some (4, 0, 0))), (1, .inl (.int a1))] [.inl (.int r3), .inl (.int a1)]
  rcases bx_some h with ⟨κ4, r6, hq5, h⟩ | ⟨e7, hq5, rfl⟩
  · refine J_callSX O hKP (as := [.inl (.int a1), .inl (.int r3)]) (rest := []) (r := .inl none) (c_X10_checkPlace hfl hq5) rfl mw385 mw386 mw320 mw387 pd_X10_checkPlace rfl (by decide) rfl (Nat.le_of_ble_eq_true rfl) (sl_p (s10_0 h0) (sl_v sl_0)) st_0 dX10_snapshotAt_8 (fun s hs => by cases hs) (fun v hv8 => ?_)
    cases hv8
    show J X B (E, κ4) 11 [(0, .inr (some (4, 0, 0))), (1, .inl (.int a1))] []
    refine J_aload_n O.mo dX10_snapshotAt_11 0 rfl ?_
    refine J_getF O.co (kd0 := 10) (k10_0 h0) (l10_0 h0) (C := RX10) (T := TX10) (N := 4) rfl (by decide) rfl in_X10 1 (by decide) (v := .inr (some (4, 0, 2))) rfl mw469 rfl dX10_snapshotAt_12 ?_
    refine J_iload_n O.mo dX10_snapshotAt_15 1 rfl ?_
    refine J_sub [] rfl ?_
    obtain ⟨κ9, r11, hq10, h⟩ := bd_some h
    obtain ⟨hj12, h⟩ := gd_some h
    refine J_callV O hKP (as := [.inl (.int a1)]) (rest := []) (r := some (.inr (some (1, r11, 0)))) (c_Jx4a65c_get_915e3_L2 hfl h0 hq10) rfl (kd0 := 0) (k10_2 h0) (l10_2 h0) (T := TJx4a65c) (N := 3) rfl (by decide) mw338 mw339 mw340 mw45 mw341 pd_Jx4a65c_get_915e3 rfl (by decide) rfl (Nat.le_of_ble_eq_true rfl) sl_0 st_0 dX10_snapshotAt_16 ?_
    show J X B (E, κ9) 19 [] [.inr (some (1, r11, 0))]
    refine J_cast O (kd0 := 8) (k8_0 (⟨hj12, rfl⟩ : PC 8 E 1 r11 0)) (l8_0 (⟨hj12, rfl⟩ : PC 8 E 1 r11 0)) rfl (by decide) mw470 dX10_snapshotAt_19 ?_
    cases h
    exact hE _ rfl _ _ dX10_snapshotAt_22
  · exact J_callSX O hKP (as := [.inl (.int a1), .inl (.int r3)]) (rest := []) (r := .inr (exN e7)) (c_X10_checkPlace hfl hq5) rfl mw385 mw386 mw320 mw387 pd_X10_checkPlace rfl (by decide) rfl (Nat.le_of_ble_eq_true rfl) (sl_p (s10_0 h0) (sl_v sl_0)) st_0 dX10_snapshotAt_8 (fun s hs => by cases hs; exact hX _ rfl) (fun v hs => by cases hs)
theorem c_X10_snapshotAt {l : Launch} (hfl : l.stackTraces = false) {E : EE} {κ κ' : K} {a1 : Int32} (h0 : PC 10 E 4 0 0) {rs : (Nat ⊕ Nat)} (h : f_X10_snapshotAt E κ a1 = some (κ', rs)) : ConX l yX10_snapshotAt cX10_snapshotAt 2 (some (.object "GuestHall$Snapshot")) 7 103 [.inr (some (4, 0, 0)), .inl (.int a1)] (E, κ) (E, κ') (mapX (fun rr => (some (.inr (some (1, rr, 0))))) rs) := by
  cases rs with
  | inl rr => exact ConX_of hfl (by decide +kernel) (Nat.le_of_ble_eq_true rfl) rfl ⟨_, rfl, Or.inl ⟨_, rfl⟩⟩ (fun X B g O hKP hmL hX hE => w_X10_snapshotAt hfl O hKP hmL (fun rr hr => by cases hr; exact hE) (fun e hr => by cases hr) h0 _ _ h)
  | inr e => exact ConX_of hfl (by decide +kernel) (Nat.le_of_ble_eq_true rfl) rfl trivial (fun X B g O hKP hmL hX hE => w_X10_snapshotAt hfl O hKP hmL (fun rr hr => by cases hr) (fun e hr => by cases hr; exact hX) h0 _ _ h)
def f_X10_restore_b42 (E : EE) (κ : K) : Option (K × (Int32 ⊕ Nat)) := some (addC κ 1 6, .inr 3)
def f_X10_restore (E : EE) (κ : K) (a1 : Int32) (a2 : Int32) : Option (K × (Int32 ⊕ Nat)) := bx (f_X10_guestAt E κ a1) fun κ1 r3 => gd (r3 < cntE E 0) (bx (f_X10_snapshotAt E κ1 a2) fun κ7 r9 => gd (r9 < cntE E 1) (optG (kP κ7 1 r9 0 0) (cntE E 0) (none) (fun j13 => if j13 = r3 then if kV κ7 0 r3 18 0 = 0 then optG (kP κ7 0 r3 0 8) (cntE E 2) (none) (fun j18 => if kV κ7 2 j18 0 4 = 0 then nm (setP κ7 0 r3 0 9 (some r9)) fun κ22 => optG (kP κ22 1 r9 0 1) (cntE E 9) (none) (fun j23 => bd (f_X1_goBackTo E κ22 r3 9 j23 0) fun κ26 r28 => some (κ26, .inl r28)) else f_X10_restore_b42 E κ7) else f_X10_restore_b42 E κ7 else f_X10_restore_b42 E κ7)))
set_option maxHeartbeats 4000000 in
set_option maxRecDepth 100000 in
theorem w_X10_restore_b42 {l0 : Launch} (hfl : l0.stackTraces = false) {X : MX} {B : BX (EE × K)} {g : GP} {E : EE} {κ' : K} {rs : (Int32 ⊕ Nat)} (O : CK l0 X B g cX10_restore RX10 8 164) (hKP : KPok B E) (hmL : B.2.2.2.1 = 5) (hE : ∀ rr : Int32, rs = .inl rr → ∀ (pc : Nat) (lv : List (Nat × AV)), decode cX10_restore pc = .ok (.ireturn, 1) → J X B (E, κ') pc lv [.inl (.int rr)]) (hX : ∀ e, rs = .inr e → QXH X B g (E, κ') (.inr (exN e))) (h0 : PC 10 E 4 0 0) : ∀ (κ : K), f_X10_restore_b42 E κ = some (κ', rs) → J X B (E, κ) 42 [] [] := by
  intro κ h
  unfold f_X10_restore_b42 at h
  cases h
  exact J_throw O (cls := "java/lang/IllegalStateException") (hX _ rfl) (text := "another\'s snapshot, followed, or a host that failed") (by decide +kernel) mw397 mw398 (by decide) hat_51 (by decide) (Nat.le_of_ble_eq_true rfl) rfl dX10_restore_42 dX10_restore_45 dX10_restore_46 dX10_restore_48 dX10_restore_51
set_option maxHeartbeats 4000000 in
set_option maxRecDepth 100000 in
theorem w_X10_restore {l0 : Launch} (hfl : l0.stackTraces = false) {X : MX} {B : BX (EE × K)} {g : GP} {E : EE} {κ' : K} {rs : (Int32 ⊕ Nat)} (O : CK l0 X B g cX10_restore RX10 8 164) (hKP : KPok B E) (hmL : B.2.2.2.1 = 5) (hE : ∀ rr : Int32, rs = .inl rr → ∀ (pc : Nat) (lv : List (Nat × AV)), decode cX10_restore pc = .ok (.ireturn, 1) → J X B (E, κ') pc lv [.inl (.int rr)]) (hX : ∀ e, rs = .inr e → QXH X B g (E, κ') (.inr (exN e))) (h0 : PC 10 E 4 0 0) : ∀ (κ : K) (a1 : Int32) (a2 : Int32), f_X10_restore E κ a1 a2 = some (κ', rs) → J X B (E, κ) 0 [(0, .inr (some (4, 0, 0))), (1, .inl (.int a1)), (2, .inl (.int a2))] [] := by
  intro κ a1 a2 h
  unfold f_X10_restore at h
  refine J_aload_n O.mo dX10_restore_0 0 rfl ?_
  refine J_iload_n O.mo dX10_restore_1 1 rfl ?_
  refine J_sub [0, 2] rfl ?_
  rcases bx_some h with ⟨κ1, r3, hq2, h⟩ | ⟨e4, hq2, rfl⟩
  · obtain ⟨hj6, h⟩ := gd_some h
    refine J_callVX O hKP (as := [.inl (.int a1)]) (rest := []) (r := .inl (some (.inr (some (0, r3, 0))))) (c_X10_guestAt hfl h0 hq2) rfl (kd0 := 10) (k10_0 h0) (l10_0 h0) (T := TX10) (N := 4) rfl (by decide) mw406 mw407 mw408 mw320 mw409 pd_X10_guestAt rfl (by decide) rfl (Nat.le_of_ble_eq_true rfl) (sl_p (s10_0 h0) (sl_v sl_0)) st_0 dX10_restore_2 (fun s hs => by cases hs) (fun v hv5 => ?_)
    cases hv5
    show J X B (E, κ1) 5 [(0, .inr (some (4, 0, 0))), (2, .inl (.int a2))] [.inr (some (0, r3, 0))]
    refine J_astore_n O.mo (lv' := [(0, .inr (some (4, 0, 0))), (2, .inl (.int a2))]) dX10_restore_5 (by rw [hmL]; decide) rfl rfl ?_
    refine J_aload_n O.mo dX10_restore_6 1 rfl ?_
    refine J_iload_n O.mo dX10_restore_7 2 rfl ?_
    refine J_sub [0] rfl ?_
    rcases bx_some h with ⟨κ7, r9, hq8, h⟩ | ⟨e10, hq8, rfl⟩
    · obtain ⟨hj12, h⟩ := gd_some h
      refine J_callVX O hKP (as := [.inl (.int a2)]) (rest := []) (r := .inl (some (.inr (some (1, r9, 0))))) (c_X10_snapshotAt hfl h0 hq8) rfl (kd0 := 10) (k10_0 h0) (l10_0 h0) (T := TX10) (N := 4) rfl (by decide) mw475 mw476 mw477 mw320 mw478 pd_X10_snapshotAt rfl (by decide) rfl (Nat.le_of_ble_eq_true rfl) (sl_p (s2_0 (⟨hj6, rfl⟩ : PC 2 E 0 r3 0)) sl_0) st_0 dX10_restore_8 (fun s hs => by cases hs) (fun v hv11 => ?_)
      cases hv11
      show J X B (E, κ7) 11 [(3, .inr (some (0, r3, 0)))] [.inr (some (1, r9, 0))]
      refine J_astore O.mo (lv' := [(3, .inr (some (0, r3, 0)))]) dX10_restore_11 (by rw [hmL]; decide) rfl rfl ?_
      refine J_aload O.mo dX10_restore_13 0 rfl ?_
      replace h := optG_some h
      rcases h with ⟨ho15, h⟩ | ⟨j13, ho15, hj14, h⟩
      · cases h
      · refine J_getF O.co (kd0 := 8) (k8_0 (⟨hj12, rfl⟩ : PC 8 E 1 r9 0)) (l8_0 (⟨hj12, rfl⟩ : PC 8 E 1 r9 0)) (C := RX7) (T := TX7) (N := 3) rfl (by decide) rfl in_X7 0 (by decide) (v := .inr (some (0, j13, 0))) (by rw [ho15]; rfl) mw471 rfl dX10_restore_15 ?_
        refine J_aload_n O.mo dX10_restore_18 1 rfl ?_
        refine J_acmp_ne O.mo (O.acmp (l2_0 (⟨hj14, rfl⟩ : PC 2 E 0 j13 0))) (O.acmp (l2_0 (⟨hj6, rfl⟩ : PC 2 E 0 r3 0))) dX10_restore_19 (tgt := 42) (by decide) (fun hc16 => ?_) (fun hc16 => ?_)
        · have hc16 : ¬ j13 = r3 := fun z => hc16 (by rw [z])
          replace h := (if_neg hc16).symm.trans h
          refine J_sub [] rfl ?_
          exact w_X10_restore_b42 hfl O hKP hmL hE hX h0 _ h
        · have hc16 : j13 = r3 := by injection hc16 with _ z; injection z
          replace h := (if_pos hc16).symm.trans h
          refine J_aload_n O.mo dX10_restore_22 1 rfl ?_
          refine J_getF O.co (kd0 := 2) (k2_0 (⟨hj6, rfl⟩ : PC 2 E 0 r3 0)) (l2_0 (⟨hj6, rfl⟩ : PC 2 E 0 r3 0)) (C := RX1) (T := TX1) (N := 19) rfl (by decide) rfl in_X1 5 (by decide) (v := .inr (some (0, r3, 18))) rfl mw415 rfl dX10_restore_23 ?_
          refine J_getF O.co (kd0 := 1) (k2_18 (⟨hj6, rfl⟩ : PC 2 E 0 r3 0)) (l2_18 (⟨hj6, rfl⟩ : PC 2 E 0 r3 0)) (C := RX0) (T := TX0) (N := 4) rfl (by decide) rfl in_X0 0 (by decide) (v := .inl (.int (kV κ7 0 r3 18 0))) rfl mw416 rfl dX10_restore_26 ?_
          refine J_if_ne O.mo (tgt := 42) dX10_restore_29 (by decide) (fun hc17 => ?_) (fun hc17 => ?_)
          · replace h := (if_neg hc17).symm.trans h
            refine J_sub [] rfl ?_
            exact w_X10_restore_b42 hfl O hKP hmL hE hX h0 _ h
          · replace h := (if_pos hc17).symm.trans h
            refine J_aload_n O.mo dX10_restore_32 1 rfl ?_
            replace h := optG_some h
            rcases h with ⟨ho20, h⟩ | ⟨j18, ho20, hj19, h⟩
            · cases h
            · refine J_getF O.co (kd0 := 2) (k2_0 (⟨hj6, rfl⟩ : PC 2 E 0 r3 0)) (l2_0 (⟨hj6, rfl⟩ : PC 2 E 0 r3 0)) (C := RX1) (T := TX1) (N := 19) rfl (by decide) rfl in_X1 8 (by decide) (v := .inr (some (2, j18, 0))) (by rw [ho20]; rfl) mw455 rfl dX10_restore_33 ?_
              refine J_getF O.co (kd0 := 3) (k3_0 (⟨hj19, rfl⟩ : PC 3 E 2 j18 0)) (l3_0 (⟨hj19, rfl⟩ : PC 3 E 2 j18 0)) (C := RX2) (T := TX2) (N := 8) rfl (by decide) rfl in_X2 4 (by decide) (v := .inl (.int (kV κ7 2 j18 0 4))) rfl mw366 rfl dX10_restore_36 ?_
              refine J_if_eq O.mo (tgt := 52) dX10_restore_39 (by decide) (fun hc21 => ?_) (fun hc21 => ?_)
              · replace h := (if_pos hc21).symm.trans h
                refine J_aload_n O.mo dX10_restore_52 1 rfl ?_
                refine J_aload O.mo dX10_restore_53 0 rfl ?_
                refine J_putP O.co (kd0 := 2) (k2_0 (⟨hj6, rfl⟩ : PC 2 E 0 r3 0)) (l2_0 (⟨hj6, rfl⟩ : PC 2 E 0 r3 0)) (C := RX1) (T := TX1) (N := 19) rfl (by decide) rfl in_X1 tyX1 tyX1_ok nmX1 9 (by decide) rfl rfl (o := (some r9)) (v := .inr (some (1, r9, 0))) rfl rfl mw472 dX10_restore_55 ?_
                refine nm_some (P := fun z => J X B (E, z) 58 [(4, .inr (some (1, r9, 0))), (3, .inr (some (0, r3, 0)))] []) h (fun κ22 h => ?_)
                refine J_aload_n O.mo dX10_restore_58 1 rfl ?_
                refine J_aload O.mo dX10_restore_59 0 rfl ?_
                replace h := optG_some h
                rcases h with ⟨ho25, h⟩ | ⟨j23, ho25, hj24, h⟩
                · cases h
                · refine J_getF O.co (kd0 := 8) (k8_0 (⟨hj12, rfl⟩ : PC 8 E 1 r9 0)) (l8_0 (⟨hj12, rfl⟩ : PC 8 E 1 r9 0)) (C := RX7) (T := TX7) (N := 3) rfl (by decide) rfl in_X7 1 (by decide) (v := .inr (some (9, j23, 0))) (by rw [ho25]; rfl) mw473 rfl dX10_restore_61 ?_
                  refine J_sub [] rfl ?_
                  obtain ⟨κ26, r28, hq27, h⟩ := bd_some h
                  refine J_callV O hKP (as := [.inr (some (9, j23, 0))]) (rest := []) (r := (some (.inl (.int r28)))) (c_X1_goBackTo hfl (⟨hj6, rfl⟩ : PC 2 E 0 r3 0) (⟨hj24, rfl⟩ : PC 9 E 9 j23 0) hq27) rfl (kd0 := 2) (k2_0 (⟨hj6, rfl⟩ : PC 2 E 0 r3 0)) (l2_0 (⟨hj6, rfl⟩ : PC 2 E 0 r3 0)) (T := TX1) (N := 19) rfl (by decide) mw474 mw299 mw300 mw74 mw301 pd_X1_goBackTo rfl (by decide) rfl (Nat.le_of_ble_eq_true rfl) sl_0 st_0 dX10_restore_64 ?_
                  show J X B (E, κ26) 67 [] [.inl (.int r28)]
                  cases h
                  exact hE _ rfl _ _ dX10_restore_67
              · replace h := (if_neg hc21).symm.trans h
                refine J_sub [] rfl ?_
                exact w_X10_restore_b42 hfl O hKP hmL hE hX h0 _ h
    · exact J_callVX O hKP (as := [.inl (.int a2)]) (rest := []) (r := .inr (exN e10)) (c_X10_snapshotAt hfl h0 hq8) rfl (kd0 := 10) (k10_0 h0) (l10_0 h0) (T := TX10) (N := 4) rfl (by decide) mw475 mw476 mw477 mw320 mw478 pd_X10_snapshotAt rfl (by decide) rfl (Nat.le_of_ble_eq_true rfl) (sl_p (s2_0 (⟨hj6, rfl⟩ : PC 2 E 0 r3 0)) sl_0) st_0 dX10_restore_8 (fun s hs => by cases hs; exact hX _ rfl) (fun v hs => by cases hs)
  · exact J_callVX O hKP (as := [.inl (.int a1)]) (rest := []) (r := .inr (exN e4)) (c_X10_guestAt hfl h0 hq2) rfl (kd0 := 10) (k10_0 h0) (l10_0 h0) (T := TX10) (N := 4) rfl (by decide) mw406 mw407 mw408 mw320 mw409 pd_X10_guestAt rfl (by decide) rfl (Nat.le_of_ble_eq_true rfl) (sl_p (s10_0 h0) (sl_v sl_0)) st_0 dX10_restore_2 (fun s hs => by cases hs; exact hX _ rfl) (fun v hs => by cases hs)
theorem c_X10_restore {l : Launch} (hfl : l.stackTraces = false) {E : EE} {κ κ' : K} {a1 : Int32} {a2 : Int32} (h0 : PC 10 E 4 0 0) {rs : (Int32 ⊕ Nat)} (h : f_X10_restore E κ a1 a2 = some (κ', rs)) : ConX l yX10_restore cX10_restore 5 (some .int) 8 164 [.inr (some (4, 0, 0)), .inl (.int a1), .inl (.int a2)] (E, κ) (E, κ') (mapX (fun rr => (some (.inl (.int rr)))) rs) := by
  cases rs with
  | inl rr => exact ConX_of hfl (by decide +kernel) (Nat.le_of_ble_eq_true rfl) rfl ⟨_, rfl, rfl⟩ (fun X B g O hKP hmL hX hE => w_X10_restore hfl O hKP hmL (fun rr hr => by cases hr; exact hE) (fun e hr => by cases hr) h0 _ _ _ h)
  | inr e => exact ConX_of hfl (by decide +kernel) (Nat.le_of_ble_eq_true rfl) rfl trivial (fun X B g O hKP hmL hX hE => w_X10_restore hfl O hKP hmL (fun rr hr => by cases hr) (fun e hr => by cases hr; exact hX) h0 _ _ _ h)
def f_X10_follow_e (E : EE) (κ : K) (a1 : Int32) (a2 : Int32) : Option (K × (Int32 ⊕ Nat)) := bx (f_X10_guestAt E κ a1) fun κ1 r3 => gd (r3 < cntE E 0) (bd (f_X1_isDead E κ1 r3) fun κ7 r9 => if r9 = 0 then nm (kV κ7 0 r3 18 0) fun y11 => gd (a2 = 0 ∨ a2 = 1) (nm (setV κ7 0 r3 18 0 a2) fun κ12 => if a2 = 0 then bd (f_X1_letHeldOut E κ12 r3) fun κ15 r17 => some (κ15, .inl y11) else bd (f_X1_keepStep E κ12 r3) fun κ18 r20 => some (κ18, .inl y11)) else some (addC κ7 1 6, .inr 3))
def f_X10_follow (E : EE) (κ : K) (a1 : Int32) (a2 : Int32) : Option (K × (Int32 ⊕ Nat)) := bx (f_X10_follow_e E κ a1 a2) fun κ x => gd (x = 0 ∨ x = 1) (some (κ, .inl x))
set_option maxHeartbeats 4000000 in
set_option maxRecDepth 100000 in
theorem w_X10_follow_e {l0 : Launch} (hfl : l0.stackTraces = false) {X : MX} {B : BX (EE × K)} {g : GP} {E : EE} {κ' : K} {rs : (Int32 ⊕ Nat)} (O : CK l0 X B g cX10_follow RX10 8 206) (hKP : KPok B E) (hmL : B.2.2.2.1 = 5) (hE : ∀ rr : Int32, rs = .inl rr → ∀ (pc : Nat) (lv : List (Nat × AV)), decode cX10_follow pc = .ok (.ireturn, 1) → J X B (E, κ') pc lv [.inl (.int rr)]) (hX : ∀ e, rs = .inr e → QXH X B g (E, κ') (.inr (exN e))) (h0 : PC 10 E 4 0 0) : ∀ (κ : K) (a1 : Int32) (a2 : Int32), f_X10_follow_e E κ a1 a2 = some (κ', rs) → J X B (E, κ) 0 [(0, .inr (some (4, 0, 0))), (1, .inl (.int a1)), (2, .inl (.int a2))] [] := by
  intro κ a1 a2 h
  unfold f_X10_follow_e at h
  refine J_aload_n O.mo dX10_follow_0 0 rfl ?_
  refine J_iload_n O.mo dX10_follow_1 1 rfl ?_
  refine J_sub [2] rfl ?_
  rcases bx_some h with ⟨κ1, r3, hq2, h⟩ | ⟨e4, hq2, rfl⟩
  · obtain ⟨hj6, h⟩ := gd_some h
    refine J_callVX O hKP (as := [.inl (.int a1)]) (rest := []) (r := .inl (some (.inr (some (0, r3, 0))))) (c_X10_guestAt hfl h0 hq2) rfl (kd0 := 10) (k10_0 h0) (l10_0 h0) (T := TX10) (N := 4) rfl (by decide) mw406 mw407 mw408 mw320 mw409 pd_X10_guestAt rfl (by decide) rfl (Nat.le_of_ble_eq_true rfl) (sl_v sl_0) st_0 dX10_follow_2 (fun s hs => by cases hs) (fun v hv5 => ?_)
    cases hv5
    show J X B (E, κ1) 5 [(2, .inl (.int a2))] [.inr (some (0, r3, 0))]
    refine J_astore_n O.mo (lv' := [(2, .inl (.int a2))]) dX10_follow_5 (by rw [hmL]; decide) rfl rfl ?_
    refine J_aload_n O.mo dX10_follow_6 0 rfl ?_
    obtain ⟨κ7, r9, hq8, h⟩ := bd_some h
    refine J_callV O hKP (as := []) (rest := []) (r := (some (.inl (.int r9)))) (c_X1_isDead hfl (⟨hj6, rfl⟩ : PC 2 E 0 r3 0) hq8) rfl (kd0 := 2) (k2_0 (⟨hj6, rfl⟩ : PC 2 E 0 r3 0)) (l2_0 (⟨hj6, rfl⟩ : PC 2 E 0 r3 0)) (T := TX1) (N := 19) rfl (by decide) mw451 mw452 mw453 mw74 mw454 pd_X1_isDead rfl (by decide) rfl (Nat.le_of_ble_eq_true rfl) (sl_p (s2_0 (⟨hj6, rfl⟩ : PC 2 E 0 r3 0)) (sl_v sl_0)) st_0 dX10_follow_7 ?_
    show J X B (E, κ7) 10 [(3, .inr (some (0, r3, 0))), (2, .inl (.int a2))] [.inl (.int r9)]
    refine J_if_eq O.mo (tgt := 23) dX10_follow_10 (by decide) (fun hc10 => ?_) (fun hc10 => ?_)
    · replace h := (if_pos hc10).symm.trans h
      refine J_aload_n O.mo dX10_follow_23 0 rfl ?_
      refine J_getF O.co (kd0 := 2) (k2_0 (⟨hj6, rfl⟩ : PC 2 E 0 r3 0)) (l2_0 (⟨hj6, rfl⟩ : PC 2 E 0 r3 0)) (C := RX1) (T := TX1) (N := 19) rfl (by decide) rfl in_X1 5 (by decide) (v := .inr (some (0, r3, 18))) rfl mw415 rfl dX10_follow_24 ?_
      refine J_getF O.co (kd0 := 1) (k2_18 (⟨hj6, rfl⟩ : PC 2 E 0 r3 0)) (l2_18 (⟨hj6, rfl⟩ : PC 2 E 0 r3 0)) (C := RX0) (T := TX0) (N := 4) rfl (by decide) rfl in_X0 0 (by decide) (v := .inl (.int (kV κ7 0 r3 18 0))) rfl mw416 rfl dX10_follow_27 ?_
      refine J_istore O.mo (lv' := [(3, .inr (some (0, r3, 0))), (2, .inl (.int a2))]) dX10_follow_30 (by rw [hmL]; decide) rfl rfl ?_
      refine nm_some (P := fun z => J X B (E, κ7) 32 [(4, .inl (.int z)), (3, .inr (some (0, r3, 0))), (2, .inl (.int a2))] []) h (fun y11 h => ?_)
      refine J_aload_n O.mo dX10_follow_32 1 rfl ?_
      refine J_getF O.co (kd0 := 2) (k2_0 (⟨hj6, rfl⟩ : PC 2 E 0 r3 0)) (l2_0 (⟨hj6, rfl⟩ : PC 2 E 0 r3 0)) (C := RX1) (T := TX1) (N := 19) rfl (by decide) rfl in_X1 5 (by decide) (v := .inr (some (0, r3, 18))) rfl mw415 rfl dX10_follow_33 ?_
      refine J_iload_n O.mo dX10_follow_36 2 rfl ?_
      obtain ⟨hg13, h⟩ := gd_some h
      refine J_putI O.co (kd0 := 1) (k2_18 (⟨hj6, rfl⟩ : PC 2 E 0 r3 0)) (l2_18 (⟨hj6, rfl⟩ : PC 2 E 0 r3 0)) (C := RX0) (T := TX0) (N := 4) rfl (by decide) rfl in_X0 tyX0 tyX0_ok nmX0 0 (by decide) rfl rfl (x := a2) (Or.inr ⟨rfl, hg13⟩) mw416 dX10_follow_37 ?_
      refine nm_some (P := fun z => J X B (E, z) 40 [(4, .inl (.int y11)), (3, .inr (some (0, r3, 0))), (2, .inl (.int a2))] []) h (fun κ12 h => ?_)
      refine J_iload_n O.mo dX10_follow_40 2 rfl ?_
      refine J_if_eq O.mo (tgt := 52) dX10_follow_41 (by decide) (fun hc14 => ?_) (fun hc14 => ?_)
      · replace h := (if_pos hc14).symm.trans h
        refine J_aload_n O.mo dX10_follow_52 1 rfl ?_
        refine J_sub [0] rfl ?_
        obtain ⟨κ15, r17, hq16, h⟩ := bd_some h
        refine J_callV O hKP (as := []) (rest := []) (r := (some (.inl (.int r17)))) (c_X1_letHeldOut hfl (⟨hj6, rfl⟩ : PC 2 E 0 r3 0) hq16) rfl (kd0 := 2) (k2_0 (⟨hj6, rfl⟩ : PC 2 E 0 r3 0)) (l2_0 (⟨hj6, rfl⟩ : PC 2 E 0 r3 0)) (T := TX1) (N := 19) rfl (by decide) mw479 mw295 mw296 mw74 mw297 pd_X1_letHeldOut rfl (by decide) rfl (Nat.le_of_ble_eq_true rfl) (sl_v sl_0) st_0 dX10_follow_53 ?_
        show J X B (E, κ15) 56 [(4, .inl (.int y11))] [.inl (.int r17)]
        refine J_pop O.mo dX10_follow_56 rfl ?_
        refine J_iload O.mo dX10_follow_57 0 rfl ?_
        cases h
        exact hE _ rfl _ _ dX10_follow_59
      · replace h := (if_neg hc14).symm.trans h
        refine J_aload_n O.mo dX10_follow_44 1 rfl ?_
        refine J_sub [0] rfl ?_
        obtain ⟨κ18, r20, hq19, h⟩ := bd_some h
        refine J_callV O hKP (as := []) (rest := []) (r := (some (.inl (.int r20)))) (c_X1_keepStep hfl (⟨hj6, rfl⟩ : PC 2 E 0 r3 0) hq19) rfl (kd0 := 2) (k2_0 (⟨hj6, rfl⟩ : PC 2 E 0 r3 0)) (l2_0 (⟨hj6, rfl⟩ : PC 2 E 0 r3 0)) (T := TX1) (N := 19) rfl (by decide) mw480 mw481 mw482 mw74 mw483 pd_X1_keepStep rfl (by decide) rfl (Nat.le_of_ble_eq_true rfl) (sl_v sl_0) st_0 dX10_follow_45 ?_
        show J X B (E, κ18) 48 [(4, .inl (.int y11))] [.inl (.int r20)]
        refine J_pop O.mo dX10_follow_48 rfl ?_
        refine J_goto O.mo (tgt := 57) dX10_follow_49 (by decide) ?_
        refine J_iload O.mo dX10_follow_57 0 rfl ?_
        cases h
        exact hE _ rfl _ _ dX10_follow_59
    · replace h := (if_neg hc10).symm.trans h
      cases h
      exact J_throw O (cls := "java/lang/IllegalStateException") (hX _ rfl) (text := "dead") (by decide +kernel) mw397 mw398 (by decide) hat_51 (by decide) (Nat.le_of_ble_eq_true rfl) rfl dX10_follow_13 dX10_follow_16 dX10_follow_17 dX10_follow_19 dX10_follow_22
  · exact J_callVX O hKP (as := [.inl (.int a1)]) (rest := []) (r := .inr (exN e4)) (c_X10_guestAt hfl h0 hq2) rfl (kd0 := 10) (k10_0 h0) (l10_0 h0) (T := TX10) (N := 4) rfl (by decide) mw406 mw407 mw408 mw320 mw409 pd_X10_guestAt rfl (by decide) rfl (Nat.le_of_ble_eq_true rfl) (sl_v sl_0) st_0 dX10_follow_2 (fun s hs => by cases hs; exact hX _ rfl) (fun v hs => by cases hs)
theorem c_X10_follow {l : Launch} (hfl : l.stackTraces = false) {E : EE} {κ κ' : K} {a1 : Int32} {a2 : Int32} (h0 : PC 10 E 4 0 0) {rs : (Int32 ⊕ Nat)} (h : f_X10_follow E κ a1 a2 = some (κ', rs)) : ConX l yX10_follow cX10_follow 5 (some .boolean) 8 206 [.inr (some (4, 0, 0)), .inl (.int a1), .inl (.int a2)] (E, κ) (E, κ') (mapX (fun rr => (some (.inl (.int rr)))) rs) := by
  unfold f_X10_follow at h
  rcases bx_some h with ⟨κ1, x1, q1, q2⟩ | ⟨e1, q1, rfl⟩
  · obtain ⟨hb, q3⟩ := gd_some q2
    cases q3
    exact ConX_of hfl (by decide +kernel) (Nat.le_of_ble_eq_true rfl) rfl ⟨_, rfl, nar_b hb⟩ (fun X B g O hKP hmL hX hE => w_X10_follow_e hfl O hKP hmL (fun rr hr => by cases hr; exact hE) (fun e hr => by cases hr) h0 _ _ _ q1)
  · exact ConX_of hfl (by decide +kernel) (Nat.le_of_ble_eq_true rfl) rfl trivial (fun X B g O hKP hmL hX hE => w_X10_follow_e hfl O hKP hmL (fun rr hr => by cases hr) (fun e hr => by cases hr; exact hX) h0 _ _ _ q1)
def f_X10_step (E : EE) (κ : K) (a1 : Int32) : Option (K × (Int32 ⊕ Nat)) := bx (f_X10_guestAt E κ a1) fun κ1 r3 => gd (r3 < cntE E 0) (if kV κ1 0 r3 18 0 = 0 then some (addC κ1 1 6, .inr 3) else bd (f_X1_keepStep E κ1 r3) fun κ8 r10 => some (κ8, .inl r10))
set_option maxHeartbeats 4000000 in
set_option maxRecDepth 100000 in
theorem w_X10_step {l0 : Launch} (hfl : l0.stackTraces = false) {X : MX} {B : BX (EE × K)} {g : GP} {E : EE} {κ' : K} {rs : (Int32 ⊕ Nat)} (O : CK l0 X B g cX10_step RX10 8 206) (hKP : KPok B E) (hmL : B.2.2.2.1 = 3) (hE : ∀ rr : Int32, rs = .inl rr → ∀ (pc : Nat) (lv : List (Nat × AV)), decode cX10_step pc = .ok (.ireturn, 1) → J X B (E, κ') pc lv [.inl (.int rr)]) (hX : ∀ e, rs = .inr e → QXH X B g (E, κ') (.inr (exN e))) (h0 : PC 10 E 4 0 0) : ∀ (κ : K) (a1 : Int32), f_X10_step E κ a1 = some (κ', rs) → J X B (E, κ) 0 [(0, .inr (some (4, 0, 0))), (1, .inl (.int a1))] [] := by
  intro κ a1 h
  unfold f_X10_step at h
  refine J_aload_n O.mo dX10_step_0 0 rfl ?_
  refine J_iload_n O.mo dX10_step_1 1 rfl ?_
  refine J_sub [] rfl ?_
  rcases bx_some h with ⟨κ1, r3, hq2, h⟩ | ⟨e4, hq2, rfl⟩
  · obtain ⟨hj6, h⟩ := gd_some h
    refine J_callVX O hKP (as := [.inl (.int a1)]) (rest := []) (r := .inl (some (.inr (some (0, r3, 0))))) (c_X10_guestAt hfl h0 hq2) rfl (kd0 := 10) (k10_0 h0) (l10_0 h0) (T := TX10) (N := 4) rfl (by decide) mw406 mw407 mw408 mw320 mw409 pd_X10_guestAt rfl (by decide) rfl (Nat.le_of_ble_eq_true rfl) sl_0 st_0 dX10_step_2 (fun s hs => by cases hs) (fun v hv5 => ?_)
    cases hv5
    show J X B (E, κ1) 5 [] [.inr (some (0, r3, 0))]
    refine J_astore_n O.mo (lv' := []) dX10_step_5 (by rw [hmL]; decide) rfl rfl ?_
    refine J_aload_n O.mo dX10_step_6 0 rfl ?_
    refine J_getF O.co (kd0 := 2) (k2_0 (⟨hj6, rfl⟩ : PC 2 E 0 r3 0)) (l2_0 (⟨hj6, rfl⟩ : PC 2 E 0 r3 0)) (C := RX1) (T := TX1) (N := 19) rfl (by decide) rfl in_X1 5 (by decide) (v := .inr (some (0, r3, 18))) rfl mw415 rfl dX10_step_7 ?_
    refine J_getF O.co (kd0 := 1) (k2_18 (⟨hj6, rfl⟩ : PC 2 E 0 r3 0)) (l2_18 (⟨hj6, rfl⟩ : PC 2 E 0 r3 0)) (C := RX0) (T := TX0) (N := 4) rfl (by decide) rfl in_X0 0 (by decide) (v := .inl (.int (kV κ1 0 r3 18 0))) rfl mw416 rfl dX10_step_10 ?_
    refine J_if_ne O.mo (tgt := 27) dX10_step_13 (by decide) (fun hc7 => ?_) (fun hc7 => ?_)
    · replace h := (if_neg hc7).symm.trans h
      refine J_aload_n O.mo dX10_step_27 0 rfl ?_
      refine J_sub [] rfl ?_
      obtain ⟨κ8, r10, hq9, h⟩ := bd_some h
      refine J_callV O hKP (as := []) (rest := []) (r := (some (.inl (.int r10)))) (c_X1_keepStep hfl (⟨hj6, rfl⟩ : PC 2 E 0 r3 0) hq9) rfl (kd0 := 2) (k2_0 (⟨hj6, rfl⟩ : PC 2 E 0 r3 0)) (l2_0 (⟨hj6, rfl⟩ : PC 2 E 0 r3 0)) (T := TX1) (N := 19) rfl (by decide) mw480 mw481 mw482 mw74 mw483 pd_X1_keepStep rfl (by decide) rfl (Nat.le_of_ble_eq_true rfl) sl_0 st_0 dX10_step_28 ?_
      show J X B (E, κ8) 31 [] [.inl (.int r10)]
      cases h
      exact hE _ rfl _ _ dX10_step_31
    · replace h := (if_pos hc7).symm.trans h
      cases h
      exact J_throwW O (cls := "java/lang/IllegalStateException") (hX _ rfl) (text := "not followed") (by decide +kernel) mw397 mw398 (by decide) hat_51 (by decide) (Nat.le_of_ble_eq_true rfl) rfl dX10_step_16 dX10_step_19 dX10_step_20 dX10_step_23 dX10_step_26
  · exact J_callVX O hKP (as := [.inl (.int a1)]) (rest := []) (r := .inr (exN e4)) (c_X10_guestAt hfl h0 hq2) rfl (kd0 := 10) (k10_0 h0) (l10_0 h0) (T := TX10) (N := 4) rfl (by decide) mw406 mw407 mw408 mw320 mw409 pd_X10_guestAt rfl (by decide) rfl (Nat.le_of_ble_eq_true rfl) sl_0 st_0 dX10_step_2 (fun s hs => by cases hs; exact hX _ rfl) (fun v hs => by cases hs)
theorem c_X10_step {l : Launch} (hfl : l.stackTraces = false) {E : EE} {κ κ' : K} {a1 : Int32} (h0 : PC 10 E 4 0 0) {rs : (Int32 ⊕ Nat)} (h : f_X10_step E κ a1 = some (κ', rs)) : ConX l yX10_step cX10_step 3 (some .int) 8 206 [.inr (some (4, 0, 0)), .inl (.int a1)] (E, κ) (E, κ') (mapX (fun rr => (some (.inl (.int rr)))) rs) := by
  cases rs with
  | inl rr => exact ConX_of hfl (by decide +kernel) (Nat.le_of_ble_eq_true rfl) rfl ⟨_, rfl, rfl⟩ (fun X B g O hKP hmL hX hE => w_X10_step hfl O hKP hmL (fun rr hr => by cases hr; exact hE) (fun e hr => by cases hr) h0 _ _ h)
  | inr e => exact ConX_of hfl (by decide +kernel) (Nat.le_of_ble_eq_true rfl) rfl trivial (fun X B g O hKP hmL hX hE => w_X10_step hfl O hKP hmL (fun rr hr => by cases hr) (fun e hr => by cases hr; exact hX) h0 _ _ h)
def f_X10_fail_b122 (E : EE) (k41 : K → Nat → Nat → Int32 → Int32 → Option (K × (Int32 ⊕ Nat))) (κ : K) (j2 : Nat) (j3 : Nat) (x4 : Int32) (x5 : Int32) : Option (K × (Int32 ⊕ Nat)) := nm (x5 + 1) fun y26 => k41 κ j2 j3 x4 y26
def f_X10_fail_b117 (E : EE) (k41 : K → Nat → Nat → Int32 → Int32 → Option (K × (Int32 ⊕ Nat))) (κ : K) (j2 : Nat) (j3 : Nat) (x4 : Int32) (x5 : Int32) (j6 : Nat) : Option (K × (Int32 ⊕ Nat)) := bd (f_X1_dieWithHost E κ j6) fun κ31 _ => f_X10_fail_b122 E k41 κ31 j2 j3 x4 x5
def f_X10_fail_b41 (E : EE) : Nat → K → Nat → Nat → Int32 → Int32 → Option (K × (Int32 ⊕ Nat))
  | 0, _, _, _, _, _ => none
  | n + 1, κ, j2, j3, x4, x5 => bd (f_Jx4a65c_size_8abf5_L1 E κ) fun κ13 r15 => if r15 ≤ x5 then some (κ13, .inl x4) else bd (f_Jx4a65c_get_915e3_L1 E κ13 x5) fun κ17 r19 => gd (r19 < cntE E 0) (nm (setV κ17 0 r19 0 15 ((-1))) fun κ21 => optG (kP κ21 0 r19 0 8) (cntE E 2) (none) (fun j22 => if j22 = j2 then bd (f_X1_leaveFrames E κ21 r19) fun κ27 _ => if kV κ27 0 r19 18 0 = 0 then f_X10_fail_b117 E (f_X10_fail_b41 E n) κ27 j2 j3 x4 x5 r19 else if kV κ27 2 j3 0 4 = 0 then bd (f_X1_goOnUpon E κ27 r19 j3) fun κ35 _ => nm (x4 + 1) fun y38 => f_X10_fail_b122 E (f_X10_fail_b41 E n) κ35 j2 j3 y38 x5 else f_X10_fail_b117 E (f_X10_fail_b41 E n) κ27 j2 j3 x4 x5 r19 else f_X10_fail_b122 E (f_X10_fail_b41 E n) κ21 j2 j3 x4 x5))
def f_X10_fail (E : EE) (κ : K) (a1 : Int32) : Option (K × (Int32 ⊕ Nat)) := bx (f_X10_hostAt E κ a1) fun κ1 r3 => gd (r3 < cntE E 2) (if kV κ1 2 r3 0 4 = 0 then nm (setV κ1 2 r3 0 4 1) fun κ8 => bd (f_X10_otherOf E κ8 r3) fun κ9 r11 => gd (r11 < cntE E 2) (f_X10_fail_b41 E FU κ9 r3 r11 0 0) else some (addC κ1 1 6, .inr 3))
set_option maxHeartbeats 4000000 in
set_option maxRecDepth 100000 in
theorem w_X10_fail_b122 {l0 : Launch} (hfl : l0.stackTraces = false) {X : MX} {B : BX (EE × K)} {g : GP} {E : EE} {κ' : K} {rs : (Int32 ⊕ Nat)} (O : CK l0 X B g cX10_fail RX10 8 186) (hKP : KPok B E) (hmL : B.2.2.2.1 = 7) (hE : ∀ rr : Int32, rs = .inl rr → ∀ (pc : Nat) (lv : List (Nat × AV)), decode cX10_fail pc = .ok (.ireturn, 1) → J X B (E, κ') pc lv [.inl (.int rr)]) (hX : ∀ e, rs = .inr e → QXH X B g (E, κ') (.inr (exN e))) (h0 : PC 10 E 4 0 0) {k41 : K → Nat → Nat → Int32 → Int32 → Option (K × (Int32 ⊕ Nat))} (hk41 : ∀ (κ : K) (j2 : Nat) (j3 : Nat) (x4 : Int32) (x5 : Int32) (p2 : PC 3 E 2 j2 0) (p3 : PC 3 E 2 j3 0), k41 κ j2 j3 x4 x5 = some (κ', rs) → J X B (E, κ) 41 [(0, .inr (some (4, 0, 0))), (2, .inr (some (2, j2, 0))), (3, .inr (some (2, j3, 0))), (4, .inl (.int x4)), (5, .inl (.int x5))] []) : ∀ (κ : K) (j2 : Nat) (j3 : Nat) (x4 : Int32) (x5 : Int32) (p2 : PC 3 E 2 j2 0) (p3 : PC 3 E 2 j3 0), f_X10_fail_b122 E k41 κ j2 j3 x4 x5 = some (κ', rs) → J X B (E, κ) 122 [(0, .inr (some (4, 0, 0))), (2, .inr (some (2, j2, 0))), (3, .inr (some (2, j3, 0))), (4, .inl (.int x4)), (5, .inl (.int x5))] [] := by
  intro κ j2 j3 x4 x5 p2 p3 h
  unfold f_X10_fail_b122 at h
  refine J_iinc O.mo (v := x5 + 1) (lv' := [(0, .inr (some (4, 0, 0))), (2, .inr (some (2, j2, 0))), (3, .inr (some (2, j3, 0))), (4, .inl (.int x4))]) dX10_fail_122 (by rw [hmL]; decide) 4 rfl (by rw [show Int32.ofInt (1) = (1 : Int32) from by decide]) rfl rfl ?_
  refine nm_some (P := fun z => J X B (E, κ) 125 [(5, .inl (.int z)), (0, .inr (some (4, 0, 0))), (2, .inr (some (2, j2, 0))), (3, .inr (some (2, j3, 0))), (4, .inl (.int x4))] []) h (fun y26 h => ?_)
  refine J_goto O.mo (tgt := 41) dX10_fail_125 (by decide) ?_
  refine J_sub [1, 2, 3, 4, 0] rfl ?_
  exact hk41 _ _ _ _ _ p2 p3 h
set_option maxHeartbeats 4000000 in
set_option maxRecDepth 100000 in
theorem w_X10_fail_b117 {l0 : Launch} (hfl : l0.stackTraces = false) {X : MX} {B : BX (EE × K)} {g : GP} {E : EE} {κ' : K} {rs : (Int32 ⊕ Nat)} (O : CK l0 X B g cX10_fail RX10 8 186) (hKP : KPok B E) (hmL : B.2.2.2.1 = 7) (hE : ∀ rr : Int32, rs = .inl rr → ∀ (pc : Nat) (lv : List (Nat × AV)), decode cX10_fail pc = .ok (.ireturn, 1) → J X B (E, κ') pc lv [.inl (.int rr)]) (hX : ∀ e, rs = .inr e → QXH X B g (E, κ') (.inr (exN e))) (h0 : PC 10 E 4 0 0) {k41 : K → Nat → Nat → Int32 → Int32 → Option (K × (Int32 ⊕ Nat))} (hk41 : ∀ (κ : K) (j2 : Nat) (j3 : Nat) (x4 : Int32) (x5 : Int32) (p2 : PC 3 E 2 j2 0) (p3 : PC 3 E 2 j3 0), k41 κ j2 j3 x4 x5 = some (κ', rs) → J X B (E, κ) 41 [(0, .inr (some (4, 0, 0))), (2, .inr (some (2, j2, 0))), (3, .inr (some (2, j3, 0))), (4, .inl (.int x4)), (5, .inl (.int x5))] []) : ∀ (κ : K) (j2 : Nat) (j3 : Nat) (x4 : Int32) (x5 : Int32) (j6 : Nat) (p2 : PC 3 E 2 j2 0) (p3 : PC 3 E 2 j3 0) (p6 : PC 2 E 0 j6 0), f_X10_fail_b117 E k41 κ j2 j3 x4 x5 j6 = some (κ', rs) → J X B (E, κ) 117 [(0, .inr (some (4, 0, 0))), (2, .inr (some (2, j2, 0))), (3, .inr (some (2, j3, 0))), (4, .inl (.int x4)), (5, .inl (.int x5)), (6, .inr (some (0, j6, 0)))] [] := by
  intro κ j2 j3 x4 x5 j6 p2 p3 p6 h
  unfold f_X10_fail_b117 at h
  refine J_aload O.mo dX10_fail_117 5 rfl ?_
  refine J_sub [0, 1, 2, 3, 4] rfl ?_
  obtain ⟨κ31, r33, hq32, h⟩ := bd_some h
  refine J_callV O hKP (as := []) (rest := []) (r := none) (c_X1_dieWithHost hfl p6 hq32) rfl (kd0 := 2) (k2_0 p6) (l2_0 p6) (T := TX1) (N := 19) rfl (by decide) mw484 mw485 mw486 mw74 mw487 pd_X1_dieWithHost rfl (by decide) rfl (Nat.le_of_ble_eq_true rfl) (sl_p (s10_0 h0) (sl_p (s3_0 p2) (sl_p (s3_0 p3) (sl_v (sl_v sl_0))))) st_0 dX10_fail_119 ?_
  show J X B (E, κ31) 122 [(0, .inr (some (4, 0, 0))), (2, .inr (some (2, j2, 0))), (3, .inr (some (2, j3, 0))), (4, .inl (.int x4)), (5, .inl (.int x5))] []
  exact w_X10_fail_b122 hfl O hKP hmL hE hX h0 hk41 _ _ _ _ _ p2 p3 h
set_option maxHeartbeats 4000000 in
set_option maxRecDepth 100000 in
theorem w_X10_fail_b41 {l0 : Launch} (hfl : l0.stackTraces = false) {X : MX} {B : BX (EE × K)} {g : GP} {E : EE} {κ' : K} {rs : (Int32 ⊕ Nat)} (O : CK l0 X B g cX10_fail RX10 8 186) (hKP : KPok B E) (hmL : B.2.2.2.1 = 7) (hE : ∀ rr : Int32, rs = .inl rr → ∀ (pc : Nat) (lv : List (Nat × AV)), decode cX10_fail pc = .ok (.ireturn, 1) → J X B (E, κ') pc lv [.inl (.int rr)]) (hX : ∀ e, rs = .inr e → QXH X B g (E, κ') (.inr (exN e))) (h0 : PC 10 E 4 0 0) : ∀ (n : Nat) (κ : K) (j2 : Nat) (j3 : Nat) (x4 : Int32) (x5 : Int32) (p2 : PC 3 E 2 j2 0) (p3 : PC 3 E 2 j3 0), f_X10_fail_b41 E n κ j2 j3 x4 x5 = some (κ', rs) → J X B (E, κ) 41 [(0, .inr (some (4, 0, 0))), (2, .inr (some (2, j2, 0))), (3, .inr (some (2, j3, 0))), (4, .inl (.int x4)), (5, .inl (.int x5))] [] := by
  intro n
  induction n with
  | zero => intro κ j2 j3 x4 x5 p2 p3 h; cases h
  | succ n ih =>
    intro κ j2 j3 x4 x5 p2 p3 h
    rw [f_X10_fail_b41] at h
    refine J_iload O.mo dX10_fail_41 4 rfl ?_
    refine J_aload_n O.mo dX10_fail_43 0 rfl ?_
    refine J_getF O.co (kd0 := 10) (k10_0 h0) (l10_0 h0) (C := RX10) (T := TX10) (N := 4) rfl (by decide) rfl in_X10 0 (by decide) (v := .inr (some (4, 0, 1))) rfl mw333 rfl dX10_fail_44 ?_
    obtain ⟨κ13, r15, hq14, h⟩ := bd_some h
    refine J_callV O hKP (as := []) (rest := [.inl (.int x5)]) (r := (some (.inl (.int r15)))) (c_Jx4a65c_size_8abf5_L1 hfl h0 hq14) rfl (kd0 := 0) (k10_1 h0) (l10_1 h0) (T := TJx4a65c) (N := 3) rfl (by decide) mw334 mw335 mw336 mw45 mw337 pd_Jx4a65c_size_8abf5 rfl (by decide) rfl (Nat.le_of_ble_eq_true rfl) (sl_p (s10_0 h0) (sl_p (s3_0 p2) (sl_p (s3_0 p3) (sl_v (sl_v sl_0))))) (st_v st_0) dX10_fail_47 ?_
    show J X B (E, κ13) 50 [(0, .inr (some (4, 0, 0))), (2, .inr (some (2, j2, 0))), (3, .inr (some (2, j3, 0))), (4, .inl (.int x4)), (5, .inl (.int x5))] [.inl (.int r15), .inl (.int x5)]
    refine J_icmp_ge O.mo (tgt := 128) dX10_fail_50 (by decide) (fun hc16 => ?_) (fun hc16 => ?_)
    · replace h := (if_pos hc16).symm.trans h
      refine J_iload O.mo dX10_fail_128 3 rfl ?_
      cases h
      exact hE _ rfl _ _ dX10_fail_130
    · replace h := (if_neg hc16).symm.trans h
      refine J_aload_n O.mo dX10_fail_53 0 rfl ?_
      refine J_getF O.co (kd0 := 10) (k10_0 h0) (l10_0 h0) (C := RX10) (T := TX10) (N := 4) rfl (by decide) rfl in_X10 0 (by decide) (v := .inr (some (4, 0, 1))) rfl mw333 rfl dX10_fail_54 ?_
      refine J_iload O.mo dX10_fail_57 4 rfl ?_
      obtain ⟨κ17, r19, hq18, h⟩ := bd_some h
      obtain ⟨hj20, h⟩ := gd_some h
      refine J_callV O hKP (as := [.inl (.int x5)]) (rest := []) (r := some (.inr (some (0, r19, 0)))) (c_Jx4a65c_get_915e3_L1 hfl h0 hq18) rfl (kd0 := 0) (k10_1 h0) (l10_1 h0) (T := TJx4a65c) (N := 3) rfl (by decide) mw338 mw339 mw340 mw45 mw341 pd_Jx4a65c_get_915e3 rfl (by decide) rfl (Nat.le_of_ble_eq_true rfl) (sl_p (s10_0 h0) (sl_p (s3_0 p2) (sl_p (s3_0 p3) (sl_v (sl_v sl_0))))) st_0 dX10_fail_59 ?_
      show J X B (E, κ17) 62 [(0, .inr (some (4, 0, 0))), (2, .inr (some (2, j2, 0))), (3, .inr (some (2, j3, 0))), (4, .inl (.int x4)), (5, .inl (.int x5))] [.inr (some (0, r19, 0))]
      refine J_cast O (kd0 := 2) (k2_0 (⟨hj20, rfl⟩ : PC 2 E 0 r19 0)) (l2_0 (⟨hj20, rfl⟩ : PC 2 E 0 r19 0)) rfl (by decide) mw342 dX10_fail_62 ?_
      refine J_astore O.mo (lv' := [(0, .inr (some (4, 0, 0))), (2, .inr (some (2, j2, 0))), (3, .inr (some (2, j3, 0))), (4, .inl (.int x4)), (5, .inl (.int x5))]) dX10_fail_65 (by rw [hmL]; decide) rfl rfl ?_
      refine J_aload O.mo dX10_fail_67 0 rfl ?_
      refine J_iconst O.mo (v := (-1)) dX10_fail_69 (by decide) ?_
      refine J_putI O.co (kd0 := 2) (k2_0 (⟨hj20, rfl⟩ : PC 2 E 0 r19 0)) (l2_0 (⟨hj20, rfl⟩ : PC 2 E 0 r19 0)) (C := RX1) (T := TX1) (N := 19) rfl (by decide) rfl in_X1 tyX1 tyX1_ok nmX1 15 (by decide) rfl rfl (x := ((-1))) (Or.inl rfl) mw461 dX10_fail_70 ?_
      refine nm_some (P := fun z => J X B (E, z) 73 [(6, .inr (some (0, r19, 0))), (0, .inr (some (4, 0, 0))), (2, .inr (some (2, j2, 0))), (3, .inr (some (2, j3, 0))), (4, .inl (.int x4)), (5, .inl (.int x5))] []) h (fun κ21 h => ?_)
      refine J_aload O.mo dX10_fail_73 0 rfl ?_
      replace h := optG_some h
      rcases h with ⟨ho24, h⟩ | ⟨j22, ho24, hj23, h⟩
      · cases h
      · refine J_getF O.co (kd0 := 2) (k2_0 (⟨hj20, rfl⟩ : PC 2 E 0 r19 0)) (l2_0 (⟨hj20, rfl⟩ : PC 2 E 0 r19 0)) (C := RX1) (T := TX1) (N := 19) rfl (by decide) rfl in_X1 8 (by decide) (v := .inr (some (2, j22, 0))) (by rw [ho24]; rfl) mw455 rfl dX10_fail_75 ?_
        refine J_aload_n O.mo dX10_fail_78 2 rfl ?_
        refine J_acmp_ne O.mo (O.acmp (l3_0 (⟨hj23, rfl⟩ : PC 3 E 2 j22 0))) (O.acmp (l3_0 p2)) dX10_fail_79 (tgt := 122) (by decide) (fun hc25 => ?_) (fun hc25 => ?_)
        · have hc25 : ¬ j22 = j2 := fun z => hc25 (by rw [z])
          replace h := (if_neg hc25).symm.trans h
          refine J_sub [1, 2, 3, 4, 5] rfl ?_
          exact w_X10_fail_b122 hfl O hKP hmL hE hX h0 ih _ _ _ _ _ p2 p3 h
        · have hc25 : j22 = j2 := by injection hc25 with _ z; injection z
          replace h := (if_pos hc25).symm.trans h
          refine J_aload O.mo dX10_fail_82 0 rfl ?_
          obtain ⟨κ27, r29, hq28, h⟩ := bd_some h
          refine J_callV O hKP (as := []) (rest := []) (r := none) (c_X1_leaveFrames hfl (⟨hj20, rfl⟩ : PC 2 E 0 r19 0) hq28) rfl (kd0 := 2) (k2_0 (⟨hj20, rfl⟩ : PC 2 E 0 r19 0)) (l2_0 (⟨hj20, rfl⟩ : PC 2 E 0 r19 0)) (T := TX1) (N := 19) rfl (by decide) mw468 mw255 mw256 mw74 mw257 pd_X1_leaveFrames rfl (by decide) rfl (Nat.le_of_ble_eq_true rfl) (sl_p (s2_0 (⟨hj20, rfl⟩ : PC 2 E 0 r19 0)) (sl_p (s10_0 h0) (sl_p (s3_0 p2) (sl_p (s3_0 p3) (sl_v (sl_v sl_0)))))) st_0 dX10_fail_84 ?_
          show J X B (E, κ27) 87 [(6, .inr (some (0, r19, 0))), (0, .inr (some (4, 0, 0))), (2, .inr (some (2, j2, 0))), (3, .inr (some (2, j3, 0))), (4, .inl (.int x4)), (5, .inl (.int x5))] []
          refine J_aload O.mo dX10_fail_87 0 rfl ?_
          refine J_getF O.co (kd0 := 2) (k2_0 (⟨hj20, rfl⟩ : PC 2 E 0 r19 0)) (l2_0 (⟨hj20, rfl⟩ : PC 2 E 0 r19 0)) (C := RX1) (T := TX1) (N := 19) rfl (by decide) rfl in_X1 5 (by decide) (v := .inr (some (0, r19, 18))) rfl mw415 rfl dX10_fail_89 ?_
          refine J_getF O.co (kd0 := 1) (k2_18 (⟨hj20, rfl⟩ : PC 2 E 0 r19 0)) (l2_18 (⟨hj20, rfl⟩ : PC 2 E 0 r19 0)) (C := RX0) (T := TX0) (N := 4) rfl (by decide) rfl in_X0 0 (by decide) (v := .inl (.int (kV κ27 0 r19 18 0))) rfl mw416 rfl dX10_fail_92 ?_
          refine J_if_eq O.mo (tgt := 117) dX10_fail_95 (by decide) (fun hc30 => ?_) (fun hc30 => ?_)
          · replace h := (if_pos hc30).symm.trans h
            refine J_sub [1, 2, 3, 4, 5, 0] rfl ?_
            exact w_X10_fail_b117 hfl O hKP hmL hE hX h0 ih _ _ _ _ _ _ p2 p3 (⟨hj20, rfl⟩ : PC 2 E 0 r19 0) h
          · replace h := (if_neg hc30).symm.trans h
            refine J_aload_n O.mo dX10_fail_98 3 rfl ?_
            refine J_getF O.co (kd0 := 3) (k3_0 p3) (l3_0 p3) (C := RX2) (T := TX2) (N := 8) rfl (by decide) rfl in_X2 4 (by decide) (v := .inl (.int (kV κ27 2 j3 0 4))) rfl mw366 rfl dX10_fail_99 ?_
            refine J_if_ne O.mo (tgt := 117) dX10_fail_102 (by decide) (fun hc34 => ?_) (fun hc34 => ?_)
            · replace h := (if_neg hc34).symm.trans h
              refine J_sub [1, 2, 3, 4, 5, 0] rfl ?_
              exact w_X10_fail_b117 hfl O hKP hmL hE hX h0 ih _ _ _ _ _ _ p2 p3 (⟨hj20, rfl⟩ : PC 2 E 0 r19 0) h
            · replace h := (if_pos hc34).symm.trans h
              refine J_aload O.mo dX10_fail_105 0 rfl ?_
              refine J_aload_n O.mo dX10_fail_107 3 rfl ?_
              refine J_sub [1, 2, 3, 4, 5] rfl ?_
              obtain ⟨κ35, r37, hq36, h⟩ := bd_some h
              refine J_callV O hKP (as := [.inr (some (2, j3, 0))]) (rest := []) (r := none) (c_X1_goOnUpon hfl (⟨hj20, rfl⟩ : PC 2 E 0 r19 0) p3 hq36) rfl (kd0 := 2) (k2_0 (⟨hj20, rfl⟩ : PC 2 E 0 r19 0)) (l2_0 (⟨hj20, rfl⟩ : PC 2 E 0 r19 0)) (T := TX1) (N := 19) rfl (by decide) mw488 mw489 mw490 mw74 mw491 pd_X1_goOnUpon rfl (by decide) rfl (Nat.le_of_ble_eq_true rfl) (sl_p (s10_0 h0) (sl_p (s3_0 p2) (sl_p (s3_0 p3) (sl_v (sl_v sl_0))))) st_0 dX10_fail_108 ?_
              show J X B (E, κ35) 111 [(0, .inr (some (4, 0, 0))), (2, .inr (some (2, j2, 0))), (3, .inr (some (2, j3, 0))), (4, .inl (.int x4)), (5, .inl (.int x5))] []
              refine J_iinc O.mo (v := x4 + 1) (lv' := [(0, .inr (some (4, 0, 0))), (2, .inr (some (2, j2, 0))), (3, .inr (some (2, j3, 0))), (5, .inl (.int x5))]) dX10_fail_111 (by rw [hmL]; decide) 3 rfl (by rw [show Int32.ofInt (1) = (1 : Int32) from by decide]) rfl rfl ?_
              refine nm_some (P := fun z => J X B (E, κ35) 114 [(4, .inl (.int z)), (0, .inr (some (4, 0, 0))), (2, .inr (some (2, j2, 0))), (3, .inr (some (2, j3, 0))), (5, .inl (.int x5))] []) h (fun y38 h => ?_)
              refine J_goto O.mo (tgt := 122) dX10_fail_114 (by decide) ?_
              refine J_sub [1, 2, 3, 0, 4] rfl ?_
              exact w_X10_fail_b122 hfl O hKP hmL hE hX h0 ih _ _ _ _ _ p2 p3 h
set_option maxHeartbeats 4000000 in
set_option maxRecDepth 100000 in
theorem w_X10_fail {l0 : Launch} (hfl : l0.stackTraces = false) {X : MX} {B : BX (EE × K)} {g : GP} {E : EE} {κ' : K} {rs : (Int32 ⊕ Nat)} (O : CK l0 X B g cX10_fail RX10 8 186) (hKP : KPok B E) (hmL : B.2.2.2.1 = 7) (hE : ∀ rr : Int32, rs = .inl rr → ∀ (pc : Nat) (lv : List (Nat × AV)), decode cX10_fail pc = .ok (.ireturn, 1) → J X B (E, κ') pc lv [.inl (.int rr)]) (hX : ∀ e, rs = .inr e → QXH X B g (E, κ') (.inr (exN e))) (h0 : PC 10 E 4 0 0) : ∀ (κ : K) (a1 : Int32), f_X10_fail E κ a1 = some (κ', rs) → J X B (E, κ) 0 [(0, .inr (some (4, 0, 0))), (1, .inl (.int a1))] [] := by
  intro κ a1 h
  unfold f_X10_fail at h
  refine J_aload_n O.mo dX10_fail_0 0 rfl ?_
  refine J_iload_n O.mo dX10_fail_1 1 rfl ?_
  refine J_sub [0] rfl ?_
  rcases bx_some h with ⟨κ1, r3, hq2, h⟩ | ⟨e4, hq2, rfl⟩
  · obtain ⟨hj6, h⟩ := gd_some h
    refine J_callVX O hKP (as := [.inl (.int a1)]) (rest := []) (r := .inl (some (.inr (some (2, r3, 0))))) (c_X10_hostAt hfl h0 hq2) rfl (kd0 := 10) (k10_0 h0) (l10_0 h0) (T := TX10) (N := 4) rfl (by decide) mw446 mw447 mw448 mw320 mw449 pd_X10_hostAt rfl (by decide) rfl (Nat.le_of_ble_eq_true rfl) (sl_p (s10_0 h0) sl_0) st_0 dX10_fail_2 (fun s hs => by cases hs) (fun v hv5 => ?_)
    cases hv5
    show J X B (E, κ1) 5 [(0, .inr (some (4, 0, 0)))] [.inr (some (2, r3, 0))]
    refine J_astore_n O.mo (lv' := [(0, .inr (some (4, 0, 0)))]) dX10_fail_5 (by rw [hmL]; decide) rfl rfl ?_
    refine J_aload_n O.mo dX10_fail_6 0 rfl ?_
    refine J_getF O.co (kd0 := 3) (k3_0 (⟨hj6, rfl⟩ : PC 3 E 2 r3 0)) (l3_0 (⟨hj6, rfl⟩ : PC 3 E 2 r3 0)) (C := RX2) (T := TX2) (N := 8) rfl (by decide) rfl in_X2 4 (by decide) (v := .inl (.int (kV κ1 2 r3 0 4))) rfl mw366 rfl dX10_fail_7 ?_
    refine J_if_eq O.mo (tgt := 24) dX10_fail_10 (by decide) (fun hc7 => ?_) (fun hc7 => ?_)
    · replace h := (if_pos hc7).symm.trans h
      refine J_aload_n O.mo dX10_fail_24 0 rfl ?_
      refine J_iconst O.mo (v := 1) dX10_fail_25 (by decide) ?_
      refine J_putI O.co (kd0 := 3) (k3_0 (⟨hj6, rfl⟩ : PC 3 E 2 r3 0)) (l3_0 (⟨hj6, rfl⟩ : PC 3 E 2 r3 0)) (C := RX2) (T := TX2) (N := 8) rfl (by decide) rfl in_X2 tyX2 tyX2_ok nmX2 4 (by decide) rfl rfl (x := 1) (Or.inr ⟨rfl, Or.inr rfl⟩) mw366 dX10_fail_26 ?_
      refine nm_some (P := fun z => J X B (E, z) 29 [(2, .inr (some (2, r3, 0))), (0, .inr (some (4, 0, 0)))] []) h (fun κ8 h => ?_)
      refine J_aload_n O.mo dX10_fail_29 1 rfl ?_
      refine J_aload_n O.mo dX10_fail_30 0 rfl ?_
      obtain ⟨κ9, r11, hq10, h⟩ := bd_some h
      obtain ⟨hj12, h⟩ := gd_some h
      refine J_callV O hKP (as := [.inr (some (2, r3, 0))]) (rest := []) (r := some (.inr (some (2, r11, 0)))) (c_X10_otherOf hfl h0 (⟨hj6, rfl⟩ : PC 3 E 2 r3 0) hq10) rfl (kd0 := 10) (k10_0 h0) (l10_0 h0) (T := TX10) (N := 4) rfl (by decide) mw456 mw457 mw458 mw320 mw459 pd_X10_otherOf rfl (by decide) rfl (Nat.le_of_ble_eq_true rfl) (sl_p (s3_0 (⟨hj6, rfl⟩ : PC 3 E 2 r3 0)) (sl_p (s10_0 h0) sl_0)) st_0 dX10_fail_31 ?_
      show J X B (E, κ9) 34 [(2, .inr (some (2, r3, 0))), (0, .inr (some (4, 0, 0)))] [.inr (some (2, r11, 0))]
      refine J_astore_n O.mo (lv' := [(2, .inr (some (2, r3, 0))), (0, .inr (some (4, 0, 0)))]) dX10_fail_34 (by rw [hmL]; decide) rfl rfl ?_
      refine J_iconst O.mo (v := 0) dX10_fail_35 (by decide) ?_
      refine J_istore O.mo (lv' := [(3, .inr (some (2, r11, 0))), (2, .inr (some (2, r3, 0))), (0, .inr (some (4, 0, 0)))]) dX10_fail_36 (by rw [hmL]; decide) rfl rfl ?_
      refine J_iconst O.mo (v := 0) dX10_fail_38 (by decide) ?_
      refine J_istore O.mo (lv' := [(4, .inl (.int 0)), (3, .inr (some (2, r11, 0))), (2, .inr (some (2, r3, 0))), (0, .inr (some (4, 0, 0)))]) dX10_fail_39 (by rw [hmL]; decide) rfl rfl ?_
      refine J_sub [4, 3, 2, 1, 0] rfl ?_
      exact w_X10_fail_b41 hfl O hKP hmL hE hX h0 FU _ _ _ _ _ (⟨hj6, rfl⟩ : PC 3 E 2 r3 0) (⟨hj12, rfl⟩ : PC 3 E 2 r11 0) h
    · replace h := (if_neg hc7).symm.trans h
      cases h
      exact J_throwW O (cls := "java/lang/IllegalStateException") (hX _ rfl) (text := "failed already") (by decide +kernel) mw397 mw398 (by decide) hat_51 (by decide) (Nat.le_of_ble_eq_true rfl) rfl dX10_fail_13 dX10_fail_16 dX10_fail_17 dX10_fail_20 dX10_fail_23
  · exact J_callVX O hKP (as := [.inl (.int a1)]) (rest := []) (r := .inr (exN e4)) (c_X10_hostAt hfl h0 hq2) rfl (kd0 := 10) (k10_0 h0) (l10_0 h0) (T := TX10) (N := 4) rfl (by decide) mw446 mw447 mw448 mw320 mw449 pd_X10_hostAt rfl (by decide) rfl (Nat.le_of_ble_eq_true rfl) (sl_p (s10_0 h0) sl_0) st_0 dX10_fail_2 (fun s hs => by cases hs; exact hX _ rfl) (fun v hs => by cases hs)
theorem c_X10_fail {l : Launch} (hfl : l.stackTraces = false) {E : EE} {κ κ' : K} {a1 : Int32} (h0 : PC 10 E 4 0 0) {rs : (Int32 ⊕ Nat)} (h : f_X10_fail E κ a1 = some (κ', rs)) : ConX l yX10_fail cX10_fail 7 (some .int) 8 186 [.inr (some (4, 0, 0)), .inl (.int a1)] (E, κ) (E, κ') (mapX (fun rr => (some (.inl (.int rr)))) rs) := by
  cases rs with
  | inl rr => exact ConX_of hfl (by decide +kernel) (Nat.le_of_ble_eq_true rfl) rfl ⟨_, rfl, rfl⟩ (fun X B g O hKP hmL hX hE => w_X10_fail hfl O hKP hmL (fun rr hr => by cases hr; exact hE) (fun e hr => by cases hr) h0 _ _ h)
  | inr e => exact ConX_of hfl (by decide +kernel) (Nat.le_of_ble_eq_true rfl) rfl trivial (fun X B g O hKP hmL hX hE => w_X10_fail hfl O hKP hmL (fun rr hr => by cases hr) (fun e hr => by cases hr; exact hX) h0 _ _ h)
def f_X10_mend (E : EE) (κ : K) (a1 : Int32) : Option (K × (Unit ⊕ Nat)) := bx (f_X10_hostAt E κ a1) fun κ1 r3 => gd (r3 < cntE E 2) (if kV κ1 2 r3 0 4 = 0 then some (addC κ1 1 6, .inr 3) else nm (setV κ1 2 r3 0 4 0) fun κ8 => some (κ8, .inl (())))
set_option maxHeartbeats 4000000 in
set_option maxRecDepth 100000 in
theorem w_X10_mend {l0 : Launch} (hfl : l0.stackTraces = false) {X : MX} {B : BX (EE × K)} {g : GP} {E : EE} {κ' : K} {rs : (Unit ⊕ Nat)} (O : CK l0 X B g cX10_mend RX10 8 124) (hKP : KPok B E) (hmL : B.2.2.2.1 = 3) (hE : ∀ rr : Unit, rs = .inl rr → ∀ (pc : Nat) (lv : List (Nat × AV)), decode cX10_mend pc = .ok (.return_, 1) → J X B (E, κ') pc lv []) (hX : ∀ e, rs = .inr e → QXH X B g (E, κ') (.inr (exN e))) (h0 : PC 10 E 4 0 0) : ∀ (κ : K) (a1 : Int32), f_X10_mend E κ a1 = some (κ', rs) → J X B (E, κ) 0 [(0, .inr (some (4, 0, 0))), (1, .inl (.int a1))] [] := by
  intro κ a1 h
  unfold f_X10_mend at h
  refine J_aload_n O.mo dX10_mend_0 0 rfl ?_
  refine J_iload_n O.mo dX10_mend_1 1 rfl ?_
  refine J_sub [] rfl ?_
  rcases bx_some h with ⟨κ1, r3, hq2, h⟩ | ⟨e4, hq2, rfl⟩
  · obtain ⟨hj6, h⟩ := gd_some h
    refine J_callVX O hKP (as := [.inl (.int a1)]) (rest := []) (r := .inl (some (.inr (some (2, r3, 0))))) (c_X10_hostAt hfl h0 hq2) rfl (kd0 := 10) (k10_0 h0) (l10_0 h0) (T := TX10) (N := 4) rfl (by decide) mw446 mw447 mw448 mw320 mw449 pd_X10_hostAt rfl (by decide) rfl (Nat.le_of_ble_eq_true rfl) sl_0 st_0 dX10_mend_2 (fun s hs => by cases hs) (fun v hv5 => ?_)
    cases hv5
    show J X B (E, κ1) 5 [] [.inr (some (2, r3, 0))]
    refine J_astore_n O.mo (lv' := []) dX10_mend_5 (by rw [hmL]; decide) rfl rfl ?_
    refine J_aload_n O.mo dX10_mend_6 0 rfl ?_
    refine J_getF O.co (kd0 := 3) (k3_0 (⟨hj6, rfl⟩ : PC 3 E 2 r3 0)) (l3_0 (⟨hj6, rfl⟩ : PC 3 E 2 r3 0)) (C := RX2) (T := TX2) (N := 8) rfl (by decide) rfl in_X2 4 (by decide) (v := .inl (.int (kV κ1 2 r3 0 4))) rfl mw366 rfl dX10_mend_7 ?_
    refine J_if_ne O.mo (tgt := 24) dX10_mend_10 (by decide) (fun hc7 => ?_) (fun hc7 => ?_)
    · replace h := (if_neg hc7).symm.trans h
      refine J_aload_n O.mo dX10_mend_24 0 rfl ?_
      refine J_iconst O.mo (v := 0) dX10_mend_25 (by decide) ?_
      refine J_putI O.co (kd0 := 3) (k3_0 (⟨hj6, rfl⟩ : PC 3 E 2 r3 0)) (l3_0 (⟨hj6, rfl⟩ : PC 3 E 2 r3 0)) (C := RX2) (T := TX2) (N := 8) rfl (by decide) rfl in_X2 tyX2 tyX2_ok nmX2 4 (by decide) rfl rfl (x := 0) (Or.inr ⟨rfl, Or.inl rfl⟩) mw366 dX10_mend_26 ?_
      refine nm_some (P := fun z => J X B (E, z) 29 [(2, .inr (some (2, r3, 0)))] []) h (fun κ8 h => ?_)
      cases h
      exact hE _ rfl _ _ dX10_mend_29
    · replace h := (if_pos hc7).symm.trans h
      cases h
      exact J_throwW O (cls := "java/lang/IllegalStateException") (hX _ rfl) (text := "not failed") (by decide +kernel) mw397 mw398 (by decide) hat_51 (by decide) (Nat.le_of_ble_eq_true rfl) rfl dX10_mend_13 dX10_mend_16 dX10_mend_17 dX10_mend_20 dX10_mend_23
  · exact J_callVX O hKP (as := [.inl (.int a1)]) (rest := []) (r := .inr (exN e4)) (c_X10_hostAt hfl h0 hq2) rfl (kd0 := 10) (k10_0 h0) (l10_0 h0) (T := TX10) (N := 4) rfl (by decide) mw446 mw447 mw448 mw320 mw449 pd_X10_hostAt rfl (by decide) rfl (Nat.le_of_ble_eq_true rfl) sl_0 st_0 dX10_mend_2 (fun s hs => by cases hs; exact hX _ rfl) (fun v hs => by cases hs)
theorem c_X10_mend {l : Launch} (hfl : l.stackTraces = false) {E : EE} {κ κ' : K} {a1 : Int32} (h0 : PC 10 E 4 0 0) {rs : (Unit ⊕ Nat)} (h : f_X10_mend E κ a1 = some (κ', rs)) : ConX l yX10_mend cX10_mend 3 none 8 124 [.inr (some (4, 0, 0)), .inl (.int a1)] (E, κ) (E, κ') (mapX (fun rr => none) rs) := by
  cases rs with
  | inl rr => exact ConX_of hfl (by decide +kernel) (Nat.le_of_ble_eq_true rfl) rfl rfl (fun X B g O hKP hmL hX hE => w_X10_mend hfl O hKP hmL (fun rr hr => by cases hr; exact hE) (fun e hr => by cases hr) h0 _ _ h)
  | inr e => exact ConX_of hfl (by decide +kernel) (Nat.le_of_ble_eq_true rfl) rfl trivial (fun X B g O hKP hmL hX hE => w_X10_mend hfl O hKP hmL (fun rr hr => by cases hr) (fun e hr => by cases hr; exact hX) h0 _ _ h)
