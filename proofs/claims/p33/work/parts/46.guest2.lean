theorem k1_0 {E : EE} {f i c : Nat} (h : PC 1 E f i c) : kd f (c) = 1 := PC_kd h 0 (by decide)
theorem l1_0 {E : EE} {f i c : Nat} (h : PC 1 E f i c) : liveC E f i (c) = true := PC_lv h 0 (by decide) (by decide)
theorem s1_0 {E : EE} {f i c : Nat} (h : PC 1 E f i c) : Stab E (.inr (some (f, i, c))) := PC_st h 0 (by decide) (by decide) (by decide)
theorem k1_16 {E : EE} {f i c : Nat} (h : PC 1 E f i c) : kd f (c + 16) = 5 := PC_kd h 16 (by decide)
theorem l1_16 {E : EE} {f i c : Nat} (h : PC 1 E f i c) : liveC E f i (c + 16) = true := PC_lv h 16 (by decide) (by decide)
theorem s1_16 {E : EE} {f i c : Nat} (h : PC 1 E f i c) : Stab E (.inr (some (f, i, c + 16))) := PC_st h 16 (by decide) (by decide) (by decide)
theorem k2_1 {E : EE} {f i c : Nat} (h : PC 2 E f i c) : kd f (c + 1) = 6 := PC_kd h 1 (by decide)
theorem l2_1 {E : EE} {f i c : Nat} (h : PC 2 E f i c) : liveC E f i (c + 1) = true := PC_lv h 1 (by decide) (by decide)
theorem s2_1 {E : EE} {f i c : Nat} (h : PC 2 E f i c) : Stab E (.inr (some (f, i, c + 1))) := PC_st h 1 (by decide) (by decide) (by decide)
theorem k2_9 {E : EE} {f i c : Nat} (h : PC 2 E f i c) : kd f (c + 9) = 20 := PC_kd h 9 (by decide)
theorem l2_9 {E : EE} {f i c : Nat} (h : PC 2 E f i c) : liveC E f i (c + 9) = true := PC_lv h 9 (by decide) (by decide)
theorem s2_9 {E : EE} {f i c : Nat} (h : PC 2 E f i c) : Stab E (.inr (some (f, i, c + 9))) := PC_st h 9 (by decide) (by decide) (by decide)
theorem n2_9 {E : EE} {f i c : Nat} (h : PC 2 E f i c) : sl f (c + 9) = 32 := PC_sl h 9 (by decide)
theorem k2_19 {E : EE} {f i c : Nat} (h : PC 2 E f i c) : kd f (c + 19) = 9 := PC_kd h 19 (by decide)
theorem l2_19 {E : EE} {f i c : Nat} (h : PC 2 E f i c) : liveC E f i (c + 19) = true := PC_lv h 19 (by decide) (by decide)
theorem s2_19 {E : EE} {f i c : Nat} (h : PC 2 E f i c) : Stab E (.inr (some (f, i, c + 19))) := PC_st h 19 (by decide) (by decide) (by decide)
theorem k2_32 {E : EE} {f i c : Nat} (h : PC 2 E f i c) : kd f (c + 32) = 5 := PC_kd h 32 (by decide)
theorem l2_32 {E : EE} {f i c : Nat} (h : PC 2 E f i c) : liveC E f i (c + 32) = true := PC_lv h 32 (by decide) (by decide)
theorem s2_32 {E : EE} {f i c : Nat} (h : PC 2 E f i c) : Stab E (.inr (some (f, i, c + 32))) := PC_st h 32 (by decide) (by decide) (by decide)
theorem k9_1 {E : EE} {f i c : Nat} (h : PC 9 E f i c) : kd f (c + 1) = 4 := PC_kd h 1 (by decide)
theorem l9_1 {E : EE} {f i c : Nat} (h : PC 9 E f i c) : liveC E f i (c + 1) = true := PC_lv h 1 (by decide) (by decide)
theorem s9_1 {E : EE} {f i c : Nat} (h : PC 9 E f i c) : Stab E (.inr (some (f, i, c + 1))) := PC_st h 1 (by decide) (by decide) (by decide)
theorem k9_4 {E : EE} {f i c : Nat} (h : PC 9 E f i c) : kd f (c + 4) = 20 := PC_kd h 4 (by decide)
theorem l9_4 {E : EE} {f i c : Nat} (h : PC 9 E f i c) : liveC E f i (c + 4) = true := PC_lv h 4 (by decide) (by decide)
theorem s9_4 {E : EE} {f i c : Nat} (h : PC 9 E f i c) : Stab E (.inr (some (f, i, c + 4))) := PC_st h 4 (by decide) (by decide) (by decide)
theorem n9_4 {E : EE} {f i c : Nat} (h : PC 9 E f i c) : sl f (c + 4) = 32 := PC_sl h 4 (by decide)
theorem k9_5 {E : EE} {f i c : Nat} (h : PC 9 E f i c) : kd f (c + 5) = 5 := PC_kd h 5 (by decide)
theorem l9_5 {E : EE} {f i c : Nat} (h : PC 9 E f i c) : liveC E f i (c + 5) = true := PC_lv h 5 (by decide) (by decide)
theorem s9_5 {E : EE} {f i c : Nat} (h : PC 9 E f i c) : Stab E (.inr (some (f, i, c + 5))) := PC_st h 5 (by decide) (by decide) (by decide)
theorem k9_11 {E : EE} {f i c : Nat} (h : PC 9 E f i c) : kd f (c + 11) = 5 := PC_kd h 11 (by decide)
theorem l9_11 {E : EE} {f i c : Nat} (h : PC 9 E f i c) : liveC E f i (c + 11) = true := PC_lv h 11 (by decide) (by decide)
theorem s9_11 {E : EE} {f i c : Nat} (h : PC 9 E f i c) : Stab E (.inr (some (f, i, c + 11))) := PC_st h 11 (by decide) (by decide) (by decide)
theorem sub_2_1_6 {E : EE} {f i c : Nat} (h : PC 2 E f i c) : PC 6 E f i (c + 1) := PC_sub h 6 1 (by decide +kernel)
theorem sub_2_6_4 {E : EE} {f i c : Nat} (h : PC 2 E f i c) : PC 4 E f i (c + 6) := PC_sub h 4 6 (by decide +kernel)
theorem sub_2_18_1 {E : EE} {f i c : Nat} (h : PC 2 E f i c) : PC 1 E f i (c + 18) := PC_sub h 1 18 (by decide +kernel)
theorem sub_2_19_9 {E : EE} {f i c : Nat} (h : PC 2 E f i c) : PC 9 E f i (c + 19) := PC_sub h 9 19 (by decide +kernel)
theorem sub_2_32_5 {E : EE} {f i c : Nat} (h : PC 2 E f i c) : PC 5 E f i (c + 32) := PC_sub h 5 32 (by decide +kernel)
theorem sub_9_1_4 {E : EE} {f i c : Nat} (h : PC 9 E f i c) : PC 4 E f i (c + 1) := PC_sub h 4 1 (by decide +kernel)
theorem sub_9_5_5 {E : EE} {f i c : Nat} (h : PC 9 E f i c) : PC 5 E f i (c + 5) := PC_sub h 5 5 (by decide +kernel)
theorem sub_9_7_5 {E : EE} {f i c : Nat} (h : PC 9 E f i c) : PC 5 E f i (c + 7) := PC_sub h 5 7 (by decide +kernel)
theorem sub_9_9_5 {E : EE} {f i c : Nat} (h : PC 9 E f i c) : PC 5 E f i (c + 9) := PC_sub h 5 9 (by decide +kernel)
theorem sub_9_11_5 {E : EE} {f i c : Nat} (h : PC 9 E f i c) : PC 5 E f i (c + 11) := PC_sub h 5 11 (by decide +kernel)
set_option maxRecDepth 100000 in
theorem mw233 : Cond.methodLink RX8 45 yX8_isInterruptPending ∈ gwl := gwl_tb 662 rfl rfl
set_option maxRecDepth 100000 in
theorem mw234 : Cond.fieldLink RX8 12 "GuestHall$State" "machine" "LGuestHall$Machine;" ∈ gwl := gwl_tb 350 rfl rfl
set_option maxRecDepth 100000 in
theorem mw235 : Cond.fieldLink RX8 55 "GuestHall$Machine" "isMasked" "Z" ∈ gwl := gwl_tb 306 rfl rfl
set_option maxRecDepth 100000 in
theorem mw236 : Cond.fieldLink RX8 58 "GuestHall$Machine" "handler" "I" ∈ gwl := gwl_tb 301 rfl rfl
set_option maxRecDepth 100000 in
theorem mw237 : Cond.fieldLink RX8 31 "GuestHall$State" "interrupts" "LGuestHall$Numbers;" ∈ gwl := gwl_tb 363 rfl rfl
set_option maxRecDepth 100000 in
theorem mw238 : Cond.fieldLink RX8 61 "GuestHall$State" "steps" "I" ∈ gwl := gwl_tb 366 rfl rfl
set_option maxRecDepth 100000 in
theorem mw239 : Cond.methodLink RX8 64 yX4_add ∈ gwl := gwl_tb 704 rfl rfl
set_option maxRecDepth 100000 in
theorem mw240 : Cond.methodLink RX8 68 yX3_enterHandler ∈ gwl := gwl_tb 705 rfl rfl
set_option maxRecDepth 100000 in
theorem mw241 : Cond.methodLink RX1 88 yX8_letInterruptIn ∈ gwl := gwl_tb 700 rfl rfl
set_option maxRecDepth 100000 in
theorem mw242 : Cond.instanceMethod yX8_letInterruptIn ∈ gwl := gwl_tb 701 rfl rfl
set_option maxRecDepth 100000 in
theorem mw243 : Cond.selects RX8 yX8_letInterruptIn yX8_letInterruptIn ∈ gwl := gwl_tb 702 rfl rfl
set_option maxRecDepth 100000 in
theorem mw244 : Cond.code yX8_letInterruptIn cX8_letInterruptIn 2 (some .boolean) ∈ gwl := gwl_tb 703 rfl rfl
set_option maxRecDepth 100000 in
theorem mw245 : Cond.fieldLink RX1 12 "GuestHall$Guest" "program" "LGuestHall$Program;" ∈ gwl := gwl_tb 435 rfl rfl
set_option maxRecDepth 100000 in
theorem mw246 : Cond.methodLink RX1 96 yX3_doNext ∈ gwl := gwl_tb 713 rfl rfl
set_option maxRecDepth 100000 in
theorem mw247 : Cond.instanceMethod yX3_doNext ∈ gwl := gwl_tb 714 rfl rfl
set_option maxRecDepth 100000 in
theorem mw248 : Cond.selects RX3 yX3_doNext yX3_doNext ∈ gwl := gwl_tb 715 rfl rfl
set_option maxRecDepth 100000 in
theorem mw249 : Cond.code yX3_doNext cX3_doNext 6 none ∈ gwl := gwl_tb 716 rfl rfl
set_option maxRecDepth 100000 in
theorem mw250 : Cond.fieldLink RX1 100 "GuestHall$State" "steps" "I" ∈ gwl := gwl_tb 367 rfl rfl
set_option maxRecDepth 100000 in
theorem mw251 : Cond.fieldLink RX1 103 "GuestHall$Guest" "ran" "I" ∈ gwl := gwl_tb 454 rfl rfl
set_option maxRecDepth 100000 in
theorem mw252 : Cond.fieldLink RX1 43 "GuestHall$Guest" "scale" "I" ∈ gwl := gwl_tb 450 rfl rfl
set_option maxRecDepth 100000 in
theorem mw253 : Cond.fieldLink RX1 163 "GuestHall$Guest" "sent" "I" ∈ gwl := gwl_tb 456 rfl rfl
set_option maxRecDepth 100000 in
theorem mw254 : Cond.methodLink RX1 166 yX1_leaveFrames ∈ gwl := gwl_tb 982 rfl rfl
set_option maxRecDepth 100000 in
theorem mw255 : Cond.instanceMethod yX1_leaveFrames ∈ gwl := gwl_tb 916 rfl rfl
set_option maxRecDepth 100000 in
theorem mw256 : Cond.selects RX1 yX1_leaveFrames yX1_leaveFrames ∈ gwl := gwl_tb 917 rfl rfl
set_option maxRecDepth 100000 in
theorem mw257 : Cond.code yX1_leaveFrames cX1_leaveFrames 2 none ∈ gwl := gwl_tb 918 rfl rfl
set_option maxRecDepth 100000 in
theorem mw258 : Cond.methodLink RX3 107 arraycopyName ∈ gwl := gwl_tb 943 rfl rfl
set_option maxRecDepth 100000 in
theorem mw259 : Cond.methodLink RX8 71 yX3_copyFrom ∈ gwl := gwl_tb 939 rfl rfl
set_option maxRecDepth 100000 in
theorem mw260 : Cond.instanceMethod yX3_copyFrom ∈ gwl := gwl_tb 940 rfl rfl
set_option maxRecDepth 100000 in
theorem mw261 : Cond.selects RX3 yX3_copyFrom yX3_copyFrom ∈ gwl := gwl_tb 941 rfl rfl
set_option maxRecDepth 100000 in
theorem mw262 : Cond.code yX3_copyFrom cX3_copyFrom 2 none ∈ gwl := gwl_tb 942 rfl rfl
set_option maxRecDepth 100000 in
theorem mw263 : Cond.fieldLink RX8 21 "GuestHall$State" "inputs" "LGuestHall$Numbers;" ∈ gwl := gwl_tb 354 rfl rfl
set_option maxRecDepth 100000 in
theorem mw264 : Cond.methodLink RX8 75 yX4_copyFrom ∈ gwl := gwl_tb 944 rfl rfl
set_option maxRecDepth 100000 in
theorem mw265 : Cond.instanceMethod yX4_copyFrom ∈ gwl := gwl_tb 945 rfl rfl
set_option maxRecDepth 100000 in
theorem mw266 : Cond.selects RX4 yX4_copyFrom yX4_copyFrom ∈ gwl := gwl_tb 946 rfl rfl
set_option maxRecDepth 100000 in
theorem mw267 : Cond.code yX4_copyFrom cX4_copyFrom 2 none ∈ gwl := gwl_tb 947 rfl rfl
set_option maxRecDepth 100000 in
theorem mw268 : Cond.fieldLink RX8 25 "GuestHall$State" "taken" "LGuestHall$Numbers;" ∈ gwl := gwl_tb 357 rfl rfl
set_option maxRecDepth 100000 in
theorem mw269 : Cond.fieldLink RX8 28 "GuestHall$State" "said" "LGuestHall$Numbers;" ∈ gwl := gwl_tb 360 rfl rfl
set_option maxRecDepth 100000 in
theorem mw270 : Cond.fieldLink RX8 49 "GuestHall$State" "timer" "I" ∈ gwl := gwl_tb 368 rfl rfl
set_option maxRecDepth 100000 in
theorem mw271 : Cond.fieldLink RX8 78 "GuestHall$State" "clock" "I" ∈ gwl := gwl_tb 373 rfl rfl
set_option maxRecDepth 100000 in
theorem mw272 : Cond.methodLink RX1 169 yX8_copyFrom ∈ gwl := gwl_tb 983 rfl rfl
set_option maxRecDepth 100000 in
theorem mw273 : Cond.instanceMethod yX8_copyFrom ∈ gwl := gwl_tb 936 rfl rfl
set_option maxRecDepth 100000 in
theorem mw274 : Cond.selects RX8 yX8_copyFrom yX8_copyFrom ∈ gwl := gwl_tb 937 rfl rfl
set_option maxRecDepth 100000 in
theorem mw275 : Cond.code yX8_copyFrom cX8_copyFrom 2 none ∈ gwl := gwl_tb 938 rfl rfl
set_option maxRecDepth 100000 in
theorem mw276 : Cond.fieldLink RX1 176 "GuestHall$Guest" "wasRestored" "Z" ∈ gwl := gwl_tb 464 rfl rfl
set_option maxRecDepth 100000 in
theorem mw277 : Cond.fieldLink RX1 179 "GuestHall$Guest" "diedWithHost" "Z" ∈ gwl := gwl_tb 465 rfl rfl
set_option maxRecDepth 100000 in
theorem mw278 : Cond.methodLink RX1 182 yJ6_bitCount_0f7a4 ∈ gwl := gwl_tb 988 rfl rfl
set_option maxRecDepth 100000 in
theorem mw279 : Cond.static yJ6_bitCount_0f7a4 ∈ gwl := gwl_tb 890 rfl rfl
set_option maxRecDepth 100000 in
theorem mw280 : Cond.initialized RJ6 ∈ gwl := gwl_tb 25 rfl rfl
set_option maxRecDepth 100000 in
theorem mw281 : Cond.code yJ6_bitCount_0f7a4 cJ6_bitCount_0f7a4 1 (some .int) ∈ gwl := gwl_tb 891 rfl rfl
set_option maxRecDepth 100000 in
theorem mw282 : Cond.fieldLink RX8 81 "GuestHall$Machine" "words" "[I" ∈ gwl := gwl_tb 295 rfl rfl
set_option maxRecDepth 100000 in
theorem mw283 : Cond.methodLink RX1 173 yX8_isZero ∈ gwl := gwl_tb 984 rfl rfl
set_option maxRecDepth 100000 in
theorem mw284 : Cond.instanceMethod yX8_isZero ∈ gwl := gwl_tb 985 rfl rfl
set_option maxRecDepth 100000 in
theorem mw285 : Cond.selects RX8 yX8_isZero yX8_isZero ∈ gwl := gwl_tb 986 rfl rfl
set_option maxRecDepth 100000 in
theorem mw286 : Cond.code yX8_isZero cX8_isZero 3 (some .boolean) ∈ gwl := gwl_tb 987 rfl rfl
set_option maxRecDepth 100000 in
theorem mw287 : Cond.fieldLink RX1 187 "GuestHall$Following" "step" "LGuestHall$State;" ∈ gwl := gwl_tb 411 rfl rfl
set_option maxRecDepth 100000 in
theorem mw288 : Cond.fieldLink RX1 190 "GuestHall$Following" "cameSince" "LGuestHall$Numbers;" ∈ gwl := gwl_tb 414 rfl rfl
set_option maxRecDepth 100000 in
theorem mw289 : Cond.fieldLink RX1 193 "GuestHall$Numbers" "size" "I" ∈ gwl := gwl_tb 344 rfl rfl
set_option maxRecDepth 100000 in
theorem mw290 : Cond.methodLink RX1 199 yX4_addAll ∈ gwl := gwl_tb 1005 rfl rfl
set_option maxRecDepth 100000 in
theorem mw291 : Cond.instanceMethod yX4_addAll ∈ gwl := gwl_tb 1006 rfl rfl
set_option maxRecDepth 100000 in
theorem mw292 : Cond.selects RX4 yX4_addAll yX4_addAll ∈ gwl := gwl_tb 1007 rfl rfl
set_option maxRecDepth 100000 in
theorem mw293 : Cond.code yX4_addAll cX4_addAll 3 none ∈ gwl := gwl_tb 1008 rfl rfl
set_option maxRecDepth 100000 in
theorem mw294 : Cond.methodLink RX1 196 yX1_letHeldOut ∈ gwl := gwl_tb 1001 rfl rfl
set_option maxRecDepth 100000 in
theorem mw295 : Cond.instanceMethod yX1_letHeldOut ∈ gwl := gwl_tb 1002 rfl rfl
set_option maxRecDepth 100000 in
theorem mw296 : Cond.selects RX1 yX1_letHeldOut yX1_letHeldOut ∈ gwl := gwl_tb 1003 rfl rfl
set_option maxRecDepth 100000 in
theorem mw297 : Cond.code yX1_letHeldOut cX1_letHeldOut 2 (some .int) ∈ gwl := gwl_tb 1004 rfl rfl
set_option maxRecDepth 100000 in
theorem mw298 : Cond.methodLink RX1 203 yX1_goBackTo ∈ gwl := gwl_tb 1031 rfl rfl
set_option maxRecDepth 100000 in
theorem mw299 : Cond.instanceMethod yX1_goBackTo ∈ gwl := gwl_tb 979 rfl rfl
set_option maxRecDepth 100000 in
theorem mw300 : Cond.selects RX1 yX1_goBackTo yX1_goBackTo ∈ gwl := gwl_tb 980 rfl rfl
set_option maxRecDepth 100000 in
theorem mw301 : Cond.code yX1_goBackTo cX1_goBackTo 3 (some .int) ∈ gwl := gwl_tb 981 rfl rfl
set_option maxRecDepth 100000 in
theorem mw302 : Cond.fieldLink RX0 26 "GuestHall$Following" "isOn" "Z" ∈ gwl := gwl_tb 407 rfl rfl
set_option maxRecDepth 100000 in
theorem mw303 : Cond.fieldLink RX0 23 "GuestHall$Following" "held" "LGuestHall$Numbers;" ∈ gwl := gwl_tb 415 rfl rfl
set_option maxRecDepth 100000 in
theorem mw304 : Cond.fieldLink RX0 30 "GuestHall$Numbers" "size" "I" ∈ gwl := gwl_tb 341 rfl rfl
set_option maxRecDepth 100000 in
theorem mw305 : Cond.methodLink RX1 207 yX0_end ∈ gwl := gwl_tb 1032 rfl rfl
set_option maxRecDepth 100000 in
theorem mw306 : Cond.instanceMethod yX0_end ∈ gwl := gwl_tb 1033 rfl rfl
set_option maxRecDepth 100000 in
theorem mw307 : Cond.selects RX0 yX0_end yX0_end ∈ gwl := gwl_tb 1034 rfl rfl
set_option maxRecDepth 100000 in
theorem mw308 : Cond.initialized RX0 ∈ gwl := gwl_tb 19 rfl rfl
set_option maxRecDepth 100000 in
theorem mw309 : Cond.code yX0_end cX0_end 1 none ∈ gwl := gwl_tb 1035 rfl rfl
set_option maxRecDepth 100000 in
theorem mw310 : Cond.fieldLink RX1 210 "GuestHall$Machine" "words" "[I" ∈ gwl := gwl_tb 297 rfl rfl
set_option maxRecDepth 100000 in
theorem mw311 : Cond.methodLink RX1 213 yJ7_fill_53178 ∈ gwl := gwl_tb 1040 rfl rfl
set_option maxRecDepth 100000 in
theorem mw312 : Cond.static yJ7_fill_53178 ∈ gwl := gwl_tb 70 rfl rfl
set_option maxRecDepth 100000 in
theorem mw313 : Cond.code yJ7_fill_53178 cJ7_fill_53178 4 none ∈ gwl := gwl_tb 71 rfl rfl
theorem pd_X8_letInterruptIn : (yX8_letInterruptIn).cls ≠ "java/lang/invoke/MethodHandle" ∧ (yX8_letInterruptIn).cls ≠ "java/lang/invoke/VarHandle" ∧ (parseMethodDescriptor (yX8_letInterruptIn).desc).map (fun d => d.parameters.length) = some 0 := ⟨by decide +kernel, by decide +kernel, by decide +kernel⟩
theorem pd_X3_doNext : (yX3_doNext).cls ≠ "java/lang/invoke/MethodHandle" ∧ (yX3_doNext).cls ≠ "java/lang/invoke/VarHandle" ∧ (parseMethodDescriptor (yX3_doNext).desc).map (fun d => d.parameters.length) = some 2 := ⟨by decide +kernel, by decide +kernel, by decide +kernel⟩
theorem pd_X1_leaveFrames : (yX1_leaveFrames).cls ≠ "java/lang/invoke/MethodHandle" ∧ (yX1_leaveFrames).cls ≠ "java/lang/invoke/VarHandle" ∧ (parseMethodDescriptor (yX1_leaveFrames).desc).map (fun d => d.parameters.length) = some 0 := ⟨by decide +kernel, by decide +kernel, by decide +kernel⟩
theorem pd_X3_copyFrom : (yX3_copyFrom).cls ≠ "java/lang/invoke/MethodHandle" ∧ (yX3_copyFrom).cls ≠ "java/lang/invoke/VarHandle" ∧ (parseMethodDescriptor (yX3_copyFrom).desc).map (fun d => d.parameters.length) = some 1 := ⟨by decide +kernel, by decide +kernel, by decide +kernel⟩
theorem pd_X4_copyFrom : (yX4_copyFrom).cls ≠ "java/lang/invoke/MethodHandle" ∧ (yX4_copyFrom).cls ≠ "java/lang/invoke/VarHandle" ∧ (parseMethodDescriptor (yX4_copyFrom).desc).map (fun d => d.parameters.length) = some 1 := ⟨by decide +kernel, by decide +kernel, by decide +kernel⟩
theorem pd_X8_copyFrom : (yX8_copyFrom).cls ≠ "java/lang/invoke/MethodHandle" ∧ (yX8_copyFrom).cls ≠ "java/lang/invoke/VarHandle" ∧ (parseMethodDescriptor (yX8_copyFrom).desc).map (fun d => d.parameters.length) = some 1 := ⟨by decide +kernel, by decide +kernel, by decide +kernel⟩
theorem pd_J6_bitCount_0f7a4 : (yJ6_bitCount_0f7a4).cls ≠ "java/lang/invoke/MethodHandle" ∧ (yJ6_bitCount_0f7a4).cls ≠ "java/lang/invoke/VarHandle" ∧ (parseMethodDescriptor (yJ6_bitCount_0f7a4).desc).map (fun d => d.parameters.length) = some 1 := ⟨by decide +kernel, by decide +kernel, by decide +kernel⟩
theorem pd_X8_isZero : (yX8_isZero).cls ≠ "java/lang/invoke/MethodHandle" ∧ (yX8_isZero).cls ≠ "java/lang/invoke/VarHandle" ∧ (parseMethodDescriptor (yX8_isZero).desc).map (fun d => d.parameters.length) = some 1 := ⟨by decide +kernel, by decide +kernel, by decide +kernel⟩
theorem pd_X4_addAll : (yX4_addAll).cls ≠ "java/lang/invoke/MethodHandle" ∧ (yX4_addAll).cls ≠ "java/lang/invoke/VarHandle" ∧ (parseMethodDescriptor (yX4_addAll).desc).map (fun d => d.parameters.length) = some 1 := ⟨by decide +kernel, by decide +kernel, by decide +kernel⟩
theorem pd_X1_letHeldOut : (yX1_letHeldOut).cls ≠ "java/lang/invoke/MethodHandle" ∧ (yX1_letHeldOut).cls ≠ "java/lang/invoke/VarHandle" ∧ (parseMethodDescriptor (yX1_letHeldOut).desc).map (fun d => d.parameters.length) = some 0 := ⟨by decide +kernel, by decide +kernel, by decide +kernel⟩
theorem pd_X1_goBackTo : (yX1_goBackTo).cls ≠ "java/lang/invoke/MethodHandle" ∧ (yX1_goBackTo).cls ≠ "java/lang/invoke/VarHandle" ∧ (parseMethodDescriptor (yX1_goBackTo).desc).map (fun d => d.parameters.length) = some 1 := ⟨by decide +kernel, by decide +kernel, by decide +kernel⟩
theorem pd_X0_end : (yX0_end).cls ≠ "java/lang/invoke/MethodHandle" ∧ (yX0_end).cls ≠ "java/lang/invoke/VarHandle" ∧ (parseMethodDescriptor (yX0_end).desc).map (fun d => d.parameters.length) = some 0 := ⟨by decide +kernel, by decide +kernel, by decide +kernel⟩
theorem pd_J7_fill_53178 : (yJ7_fill_53178).cls ≠ "java/lang/invoke/MethodHandle" ∧ (yJ7_fill_53178).cls ≠ "java/lang/invoke/VarHandle" ∧ (parseMethodDescriptor (yJ7_fill_53178).desc).map (fun d => d.parameters.length) = some 2 := ⟨by decide +kernel, by decide +kernel, by decide +kernel⟩
def f_X8_letInterruptIn_b63 (E : EE) (f0 : Nat) (i0 : Nat) (c0 : Nat) (κ : K) (x1 : Int32) : Option (K × Int32) := bd (f_X4_add E κ f0 i0 (c0 + 11) (((kV κ f0 i0 c0 5) * 4) + x1)) fun κ10 _ => bd (f_X3_enterHandler E κ10 f0 i0 (c0 + 1) x1) fun κ13 _ => some (κ13, 1)
def f_X8_letInterruptIn_b42 (E : EE) (f0 : Nat) (i0 : Nat) (c0 : Nat) (κ : K) (xs0 : Int32) : Option (K × Int32) := if kV κ f0 i0 c0 7 = 0 then nm (setV κ f0 i0 c0 8 0) fun κ9 => f_X8_letInterruptIn_b63 E f0 i0 c0 κ9 xs0 else nm (setV κ f0 i0 c0 7 0) fun κ16 => f_X8_letInterruptIn_b63 E f0 i0 c0 κ16 xs0
def f_X8_letInterruptIn_e (E : EE) (κ : K) (f0 : Nat) (i0 : Nat) (c0 : Nat) : Option (K × Int32) := bd (f_X8_isInterruptPending E κ f0 i0 c0) fun κ1 r3 => if r3 = 0 then some (κ1, 0) else if kV κ1 f0 i0 (c0 + 1) 7 = 0 then if kV κ1 f0 i0 (c0 + 1) 4 = (-1) then some (κ1, 0) else if kV κ1 f0 i0 c0 7 = 0 then f_X8_letInterruptIn_b42 E f0 i0 c0 κ1 3 else f_X8_letInterruptIn_b42 E f0 i0 c0 κ1 2 else some (κ1, 0)
def f_X8_letInterruptIn (E : EE) (κ : K) (f0 : Nat) (i0 : Nat) (c0 : Nat) : Option (K × Int32) := bd (f_X8_letInterruptIn_e E κ f0 i0 c0) fun κ x => gd (x = 0 ∨ x = 1) (some (κ, x))
set_option maxHeartbeats 4000000 in
set_option maxRecDepth 100000 in
theorem w_X8_letInterruptIn_b63 {l0 : Launch} (hfl : l0.stackTraces = false) {X : MX} {B : BX (EE × K)} {g : GP} {E : EE} {κ' : K} {rr : Int32} {f0 : Nat} {i0 : Nat} {c0 : Nat} (O : CK l0 X B g cX8_letInterruptIn RX8 4 143) (hKP : KPok B E) (hmL : B.2.2.2.1 = 2) (hE : ∀ (pc : Nat) (lv : List (Nat × AV)), decode cX8_letInterruptIn pc = .ok (.ireturn, 1) → J X B (E, κ') pc lv [.inl (.int rr)]) (h0 : PC 9 E f0 i0 c0) : ∀ (κ : K) (x1 : Int32), f_X8_letInterruptIn_b63 E f0 i0 c0 κ x1 = some (κ', rr) → J X B (E, κ) 63 [(0, .inr (some (f0, i0, c0))), (1, .inl (.int x1))] [] := by
  intro κ x1 h
  unfold f_X8_letInterruptIn_b63 at h
  refine J_aload_n O.mo dX8_letInterruptIn_63 0 rfl ?_
  refine J_getF O.co (kd0 := 9) (k9_0 h0) (l9_0 h0) (C := RX8) (T := TX8) (N := 10) rfl (by decide) rfl in_X8 4 (by decide) (v := .inr (some (f0, i0, c0 + 11))) rfl mw237 rfl dX8_letInterruptIn_64 ?_
  refine J_aload_n O.mo dX8_letInterruptIn_67 0 rfl ?_
  refine J_getF O.co (kd0 := 9) (k9_0 h0) (l9_0 h0) (C := RX8) (T := TX8) (N := 10) rfl (by decide) rfl in_X8 5 (by decide) (v := .inl (.int (kV κ f0 i0 c0 5))) rfl mw238 rfl dX8_letInterruptIn_68 ?_
  refine J_iconst O.mo (v := 4) dX8_letInterruptIn_71 (by decide) ?_
  refine J_imul O.mo dX8_letInterruptIn_72 ?_
  refine J_iload_n O.mo dX8_letInterruptIn_73 1 rfl ?_
  refine J_iadd O.mo dX8_letInterruptIn_74 ?_
  obtain ⟨κ10, r12, hq11, h⟩ := bd_some h
  refine J_callV O hKP (as := [.inl (.int (((kV κ f0 i0 c0 5) * 4) + x1))]) (rest := []) (r := none) (c_X4_add hfl (sub_9_11_5 h0) hq11) rfl (kd0 := 5) (k9_11 h0) (l9_11 h0) (T := TX4) (N := 2) rfl (by decide) mw239 mw54 mw55 mw56 mw57 pd_X4_add rfl (by decide) rfl (Nat.le_of_ble_eq_true rfl) (sl_p (s9_0 h0) (sl_v sl_0)) st_0 dX8_letInterruptIn_75 ?_
  show J X B (E, κ10) 78 [(0, .inr (some (f0, i0, c0))), (1, .inl (.int x1))] []
  refine J_aload_n O.mo dX8_letInterruptIn_78 0 rfl ?_
  refine J_getF O.co (kd0 := 9) (k9_0 h0) (l9_0 h0) (C := RX8) (T := TX8) (N := 10) rfl (by decide) rfl in_X8 0 (by decide) (v := .inr (some (f0, i0, c0 + 1))) rfl mw234 rfl dX8_letInterruptIn_79 ?_
  refine J_iload_n O.mo dX8_letInterruptIn_82 1 rfl ?_
  refine J_sub [] rfl ?_
  obtain ⟨κ13, r15, hq14, h⟩ := bd_some h
  refine J_callV O hKP (as := [.inl (.int x1)]) (rest := []) (r := none) (c_X3_enterHandler hfl (sub_9_1_4 h0) hq14) rfl (kd0 := 4) (k9_1 h0) (l9_1 h0) (T := TX3) (N := 9) rfl (by decide) mw240 mw151 mw152 mw137 mw153 pd_X3_enterHandler rfl (by decide) rfl (Nat.le_of_ble_eq_true rfl) sl_0 st_0 dX8_letInterruptIn_83 ?_
  show J X B (E, κ13) 86 [] []
  refine J_iconst O.mo (v := 1) dX8_letInterruptIn_86 (by decide) ?_
  cases h
  exact hE _ _ dX8_letInterruptIn_87
set_option maxHeartbeats 4000000 in
set_option maxRecDepth 100000 in
theorem w_X8_letInterruptIn_b42 {l0 : Launch} (hfl : l0.stackTraces = false) {X : MX} {B : BX (EE × K)} {g : GP} {E : EE} {κ' : K} {rr : Int32} {f0 : Nat} {i0 : Nat} {c0 : Nat} (O : CK l0 X B g cX8_letInterruptIn RX8 4 143) (hKP : KPok B E) (hmL : B.2.2.2.1 = 2) (hE : ∀ (pc : Nat) (lv : List (Nat × AV)), decode cX8_letInterruptIn pc = .ok (.ireturn, 1) → J X B (E, κ') pc lv [.inl (.int rr)]) (h0 : PC 9 E f0 i0 c0) : ∀ (κ : K) (xs0 : Int32), f_X8_letInterruptIn_b42 E f0 i0 c0 κ xs0 = some (κ', rr) → J X B (E, κ) 42 [(0, .inr (some (f0, i0, c0)))] [.inl (.int xs0)] := by
  intro κ xs0 h
  unfold f_X8_letInterruptIn_b42 at h
  refine J_istore_n O.mo (lv' := [(0, .inr (some (f0, i0, c0)))]) dX8_letInterruptIn_42 (by rw [hmL]; decide) rfl rfl ?_
  refine J_aload_n O.mo dX8_letInterruptIn_43 1 rfl ?_
  refine J_getF O.co (kd0 := 9) (k9_0 h0) (l9_0 h0) (C := RX8) (T := TX8) (N := 10) rfl (by decide) rfl in_X8 7 (by decide) (v := .inl (.int (kV κ f0 i0 c0 7))) rfl mw119 rfl dX8_letInterruptIn_44 ?_
  refine J_if_eq O.mo (tgt := 58) dX8_letInterruptIn_47 (by decide) (fun hc8 => ?_) (fun hc8 => ?_)
  · replace h := (if_pos hc8).symm.trans h
    refine J_aload_n O.mo dX8_letInterruptIn_58 1 rfl ?_
    refine J_iconst O.mo (v := 0) dX8_letInterruptIn_59 (by decide) ?_
    refine J_putI O.co (kd0 := 9) (k9_0 h0) (l9_0 h0) (C := RX8) (T := TX8) (N := 10) rfl (by decide) rfl in_X8 tyX8 tyX8_ok nmX8 8 (by decide) rfl rfl (x := 0) (Or.inr ⟨rfl, Or.inl rfl⟩) mw120 dX8_letInterruptIn_60 ?_
    refine nm_some (P := fun z => J X B (E, z) 63 [(1, .inl (.int xs0)), (0, .inr (some (f0, i0, c0)))] []) h (fun κ9 h => ?_)
    refine J_sub [1, 0] rfl ?_
    exact w_X8_letInterruptIn_b63 hfl O hKP hmL hE h0 _ _ h
  · replace h := (if_neg hc8).symm.trans h
    refine J_aload_n O.mo dX8_letInterruptIn_50 1 rfl ?_
    refine J_iconst O.mo (v := 0) dX8_letInterruptIn_51 (by decide) ?_
    refine J_putI O.co (kd0 := 9) (k9_0 h0) (l9_0 h0) (C := RX8) (T := TX8) (N := 10) rfl (by decide) rfl in_X8 tyX8 tyX8_ok nmX8 7 (by decide) rfl rfl (x := 0) (Or.inr ⟨rfl, Or.inl rfl⟩) mw119 dX8_letInterruptIn_52 ?_
    refine nm_some (P := fun z => J X B (E, z) 55 [(1, .inl (.int xs0)), (0, .inr (some (f0, i0, c0)))] []) h (fun κ16 h => ?_)
    refine J_goto O.mo (tgt := 63) dX8_letInterruptIn_55 (by decide) ?_
    refine J_sub [1, 0] rfl ?_
    exact w_X8_letInterruptIn_b63 hfl O hKP hmL hE h0 _ _ h
set_option maxHeartbeats 4000000 in
set_option maxRecDepth 100000 in
theorem w_X8_letInterruptIn_e {l0 : Launch} (hfl : l0.stackTraces = false) {X : MX} {B : BX (EE × K)} {g : GP} {E : EE} {κ' : K} {rr : Int32} {f0 : Nat} {i0 : Nat} {c0 : Nat} (O : CK l0 X B g cX8_letInterruptIn RX8 4 143) (hKP : KPok B E) (hmL : B.2.2.2.1 = 2) (hE : ∀ (pc : Nat) (lv : List (Nat × AV)), decode cX8_letInterruptIn pc = .ok (.ireturn, 1) → J X B (E, κ') pc lv [.inl (.int rr)]) (h0 : PC 9 E f0 i0 c0) : ∀ (κ : K), f_X8_letInterruptIn_e E κ f0 i0 c0 = some (κ', rr) → J X B (E, κ) 0 [(0, .inr (some (f0, i0, c0)))] [] := by
  intro κ h
  unfold f_X8_letInterruptIn_e at h
  refine J_aload_n O.mo dX8_letInterruptIn_0 0 rfl ?_
  obtain ⟨κ1, r3, hq2, h⟩ := bd_some h
  refine J_callV O hKP (as := []) (rest := []) (r := (some (.inl (.int r3)))) (c_X8_isInterruptPending hfl h0 hq2) rfl (kd0 := 9) (k9_0 h0) (l9_0 h0) (T := TX8) (N := 10) rfl (by decide) mw233 mw122 mw123 mw124 mw125 pd_X8_isInterruptPending rfl (by decide) rfl (Nat.le_of_ble_eq_true rfl) (sl_p (s9_0 h0) sl_0) st_0 dX8_letInterruptIn_1 ?_
  show J X B (E, κ1) 4 [(0, .inr (some (f0, i0, c0)))] [.inl (.int r3)]
  refine J_if_eq O.mo (tgt := 28) dX8_letInterruptIn_4 (by decide) (fun hc4 => ?_) (fun hc4 => ?_)
  · replace h := (if_pos hc4).symm.trans h
    refine J_iconst O.mo (v := 0) dX8_letInterruptIn_28 (by decide) ?_
    cases h
    exact hE _ _ dX8_letInterruptIn_29
  · replace h := (if_neg hc4).symm.trans h
    refine J_aload_n O.mo dX8_letInterruptIn_7 0 rfl ?_
    refine J_getF O.co (kd0 := 9) (k9_0 h0) (l9_0 h0) (C := RX8) (T := TX8) (N := 10) rfl (by decide) rfl in_X8 0 (by decide) (v := .inr (some (f0, i0, c0 + 1))) rfl mw234 rfl dX8_letInterruptIn_8 ?_
    refine J_getF O.co (kd0 := 4) (k9_1 h0) (l9_1 h0) (C := RX3) (T := TX3) (N := 9) rfl (by decide) rfl in_X3 7 (by decide) (v := .inl (.int (kV κ1 f0 i0 (c0 + 1) 7))) rfl mw235 rfl dX8_letInterruptIn_11 ?_
    refine J_if_ne O.mo (tgt := 28) dX8_letInterruptIn_14 (by decide) (fun hc5 => ?_) (fun hc5 => ?_)
    · replace h := (if_neg hc5).symm.trans h
      refine J_iconst O.mo (v := 0) dX8_letInterruptIn_28 (by decide) ?_
      cases h
      exact hE _ _ dX8_letInterruptIn_29
    · replace h := (if_pos hc5).symm.trans h
      refine J_aload_n O.mo dX8_letInterruptIn_17 0 rfl ?_
      refine J_getF O.co (kd0 := 9) (k9_0 h0) (l9_0 h0) (C := RX8) (T := TX8) (N := 10) rfl (by decide) rfl in_X8 0 (by decide) (v := .inr (some (f0, i0, c0 + 1))) rfl mw234 rfl dX8_letInterruptIn_18 ?_
      refine J_getF O.co (kd0 := 4) (k9_1 h0) (l9_1 h0) (C := RX3) (T := TX3) (N := 9) rfl (by decide) rfl in_X3 4 (by decide) (v := .inl (.int (kV κ1 f0 i0 (c0 + 1) 4))) rfl mw236 rfl dX8_letInterruptIn_21 ?_
      refine J_iconst O.mo (v := (-1)) dX8_letInterruptIn_24 (by decide) ?_
      refine J_icmp_ne O.mo (tgt := 30) dX8_letInterruptIn_25 (by decide) (fun hc6 => ?_) (fun hc6 => ?_)
      · replace h := (if_neg hc6).symm.trans h
        refine J_aload_n O.mo dX8_letInterruptIn_30 0 rfl ?_
        refine J_getF O.co (kd0 := 9) (k9_0 h0) (l9_0 h0) (C := RX8) (T := TX8) (N := 10) rfl (by decide) rfl in_X8 7 (by decide) (v := .inl (.int (kV κ1 f0 i0 c0 7))) rfl mw119 rfl dX8_letInterruptIn_31 ?_
        refine J_if_eq O.mo (tgt := 41) dX8_letInterruptIn_34 (by decide) (fun hc7 => ?_) (fun hc7 => ?_)
        · replace h := (if_pos hc7).symm.trans h
          refine J_iconst O.mo (v := 3) dX8_letInterruptIn_41 (by decide) ?_
          exact w_X8_letInterruptIn_b42 hfl O hKP hmL hE h0 _ _ h
        · replace h := (if_neg hc7).symm.trans h
          refine J_iconst O.mo (v := 2) dX8_letInterruptIn_37 (by decide) ?_
          refine J_goto O.mo (tgt := 42) dX8_letInterruptIn_38 (by decide) ?_
          exact w_X8_letInterruptIn_b42 hfl O hKP hmL hE h0 _ _ h
      · replace h := (if_pos hc6).symm.trans h
        refine J_iconst O.mo (v := 0) dX8_letInterruptIn_28 (by decide) ?_
        cases h
        exact hE _ _ dX8_letInterruptIn_29
theorem c_X8_letInterruptIn {l : Launch} (hfl : l.stackTraces = false) {E : EE} {κ κ' : K} {f0 : Nat} {i0 : Nat} {c0 : Nat} (h0 : PC 9 E f0 i0 c0) {rr : Int32} (h : f_X8_letInterruptIn E κ f0 i0 c0 = some (κ', rr)) : Con l yX8_letInterruptIn cX8_letInterruptIn 2 (some .boolean) 4 143 [.inr (some (f0, i0, c0))] (E, κ) (E, κ') (some (.inl (.int rr))) := by
  unfold f_X8_letInterruptIn at h
  obtain ⟨κ1, x1, q1, q2⟩ := bd_some h
  obtain ⟨hb, q3⟩ := gd_some q2
  cases q3
  exact Con_of hfl (by decide +kernel) (Nat.le_of_ble_eq_true rfl) rfl ⟨_, rfl, nar_b hb⟩ (fun X B g O hKP hmL hE => w_X8_letInterruptIn_e hfl O hKP hmL hE h0 _ q1)
def f_X1_runTick_b15 (E : EE) (a0 : Nat) (κ : K) : Option (K × Unit) := bd (f_X3_doNext_G E κ 0 a0 6 a0 a0) fun κ5 _ => nm (setV κ5 0 a0 5 5 ((kV κ5 0 a0 5 5) + 1)) fun κ8 => nm (setV κ8 0 a0 0 12 ((kV κ8 0 a0 0 12) + 1)) fun κ9 => some (κ9, ())
def f_X1_runTick (E : EE) (κ : K) (a0 : Nat) : Option (K × Unit) := bd (f_X8_letInterruptIn E κ 0 a0 5) fun κ1 r3 => if r3 = 0 then f_X1_runTick_b15 E a0 κ1 else bd (f_X1_countExit E κ1 a0 5) fun κ10 _ => f_X1_runTick_b15 E a0 κ10
set_option maxHeartbeats 4000000 in
set_option maxRecDepth 100000 in
theorem w_X1_runTick_b15 {l0 : Launch} (hfl : l0.stackTraces = false) {X : MX} {B : BX (EE × K)} {g : GP} {E : EE} {κ' : K} {rr : Unit} {a0 : Nat} (O : CK l0 X B g cX1_runTick RX1 7 214) (hKP : KPok B E) (hmL : B.2.2.2.1 = 1) (hE : ∀ (pc : Nat) (lv : List (Nat × AV)), decode cX1_runTick pc = .ok (.return_, 1) → J X B (E, κ') pc lv []) (h0 : PC 2 E 0 a0 0) : ∀ (κ : K), f_X1_runTick_b15 E a0 κ = some (κ', rr) → J X B (E, κ) 15 [(0, .inr (some (0, a0, 0)))] [] := by
  intro κ h
  unfold f_X1_runTick_b15 at h
  refine J_aload_n O.mo dX1_runTick_15 0 rfl ?_
  refine J_getF O.co (kd0 := 2) (k2_0 h0) (l2_0 h0) (C := RX1) (T := TX1) (N := 19) rfl (by decide) rfl in_X1 4 (by decide) (v := .inr (some (0, a0, 5))) rfl mw63 rfl dX1_runTick_16 ?_
  refine J_getF O.co (kd0 := 9) (k2_5 h0) (l2_5 h0) (C := RX8) (T := TX8) (N := 10) rfl (by decide) rfl in_X8 0 (by decide) (v := .inr (some (0, a0, 6))) rfl mw64 rfl dX1_runTick_19 ?_
  refine J_aload_n O.mo dX1_runTick_22 0 rfl ?_
  refine J_getF O.co (kd0 := 2) (k2_0 h0) (l2_0 h0) (C := RX1) (T := TX1) (N := 19) rfl (by decide) rfl in_X1 3 (by decide) (v := .inr (some (0, a0, 1))) rfl mw245 rfl dX1_runTick_23 ?_
  refine J_aload_n O.mo dX1_runTick_26 0 rfl ?_
  obtain ⟨κ5, r7, hq6, h⟩ := bd_some h
  refine J_callV O hKP (as := [.inr (some (0, a0, 1)), .inr (some (0, a0, 0))]) (rest := []) (r := none) (c_X3_doNext_G hfl (sub_2_6_4 h0) (sub_2_1_6 h0) h0 hq6) rfl (kd0 := 4) (k2_6 h0) (l2_6 h0) (T := TX3) (N := 9) rfl (by decide) mw246 mw247 mw248 mw137 mw249 pd_X3_doNext rfl (by decide) rfl (Nat.le_of_ble_eq_true rfl) (sl_p (s2_0 h0) sl_0) st_0 dX1_runTick_27 ?_
  show J X B (E, κ5) 30 [(0, .inr (some (0, a0, 0)))] []
  refine J_aload_n O.mo dX1_runTick_30 0 rfl ?_
  refine J_getF O.co (kd0 := 2) (k2_0 h0) (l2_0 h0) (C := RX1) (T := TX1) (N := 19) rfl (by decide) rfl in_X1 4 (by decide) (v := .inr (some (0, a0, 5))) rfl mw63 rfl dX1_runTick_31 ?_
  refine J_dup O.mo dX1_runTick_34 rfl ?_
  refine J_getF O.co (kd0 := 9) (k2_5 h0) (l2_5 h0) (C := RX8) (T := TX8) (N := 10) rfl (by decide) rfl in_X8 5 (by decide) (v := .inl (.int (kV κ5 0 a0 5 5))) rfl mw250 rfl dX1_runTick_35 ?_
  refine J_iconst O.mo (v := 1) dX1_runTick_38 (by decide) ?_
  refine J_iadd O.mo dX1_runTick_39 ?_
  refine J_putI O.co (kd0 := 9) (k2_5 h0) (l2_5 h0) (C := RX8) (T := TX8) (N := 10) rfl (by decide) rfl in_X8 tyX8 tyX8_ok nmX8 5 (by decide) rfl rfl (x := ((kV κ5 0 a0 5 5) + 1)) (Or.inl rfl) mw250 dX1_runTick_40 ?_
  refine nm_some (P := fun z => J X B (E, z) 43 [(0, .inr (some (0, a0, 0)))] []) h (fun κ8 h => ?_)
  refine J_aload_n O.mo dX1_runTick_43 0 rfl ?_
  refine J_dup O.mo dX1_runTick_44 rfl ?_
  refine J_getF O.co (kd0 := 2) (k2_0 h0) (l2_0 h0) (C := RX1) (T := TX1) (N := 19) rfl (by decide) rfl in_X1 12 (by decide) (v := .inl (.int (kV κ8 0 a0 0 12))) rfl mw251 rfl dX1_runTick_45 ?_
  refine J_iconst O.mo (v := 1) dX1_runTick_48 (by decide) ?_
  refine J_iadd O.mo dX1_runTick_49 ?_
  refine J_putI O.co (kd0 := 2) (k2_0 h0) (l2_0 h0) (C := RX1) (T := TX1) (N := 19) rfl (by decide) rfl in_X1 tyX1 tyX1_ok nmX1 12 (by decide) rfl rfl (x := ((kV κ8 0 a0 0 12) + 1)) (Or.inl rfl) mw251 dX1_runTick_50 ?_
  refine nm_some (P := fun z => J X B (E, z) 53 [(0, .inr (some (0, a0, 0)))] []) h (fun κ9 h => ?_)
  cases h
  exact hE _ _ dX1_runTick_53
set_option maxHeartbeats 4000000 in
set_option maxRecDepth 100000 in
theorem w_X1_runTick {l0 : Launch} (hfl : l0.stackTraces = false) {X : MX} {B : BX (EE × K)} {g : GP} {E : EE} {κ' : K} {rr : Unit} {a0 : Nat} (O : CK l0 X B g cX1_runTick RX1 7 214) (hKP : KPok B E) (hmL : B.2.2.2.1 = 1) (hE : ∀ (pc : Nat) (lv : List (Nat × AV)), decode cX1_runTick pc = .ok (.return_, 1) → J X B (E, κ') pc lv []) (h0 : PC 2 E 0 a0 0) : ∀ (κ : K), f_X1_runTick E κ a0 = some (κ', rr) → J X B (E, κ) 0 [(0, .inr (some (0, a0, 0)))] [] := by
  intro κ h
  unfold f_X1_runTick at h
  refine J_aload_n O.mo dX1_runTick_0 0 rfl ?_
  refine J_getF O.co (kd0 := 2) (k2_0 h0) (l2_0 h0) (C := RX1) (T := TX1) (N := 19) rfl (by decide) rfl in_X1 4 (by decide) (v := .inr (some (0, a0, 5))) rfl mw63 rfl dX1_runTick_1 ?_
  obtain ⟨κ1, r3, hq2, h⟩ := bd_some h
  refine J_callV O hKP (as := []) (rest := []) (r := (some (.inl (.int r3)))) (c_X8_letInterruptIn hfl (sub_2_5_9 h0) hq2) rfl (kd0 := 9) (k2_5 h0) (l2_5 h0) (T := TX8) (N := 10) rfl (by decide) mw241 mw242 mw243 mw124 mw244 pd_X8_letInterruptIn rfl (by decide) rfl (Nat.le_of_ble_eq_true rfl) (sl_p (s2_0 h0) sl_0) st_0 dX1_runTick_4 ?_
  show J X B (E, κ1) 7 [(0, .inr (some (0, a0, 0)))] [.inl (.int r3)]
  refine J_if_eq O.mo (tgt := 15) dX1_runTick_7 (by decide) (fun hc4 => ?_) (fun hc4 => ?_)
  · replace h := (if_pos hc4).symm.trans h
    exact w_X1_runTick_b15 hfl O hKP hmL hE h0 _ h
  · replace h := (if_neg hc4).symm.trans h
    refine J_aload_n O.mo dX1_runTick_10 0 rfl ?_
    refine J_iconst O.mo (v := 5) dX1_runTick_11 (by decide) ?_
    obtain ⟨κ10, r12, hq11, h⟩ := bd_some h
    refine J_callV O hKP (as := [.inl (.int 5)]) (rest := []) (r := none) (c_X1_countExit hfl h0 hq11) rfl (kd0 := 2) (k2_0 h0) (l2_0 h0) (T := TX1) (N := 19) rfl (by decide) mw89 mw90 mw91 mw74 mw92 pd_X1_countExit rfl (by decide) rfl (Nat.le_of_ble_eq_true rfl) (sl_p (s2_0 h0) sl_0) st_0 dX1_runTick_12 ?_
    show J X B (E, κ10) 15 [(0, .inr (some (0, a0, 0)))] []
    exact w_X1_runTick_b15 hfl O hKP hmL hE h0 _ h
theorem c_X1_runTick {l : Launch} (hfl : l.stackTraces = false) {E : EE} {κ κ' : K} {a0 : Nat} (h0 : PC 2 E 0 a0 0) {rr : Unit} (h : f_X1_runTick E κ a0 = some (κ', rr)) : Con l yX1_runTick cX1_runTick 1 none 7 214 [.inr (some (0, a0, 0))] (E, κ) (E, κ') none := by
  exact Con_of hfl (by decide +kernel) (Nat.le_of_ble_eq_true rfl) rfl rfl (fun X B g O hKP hmL hE => w_X1_runTick hfl O hKP hmL hE h0 _ h)
def f_X1_advanceClock (E : EE) (κ : K) (a0 : Nat) : Option (K × Unit) := nm (setV κ 0 a0 5 9 (((kV κ 0 a0 5 9) + (kV κ 0 a0 0 10)) - ((kV κ 0 a0 5 9) + (kV κ 0 a0 0 10)) / 10000 * 10000)) fun κ1 => some (κ1, ())
set_option maxHeartbeats 4000000 in
set_option maxRecDepth 100000 in
theorem w_X1_advanceClock {l0 : Launch} (hfl : l0.stackTraces = false) {X : MX} {B : BX (EE × K)} {g : GP} {E : EE} {κ' : K} {rr : Unit} {a0 : Nat} (O : CK l0 X B g cX1_advanceClock RX1 1 0) (hKP : KPok B E) (hmL : B.2.2.2.1 = 1) (hE : ∀ (pc : Nat) (lv : List (Nat × AV)), decode cX1_advanceClock pc = .ok (.return_, 1) → J X B (E, κ') pc lv []) (h0 : PC 2 E 0 a0 0) : ∀ (κ : K), f_X1_advanceClock E κ a0 = some (κ', rr) → J X B (E, κ) 0 [(0, .inr (some (0, a0, 0)))] [] := by
  intro κ h
  unfold f_X1_advanceClock at h
  refine J_aload_n O.mo dX1_advanceClock_0 0 rfl ?_
  refine J_getF O.co (kd0 := 2) (k2_0 h0) (l2_0 h0) (C := RX1) (T := TX1) (N := 19) rfl (by decide) rfl in_X1 4 (by decide) (v := .inr (some (0, a0, 5))) rfl mw63 rfl dX1_advanceClock_1 ?_
  refine J_aload_n O.mo dX1_advanceClock_4 0 rfl ?_
  refine J_getF O.co (kd0 := 2) (k2_0 h0) (l2_0 h0) (C := RX1) (T := TX1) (N := 19) rfl (by decide) rfl in_X1 4 (by decide) (v := .inr (some (0, a0, 5))) rfl mw63 rfl dX1_advanceClock_5 ?_
  refine J_getF O.co (kd0 := 9) (k2_5 h0) (l2_5 h0) (C := RX8) (T := TX8) (N := 10) rfl (by decide) rfl in_X8 9 (by decide) (v := .inl (.int (kV κ 0 a0 5 9))) rfl mw105 rfl dX1_advanceClock_8 ?_
  refine J_aload_n O.mo dX1_advanceClock_11 0 rfl ?_
  refine J_getF O.co (kd0 := 2) (k2_0 h0) (l2_0 h0) (C := RX1) (T := TX1) (N := 19) rfl (by decide) rfl in_X1 10 (by decide) (v := .inl (.int (kV κ 0 a0 0 10))) rfl mw252 rfl dX1_advanceClock_12 ?_
  refine J_iadd O.mo dX1_advanceClock_15 ?_
  refine J_sipush O.mo (v := 10000) dX1_advanceClock_16 (by decide) ?_
  refine J_irem O.mo dX1_advanceClock_19 (by decide) ?_
  refine J_putI O.co (kd0 := 9) (k2_5 h0) (l2_5 h0) (C := RX8) (T := TX8) (N := 10) rfl (by decide) rfl in_X8 tyX8 tyX8_ok nmX8 9 (by decide) rfl rfl (x := (((kV κ 0 a0 5 9) + (kV κ 0 a0 0 10)) - ((kV κ 0 a0 5 9) + (kV κ 0 a0 0 10)) / 10000 * 10000)) (Or.inl rfl) mw105 dX1_advanceClock_20 ?_
  refine nm_some (P := fun z => J X B (E, z) 23 [(0, .inr (some (0, a0, 0)))] []) h (fun κ1 h => ?_)
  cases h
  exact hE _ _ dX1_advanceClock_23
theorem c_X1_advanceClock {l : Launch} (hfl : l.stackTraces = false) {E : EE} {κ κ' : K} {a0 : Nat} (h0 : PC 2 E 0 a0 0) {rr : Unit} (h : f_X1_advanceClock E κ a0 = some (κ', rr)) : Con l yX1_advanceClock cX1_advanceClock 1 none 1 0 [.inr (some (0, a0, 0))] (E, κ) (E, κ') none := by
  exact Con_of hfl (by decide +kernel) (Nat.le_of_ble_eq_true rfl) rfl rfl (fun X B g O hKP hmL hE => w_X1_advanceClock hfl O hKP hmL hE h0 _ h)
def f_X1_sendPages_b52 (E : EE) (a0 : Nat) (k4 : K → Int32 → Int32 → Option (K × Unit)) (κ : K) (x2 : Int32) (x3 : Int32) : Option (K × Unit) := nm (x3 + 1) fun y4 => k4 κ x2 y4
def f_X1_sendPages_b4 (E : EE) (a0 : Nat) : Nat → K → Int32 → Int32 → Option (K × Unit)
  | 0, _, _, _ => none
  | n + 1, κ, x2, x3 => if 8 ≤ x3 then some (κ, ()) else if x2 ≤ 0 then some (κ, ()) else if (kV κ 0 a0 0 15) &&& (1 <<< (x3 &&& 31)) = 0 then f_X1_sendPages_b52 E a0 (f_X1_sendPages_b4 E a0 n) κ x2 x3 else nm (setV κ 0 a0 0 15 ((kV κ 0 a0 0 15) &&& ((1 <<< (x3 &&& 31)) ^^^ ((-1))))) fun κ5 => nm (setV κ5 0 a0 0 13 ((kV κ5 0 a0 0 13) + 1)) fun κ6 => nm (x2 + (-1)) fun y7 => f_X1_sendPages_b52 E a0 (f_X1_sendPages_b4 E a0 n) κ6 y7 x3
def f_X1_sendPages (E : EE) (κ : K) (a0 : Nat) (a1 : Int32) : Option (K × Unit) := f_X1_sendPages_b4 E a0 FU κ a1 0
set_option maxHeartbeats 4000000 in
set_option maxRecDepth 100000 in
theorem w_X1_sendPages_b52 {l0 : Launch} (hfl : l0.stackTraces = false) {X : MX} {B : BX (EE × K)} {g : GP} {E : EE} {κ' : K} {rr : Unit} {a0 : Nat} (O : CK l0 X B g cX1_sendPages RX1 1 0) (hKP : KPok B E) (hmL : B.2.2.2.1 = 4) (hE : ∀ (pc : Nat) (lv : List (Nat × AV)), decode cX1_sendPages pc = .ok (.return_, 1) → J X B (E, κ') pc lv []) (h0 : PC 2 E 0 a0 0) {k4 : K → Int32 → Int32 → Option (K × Unit)} (hk4 : ∀ (κ : K) (x2 : Int32) (x3 : Int32), k4 κ x2 x3 = some (κ', rr) → J X B (E, κ) 4 [(0, .inr (some (0, a0, 0))), (2, .inl (.int x2)), (3, .inl (.int x3))] []) : ∀ (κ : K) (x2 : Int32) (x3 : Int32), f_X1_sendPages_b52 E a0 k4 κ x2 x3 = some (κ', rr) → J X B (E, κ) 52 [(0, .inr (some (0, a0, 0))), (2, .inl (.int x2)), (3, .inl (.int x3))] [] := by
  intro κ x2 x3 h
  unfold f_X1_sendPages_b52 at h
  refine J_iinc O.mo (v := x3 + 1) (lv' := [(0, .inr (some (0, a0, 0))), (2, .inl (.int x2))]) dX1_sendPages_52 (by rw [hmL]; decide) 2 rfl (by rw [show Int32.ofInt (1) = (1 : Int32) from by decide]) rfl rfl ?_
  refine nm_some (P := fun z => J X B (E, κ) 55 [(3, .inl (.int z)), (0, .inr (some (0, a0, 0))), (2, .inl (.int x2))] []) h (fun y4 h => ?_)
  refine J_goto O.mo (tgt := 4) dX1_sendPages_55 (by decide) ?_
  refine J_sub [1, 2, 0] rfl ?_
  exact hk4 _ _ _ h
set_option maxHeartbeats 4000000 in
set_option maxRecDepth 100000 in
theorem w_X1_sendPages_b4 {l0 : Launch} (hfl : l0.stackTraces = false) {X : MX} {B : BX (EE × K)} {g : GP} {E : EE} {κ' : K} {rr : Unit} {a0 : Nat} (O : CK l0 X B g cX1_sendPages RX1 1 0) (hKP : KPok B E) (hmL : B.2.2.2.1 = 4) (hE : ∀ (pc : Nat) (lv : List (Nat × AV)), decode cX1_sendPages pc = .ok (.return_, 1) → J X B (E, κ') pc lv []) (h0 : PC 2 E 0 a0 0) : ∀ (n : Nat) (κ : K) (x2 : Int32) (x3 : Int32), f_X1_sendPages_b4 E a0 n κ x2 x3 = some (κ', rr) → J X B (E, κ) 4 [(0, .inr (some (0, a0, 0))), (2, .inl (.int x2)), (3, .inl (.int x3))] [] := by
  intro n
  induction n with
  | zero => intro κ x2 x3 h; cases h
  | succ n ih =>
    intro κ x2 x3 h
    rw [f_X1_sendPages_b4] at h
    refine J_iload_n O.mo dX1_sendPages_4 2 rfl ?_
    refine J_bipush O.mo (v := 8) dX1_sendPages_5 (by decide) ?_
    refine J_icmp_ge O.mo (tgt := 58) dX1_sendPages_7 (by decide) (fun hc1 => ?_) (fun hc1 => ?_)
    · replace h := (if_pos hc1).symm.trans h
      cases h
      exact hE _ _ dX1_sendPages_58
    · replace h := (if_neg hc1).symm.trans h
      refine J_iload_n O.mo dX1_sendPages_10 1 rfl ?_
      refine J_if_le O.mo (tgt := 58) dX1_sendPages_11 (by decide) (fun hc2 => ?_) (fun hc2 => ?_)
      · replace h := (if_pos hc2).symm.trans h
        cases h
        exact hE _ _ dX1_sendPages_58
      · replace h := (if_neg hc2).symm.trans h
        refine J_aload_n O.mo dX1_sendPages_14 0 rfl ?_
        refine J_getF O.co (kd0 := 2) (k2_0 h0) (l2_0 h0) (C := RX1) (T := TX1) (N := 19) rfl (by decide) rfl in_X1 15 (by decide) (v := .inl (.int (kV κ 0 a0 0 15))) rfl mw66 rfl dX1_sendPages_15 ?_
        refine J_iconst O.mo (v := 1) dX1_sendPages_18 (by decide) ?_
        refine J_iload_n O.mo dX1_sendPages_19 2 rfl ?_
        refine J_ishl O.mo dX1_sendPages_20 ?_
        refine J_iand O.mo dX1_sendPages_21 ?_
        refine J_if_eq O.mo (tgt := 52) dX1_sendPages_22 (by decide) (fun hc3 => ?_) (fun hc3 => ?_)
        · replace h := (if_pos hc3).symm.trans h
          exact w_X1_sendPages_b52 hfl O hKP hmL hE h0 ih _ _ _ h
        · replace h := (if_neg hc3).symm.trans h
          refine J_aload_n O.mo dX1_sendPages_25 0 rfl ?_
          refine J_dup O.mo dX1_sendPages_26 rfl ?_
          refine J_getF O.co (kd0 := 2) (k2_0 h0) (l2_0 h0) (C := RX1) (T := TX1) (N := 19) rfl (by decide) rfl in_X1 15 (by decide) (v := .inl (.int (kV κ 0 a0 0 15))) rfl mw66 rfl dX1_sendPages_27 ?_
          refine J_iconst O.mo (v := 1) dX1_sendPages_30 (by decide) ?_
          refine J_iload_n O.mo dX1_sendPages_31 2 rfl ?_
          refine J_ishl O.mo dX1_sendPages_32 ?_
          refine J_iconst O.mo (v := (-1)) dX1_sendPages_33 (by decide) ?_
          refine J_ixor O.mo dX1_sendPages_34 ?_
          refine J_iand O.mo dX1_sendPages_35 ?_
          refine J_putI O.co (kd0 := 2) (k2_0 h0) (l2_0 h0) (C := RX1) (T := TX1) (N := 19) rfl (by decide) rfl in_X1 tyX1 tyX1_ok nmX1 15 (by decide) rfl rfl (x := ((kV κ 0 a0 0 15) &&& ((1 <<< (x3 &&& 31)) ^^^ ((-1))))) (Or.inl rfl) mw66 dX1_sendPages_36 ?_
          refine nm_some (P := fun z => J X B (E, z) 39 [(0, .inr (some (0, a0, 0))), (2, .inl (.int x2)), (3, .inl (.int x3))] []) h (fun κ5 h => ?_)
          refine J_aload_n O.mo dX1_sendPages_39 0 rfl ?_
          refine J_dup O.mo dX1_sendPages_40 rfl ?_
          refine J_getF O.co (kd0 := 2) (k2_0 h0) (l2_0 h0) (C := RX1) (T := TX1) (N := 19) rfl (by decide) rfl in_X1 13 (by decide) (v := .inl (.int (kV κ5 0 a0 0 13))) rfl mw253 rfl dX1_sendPages_41 ?_
          refine J_iconst O.mo (v := 1) dX1_sendPages_44 (by decide) ?_
          refine J_iadd O.mo dX1_sendPages_45 ?_
          refine J_putI O.co (kd0 := 2) (k2_0 h0) (l2_0 h0) (C := RX1) (T := TX1) (N := 19) rfl (by decide) rfl in_X1 tyX1 tyX1_ok nmX1 13 (by decide) rfl rfl (x := ((kV κ5 0 a0 0 13) + 1)) (Or.inl rfl) mw253 dX1_sendPages_46 ?_
          refine nm_some (P := fun z => J X B (E, z) 49 [(0, .inr (some (0, a0, 0))), (2, .inl (.int x2)), (3, .inl (.int x3))] []) h (fun κ6 h => ?_)
          refine J_iinc O.mo (v := x2 + (-1)) (lv' := [(0, .inr (some (0, a0, 0))), (3, .inl (.int x3))]) dX1_sendPages_49 (by rw [hmL]; decide) 1 rfl (by rw [show Int32.ofInt (-1) = ((-1) : Int32) from by decide]) rfl rfl ?_
          refine nm_some (P := fun z => J X B (E, κ6) 52 [(2, .inl (.int z)), (0, .inr (some (0, a0, 0))), (3, .inl (.int x3))] []) h (fun y7 h => ?_)
          refine J_sub [1, 0, 2] rfl ?_
          exact w_X1_sendPages_b52 hfl O hKP hmL hE h0 ih _ _ _ h
set_option maxHeartbeats 4000000 in
set_option maxRecDepth 100000 in
theorem w_X1_sendPages {l0 : Launch} (hfl : l0.stackTraces = false) {X : MX} {B : BX (EE × K)} {g : GP} {E : EE} {κ' : K} {rr : Unit} {a0 : Nat} (O : CK l0 X B g cX1_sendPages RX1 1 0) (hKP : KPok B E) (hmL : B.2.2.2.1 = 4) (hE : ∀ (pc : Nat) (lv : List (Nat × AV)), decode cX1_sendPages pc = .ok (.return_, 1) → J X B (E, κ') pc lv []) (h0 : PC 2 E 0 a0 0) : ∀ (κ : K) (a1 : Int32), f_X1_sendPages E κ a0 a1 = some (κ', rr) → J X B (E, κ) 0 [(0, .inr (some (0, a0, 0))), (1, .inl (.int a1))] [] := by
  intro κ a1 h
  unfold f_X1_sendPages at h
  refine J_iload_n O.mo dX1_sendPages_0 1 rfl ?_
  refine J_istore_n O.mo (lv' := [(0, .inr (some (0, a0, 0))), (1, .inl (.int a1))]) dX1_sendPages_1 (by rw [hmL]; decide) rfl rfl ?_
  refine J_iconst O.mo (v := 0) dX1_sendPages_2 (by decide) ?_
  refine J_istore_n O.mo (lv' := [(2, .inl (.int a1)), (0, .inr (some (0, a0, 0))), (1, .inl (.int a1))]) dX1_sendPages_3 (by rw [hmL]; decide) rfl rfl ?_
  refine J_sub [2, 1, 0] rfl ?_
  exact w_X1_sendPages_b4 hfl O hKP hmL hE h0 FU _ _ _ h
theorem c_X1_sendPages {l : Launch} (hfl : l.stackTraces = false) {E : EE} {κ κ' : K} {a0 : Nat} {a1 : Int32} (h0 : PC 2 E 0 a0 0) {rr : Unit} (h : f_X1_sendPages E κ a0 a1 = some (κ', rr)) : Con l yX1_sendPages cX1_sendPages 4 none 1 0 [.inr (some (0, a0, 0)), .inl (.int a1)] (E, κ) (E, κ') none := by
  exact Con_of hfl (by decide +kernel) (Nat.le_of_ble_eq_true rfl) rfl rfl (fun X B g O hKP hmL hE => w_X1_sendPages hfl O hKP hmL hE h0 _ _ h)
def f_X1_leaveFrames_b2 (E : EE) (a0 : Nat) : Nat → K → Int32 → Option (K × Unit)
  | 0, _, _ => none
  | n + 1, κ, x1 => if 8 ≤ x1 then some (κ, ()) else optG (kP κ 0 a0 0 8) (cntE E 2) (none) (fun j2 => bd (f_X1_keyOf E κ a0 x1) fun κ5 r7 => bd (f_X2_leave E κ5 j2 r7) fun κ8 _ => nm (x1 + 1) fun y11 => f_X1_leaveFrames_b2 E a0 n κ8 y11)
def f_X1_leaveFrames (E : EE) (κ : K) (a0 : Nat) : Option (K × Unit) := f_X1_leaveFrames_b2 E a0 FU κ 0
set_option maxHeartbeats 4000000 in
set_option maxRecDepth 100000 in
theorem w_X1_leaveFrames_b2 {l0 : Launch} (hfl : l0.stackTraces = false) {X : MX} {B : BX (EE × K)} {g : GP} {E : EE} {κ' : K} {rr : Unit} {a0 : Nat} (O : CK l0 X B g cX1_leaveFrames RX1 2 22) (hKP : KPok B E) (hmL : B.2.2.2.1 = 2) (hE : ∀ (pc : Nat) (lv : List (Nat × AV)), decode cX1_leaveFrames pc = .ok (.return_, 1) → J X B (E, κ') pc lv []) (h0 : PC 2 E 0 a0 0) : ∀ (n : Nat) (κ : K) (x1 : Int32), f_X1_leaveFrames_b2 E a0 n κ x1 = some (κ', rr) → J X B (E, κ) 2 [(0, .inr (some (0, a0, 0))), (1, .inl (.int x1))] [] := by
  intro n
  induction n with
  | zero => intro κ x1 h; cases h
  | succ n ih =>
    intro κ x1 h
    rw [f_X1_leaveFrames_b2] at h
    refine J_iload_n O.mo dX1_leaveFrames_2 1 rfl ?_
    refine J_bipush O.mo (v := 8) dX1_leaveFrames_3 (by decide) ?_
    refine J_icmp_ge O.mo (tgt := 26) dX1_leaveFrames_5 (by decide) (fun hc1 => ?_) (fun hc1 => ?_)
    · replace h := (if_pos hc1).symm.trans h
      cases h
      exact hE _ _ dX1_leaveFrames_26
    · replace h := (if_neg hc1).symm.trans h
      refine J_aload_n O.mo dX1_leaveFrames_8 0 rfl ?_
      replace h := optG_some h
      rcases h with ⟨ho4, h⟩ | ⟨j2, ho4, hj3, h⟩
      · cases h
      · refine J_getF O.co (kd0 := 2) (k2_0 h0) (l2_0 h0) (C := RX1) (T := TX1) (N := 19) rfl (by decide) rfl in_X1 8 (by decide) (v := .inr (some (2, j2, 0))) (by rw [ho4]; rfl) mw69 rfl dX1_leaveFrames_9 ?_
        refine J_aload_n O.mo dX1_leaveFrames_12 0 rfl ?_
        refine J_iload_n O.mo dX1_leaveFrames_13 1 rfl ?_
        obtain ⟨κ5, r7, hq6, h⟩ := bd_some h
        refine J_callV O hKP (as := [.inl (.int x1)]) (rest := [.inr (some (2, j2, 0))]) (r := (some (.inl (.int r7)))) (c_X1_keyOf hfl h0 hq6) rfl (kd0 := 2) (k2_0 h0) (l2_0 h0) (T := TX1) (N := 19) rfl (by decide) mw71 mw72 mw73 mw74 mw75 pd_X1_keyOf rfl (by decide) rfl (Nat.le_of_ble_eq_true rfl) (sl_p (s2_0 h0) (sl_v sl_0)) (st_p (s3_0 (⟨hj3, rfl⟩ : PC 3 E 2 j2 0)) st_0) dX1_leaveFrames_14 ?_
        show J X B (E, κ5) 17 [(0, .inr (some (0, a0, 0))), (1, .inl (.int x1))] [.inl (.int r7), .inr (some (2, j2, 0))]
        obtain ⟨κ8, r10, hq9, h⟩ := bd_some h
        refine J_callV O hKP (as := [.inl (.int r7)]) (rest := []) (r := none) (c_X2_leave hfl (⟨hj3, rfl⟩ : PC 3 E 2 j2 0) hq9) rfl (kd0 := 3) (k3_0 (⟨hj3, rfl⟩ : PC 3 E 2 j2 0)) (l3_0 (⟨hj3, rfl⟩ : PC 3 E 2 j2 0)) (T := TX2) (N := 8) rfl (by decide) mw93 mw94 mw95 mw10 mw96 pd_X2_leave rfl (by decide) rfl (Nat.le_of_ble_eq_true rfl) (sl_p (s2_0 h0) (sl_v sl_0)) st_0 dX1_leaveFrames_17 ?_
        show J X B (E, κ8) 20 [(0, .inr (some (0, a0, 0))), (1, .inl (.int x1))] []
        refine J_iinc O.mo (v := x1 + 1) (lv' := [(0, .inr (some (0, a0, 0)))]) dX1_leaveFrames_20 (by rw [hmL]; decide) 1 rfl (by rw [show Int32.ofInt (1) = (1 : Int32) from by decide]) rfl rfl ?_
        refine nm_some (P := fun z => J X B (E, κ8) 23 [(1, .inl (.int z)), (0, .inr (some (0, a0, 0)))] []) h (fun y11 h => ?_)
        refine J_goto O.mo (tgt := 2) dX1_leaveFrames_23 (by decide) ?_
        refine J_sub [1, 0] rfl ?_
        exact ih _ _ h
set_option maxHeartbeats 4000000 in
set_option maxRecDepth 100000 in
theorem w_X1_leaveFrames {l0 : Launch} (hfl : l0.stackTraces = false) {X : MX} {B : BX (EE × K)} {g : GP} {E : EE} {κ' : K} {rr : Unit} {a0 : Nat} (O : CK l0 X B g cX1_leaveFrames RX1 2 22) (hKP : KPok B E) (hmL : B.2.2.2.1 = 2) (hE : ∀ (pc : Nat) (lv : List (Nat × AV)), decode cX1_leaveFrames pc = .ok (.return_, 1) → J X B (E, κ') pc lv []) (h0 : PC 2 E 0 a0 0) : ∀ (κ : K), f_X1_leaveFrames E κ a0 = some (κ', rr) → J X B (E, κ) 0 [(0, .inr (some (0, a0, 0)))] [] := by
  intro κ h
  unfold f_X1_leaveFrames at h
  refine J_iconst O.mo (v := 0) dX1_leaveFrames_0 (by decide) ?_
  refine J_istore_n O.mo (lv' := [(0, .inr (some (0, a0, 0)))]) dX1_leaveFrames_1 (by rw [hmL]; decide) rfl rfl ?_
  refine J_sub [1, 0] rfl ?_
  exact w_X1_leaveFrames_b2 hfl O hKP hmL hE h0 FU _ _ h
theorem c_X1_leaveFrames {l : Launch} (hfl : l.stackTraces = false) {E : EE} {κ κ' : K} {a0 : Nat} (h0 : PC 2 E 0 a0 0) {rr : Unit} (h : f_X1_leaveFrames E κ a0 = some (κ', rr)) : Con l yX1_leaveFrames cX1_leaveFrames 2 none 2 22 [.inr (some (0, a0, 0))] (E, κ) (E, κ') none := by
  exact Con_of hfl (by decide +kernel) (Nat.le_of_ble_eq_true rfl) rfl rfl (fun X B g O hKP hmL hE => w_X1_leaveFrames hfl O hKP hmL hE h0 _ h)
def f_X3_copyFrom (E : EE) (κ : K) (f0 : Nat) (i0 : Nat) (c0 : Nat) (f1 : Nat) (i1 : Nat) (c1 : Nat) : Option (K × Unit) := gd (¬ (0 : Int32) < 0 ∧ ¬ (0 : Int32) < 0 ∧ ¬ (4 : Int32) < 0 ∧ (0 : Int32).toNatClampNeg + (4 : Int32).toNatClampNeg ≤ 4 ∧ (0 : Int32).toNatClampNeg + (4 : Int32).toNatClampNeg ≤ 4) (nm (setA κ f0 i0 (c0 + 1) (va_cpy (kV κ f1 i1 (c1 + 1)) (kV κ f0 i0 (c0 + 1)) (0 : Int32).toNatClampNeg (0 : Int32).toNatClampNeg (4 : Int32).toNatClampNeg)) fun κ1 => gd (¬ (0 : Int32) < 0 ∧ ¬ (0 : Int32) < 0 ∧ ¬ (8 : Int32) < 0 ∧ (0 : Int32).toNatClampNeg + (8 : Int32).toNatClampNeg ≤ 8 ∧ (0 : Int32).toNatClampNeg + (8 : Int32).toNatClampNeg ≤ 8) (nm (setA κ1 f0 i0 (c0 + 2) (va_cpy (kV κ1 f1 i1 (c1 + 2)) (kV κ1 f0 i0 (c0 + 2)) (0 : Int32).toNatClampNeg (0 : Int32).toNatClampNeg (8 : Int32).toNatClampNeg)) fun κ3 => gd (¬ (0 : Int32) < 0 ∧ ¬ (0 : Int32) < 0 ∧ ¬ (32 : Int32) < 0 ∧ (0 : Int32).toNatClampNeg + (32 : Int32).toNatClampNeg ≤ 32 ∧ (0 : Int32).toNatClampNeg + (32 : Int32).toNatClampNeg ≤ 32) (nm (setA κ3 f0 i0 (c0 + 3) (va_cpy (kV κ3 f1 i1 (c1 + 3)) (kV κ3 f0 i0 (c0 + 3)) (0 : Int32).toNatClampNeg (0 : Int32).toNatClampNeg (32 : Int32).toNatClampNeg)) fun κ5 => nm (setV κ5 f0 i0 c0 3 (kV κ5 f1 i1 c1 3)) fun κ7 => nm (setV κ7 f0 i0 c0 4 (kV κ7 f1 i1 c1 4)) fun κ8 => nm (setV κ8 f0 i0 c0 5 (kV κ8 f1 i1 c1 5)) fun κ9 => nm (setV κ9 f0 i0 c0 6 (kV κ9 f1 i1 c1 6)) fun κ10 => gd (kV κ10 f1 i1 c1 7 = 0 ∨ kV κ10 f1 i1 c1 7 = 1) (nm (setV κ10 f0 i0 c0 7 (kV κ10 f1 i1 c1 7)) fun κ11 => nm (setV κ11 f0 i0 c0 8 (kV κ11 f1 i1 c1 8)) fun κ13 => some (κ13, ())))))
set_option maxHeartbeats 4000000 in
set_option maxRecDepth 100000 in
theorem w_X3_copyFrom {l0 : Launch} (hfl : l0.stackTraces = false) {X : MX} {B : BX (EE × K)} {g : GP} {E : EE} {κ' : K} {rr : Unit} {f0 : Nat} {i0 : Nat} {c0 : Nat} {f1 : Nat} {i1 : Nat} {c1 : Nat} (O : CK l0 X B g cX3_copyFrom RX3 2 100) (hKP : KPok B E) (hmL : B.2.2.2.1 = 2) (hE : ∀ (pc : Nat) (lv : List (Nat × AV)), decode cX3_copyFrom pc = .ok (.return_, 1) → J X B (E, κ') pc lv []) (h0 : PC 4 E f0 i0 c0) (h1 : PC 4 E f1 i1 c1) : ∀ (κ : K), f_X3_copyFrom E κ f0 i0 c0 f1 i1 c1 = some (κ', rr) → J X B (E, κ) 0 [(0, .inr (some (f0, i0, c0))), (1, .inr (some (f1, i1, c1)))] [] := by
  intro κ h
  unfold f_X3_copyFrom at h
  refine J_aload_n O.mo dX3_copyFrom_0 1 rfl ?_
  refine J_getF O.co (kd0 := 4) (k4_0 h1) (l4_0 h1) (C := RX3) (T := TX3) (N := 9) rfl (by decide) rfl in_X3 0 (by decide) (v := .inr (some (f1, i1, c1 + 1))) rfl mw132 rfl dX3_copyFrom_1 ?_
  refine J_iconst O.mo (v := 0) dX3_copyFrom_4 (by decide) ?_
  refine J_aload_n O.mo dX3_copyFrom_5 0 rfl ?_
  refine J_getF O.co (kd0 := 4) (k4_0 h0) (l4_0 h0) (C := RX3) (T := TX3) (N := 9) rfl (by decide) rfl in_X3 0 (by decide) (v := .inr (some (f0, i0, c0 + 1))) rfl mw132 rfl dX3_copyFrom_6 ?_
  refine J_iconst O.mo (v := 0) dX3_copyFrom_9 (by decide) ?_
  refine J_iconst O.mo (v := 4) dX3_copyFrom_10 (by decide) ?_
  obtain ⟨hg2, h⟩ := gd_some h
  refine J_acopy20 O (f0 := (kV κ f1 i1 (c1 + 1))) (ct_20n (l4_1 h1) (k4_1 h1) (n4_1 h1)) (l4_1 h0) (k4_1 h0) (n4_1 h0) hg2.1 hg2.2.1 hg2.2.2.1 hg2.2.2.2.1 hg2.2.2.2.2 mw258 mw29 mw30 mw31 (by decide) (Nat.le_of_ble_eq_true rfl) rfl dX3_copyFrom_11 ?_
  refine nm_some (P := fun z => J X B (E, z) 14 [(0, .inr (some (f0, i0, c0))), (1, .inr (some (f1, i1, c1)))] []) h (fun κ1 h => ?_)
  refine J_aload_n O.mo dX3_copyFrom_14 1 rfl ?_
  refine J_getF O.co (kd0 := 4) (k4_0 h1) (l4_0 h1) (C := RX3) (T := TX3) (N := 9) rfl (by decide) rfl in_X3 1 (by decide) (v := .inr (some (f1, i1, c1 + 2))) rfl mw133 rfl dX3_copyFrom_15 ?_
  refine J_iconst O.mo (v := 0) dX3_copyFrom_18 (by decide) ?_
  refine J_aload_n O.mo dX3_copyFrom_19 0 rfl ?_
  refine J_getF O.co (kd0 := 4) (k4_0 h0) (l4_0 h0) (C := RX3) (T := TX3) (N := 9) rfl (by decide) rfl in_X3 1 (by decide) (v := .inr (some (f0, i0, c0 + 2))) rfl mw133 rfl dX3_copyFrom_20 ?_
  refine J_iconst O.mo (v := 0) dX3_copyFrom_23 (by decide) ?_
  refine J_bipush O.mo (v := 8) dX3_copyFrom_24 (by decide) ?_
  obtain ⟨hg4, h⟩ := gd_some h
  refine J_acopy20 O (f0 := (kV κ1 f1 i1 (c1 + 2))) (ct_20n (l4_2 h1) (k4_2 h1) (n4_2 h1)) (l4_2 h0) (k4_2 h0) (n4_2 h0) hg4.1 hg4.2.1 hg4.2.2.1 hg4.2.2.2.1 hg4.2.2.2.2 mw258 mw29 mw30 mw31 (by decide) (Nat.le_of_ble_eq_true rfl) rfl dX3_copyFrom_26 ?_
  refine nm_some (P := fun z => J X B (E, z) 29 [(0, .inr (some (f0, i0, c0))), (1, .inr (some (f1, i1, c1)))] []) h (fun κ3 h => ?_)
  refine J_aload_n O.mo dX3_copyFrom_29 1 rfl ?_
  refine J_getF O.co (kd0 := 4) (k4_0 h1) (l4_0 h1) (C := RX3) (T := TX3) (N := 9) rfl (by decide) rfl in_X3 2 (by decide) (v := .inr (some (f1, i1, c1 + 3))) rfl mw145 rfl dX3_copyFrom_30 ?_
  refine J_iconst O.mo (v := 0) dX3_copyFrom_33 (by decide) ?_
  refine J_aload_n O.mo dX3_copyFrom_34 0 rfl ?_
  refine J_getF O.co (kd0 := 4) (k4_0 h0) (l4_0 h0) (C := RX3) (T := TX3) (N := 9) rfl (by decide) rfl in_X3 2 (by decide) (v := .inr (some (f0, i0, c0 + 3))) rfl mw145 rfl dX3_copyFrom_35 ?_
  refine J_iconst O.mo (v := 0) dX3_copyFrom_38 (by decide) ?_
  refine J_bipush O.mo (v := 32) dX3_copyFrom_39 (by decide) ?_
  obtain ⟨hg6, h⟩ := gd_some h
  refine J_acopy20 O (f0 := (kV κ3 f1 i1 (c1 + 3))) (ct_20n (l4_3 h1) (k4_3 h1) (n4_3 h1)) (l4_3 h0) (k4_3 h0) (n4_3 h0) hg6.1 hg6.2.1 hg6.2.2.1 hg6.2.2.2.1 hg6.2.2.2.2 mw258 mw29 mw30 mw31 (by decide) (Nat.le_of_ble_eq_true rfl) rfl dX3_copyFrom_41 ?_
  refine nm_some (P := fun z => J X B (E, z) 44 [(0, .inr (some (f0, i0, c0))), (1, .inr (some (f1, i1, c1)))] []) h (fun κ5 h => ?_)
  refine J_aload_n O.mo dX3_copyFrom_44 0 rfl ?_
  refine J_aload_n O.mo dX3_copyFrom_45 1 rfl ?_
  refine J_getF O.co (kd0 := 4) (k4_0 h1) (l4_0 h1) (C := RX3) (T := TX3) (N := 9) rfl (by decide) rfl in_X3 3 (by decide) (v := .inl (.int (kV κ5 f1 i1 c1 3))) rfl mw126 rfl dX3_copyFrom_46 ?_
  refine J_putI O.co (kd0 := 4) (k4_0 h0) (l4_0 h0) (C := RX3) (T := TX3) (N := 9) rfl (by decide) rfl in_X3 tyX3 tyX3_ok nmX3 3 (by decide) rfl rfl (x := (kV κ5 f1 i1 c1 3)) (Or.inl rfl) mw126 dX3_copyFrom_49 ?_
  refine nm_some (P := fun z => J X B (E, z) 52 [(0, .inr (some (f0, i0, c0))), (1, .inr (some (f1, i1, c1)))] []) h (fun κ7 h => ?_)
  refine J_aload_n O.mo dX3_copyFrom_52 0 rfl ?_
  refine J_aload_n O.mo dX3_copyFrom_53 1 rfl ?_
  refine J_getF O.co (kd0 := 4) (k4_0 h1) (l4_0 h1) (C := RX3) (T := TX3) (N := 9) rfl (by decide) rfl in_X3 4 (by decide) (v := .inl (.int (kV κ7 f1 i1 c1 4))) rfl mw146 rfl dX3_copyFrom_54 ?_
  refine J_putI O.co (kd0 := 4) (k4_0 h0) (l4_0 h0) (C := RX3) (T := TX3) (N := 9) rfl (by decide) rfl in_X3 tyX3 tyX3_ok nmX3 4 (by decide) rfl rfl (x := (kV κ7 f1 i1 c1 4)) (Or.inl rfl) mw146 dX3_copyFrom_57 ?_
  refine nm_some (P := fun z => J X B (E, z) 60 [(0, .inr (some (f0, i0, c0))), (1, .inr (some (f1, i1, c1)))] []) h (fun κ8 h => ?_)
  refine J_aload_n O.mo dX3_copyFrom_60 0 rfl ?_
  refine J_aload_n O.mo dX3_copyFrom_61 1 rfl ?_
  refine J_getF O.co (kd0 := 4) (k4_0 h1) (l4_0 h1) (C := RX3) (T := TX3) (N := 9) rfl (by decide) rfl in_X3 5 (by decide) (v := .inl (.int (kV κ8 f1 i1 c1 5))) rfl mw148 rfl dX3_copyFrom_62 ?_
  refine J_putI O.co (kd0 := 4) (k4_0 h0) (l4_0 h0) (C := RX3) (T := TX3) (N := 9) rfl (by decide) rfl in_X3 tyX3 tyX3_ok nmX3 5 (by decide) rfl rfl (x := (kV κ8 f1 i1 c1 5)) (Or.inl rfl) mw148 dX3_copyFrom_65 ?_
  refine nm_some (P := fun z => J X B (E, z) 68 [(0, .inr (some (f0, i0, c0))), (1, .inr (some (f1, i1, c1)))] []) h (fun κ9 h => ?_)
  refine J_aload_n O.mo dX3_copyFrom_68 0 rfl ?_
  refine J_aload_n O.mo dX3_copyFrom_69 1 rfl ?_
  refine J_getF O.co (kd0 := 4) (k4_0 h1) (l4_0 h1) (C := RX3) (T := TX3) (N := 9) rfl (by decide) rfl in_X3 6 (by decide) (v := .inl (.int (kV κ9 f1 i1 c1 6))) rfl mw149 rfl dX3_copyFrom_70 ?_
  refine J_putI O.co (kd0 := 4) (k4_0 h0) (l4_0 h0) (C := RX3) (T := TX3) (N := 9) rfl (by decide) rfl in_X3 tyX3 tyX3_ok nmX3 6 (by decide) rfl rfl (x := (kV κ9 f1 i1 c1 6)) (Or.inl rfl) mw149 dX3_copyFrom_73 ?_
  refine nm_some (P := fun z => J X B (E, z) 76 [(0, .inr (some (f0, i0, c0))), (1, .inr (some (f1, i1, c1)))] []) h (fun κ10 h => ?_)
  refine J_aload_n O.mo dX3_copyFrom_76 0 rfl ?_
  refine J_aload_n O.mo dX3_copyFrom_77 1 rfl ?_
  refine J_getF O.co (kd0 := 4) (k4_0 h1) (l4_0 h1) (C := RX3) (T := TX3) (N := 9) rfl (by decide) rfl in_X3 7 (by decide) (v := .inl (.int (kV κ10 f1 i1 c1 7))) rfl mw147 rfl dX3_copyFrom_78 ?_
  obtain ⟨hg12, h⟩ := gd_some h
  refine J_putI O.co (kd0 := 4) (k4_0 h0) (l4_0 h0) (C := RX3) (T := TX3) (N := 9) rfl (by decide) rfl in_X3 tyX3 tyX3_ok nmX3 7 (by decide) rfl rfl (x := (kV κ10 f1 i1 c1 7)) (Or.inr ⟨rfl, hg12⟩) mw147 dX3_copyFrom_81 ?_
  refine nm_some (P := fun z => J X B (E, z) 84 [(0, .inr (some (f0, i0, c0))), (1, .inr (some (f1, i1, c1)))] []) h (fun κ11 h => ?_)
  refine J_aload_n O.mo dX3_copyFrom_84 0 rfl ?_
  refine J_aload_n O.mo dX3_copyFrom_85 1 rfl ?_
  refine J_getF O.co (kd0 := 4) (k4_0 h1) (l4_0 h1) (C := RX3) (T := TX3) (N := 9) rfl (by decide) rfl in_X3 8 (by decide) (v := .inl (.int (kV κ11 f1 i1 c1 8))) rfl mw127 rfl dX3_copyFrom_86 ?_
  refine J_putI O.co (kd0 := 4) (k4_0 h0) (l4_0 h0) (C := RX3) (T := TX3) (N := 9) rfl (by decide) rfl in_X3 tyX3 tyX3_ok nmX3 8 (by decide) rfl rfl (x := (kV κ11 f1 i1 c1 8)) (Or.inl rfl) mw127 dX3_copyFrom_89 ?_
  refine nm_some (P := fun z => J X B (E, z) 92 [(0, .inr (some (f0, i0, c0))), (1, .inr (some (f1, i1, c1)))] []) h (fun κ13 h => ?_)
  cases h
  exact hE _ _ dX3_copyFrom_92
theorem c_X3_copyFrom {l : Launch} (hfl : l.stackTraces = false) {E : EE} {κ κ' : K} {f0 : Nat} {i0 : Nat} {c0 : Nat} {f1 : Nat} {i1 : Nat} {c1 : Nat} (h0 : PC 4 E f0 i0 c0) (h1 : PC 4 E f1 i1 c1) {rr : Unit} (h : f_X3_copyFrom E κ f0 i0 c0 f1 i1 c1 = some (κ', rr)) : Con l yX3_copyFrom cX3_copyFrom 2 none 2 100 [.inr (some (f0, i0, c0)), .inr (some (f1, i1, c1))] (E, κ) (E, κ') none := by
  exact Con_of hfl (by decide +kernel) (Nat.le_of_ble_eq_true rfl) rfl rfl (fun X B g O hKP hmL hE => w_X3_copyFrom hfl O hKP hmL hE h0 h1 _ h)
def f_X8_copyFrom (E : EE) (κ : K) (f0 : Nat) (i0 : Nat) (c0 : Nat) (f1 : Nat) (i1 : Nat) (c1 : Nat) : Option (K × Unit) := bd (f_X3_copyFrom E κ f0 i0 (c0 + 1) f1 i1 (c1 + 1)) fun κ1 _ => bd (f_X4_copyFrom E κ1 f0 i0 (c0 + 5) f1 i1 (c1 + 5)) fun κ4 _ => bd (f_X4_copyFrom E κ4 f0 i0 (c0 + 7) f1 i1 (c1 + 7)) fun κ7 _ => bd (f_X4_copyFrom E κ7 f0 i0 (c0 + 9) f1 i1 (c1 + 9)) fun κ10 _ => bd (f_X4_copyFrom E κ10 f0 i0 (c0 + 11) f1 i1 (c1 + 11)) fun κ13 _ => nm (setV κ13 f0 i0 c0 5 (kV κ13 f1 i1 c1 5)) fun κ16 => nm (setV κ16 f0 i0 c0 6 (kV κ16 f1 i1 c1 6)) fun κ17 => gd (kV κ17 f1 i1 c1 7 = 0 ∨ kV κ17 f1 i1 c1 7 = 1) (nm (setV κ17 f0 i0 c0 7 (kV κ17 f1 i1 c1 7)) fun κ18 => gd (kV κ18 f1 i1 c1 8 = 0 ∨ kV κ18 f1 i1 c1 8 = 1) (nm (setV κ18 f0 i0 c0 8 (kV κ18 f1 i1 c1 8)) fun κ20 => nm (setV κ20 f0 i0 c0 9 (kV κ20 f1 i1 c1 9)) fun κ22 => some (κ22, ())))
set_option maxHeartbeats 4000000 in
set_option maxRecDepth 100000 in
theorem w_X8_copyFrom {l0 : Launch} (hfl : l0.stackTraces = false) {X : MX} {B : BX (EE × K)} {g : GP} {E : EE} {κ' : K} {rr : Unit} {f0 : Nat} {i0 : Nat} {c0 : Nat} {f1 : Nat} {i1 : Nat} {c1 : Nat} (O : CK l0 X B g cX8_copyFrom RX8 3 121) (hKP : KPok B E) (hmL : B.2.2.2.1 = 2) (hE : ∀ (pc : Nat) (lv : List (Nat × AV)), decode cX8_copyFrom pc = .ok (.return_, 1) → J X B (E, κ') pc lv []) (h0 : PC 9 E f0 i0 c0) (h1 : PC 9 E f1 i1 c1) : ∀ (κ : K), f_X8_copyFrom E κ f0 i0 c0 f1 i1 c1 = some (κ', rr) → J X B (E, κ) 0 [(0, .inr (some (f0, i0, c0))), (1, .inr (some (f1, i1, c1)))] [] := by
  intro κ h
  unfold f_X8_copyFrom at h
  refine J_aload_n O.mo dX8_copyFrom_0 0 rfl ?_
  refine J_getF O.co (kd0 := 9) (k9_0 h0) (l9_0 h0) (C := RX8) (T := TX8) (N := 10) rfl (by decide) rfl in_X8 0 (by decide) (v := .inr (some (f0, i0, c0 + 1))) rfl mw234 rfl dX8_copyFrom_1 ?_
  refine J_aload_n O.mo dX8_copyFrom_4 1 rfl ?_
  refine J_getF O.co (kd0 := 9) (k9_0 h1) (l9_0 h1) (C := RX8) (T := TX8) (N := 10) rfl (by decide) rfl in_X8 0 (by decide) (v := .inr (some (f1, i1, c1 + 1))) rfl mw234 rfl dX8_copyFrom_5 ?_
  obtain ⟨κ1, r3, hq2, h⟩ := bd_some h
  refine J_callV O hKP (as := [.inr (some (f1, i1, c1 + 1))]) (rest := []) (r := none) (c_X3_copyFrom hfl (sub_9_1_4 h0) (sub_9_1_4 h1) hq2) rfl (kd0 := 4) (k9_1 h0) (l9_1 h0) (T := TX3) (N := 9) rfl (by decide) mw259 mw260 mw261 mw137 mw262 pd_X3_copyFrom rfl (by decide) rfl (Nat.le_of_ble_eq_true rfl) (sl_p (s9_0 h0) (sl_p (s9_0 h1) sl_0)) st_0 dX8_copyFrom_8 ?_
  show J X B (E, κ1) 11 [(0, .inr (some (f0, i0, c0))), (1, .inr (some (f1, i1, c1)))] []
  refine J_aload_n O.mo dX8_copyFrom_11 0 rfl ?_
  refine J_getF O.co (kd0 := 9) (k9_0 h0) (l9_0 h0) (C := RX8) (T := TX8) (N := 10) rfl (by decide) rfl in_X8 1 (by decide) (v := .inr (some (f0, i0, c0 + 5))) rfl mw263 rfl dX8_copyFrom_12 ?_
  refine J_aload_n O.mo dX8_copyFrom_15 1 rfl ?_
  refine J_getF O.co (kd0 := 9) (k9_0 h1) (l9_0 h1) (C := RX8) (T := TX8) (N := 10) rfl (by decide) rfl in_X8 1 (by decide) (v := .inr (some (f1, i1, c1 + 5))) rfl mw263 rfl dX8_copyFrom_16 ?_
  obtain ⟨κ4, r6, hq5, h⟩ := bd_some h
  refine J_callV O hKP (as := [.inr (some (f1, i1, c1 + 5))]) (rest := []) (r := none) (c_X4_copyFrom hfl (sub_9_5_5 h0) (sub_9_5_5 h1) hq5) rfl (kd0 := 5) (k9_5 h0) (l9_5 h0) (T := TX4) (N := 2) rfl (by decide) mw264 mw265 mw266 mw56 mw267 pd_X4_copyFrom rfl (by decide) rfl (Nat.le_of_ble_eq_true rfl) (sl_p (s9_0 h0) (sl_p (s9_0 h1) sl_0)) st_0 dX8_copyFrom_19 ?_
  show J X B (E, κ4) 22 [(0, .inr (some (f0, i0, c0))), (1, .inr (some (f1, i1, c1)))] []
  refine J_aload_n O.mo dX8_copyFrom_22 0 rfl ?_
  refine J_getF O.co (kd0 := 9) (k9_0 h0) (l9_0 h0) (C := RX8) (T := TX8) (N := 10) rfl (by decide) rfl in_X8 2 (by decide) (v := .inr (some (f0, i0, c0 + 7))) rfl mw268 rfl dX8_copyFrom_23 ?_
  refine J_aload_n O.mo dX8_copyFrom_26 1 rfl ?_
  refine J_getF O.co (kd0 := 9) (k9_0 h1) (l9_0 h1) (C := RX8) (T := TX8) (N := 10) rfl (by decide) rfl in_X8 2 (by decide) (v := .inr (some (f1, i1, c1 + 7))) rfl mw268 rfl dX8_copyFrom_27 ?_
  obtain ⟨κ7, r9, hq8, h⟩ := bd_some h
  refine J_callV O hKP (as := [.inr (some (f1, i1, c1 + 7))]) (rest := []) (r := none) (c_X4_copyFrom hfl (sub_9_7_5 h0) (sub_9_7_5 h1) hq8) rfl (kd0 := 5) (k9_7 h0) (l9_7 h0) (T := TX4) (N := 2) rfl (by decide) mw264 mw265 mw266 mw56 mw267 pd_X4_copyFrom rfl (by decide) rfl (Nat.le_of_ble_eq_true rfl) (sl_p (s9_0 h0) (sl_p (s9_0 h1) sl_0)) st_0 dX8_copyFrom_30 ?_
  show J X B (E, κ7) 33 [(0, .inr (some (f0, i0, c0))), (1, .inr (some (f1, i1, c1)))] []
  refine J_aload_n O.mo dX8_copyFrom_33 0 rfl ?_
  refine J_getF O.co (kd0 := 9) (k9_0 h0) (l9_0 h0) (C := RX8) (T := TX8) (N := 10) rfl (by decide) rfl in_X8 3 (by decide) (v := .inr (some (f0, i0, c0 + 9))) rfl mw269 rfl dX8_copyFrom_34 ?_
  refine J_aload_n O.mo dX8_copyFrom_37 1 rfl ?_
  refine J_getF O.co (kd0 := 9) (k9_0 h1) (l9_0 h1) (C := RX8) (T := TX8) (N := 10) rfl (by decide) rfl in_X8 3 (by decide) (v := .inr (some (f1, i1, c1 + 9))) rfl mw269 rfl dX8_copyFrom_38 ?_
  obtain ⟨κ10, r12, hq11, h⟩ := bd_some h
  refine J_callV O hKP (as := [.inr (some (f1, i1, c1 + 9))]) (rest := []) (r := none) (c_X4_copyFrom hfl (sub_9_9_5 h0) (sub_9_9_5 h1) hq11) rfl (kd0 := 5) (k9_9 h0) (l9_9 h0) (T := TX4) (N := 2) rfl (by decide) mw264 mw265 mw266 mw56 mw267 pd_X4_copyFrom rfl (by decide) rfl (Nat.le_of_ble_eq_true rfl) (sl_p (s9_0 h0) (sl_p (s9_0 h1) sl_0)) st_0 dX8_copyFrom_41 ?_
  show J X B (E, κ10) 44 [(0, .inr (some (f0, i0, c0))), (1, .inr (some (f1, i1, c1)))] []
  refine J_aload_n O.mo dX8_copyFrom_44 0 rfl ?_
  refine J_getF O.co (kd0 := 9) (k9_0 h0) (l9_0 h0) (C := RX8) (T := TX8) (N := 10) rfl (by decide) rfl in_X8 4 (by decide) (v := .inr (some (f0, i0, c0 + 11))) rfl mw237 rfl dX8_copyFrom_45 ?_
  refine J_aload_n O.mo dX8_copyFrom_48 1 rfl ?_
  refine J_getF O.co (kd0 := 9) (k9_0 h1) (l9_0 h1) (C := RX8) (T := TX8) (N := 10) rfl (by decide) rfl in_X8 4 (by decide) (v := .inr (some (f1, i1, c1 + 11))) rfl mw237 rfl dX8_copyFrom_49 ?_
  obtain ⟨κ13, r15, hq14, h⟩ := bd_some h
  refine J_callV O hKP (as := [.inr (some (f1, i1, c1 + 11))]) (rest := []) (r := none) (c_X4_copyFrom hfl (sub_9_11_5 h0) (sub_9_11_5 h1) hq14) rfl (kd0 := 5) (k9_11 h0) (l9_11 h0) (T := TX4) (N := 2) rfl (by decide) mw264 mw265 mw266 mw56 mw267 pd_X4_copyFrom rfl (by decide) rfl (Nat.le_of_ble_eq_true rfl) (sl_p (s9_0 h0) (sl_p (s9_0 h1) sl_0)) st_0 dX8_copyFrom_52 ?_
  show J X B (E, κ13) 55 [(0, .inr (some (f0, i0, c0))), (1, .inr (some (f1, i1, c1)))] []
  refine J_aload_n O.mo dX8_copyFrom_55 0 rfl ?_
  refine J_aload_n O.mo dX8_copyFrom_56 1 rfl ?_
  refine J_getF O.co (kd0 := 9) (k9_0 h1) (l9_0 h1) (C := RX8) (T := TX8) (N := 10) rfl (by decide) rfl in_X8 5 (by decide) (v := .inl (.int (kV κ13 f1 i1 c1 5))) rfl mw238 rfl dX8_copyFrom_57 ?_
  refine J_putI O.co (kd0 := 9) (k9_0 h0) (l9_0 h0) (C := RX8) (T := TX8) (N := 10) rfl (by decide) rfl in_X8 tyX8 tyX8_ok nmX8 5 (by decide) rfl rfl (x := (kV κ13 f1 i1 c1 5)) (Or.inl rfl) mw238 dX8_copyFrom_60 ?_
  refine nm_some (P := fun z => J X B (E, z) 63 [(0, .inr (some (f0, i0, c0))), (1, .inr (some (f1, i1, c1)))] []) h (fun κ16 h => ?_)
  refine J_aload_n O.mo dX8_copyFrom_63 0 rfl ?_
  refine J_aload_n O.mo dX8_copyFrom_64 1 rfl ?_
  refine J_getF O.co (kd0 := 9) (k9_0 h1) (l9_0 h1) (C := RX8) (T := TX8) (N := 10) rfl (by decide) rfl in_X8 6 (by decide) (v := .inl (.int (kV κ16 f1 i1 c1 6))) rfl mw270 rfl dX8_copyFrom_65 ?_
  refine J_putI O.co (kd0 := 9) (k9_0 h0) (l9_0 h0) (C := RX8) (T := TX8) (N := 10) rfl (by decide) rfl in_X8 tyX8 tyX8_ok nmX8 6 (by decide) rfl rfl (x := (kV κ16 f1 i1 c1 6)) (Or.inl rfl) mw270 dX8_copyFrom_68 ?_
  refine nm_some (P := fun z => J X B (E, z) 71 [(0, .inr (some (f0, i0, c0))), (1, .inr (some (f1, i1, c1)))] []) h (fun κ17 h => ?_)
  refine J_aload_n O.mo dX8_copyFrom_71 0 rfl ?_
  refine J_aload_n O.mo dX8_copyFrom_72 1 rfl ?_
  refine J_getF O.co (kd0 := 9) (k9_0 h1) (l9_0 h1) (C := RX8) (T := TX8) (N := 10) rfl (by decide) rfl in_X8 7 (by decide) (v := .inl (.int (kV κ17 f1 i1 c1 7))) rfl mw119 rfl dX8_copyFrom_73 ?_
  obtain ⟨hg19, h⟩ := gd_some h
  refine J_putI O.co (kd0 := 9) (k9_0 h0) (l9_0 h0) (C := RX8) (T := TX8) (N := 10) rfl (by decide) rfl in_X8 tyX8 tyX8_ok nmX8 7 (by decide) rfl rfl (x := (kV κ17 f1 i1 c1 7)) (Or.inr ⟨rfl, hg19⟩) mw119 dX8_copyFrom_76 ?_
  refine nm_some (P := fun z => J X B (E, z) 79 [(0, .inr (some (f0, i0, c0))), (1, .inr (some (f1, i1, c1)))] []) h (fun κ18 h => ?_)
  refine J_aload_n O.mo dX8_copyFrom_79 0 rfl ?_
  refine J_aload_n O.mo dX8_copyFrom_80 1 rfl ?_
  refine J_getF O.co (kd0 := 9) (k9_0 h1) (l9_0 h1) (C := RX8) (T := TX8) (N := 10) rfl (by decide) rfl in_X8 8 (by decide) (v := .inl (.int (kV κ18 f1 i1 c1 8))) rfl mw120 rfl dX8_copyFrom_81 ?_
  obtain ⟨hg21, h⟩ := gd_some h
  refine J_putI O.co (kd0 := 9) (k9_0 h0) (l9_0 h0) (C := RX8) (T := TX8) (N := 10) rfl (by decide) rfl in_X8 tyX8 tyX8_ok nmX8 8 (by decide) rfl rfl (x := (kV κ18 f1 i1 c1 8)) (Or.inr ⟨rfl, hg21⟩) mw120 dX8_copyFrom_84 ?_
  refine nm_some (P := fun z => J X B (E, z) 87 [(0, .inr (some (f0, i0, c0))), (1, .inr (some (f1, i1, c1)))] []) h (fun κ20 h => ?_)
  refine J_aload_n O.mo dX8_copyFrom_87 0 rfl ?_
  refine J_aload_n O.mo dX8_copyFrom_88 1 rfl ?_
  refine J_getF O.co (kd0 := 9) (k9_0 h1) (l9_0 h1) (C := RX8) (T := TX8) (N := 10) rfl (by decide) rfl in_X8 9 (by decide) (v := .inl (.int (kV κ20 f1 i1 c1 9))) rfl mw271 rfl dX8_copyFrom_89 ?_
  refine J_putI O.co (kd0 := 9) (k9_0 h0) (l9_0 h0) (C := RX8) (T := TX8) (N := 10) rfl (by decide) rfl in_X8 tyX8 tyX8_ok nmX8 9 (by decide) rfl rfl (x := (kV κ20 f1 i1 c1 9)) (Or.inl rfl) mw271 dX8_copyFrom_92 ?_
  refine nm_some (P := fun z => J X B (E, z) 95 [(0, .inr (some (f0, i0, c0))), (1, .inr (some (f1, i1, c1)))] []) h (fun κ22 h => ?_)
  cases h
  exact hE _ _ dX8_copyFrom_95
theorem c_X8_copyFrom {l : Launch} (hfl : l.stackTraces = false) {E : EE} {κ κ' : K} {f0 : Nat} {i0 : Nat} {c0 : Nat} {f1 : Nat} {i1 : Nat} {c1 : Nat} (h0 : PC 9 E f0 i0 c0) (h1 : PC 9 E f1 i1 c1) {rr : Unit} (h : f_X8_copyFrom E κ f0 i0 c0 f1 i1 c1 = some (κ', rr)) : Con l yX8_copyFrom cX8_copyFrom 2 none 3 121 [.inr (some (f0, i0, c0)), .inr (some (f1, i1, c1))] (E, κ) (E, κ') none := by
  exact Con_of hfl (by decide +kernel) (Nat.le_of_ble_eq_true rfl) rfl rfl (fun X B g O hKP hmL hE => w_X8_copyFrom hfl O hKP hmL hE h0 h1 _ h)
def f_X8_isZero_b2 (E : EE) (f0 : Nat) (i0 : Nat) (c0 : Nat) : Nat → K → Int32 → Int32 → Option (K × Int32)
  | 0, _, _, _ => none
  | n + 1, κ, x1, x2 => if 4 ≤ x2 then some (κ, 1) else gd (¬ (((x1 * 4) + x2) < 0 ∨ 32 ≤ ((x1 * 4) + x2).toNatClampNeg)) (if (kV κ f0 i0 (c0 + 4)) ((x1 * 4) + x2).toNatClampNeg = 0 then nm (x2 + 1) fun y4 => f_X8_isZero_b2 E f0 i0 c0 n κ x1 y4 else some (κ, 0))
def f_X8_isZero_e (E : EE) (κ : K) (f0 : Nat) (i0 : Nat) (c0 : Nat) (a1 : Int32) : Option (K × Int32) := f_X8_isZero_b2 E f0 i0 c0 FU κ a1 0
def f_X8_isZero (E : EE) (κ : K) (f0 : Nat) (i0 : Nat) (c0 : Nat) (a1 : Int32) : Option (K × Int32) := bd (f_X8_isZero_e E κ f0 i0 c0 a1) fun κ x => gd (x = 0 ∨ x = 1) (some (κ, x))
set_option maxHeartbeats 4000000 in
set_option maxRecDepth 100000 in
theorem w_X8_isZero_b2 {l0 : Launch} (hfl : l0.stackTraces = false) {X : MX} {B : BX (EE × K)} {g : GP} {E : EE} {κ' : K} {rr : Int32} {f0 : Nat} {i0 : Nat} {c0 : Nat} (O : CK l0 X B g cX8_isZero RX8 1 0) (hKP : KPok B E) (hmL : B.2.2.2.1 = 3) (hE : ∀ (pc : Nat) (lv : List (Nat × AV)), decode cX8_isZero pc = .ok (.ireturn, 1) → J X B (E, κ') pc lv [.inl (.int rr)]) (h0 : PC 9 E f0 i0 c0) : ∀ (n : Nat) (κ : K) (x1 : Int32) (x2 : Int32), f_X8_isZero_b2 E f0 i0 c0 n κ x1 x2 = some (κ', rr) → J X B (E, κ) 2 [(0, .inr (some (f0, i0, c0))), (1, .inl (.int x1)), (2, .inl (.int x2))] [] := by
  intro n
  induction n with
  | zero => intro κ x1 x2 h; cases h
  | succ n ih =>
    intro κ x1 x2 h
    rw [f_X8_isZero_b2] at h
    refine J_iload_n O.mo dX8_isZero_2 2 rfl ?_
    refine J_iconst O.mo (v := 4) dX8_isZero_3 (by decide) ?_
    refine J_icmp_ge O.mo (tgt := 31) dX8_isZero_4 (by decide) (fun hc1 => ?_) (fun hc1 => ?_)
    · replace h := (if_pos hc1).symm.trans h
      refine J_iconst O.mo (v := 1) dX8_isZero_31 (by decide) ?_
      cases h
      exact hE _ _ dX8_isZero_32
    · replace h := (if_neg hc1).symm.trans h
      refine J_aload_n O.mo dX8_isZero_7 0 rfl ?_
      refine J_getF O.co (kd0 := 9) (k9_0 h0) (l9_0 h0) (C := RX8) (T := TX8) (N := 10) rfl (by decide) rfl in_X8 0 (by decide) (v := .inr (some (f0, i0, c0 + 1))) rfl mw234 rfl dX8_isZero_8 ?_
      refine J_getF O.co (kd0 := 4) (k9_1 h0) (l9_1 h0) (C := RX3) (T := TX3) (N := 9) rfl (by decide) rfl in_X3 2 (by decide) (v := .inr (some (f0, i0, c0 + 4))) rfl mw282 rfl dX8_isZero_11 ?_
      refine J_iload_n O.mo dX8_isZero_14 1 rfl ?_
      refine J_iconst O.mo (v := 4) dX8_isZero_15 (by decide) ?_
      refine J_imul O.mo dX8_isZero_16 ?_
      refine J_iload_n O.mo dX8_isZero_17 2 rfl ?_
      refine J_iadd O.mo dX8_isZero_18 ?_
      obtain ⟨hg2, h⟩ := gd_some h
      refine J_iald O.co (g := (kV κ f0 i0 (c0 + 4))) (ct_20n (l9_4 h0) (k9_4 h0) (n9_4 h0)) hg2 dX8_isZero_19 ?_
      refine J_if_eq O.mo (tgt := 25) dX8_isZero_20 (by decide) (fun hc3 => ?_) (fun hc3 => ?_)
      · replace h := (if_pos hc3).symm.trans h
        refine J_iinc O.mo (v := x2 + 1) (lv' := [(0, .inr (some (f0, i0, c0))), (1, .inl (.int x1))]) dX8_isZero_25 (by rw [hmL]; decide) 2 rfl (by rw [show Int32.ofInt (1) = (1 : Int32) from by decide]) rfl rfl ?_
        refine nm_some (P := fun z => J X B (E, κ) 28 [(2, .inl (.int z)), (0, .inr (some (f0, i0, c0))), (1, .inl (.int x1))] []) h (fun y4 h => ?_)
        refine J_goto O.mo (tgt := 2) dX8_isZero_28 (by decide) ?_
        refine J_sub [1, 2, 0] rfl ?_
        exact ih _ _ _ h
      · replace h := (if_neg hc3).symm.trans h
        refine J_iconst O.mo (v := 0) dX8_isZero_23 (by decide) ?_
        cases h
        exact hE _ _ dX8_isZero_24
set_option maxHeartbeats 4000000 in
set_option maxRecDepth 100000 in
theorem w_X8_isZero_e {l0 : Launch} (hfl : l0.stackTraces = false) {X : MX} {B : BX (EE × K)} {g : GP} {E : EE} {κ' : K} {rr : Int32} {f0 : Nat} {i0 : Nat} {c0 : Nat} (O : CK l0 X B g cX8_isZero RX8 1 0) (hKP : KPok B E) (hmL : B.2.2.2.1 = 3) (hE : ∀ (pc : Nat) (lv : List (Nat × AV)), decode cX8_isZero pc = .ok (.ireturn, 1) → J X B (E, κ') pc lv [.inl (.int rr)]) (h0 : PC 9 E f0 i0 c0) : ∀ (κ : K) (a1 : Int32), f_X8_isZero_e E κ f0 i0 c0 a1 = some (κ', rr) → J X B (E, κ) 0 [(0, .inr (some (f0, i0, c0))), (1, .inl (.int a1))] [] := by
  intro κ a1 h
  unfold f_X8_isZero_e at h
  refine J_iconst O.mo (v := 0) dX8_isZero_0 (by decide) ?_
  refine J_istore_n O.mo (lv' := [(0, .inr (some (f0, i0, c0))), (1, .inl (.int a1))]) dX8_isZero_1 (by rw [hmL]; decide) rfl rfl ?_
  refine J_sub [1, 2, 0] rfl ?_
  exact w_X8_isZero_b2 hfl O hKP hmL hE h0 FU _ _ _ h
theorem c_X8_isZero {l : Launch} (hfl : l.stackTraces = false) {E : EE} {κ κ' : K} {f0 : Nat} {i0 : Nat} {c0 : Nat} {a1 : Int32} (h0 : PC 9 E f0 i0 c0) {rr : Int32} (h : f_X8_isZero E κ f0 i0 c0 a1 = some (κ', rr)) : Con l yX8_isZero cX8_isZero 3 (some .boolean) 1 0 [.inr (some (f0, i0, c0)), .inl (.int a1)] (E, κ) (E, κ') (some (.inl (.int rr))) := by
  unfold f_X8_isZero at h
  obtain ⟨κ1, x1, q1, q2⟩ := bd_some h
  obtain ⟨hb, q3⟩ := gd_some q2
  cases q3
  exact Con_of hfl (by decide +kernel) (Nat.le_of_ble_eq_true rfl) rfl ⟨_, rfl, nar_b hb⟩ (fun X B g O hKP hmL hE => w_X8_isZero_e hfl O hKP hmL hE h0 _ _ q1)
def f_X1_goBackTo_b54 (E : EE) (a0 : Nat) (f1 : Nat) (i1 : Nat) (c1 : Nat) (κ : K) : Option (K × Int32) := nm (setV κ 0 a0 0 15 ((-1))) fun κ9 => nm (setV κ9 0 a0 0 17 1) fun κ10 => nm (setV κ10 0 a0 0 18 0) fun κ11 => bd (f_J6_bitCount_0f7a4 E κ11 (kV κ11 0 a0 0 14)) fun κ12 r14 => some (κ12, 8 - r14)
def f_X1_goBackTo_b48 (E : EE) (a0 : Nat) (f1 : Nat) (i1 : Nat) (c1 : Nat) (k19 : K → Int32 → Option (K × Int32)) (κ : K) (x2 : Int32) : Option (K × Int32) := nm (x2 + 1) fun y19 => k19 κ y19
def f_X1_goBackTo_b19 (E : EE) (a0 : Nat) (f1 : Nat) (i1 : Nat) (c1 : Nat) : Nat → K → Int32 → Option (K × Int32)
  | 0, _, _ => none
  | n + 1, κ, x2 => if 8 ≤ x2 then f_X1_goBackTo_b54 E a0 f1 i1 c1 κ else bd (f_X8_isZero E κ 0 a0 5 x2) fun κ15 r17 => if r17 = 0 then f_X1_goBackTo_b48 E a0 f1 i1 c1 (f_X1_goBackTo_b19 E a0 f1 i1 c1 n) κ15 x2 else nm (setV κ15 0 a0 0 14 ((kV κ15 0 a0 0 14) ||| (1 <<< (x2 &&& 31)))) fun κ20 => f_X1_goBackTo_b48 E a0 f1 i1 c1 (f_X1_goBackTo_b19 E a0 f1 i1 c1 n) κ20 x2
def f_X1_goBackTo (E : EE) (κ : K) (a0 : Nat) (f1 : Nat) (i1 : Nat) (c1 : Nat) : Option (K × Int32) := bd (f_X1_leaveFrames E κ a0) fun κ1 _ => bd (f_X8_copyFrom E κ1 0 a0 5 f1 i1 c1) fun κ4 _ => nm (setV κ4 0 a0 0 14 0) fun κ7 => f_X1_goBackTo_b19 E a0 f1 i1 c1 FU κ7 0
set_option maxHeartbeats 4000000 in
set_option maxRecDepth 100000 in
theorem w_X1_goBackTo_b54 {l0 : Launch} (hfl : l0.stackTraces = false) {X : MX} {B : BX (EE × K)} {g : GP} {E : EE} {κ' : K} {rr : Int32} {a0 : Nat} {f1 : Nat} {i1 : Nat} {c1 : Nat} (O : CK l0 X B g cX1_goBackTo RX1 4 142) (hKP : KPok B E) (hmL : B.2.2.2.1 = 3) (hE : ∀ (pc : Nat) (lv : List (Nat × AV)), decode cX1_goBackTo pc = .ok (.ireturn, 1) → J X B (E, κ') pc lv [.inl (.int rr)]) (h0 : PC 2 E 0 a0 0) (h1 : PC 9 E f1 i1 c1) : ∀ (κ : K), f_X1_goBackTo_b54 E a0 f1 i1 c1 κ = some (κ', rr) → J X B (E, κ) 54 [(0, .inr (some (0, a0, 0)))] [] := by
  intro κ h
  unfold f_X1_goBackTo_b54 at h
  refine J_aload_n O.mo dX1_goBackTo_54 0 rfl ?_
  refine J_iconst O.mo (v := (-1)) dX1_goBackTo_55 (by decide) ?_
  refine J_putI O.co (kd0 := 2) (k2_0 h0) (l2_0 h0) (C := RX1) (T := TX1) (N := 19) rfl (by decide) rfl in_X1 tyX1 tyX1_ok nmX1 15 (by decide) rfl rfl (x := ((-1))) (Or.inl rfl) mw66 dX1_goBackTo_56 ?_
  refine nm_some (P := fun z => J X B (E, z) 59 [(0, .inr (some (0, a0, 0)))] []) h (fun κ9 h => ?_)
  refine J_aload_n O.mo dX1_goBackTo_59 0 rfl ?_
  refine J_iconst O.mo (v := 1) dX1_goBackTo_60 (by decide) ?_
  refine J_putI O.co (kd0 := 2) (k2_0 h0) (l2_0 h0) (C := RX1) (T := TX1) (N := 19) rfl (by decide) rfl in_X1 tyX1 tyX1_ok nmX1 17 (by decide) rfl rfl (x := 1) (Or.inr ⟨rfl, Or.inr rfl⟩) mw276 dX1_goBackTo_61 ?_
  refine nm_some (P := fun z => J X B (E, z) 64 [(0, .inr (some (0, a0, 0)))] []) h (fun κ10 h => ?_)
  refine J_aload_n O.mo dX1_goBackTo_64 0 rfl ?_
  refine J_iconst O.mo (v := 0) dX1_goBackTo_65 (by decide) ?_
  refine J_putI O.co (kd0 := 2) (k2_0 h0) (l2_0 h0) (C := RX1) (T := TX1) (N := 19) rfl (by decide) rfl in_X1 tyX1 tyX1_ok nmX1 18 (by decide) rfl rfl (x := 0) (Or.inr ⟨rfl, Or.inl rfl⟩) mw277 dX1_goBackTo_66 ?_
  refine nm_some (P := fun z => J X B (E, z) 69 [(0, .inr (some (0, a0, 0)))] []) h (fun κ11 h => ?_)
  refine J_bipush O.mo (v := 8) dX1_goBackTo_69 (by decide) ?_
  refine J_aload_n O.mo dX1_goBackTo_71 0 rfl ?_
  refine J_getF O.co (kd0 := 2) (k2_0 h0) (l2_0 h0) (C := RX1) (T := TX1) (N := 19) rfl (by decide) rfl in_X1 14 (by decide) (v := .inl (.int (kV κ11 0 a0 0 14))) rfl mw67 rfl dX1_goBackTo_72 ?_
  refine J_sub [] rfl ?_
  obtain ⟨κ12, r14, hq13, h⟩ := bd_some h
  refine J_callS O hKP (as := [.inl (.int (kV κ11 0 a0 0 14))]) (rest := [.inl (.int 8)]) (r := (some (.inl (.int r14)))) (c_J6_bitCount_0f7a4 hfl hq13) rfl mw278 mw279 mw280 mw281 pd_J6_bitCount_0f7a4 rfl (by decide) rfl (Nat.le_of_ble_eq_true rfl) sl_0 (st_v st_0) dX1_goBackTo_75 ?_
  show J X B (E, κ12) 78 [] [.inl (.int r14), .inl (.int 8)]
  refine J_isub O.mo dX1_goBackTo_78 ?_
  cases h
  exact hE _ _ dX1_goBackTo_79
set_option maxHeartbeats 4000000 in
set_option maxRecDepth 100000 in
theorem w_X1_goBackTo_b48 {l0 : Launch} (hfl : l0.stackTraces = false) {X : MX} {B : BX (EE × K)} {g : GP} {E : EE} {κ' : K} {rr : Int32} {a0 : Nat} {f1 : Nat} {i1 : Nat} {c1 : Nat} (O : CK l0 X B g cX1_goBackTo RX1 4 142) (hKP : KPok B E) (hmL : B.2.2.2.1 = 3) (hE : ∀ (pc : Nat) (lv : List (Nat × AV)), decode cX1_goBackTo pc = .ok (.ireturn, 1) → J X B (E, κ') pc lv [.inl (.int rr)]) (h0 : PC 2 E 0 a0 0) (h1 : PC 9 E f1 i1 c1) {k19 : K → Int32 → Option (K × Int32)} (hk19 : ∀ (κ : K) (x2 : Int32), k19 κ x2 = some (κ', rr) → J X B (E, κ) 19 [(0, .inr (some (0, a0, 0))), (2, .inl (.int x2))] []) : ∀ (κ : K) (x2 : Int32), f_X1_goBackTo_b48 E a0 f1 i1 c1 k19 κ x2 = some (κ', rr) → J X B (E, κ) 48 [(0, .inr (some (0, a0, 0))), (2, .inl (.int x2))] [] := by
  intro κ x2 h
  unfold f_X1_goBackTo_b48 at h
  refine J_iinc O.mo (v := x2 + 1) (lv' := [(0, .inr (some (0, a0, 0)))]) dX1_goBackTo_48 (by rw [hmL]; decide) 1 rfl (by rw [show Int32.ofInt (1) = (1 : Int32) from by decide]) rfl rfl ?_
  refine nm_some (P := fun z => J X B (E, κ) 51 [(2, .inl (.int z)), (0, .inr (some (0, a0, 0)))] []) h (fun y19 h => ?_)
  refine J_goto O.mo (tgt := 19) dX1_goBackTo_51 (by decide) ?_
  refine J_sub [1, 0] rfl ?_
  exact hk19 _ _ h
set_option maxHeartbeats 4000000 in
set_option maxRecDepth 100000 in
theorem w_X1_goBackTo_b19 {l0 : Launch} (hfl : l0.stackTraces = false) {X : MX} {B : BX (EE × K)} {g : GP} {E : EE} {κ' : K} {rr : Int32} {a0 : Nat} {f1 : Nat} {i1 : Nat} {c1 : Nat} (O : CK l0 X B g cX1_goBackTo RX1 4 142) (hKP : KPok B E) (hmL : B.2.2.2.1 = 3) (hE : ∀ (pc : Nat) (lv : List (Nat × AV)), decode cX1_goBackTo pc = .ok (.ireturn, 1) → J X B (E, κ') pc lv [.inl (.int rr)]) (h0 : PC 2 E 0 a0 0) (h1 : PC 9 E f1 i1 c1) : ∀ (n : Nat) (κ : K) (x2 : Int32), f_X1_goBackTo_b19 E a0 f1 i1 c1 n κ x2 = some (κ', rr) → J X B (E, κ) 19 [(0, .inr (some (0, a0, 0))), (2, .inl (.int x2))] [] := by
  intro n
  induction n with
  | zero => intro κ x2 h; cases h
  | succ n ih =>
    intro κ x2 h
    rw [f_X1_goBackTo_b19] at h
    refine J_iload_n O.mo dX1_goBackTo_19 1 rfl ?_
    refine J_bipush O.mo (v := 8) dX1_goBackTo_20 (by decide) ?_
    refine J_icmp_ge O.mo (tgt := 54) dX1_goBackTo_22 (by decide) (fun hc8 => ?_) (fun hc8 => ?_)
    · replace h := (if_pos hc8).symm.trans h
      refine J_sub [0] rfl ?_
      exact w_X1_goBackTo_b54 hfl O hKP hmL hE h0 h1 _ h
    · replace h := (if_neg hc8).symm.trans h
      refine J_aload_n O.mo dX1_goBackTo_25 0 rfl ?_
      refine J_getF O.co (kd0 := 2) (k2_0 h0) (l2_0 h0) (C := RX1) (T := TX1) (N := 19) rfl (by decide) rfl in_X1 4 (by decide) (v := .inr (some (0, a0, 5))) rfl mw63 rfl dX1_goBackTo_26 ?_
      refine J_iload_n O.mo dX1_goBackTo_29 1 rfl ?_
      obtain ⟨κ15, r17, hq16, h⟩ := bd_some h
      refine J_callV O hKP (as := [.inl (.int x2)]) (rest := []) (r := (some (.inl (.int r17)))) (c_X8_isZero hfl (sub_2_5_9 h0) hq16) rfl (kd0 := 9) (k2_5 h0) (l2_5 h0) (T := TX8) (N := 10) rfl (by decide) mw283 mw284 mw285 mw124 mw286 pd_X8_isZero rfl (by decide) rfl (Nat.le_of_ble_eq_true rfl) (sl_p (s2_0 h0) (sl_v sl_0)) st_0 dX1_goBackTo_30 ?_
      show J X B (E, κ15) 33 [(0, .inr (some (0, a0, 0))), (2, .inl (.int x2))] [.inl (.int r17)]
      refine J_if_eq O.mo (tgt := 48) dX1_goBackTo_33 (by decide) (fun hc18 => ?_) (fun hc18 => ?_)
      · replace h := (if_pos hc18).symm.trans h
        exact w_X1_goBackTo_b48 hfl O hKP hmL hE h0 h1 ih _ _ h
      · replace h := (if_neg hc18).symm.trans h
        refine J_aload_n O.mo dX1_goBackTo_36 0 rfl ?_
        refine J_dup O.mo dX1_goBackTo_37 rfl ?_
        refine J_getF O.co (kd0 := 2) (k2_0 h0) (l2_0 h0) (C := RX1) (T := TX1) (N := 19) rfl (by decide) rfl in_X1 14 (by decide) (v := .inl (.int (kV κ15 0 a0 0 14))) rfl mw67 rfl dX1_goBackTo_38 ?_
        refine J_iconst O.mo (v := 1) dX1_goBackTo_41 (by decide) ?_
        refine J_iload_n O.mo dX1_goBackTo_42 1 rfl ?_
        refine J_ishl O.mo dX1_goBackTo_43 ?_
        refine J_ior O.mo dX1_goBackTo_44 ?_
        refine J_putI O.co (kd0 := 2) (k2_0 h0) (l2_0 h0) (C := RX1) (T := TX1) (N := 19) rfl (by decide) rfl in_X1 tyX1 tyX1_ok nmX1 14 (by decide) rfl rfl (x := ((kV κ15 0 a0 0 14) ||| (1 <<< (x2 &&& 31)))) (Or.inl rfl) mw67 dX1_goBackTo_45 ?_
        refine nm_some (P := fun z => J X B (E, z) 48 [(0, .inr (some (0, a0, 0))), (2, .inl (.int x2))] []) h (fun κ20 h => ?_)
        exact w_X1_goBackTo_b48 hfl O hKP hmL hE h0 h1 ih _ _ h
set_option maxHeartbeats 4000000 in
set_option maxRecDepth 100000 in
theorem w_X1_goBackTo {l0 : Launch} (hfl : l0.stackTraces = false) {X : MX} {B : BX (EE × K)} {g : GP} {E : EE} {κ' : K} {rr : Int32} {a0 : Nat} {f1 : Nat} {i1 : Nat} {c1 : Nat} (O : CK l0 X B g cX1_goBackTo RX1 4 142) (hKP : KPok B E) (hmL : B.2.2.2.1 = 3) (hE : ∀ (pc : Nat) (lv : List (Nat × AV)), decode cX1_goBackTo pc = .ok (.ireturn, 1) → J X B (E, κ') pc lv [.inl (.int rr)]) (h0 : PC 2 E 0 a0 0) (h1 : PC 9 E f1 i1 c1) : ∀ (κ : K), f_X1_goBackTo E κ a0 f1 i1 c1 = some (κ', rr) → J X B (E, κ) 0 [(0, .inr (some (0, a0, 0))), (1, .inr (some (f1, i1, c1)))] [] := by
  intro κ h
  unfold f_X1_goBackTo at h
  refine J_aload_n O.mo dX1_goBackTo_0 0 rfl ?_
  obtain ⟨κ1, r3, hq2, h⟩ := bd_some h
  refine J_callV O hKP (as := []) (rest := []) (r := none) (c_X1_leaveFrames hfl h0 hq2) rfl (kd0 := 2) (k2_0 h0) (l2_0 h0) (T := TX1) (N := 19) rfl (by decide) mw254 mw255 mw256 mw74 mw257 pd_X1_leaveFrames rfl (by decide) rfl (Nat.le_of_ble_eq_true rfl) (sl_p (s2_0 h0) (sl_p (s9_0 h1) sl_0)) st_0 dX1_goBackTo_1 ?_
  show J X B (E, κ1) 4 [(0, .inr (some (0, a0, 0))), (1, .inr (some (f1, i1, c1)))] []
  refine J_aload_n O.mo dX1_goBackTo_4 0 rfl ?_
  refine J_getF O.co (kd0 := 2) (k2_0 h0) (l2_0 h0) (C := RX1) (T := TX1) (N := 19) rfl (by decide) rfl in_X1 4 (by decide) (v := .inr (some (0, a0, 5))) rfl mw63 rfl dX1_goBackTo_5 ?_
  refine J_aload_n O.mo dX1_goBackTo_8 1 rfl ?_
  refine J_sub [0] rfl ?_
  obtain ⟨κ4, r6, hq5, h⟩ := bd_some h
  refine J_callV O hKP (as := [.inr (some (f1, i1, c1))]) (rest := []) (r := none) (c_X8_copyFrom hfl (sub_2_5_9 h0) h1 hq5) rfl (kd0 := 9) (k2_5 h0) (l2_5 h0) (T := TX8) (N := 10) rfl (by decide) mw272 mw273 mw274 mw124 mw275 pd_X8_copyFrom rfl (by decide) rfl (Nat.le_of_ble_eq_true rfl) (sl_p (s2_0 h0) sl_0) st_0 dX1_goBackTo_9 ?_
  show J X B (E, κ4) 12 [(0, .inr (some (0, a0, 0)))] []
  refine J_aload_n O.mo dX1_goBackTo_12 0 rfl ?_
  refine J_iconst O.mo (v := 0) dX1_goBackTo_13 (by decide) ?_
  refine J_putI O.co (kd0 := 2) (k2_0 h0) (l2_0 h0) (C := RX1) (T := TX1) (N := 19) rfl (by decide) rfl in_X1 tyX1 tyX1_ok nmX1 14 (by decide) rfl rfl (x := 0) (Or.inl rfl) mw67 dX1_goBackTo_14 ?_
  refine nm_some (P := fun z => J X B (E, z) 17 [(0, .inr (some (0, a0, 0)))] []) h (fun κ7 h => ?_)
  refine J_iconst O.mo (v := 0) dX1_goBackTo_17 (by decide) ?_
  refine J_istore_n O.mo (lv' := [(0, .inr (some (0, a0, 0)))]) dX1_goBackTo_18 (by rw [hmL]; decide) rfl rfl ?_
  refine J_sub [1, 0] rfl ?_
  exact w_X1_goBackTo_b19 hfl O hKP hmL hE h0 h1 FU _ _ h
theorem c_X1_goBackTo {l : Launch} (hfl : l.stackTraces = false) {E : EE} {κ κ' : K} {a0 : Nat} {f1 : Nat} {i1 : Nat} {c1 : Nat} (h0 : PC 2 E 0 a0 0) (h1 : PC 9 E f1 i1 c1) {rr : Int32} (h : f_X1_goBackTo E κ a0 f1 i1 c1 = some (κ', rr)) : Con l yX1_goBackTo cX1_goBackTo 3 (some .int) 4 142 [.inr (some (0, a0, 0)), .inr (some (f1, i1, c1))] (E, κ) (E, κ') (some (.inl (.int rr))) := by
  exact Con_of hfl (by decide +kernel) (Nat.le_of_ble_eq_true rfl) rfl ⟨_, rfl, rfl⟩ (fun X B g O hKP hmL hE => w_X1_goBackTo hfl O hKP hmL hE h0 h1 _ h)
def f_X1_letHeldOut (E : EE) (κ : K) (a0 : Nat) : Option (K × Int32) := nm (kV κ 0 a0 34 1) fun y1 => bd (f_X4_addAll E κ 0 a0 36 0 a0 34) fun κ2 _ => nm (setV κ2 0 a0 34 1 0) fun κ5 => some (κ5, y1)
set_option maxHeartbeats 4000000 in
set_option maxRecDepth 100000 in
theorem w_X1_letHeldOut {l0 : Launch} (hfl : l0.stackTraces = false) {X : MX} {B : BX (EE × K)} {g : GP} {E : EE} {κ' : K} {rr : Int32} {a0 : Nat} (O : CK l0 X B g cX1_letHeldOut RX1 5 165) (hKP : KPok B E) (hmL : B.2.2.2.1 = 2) (hE : ∀ (pc : Nat) (lv : List (Nat × AV)), decode cX1_letHeldOut pc = .ok (.ireturn, 1) → J X B (E, κ') pc lv [.inl (.int rr)]) (h0 : PC 2 E 0 a0 0) : ∀ (κ : K), f_X1_letHeldOut E κ a0 = some (κ', rr) → J X B (E, κ) 0 [(0, .inr (some (0, a0, 0)))] [] := by
  intro κ h
  unfold f_X1_letHeldOut at h
  refine J_aload_n O.mo dX1_letHeldOut_0 0 rfl ?_
  refine J_getF O.co (kd0 := 2) (k2_0 h0) (l2_0 h0) (C := RX1) (T := TX1) (N := 19) rfl (by decide) rfl in_X1 5 (by decide) (v := .inr (some (0, a0, 18))) rfl mw114 rfl dX1_letHeldOut_1 ?_
  refine J_getF O.co (kd0 := 1) (k2_18 h0) (l2_18 h0) (C := RX0) (T := TX0) (N := 4) rfl (by decide) rfl in_X0 3 (by decide) (v := .inr (some (0, a0, 34))) rfl mw117 rfl dX1_letHeldOut_4 ?_
  refine J_getF O.co (kd0 := 5) (k2_34 h0) (l2_34 h0) (C := RX4) (T := TX4) (N := 2) rfl (by decide) rfl in_X4 1 (by decide) (v := .inl (.int (kV κ 0 a0 34 1))) rfl mw289 rfl dX1_letHeldOut_7 ?_
  refine J_istore_n O.mo (lv' := [(0, .inr (some (0, a0, 0)))]) dX1_letHeldOut_10 (by rw [hmL]; decide) rfl rfl ?_
  refine nm_some (P := fun z => J X B (E, κ) 11 [(1, .inl (.int z)), (0, .inr (some (0, a0, 0)))] []) h (fun y1 h => ?_)
  refine J_aload_n O.mo dX1_letHeldOut_11 1 rfl ?_
  refine J_getF O.co (kd0 := 2) (k2_0 h0) (l2_0 h0) (C := RX1) (T := TX1) (N := 19) rfl (by decide) rfl in_X1 6 (by decide) (v := .inr (some (0, a0, 36))) rfl mw116 rfl dX1_letHeldOut_12 ?_
  refine J_aload_n O.mo dX1_letHeldOut_15 1 rfl ?_
  refine J_getF O.co (kd0 := 2) (k2_0 h0) (l2_0 h0) (C := RX1) (T := TX1) (N := 19) rfl (by decide) rfl in_X1 5 (by decide) (v := .inr (some (0, a0, 18))) rfl mw114 rfl dX1_letHeldOut_16 ?_
  refine J_getF O.co (kd0 := 1) (k2_18 h0) (l2_18 h0) (C := RX0) (T := TX0) (N := 4) rfl (by decide) rfl in_X0 3 (by decide) (v := .inr (some (0, a0, 34))) rfl mw117 rfl dX1_letHeldOut_19 ?_
  obtain ⟨κ2, r4, hq3, h⟩ := bd_some h
  refine J_callV O hKP (as := [.inr (some (0, a0, 34))]) (rest := []) (r := none) (c_X4_addAll hfl (sub_2_36_5 h0) (sub_2_34_5 h0) hq3) rfl (kd0 := 5) (k2_36 h0) (l2_36 h0) (T := TX4) (N := 2) rfl (by decide) mw290 mw291 mw292 mw56 mw293 pd_X4_addAll rfl (by decide) rfl (Nat.le_of_ble_eq_true rfl) (sl_v (sl_p (s2_0 h0) sl_0)) st_0 dX1_letHeldOut_22 ?_
  show J X B (E, κ2) 25 [(1, .inl (.int y1)), (0, .inr (some (0, a0, 0)))] []
  refine J_aload_n O.mo dX1_letHeldOut_25 1 rfl ?_
  refine J_getF O.co (kd0 := 2) (k2_0 h0) (l2_0 h0) (C := RX1) (T := TX1) (N := 19) rfl (by decide) rfl in_X1 5 (by decide) (v := .inr (some (0, a0, 18))) rfl mw114 rfl dX1_letHeldOut_26 ?_
  refine J_getF O.co (kd0 := 1) (k2_18 h0) (l2_18 h0) (C := RX0) (T := TX0) (N := 4) rfl (by decide) rfl in_X0 3 (by decide) (v := .inr (some (0, a0, 34))) rfl mw117 rfl dX1_letHeldOut_29 ?_
  refine J_iconst O.mo (v := 0) dX1_letHeldOut_32 (by decide) ?_
  refine J_putI O.co (kd0 := 5) (k2_34 h0) (l2_34 h0) (C := RX4) (T := TX4) (N := 2) rfl (by decide) rfl in_X4 tyX4 tyX4_ok nmX4 1 (by decide) rfl rfl (x := 0) (Or.inl rfl) mw289 dX1_letHeldOut_33 ?_
  refine nm_some (P := fun z => J X B (E, z) 36 [(1, .inl (.int y1)), (0, .inr (some (0, a0, 0)))] []) h (fun κ5 h => ?_)
  refine J_iload_n O.mo dX1_letHeldOut_36 0 rfl ?_
  cases h
  exact hE _ _ dX1_letHeldOut_37
theorem c_X1_letHeldOut {l : Launch} (hfl : l.stackTraces = false) {E : EE} {κ κ' : K} {a0 : Nat} (h0 : PC 2 E 0 a0 0) {rr : Int32} (h : f_X1_letHeldOut E κ a0 = some (κ', rr)) : Con l yX1_letHeldOut cX1_letHeldOut 2 (some .int) 5 165 [.inr (some (0, a0, 0))] (E, κ) (E, κ') (some (.inl (.int rr))) := by
  exact Con_of hfl (by decide +kernel) (Nat.le_of_ble_eq_true rfl) rfl ⟨_, rfl, rfl⟩ (fun X B g O hKP hmL hE => w_X1_letHeldOut hfl O hKP hmL hE h0 _ h)
def f_X1_keepStep (E : EE) (κ : K) (a0 : Nat) : Option (K × Int32) := bd (f_X8_copyFrom E κ 0 a0 19 0 a0 5) fun κ1 _ => nm (setV κ1 0 a0 32 1 0) fun κ4 => bd (f_X1_letHeldOut E κ4 a0) fun κ5 r7 => some (κ5, r7)
set_option maxHeartbeats 4000000 in
set_option maxRecDepth 100000 in
theorem w_X1_keepStep {l0 : Launch} (hfl : l0.stackTraces = false) {X : MX} {B : BX (EE × K)} {g : GP} {E : EE} {κ' : K} {rr : Int32} {a0 : Nat} (O : CK l0 X B g cX1_keepStep RX1 6 186) (hKP : KPok B E) (hmL : B.2.2.2.1 = 1) (hE : ∀ (pc : Nat) (lv : List (Nat × AV)), decode cX1_keepStep pc = .ok (.ireturn, 1) → J X B (E, κ') pc lv [.inl (.int rr)]) (h0 : PC 2 E 0 a0 0) : ∀ (κ : K), f_X1_keepStep E κ a0 = some (κ', rr) → J X B (E, κ) 0 [(0, .inr (some (0, a0, 0)))] [] := by
  intro κ h
  unfold f_X1_keepStep at h
  refine J_aload_n O.mo dX1_keepStep_0 0 rfl ?_
  refine J_getF O.co (kd0 := 2) (k2_0 h0) (l2_0 h0) (C := RX1) (T := TX1) (N := 19) rfl (by decide) rfl in_X1 5 (by decide) (v := .inr (some (0, a0, 18))) rfl mw114 rfl dX1_keepStep_1 ?_
  refine J_getF O.co (kd0 := 1) (k2_18 h0) (l2_18 h0) (C := RX0) (T := TX0) (N := 4) rfl (by decide) rfl in_X0 1 (by decide) (v := .inr (some (0, a0, 19))) rfl mw287 rfl dX1_keepStep_4 ?_
  refine J_aload_n O.mo dX1_keepStep_7 0 rfl ?_
  refine J_getF O.co (kd0 := 2) (k2_0 h0) (l2_0 h0) (C := RX1) (T := TX1) (N := 19) rfl (by decide) rfl in_X1 4 (by decide) (v := .inr (some (0, a0, 5))) rfl mw63 rfl dX1_keepStep_8 ?_
  obtain ⟨κ1, r3, hq2, h⟩ := bd_some h
  refine J_callV O hKP (as := [.inr (some (0, a0, 5))]) (rest := []) (r := none) (c_X8_copyFrom hfl (sub_2_19_9 h0) (sub_2_5_9 h0) hq2) rfl (kd0 := 9) (k2_19 h0) (l2_19 h0) (T := TX8) (N := 10) rfl (by decide) mw272 mw273 mw274 mw124 mw275 pd_X8_copyFrom rfl (by decide) rfl (Nat.le_of_ble_eq_true rfl) (sl_p (s2_0 h0) sl_0) st_0 dX1_keepStep_11 ?_
  show J X B (E, κ1) 14 [(0, .inr (some (0, a0, 0)))] []
  refine J_aload_n O.mo dX1_keepStep_14 0 rfl ?_
  refine J_getF O.co (kd0 := 2) (k2_0 h0) (l2_0 h0) (C := RX1) (T := TX1) (N := 19) rfl (by decide) rfl in_X1 5 (by decide) (v := .inr (some (0, a0, 18))) rfl mw114 rfl dX1_keepStep_15 ?_
  refine J_getF O.co (kd0 := 1) (k2_18 h0) (l2_18 h0) (C := RX0) (T := TX0) (N := 4) rfl (by decide) rfl in_X0 2 (by decide) (v := .inr (some (0, a0, 32))) rfl mw288 rfl dX1_keepStep_18 ?_
  refine J_iconst O.mo (v := 0) dX1_keepStep_21 (by decide) ?_
  refine J_putI O.co (kd0 := 5) (k2_32 h0) (l2_32 h0) (C := RX4) (T := TX4) (N := 2) rfl (by decide) rfl in_X4 tyX4 tyX4_ok nmX4 1 (by decide) rfl rfl (x := 0) (Or.inl rfl) mw289 dX1_keepStep_22 ?_
  refine nm_some (P := fun z => J X B (E, z) 25 [(0, .inr (some (0, a0, 0)))] []) h (fun κ4 h => ?_)
  refine J_aload_n O.mo dX1_keepStep_25 0 rfl ?_
  refine J_sub [] rfl ?_
  obtain ⟨κ5, r7, hq6, h⟩ := bd_some h
  refine J_callV O hKP (as := []) (rest := []) (r := (some (.inl (.int r7)))) (c_X1_letHeldOut hfl h0 hq6) rfl (kd0 := 2) (k2_0 h0) (l2_0 h0) (T := TX1) (N := 19) rfl (by decide) mw294 mw295 mw296 mw74 mw297 pd_X1_letHeldOut rfl (by decide) rfl (Nat.le_of_ble_eq_true rfl) sl_0 st_0 dX1_keepStep_26 ?_
  show J X B (E, κ5) 29 [] [.inl (.int r7)]
  cases h
  exact hE _ _ dX1_keepStep_29
theorem c_X1_keepStep {l : Launch} (hfl : l.stackTraces = false) {E : EE} {κ κ' : K} {a0 : Nat} (h0 : PC 2 E 0 a0 0) {rr : Int32} (h : f_X1_keepStep E κ a0 = some (κ', rr)) : Con l yX1_keepStep cX1_keepStep 1 (some .int) 6 186 [.inr (some (0, a0, 0))] (E, κ) (E, κ') (some (.inl (.int rr))) := by
  exact Con_of hfl (by decide +kernel) (Nat.le_of_ble_eq_true rfl) rfl ⟨_, rfl, rfl⟩ (fun X B g O hKP hmL hE => w_X1_keepStep hfl O hKP hmL hE h0 _ h)
def f_X0_end (E : EE) (κ : K) (a0 : Nat) : Option (K × Unit) := nm (setV κ 0 a0 18 0 0) fun κ1 => nm (setV κ1 0 a0 34 1 0) fun κ2 => some (κ2, ())
set_option maxHeartbeats 4000000 in
set_option maxRecDepth 100000 in
theorem w_X0_end {l0 : Launch} (hfl : l0.stackTraces = false) {X : MX} {B : BX (EE × K)} {g : GP} {E : EE} {κ' : K} {rr : Unit} {a0 : Nat} (O : CK l0 X B g cX0_end RX0 1 0) (hKP : KPok B E) (hmL : B.2.2.2.1 = 1) (hE : ∀ (pc : Nat) (lv : List (Nat × AV)), decode cX0_end pc = .ok (.return_, 1) → J X B (E, κ') pc lv []) (h0 : PC 1 E 0 a0 18) : ∀ (κ : K), f_X0_end E κ a0 = some (κ', rr) → J X B (E, κ) 0 [(0, .inr (some (0, a0, 18)))] [] := by
  intro κ h
  unfold f_X0_end at h
  refine J_aload_n O.mo dX0_end_0 0 rfl ?_
  refine J_iconst O.mo (v := 0) dX0_end_1 (by decide) ?_
  refine J_putI O.co (kd0 := 1) (k1_0 h0) (l1_0 h0) (C := RX0) (T := TX0) (N := 4) rfl (by decide) rfl in_X0 tyX0 tyX0_ok nmX0 0 (by decide) rfl rfl (x := 0) (Or.inr ⟨rfl, Or.inl rfl⟩) mw302 dX0_end_2 ?_
  refine nm_some (P := fun z => J X B (E, z) 5 [(0, .inr (some (0, a0, 18)))] []) h (fun κ1 h => ?_)
  refine J_aload_n O.mo dX0_end_5 0 rfl ?_
  refine J_getF O.co (kd0 := 1) (k1_0 h0) (l1_0 h0) (C := RX0) (T := TX0) (N := 4) rfl (by decide) rfl in_X0 3 (by decide) (v := .inr (some (0, a0, 34))) rfl mw303 rfl dX0_end_6 ?_
  refine J_iconst O.mo (v := 0) dX0_end_9 (by decide) ?_
  refine J_putI O.co (kd0 := 5) (k1_16 h0) (l1_16 h0) (C := RX4) (T := TX4) (N := 2) rfl (by decide) rfl in_X4 tyX4 tyX4_ok nmX4 1 (by decide) rfl rfl (x := 0) (Or.inl rfl) mw304 dX0_end_10 ?_
  refine nm_some (P := fun z => J X B (E, z) 13 [(0, .inr (some (0, a0, 18)))] []) h (fun κ2 h => ?_)
  cases h
  exact hE _ _ dX0_end_13
theorem c_X0_end {l : Launch} (hfl : l.stackTraces = false) {E : EE} {κ κ' : K} {a0 : Nat} (h0 : PC 1 E 0 a0 18) {rr : Unit} (h : f_X0_end E κ a0 = some (κ', rr)) : Con l yX0_end cX0_end 1 none 1 0 [.inr (some (0, a0, 18))] (E, κ) (E, κ') none := by
  exact Con_of hfl (by decide +kernel) (Nat.le_of_ble_eq_true rfl) rfl rfl (fun X B g O hKP hmL hE => w_X0_end hfl O hKP hmL hE h0 _ h)
def f_X1_goOnUpon (E : EE) (κ : K) (a0 : Nat) (a1 : Nat) : Option (K × Unit) := nm (setP κ 0 a0 0 8 (some a1)) fun κ1 => bd (f_X1_goBackTo E κ1 a0 0 a0 19) fun κ2 r4 => bd (f_X4_addAll E κ2 0 a0 10 0 a0 32) fun κ5 _ => bd (f_X0_end E κ5 a0) fun κ8 _ => some (κ8, ())
set_option maxHeartbeats 4000000 in
set_option maxRecDepth 100000 in
theorem w_X1_goOnUpon {l0 : Launch} (hfl : l0.stackTraces = false) {X : MX} {B : BX (EE × K)} {g : GP} {E : EE} {κ' : K} {rr : Unit} {a0 : Nat} {a1 : Nat} (O : CK l0 X B g cX1_goOnUpon RX1 5 165) (hKP : KPok B E) (hmL : B.2.2.2.1 = 2) (hE : ∀ (pc : Nat) (lv : List (Nat × AV)), decode cX1_goOnUpon pc = .ok (.return_, 1) → J X B (E, κ') pc lv []) (h0 : PC 2 E 0 a0 0) (h1 : PC 3 E 2 a1 0) : ∀ (κ : K), f_X1_goOnUpon E κ a0 a1 = some (κ', rr) → J X B (E, κ) 0 [(0, .inr (some (0, a0, 0))), (1, .inr (some (2, a1, 0)))] [] := by
  intro κ h
  unfold f_X1_goOnUpon at h
  refine J_aload_n O.mo dX1_goOnUpon_0 0 rfl ?_
  refine J_aload_n O.mo dX1_goOnUpon_1 1 rfl ?_
  refine J_putP O.co (kd0 := 2) (k2_0 h0) (l2_0 h0) (C := RX1) (T := TX1) (N := 19) rfl (by decide) rfl in_X1 tyX1 tyX1_ok nmX1 8 (by decide) rfl rfl (o := (some a1)) (v := .inr (some (2, a1, 0))) rfl rfl mw69 dX1_goOnUpon_2 ?_
  refine nm_some (P := fun z => J X B (E, z) 5 [(0, .inr (some (0, a0, 0))), (1, .inr (some (2, a1, 0)))] []) h (fun κ1 h => ?_)
  refine J_aload_n O.mo dX1_goOnUpon_5 0 rfl ?_
  refine J_aload_n O.mo dX1_goOnUpon_6 0 rfl ?_
  refine J_getF O.co (kd0 := 2) (k2_0 h0) (l2_0 h0) (C := RX1) (T := TX1) (N := 19) rfl (by decide) rfl in_X1 5 (by decide) (v := .inr (some (0, a0, 18))) rfl mw114 rfl dX1_goOnUpon_7 ?_
  refine J_getF O.co (kd0 := 1) (k2_18 h0) (l2_18 h0) (C := RX0) (T := TX0) (N := 4) rfl (by decide) rfl in_X0 1 (by decide) (v := .inr (some (0, a0, 19))) rfl mw287 rfl dX1_goOnUpon_10 ?_
  refine J_sub [0] rfl ?_
  obtain ⟨κ2, r4, hq3, h⟩ := bd_some h
  refine J_callV O hKP (as := [.inr (some (0, a0, 19))]) (rest := []) (r := (some (.inl (.int r4)))) (c_X1_goBackTo hfl h0 (sub_2_19_9 h0) hq3) rfl (kd0 := 2) (k2_0 h0) (l2_0 h0) (T := TX1) (N := 19) rfl (by decide) mw298 mw299 mw300 mw74 mw301 pd_X1_goBackTo rfl (by decide) rfl (Nat.le_of_ble_eq_true rfl) (sl_p (s2_0 h0) sl_0) st_0 dX1_goOnUpon_13 ?_
  show J X B (E, κ2) 16 [(0, .inr (some (0, a0, 0)))] [.inl (.int r4)]
  refine J_pop O.mo dX1_goOnUpon_16 rfl ?_
  refine J_aload_n O.mo dX1_goOnUpon_17 0 rfl ?_
  refine J_getF O.co (kd0 := 2) (k2_0 h0) (l2_0 h0) (C := RX1) (T := TX1) (N := 19) rfl (by decide) rfl in_X1 4 (by decide) (v := .inr (some (0, a0, 5))) rfl mw63 rfl dX1_goOnUpon_18 ?_
  refine J_getF O.co (kd0 := 9) (k2_5 h0) (l2_5 h0) (C := RX8) (T := TX8) (N := 10) rfl (by decide) rfl in_X8 1 (by decide) (v := .inr (some (0, a0, 10))) rfl mw108 rfl dX1_goOnUpon_21 ?_
  refine J_aload_n O.mo dX1_goOnUpon_24 0 rfl ?_
  refine J_getF O.co (kd0 := 2) (k2_0 h0) (l2_0 h0) (C := RX1) (T := TX1) (N := 19) rfl (by decide) rfl in_X1 5 (by decide) (v := .inr (some (0, a0, 18))) rfl mw114 rfl dX1_goOnUpon_25 ?_
  refine J_getF O.co (kd0 := 1) (k2_18 h0) (l2_18 h0) (C := RX0) (T := TX0) (N := 4) rfl (by decide) rfl in_X0 2 (by decide) (v := .inr (some (0, a0, 32))) rfl mw288 rfl dX1_goOnUpon_28 ?_
  obtain ⟨κ5, r7, hq6, h⟩ := bd_some h
  refine J_callV O hKP (as := [.inr (some (0, a0, 32))]) (rest := []) (r := none) (c_X4_addAll hfl (sub_2_10_5 h0) (sub_2_32_5 h0) hq6) rfl (kd0 := 5) (k2_10 h0) (l2_10 h0) (T := TX4) (N := 2) rfl (by decide) mw290 mw291 mw292 mw56 mw293 pd_X4_addAll rfl (by decide) rfl (Nat.le_of_ble_eq_true rfl) (sl_p (s2_0 h0) sl_0) st_0 dX1_goOnUpon_31 ?_
  show J X B (E, κ5) 34 [(0, .inr (some (0, a0, 0)))] []
  refine J_aload_n O.mo dX1_goOnUpon_34 0 rfl ?_
  refine J_getF O.co (kd0 := 2) (k2_0 h0) (l2_0 h0) (C := RX1) (T := TX1) (N := 19) rfl (by decide) rfl in_X1 5 (by decide) (v := .inr (some (0, a0, 18))) rfl mw114 rfl dX1_goOnUpon_35 ?_
  refine J_sub [] rfl ?_
  obtain ⟨κ8, r10, hq9, h⟩ := bd_some h
  refine J_callV O hKP (as := []) (rest := []) (r := none) (c_X0_end hfl (sub_2_18_1 h0) hq9) rfl (kd0 := 1) (k2_18 h0) (l2_18 h0) (T := TX0) (N := 4) rfl (by decide) mw305 mw306 mw307 mw308 mw309 pd_X0_end rfl (by decide) rfl (Nat.le_of_ble_eq_true rfl) sl_0 st_0 dX1_goOnUpon_38 ?_
  show J X B (E, κ8) 41 [] []
  cases h
  exact hE _ _ dX1_goOnUpon_41
theorem c_X1_goOnUpon {l : Launch} (hfl : l.stackTraces = false) {E : EE} {κ κ' : K} {a0 : Nat} {a1 : Nat} (h0 : PC 2 E 0 a0 0) (h1 : PC 3 E 2 a1 0) {rr : Unit} (h : f_X1_goOnUpon E κ a0 a1 = some (κ', rr)) : Con l yX1_goOnUpon cX1_goOnUpon 2 none 5 165 [.inr (some (0, a0, 0)), .inr (some (2, a1, 0))] (E, κ) (E, κ') none := by
  exact Con_of hfl (by decide +kernel) (Nat.le_of_ble_eq_true rfl) rfl rfl (fun X B g O hKP hmL hE => w_X1_goOnUpon hfl O hKP hmL hE h0 h1 _ h)
def f_X1_dieWithHost (E : EE) (κ : K) (a0 : Nat) : Option (K × Unit) := nm (setV κ 0 a0 6 8 3) fun κ1 => bd (f_J7_fill_53178 E κ1 0 a0 9 0) fun κ2 _ => nm (setV κ2 0 a0 0 14 255) fun κ5 => bd (f_X0_end E κ5 a0) fun κ6 _ => nm (setV κ6 0 a0 0 18 1) fun κ9 => some (κ9, ())
set_option maxHeartbeats 4000000 in
set_option maxRecDepth 100000 in
theorem w_X1_dieWithHost {l0 : Launch} (hfl : l0.stackTraces = false) {X : MX} {B : BX (EE × K)} {g : GP} {E : EE} {κ' : K} {rr : Unit} {a0 : Nat} (O : CK l0 X B g cX1_dieWithHost RX1 2 23) (hKP : KPok B E) (hmL : B.2.2.2.1 = 1) (hE : ∀ (pc : Nat) (lv : List (Nat × AV)), decode cX1_dieWithHost pc = .ok (.return_, 1) → J X B (E, κ') pc lv []) (h0 : PC 2 E 0 a0 0) : ∀ (κ : K), f_X1_dieWithHost E κ a0 = some (κ', rr) → J X B (E, κ) 0 [(0, .inr (some (0, a0, 0)))] [] := by
  intro κ h
  unfold f_X1_dieWithHost at h
  refine J_aload_n O.mo dX1_dieWithHost_0 0 rfl ?_
  refine J_getF O.co (kd0 := 2) (k2_0 h0) (l2_0 h0) (C := RX1) (T := TX1) (N := 19) rfl (by decide) rfl in_X1 4 (by decide) (v := .inr (some (0, a0, 5))) rfl mw63 rfl dX1_dieWithHost_1 ?_
  refine J_getF O.co (kd0 := 9) (k2_5 h0) (l2_5 h0) (C := RX8) (T := TX8) (N := 10) rfl (by decide) rfl in_X8 0 (by decide) (v := .inr (some (0, a0, 6))) rfl mw64 rfl dX1_dieWithHost_4 ?_
  refine J_iconst O.mo (v := 3) dX1_dieWithHost_7 (by decide) ?_
  refine J_putI O.co (kd0 := 4) (k2_6 h0) (l2_6 h0) (C := RX3) (T := TX3) (N := 9) rfl (by decide) rfl in_X3 tyX3 tyX3_ok nmX3 8 (by decide) rfl rfl (x := 3) (Or.inl rfl) mw65 dX1_dieWithHost_8 ?_
  refine nm_some (P := fun z => J X B (E, z) 11 [(0, .inr (some (0, a0, 0)))] []) h (fun κ1 h => ?_)
  refine J_aload_n O.mo dX1_dieWithHost_11 0 rfl ?_
  refine J_getF O.co (kd0 := 2) (k2_0 h0) (l2_0 h0) (C := RX1) (T := TX1) (N := 19) rfl (by decide) rfl in_X1 4 (by decide) (v := .inr (some (0, a0, 5))) rfl mw63 rfl dX1_dieWithHost_12 ?_
  refine J_getF O.co (kd0 := 9) (k2_5 h0) (l2_5 h0) (C := RX8) (T := TX8) (N := 10) rfl (by decide) rfl in_X8 0 (by decide) (v := .inr (some (0, a0, 6))) rfl mw64 rfl dX1_dieWithHost_15 ?_
  refine J_getF O.co (kd0 := 4) (k2_6 h0) (l2_6 h0) (C := RX3) (T := TX3) (N := 9) rfl (by decide) rfl in_X3 2 (by decide) (v := .inr (some (0, a0, 9))) rfl mw310 rfl dX1_dieWithHost_18 ?_
  refine J_iconst O.mo (v := 0) dX1_dieWithHost_21 (by decide) ?_
  obtain ⟨κ2, r4, hq3, h⟩ := bd_some h
  refine J_callS O hKP (as := [.inr (some (0, a0, 9)), .inl (.int 0)]) (rest := []) (r := none) (c_J7_fill_53178 hfl (k2_9 h0) (l2_9 h0) hq3) rfl mw311 mw312 mw51 mw313 pd_J7_fill_53178 rfl (by decide) rfl (Nat.le_of_ble_eq_true rfl) (sl_p (s2_0 h0) sl_0) st_0 dX1_dieWithHost_22 ?_
  show J X B (E, κ2) 25 [(0, .inr (some (0, a0, 0)))] []
  refine J_aload_n O.mo dX1_dieWithHost_25 0 rfl ?_
  refine J_sipush O.mo (v := 255) dX1_dieWithHost_26 (by decide) ?_
  refine J_putI O.co (kd0 := 2) (k2_0 h0) (l2_0 h0) (C := RX1) (T := TX1) (N := 19) rfl (by decide) rfl in_X1 tyX1 tyX1_ok nmX1 14 (by decide) rfl rfl (x := 255) (Or.inl rfl) mw67 dX1_dieWithHost_29 ?_
  refine nm_some (P := fun z => J X B (E, z) 32 [(0, .inr (some (0, a0, 0)))] []) h (fun κ5 h => ?_)
  refine J_aload_n O.mo dX1_dieWithHost_32 0 rfl ?_
  refine J_getF O.co (kd0 := 2) (k2_0 h0) (l2_0 h0) (C := RX1) (T := TX1) (N := 19) rfl (by decide) rfl in_X1 5 (by decide) (v := .inr (some (0, a0, 18))) rfl mw114 rfl dX1_dieWithHost_33 ?_
  obtain ⟨κ6, r8, hq7, h⟩ := bd_some h
  refine J_callV O hKP (as := []) (rest := []) (r := none) (c_X0_end hfl (sub_2_18_1 h0) hq7) rfl (kd0 := 1) (k2_18 h0) (l2_18 h0) (T := TX0) (N := 4) rfl (by decide) mw305 mw306 mw307 mw308 mw309 pd_X0_end rfl (by decide) rfl (Nat.le_of_ble_eq_true rfl) (sl_p (s2_0 h0) sl_0) st_0 dX1_dieWithHost_36 ?_
  show J X B (E, κ6) 39 [(0, .inr (some (0, a0, 0)))] []
  refine J_aload_n O.mo dX1_dieWithHost_39 0 rfl ?_
  refine J_iconst O.mo (v := 1) dX1_dieWithHost_40 (by decide) ?_
  refine J_putI O.co (kd0 := 2) (k2_0 h0) (l2_0 h0) (C := RX1) (T := TX1) (N := 19) rfl (by decide) rfl in_X1 tyX1 tyX1_ok nmX1 18 (by decide) rfl rfl (x := 1) (Or.inr ⟨rfl, Or.inr rfl⟩) mw277 dX1_dieWithHost_41 ?_
  refine nm_some (P := fun z => J X B (E, z) 44 [(0, .inr (some (0, a0, 0)))] []) h (fun κ9 h => ?_)
  cases h
  exact hE _ _ dX1_dieWithHost_44
theorem c_X1_dieWithHost {l : Launch} (hfl : l.stackTraces = false) {E : EE} {κ κ' : K} {a0 : Nat} (h0 : PC 2 E 0 a0 0) {rr : Unit} (h : f_X1_dieWithHost E κ a0 = some (κ', rr)) : Con l yX1_dieWithHost cX1_dieWithHost 1 none 2 23 [.inr (some (0, a0, 0))] (E, κ) (E, κ') none := by
  exact Con_of hfl (by decide +kernel) (Nat.le_of_ble_eq_true rfl) rfl rfl (fun X B g O hKP hmL hE => w_X1_dieWithHost hfl O hKP hmL hE h0 _ h)
