theorem k11_0 {E : EE} {f i c : Nat} (h : PC 11 E f i c) : kd f (c) = 11 := PC_kd h 0 (by decide)
theorem l11_0 {E : EE} {f i c : Nat} (h : PC 11 E f i c) : liveC E f i (c) = true := PC_lv h 0 (by decide) (by decide)
theorem s11_0 {E : EE} {f i c : Nat} (h : PC 11 E f i c) : Stab E (.inr (some (f, i, c))) := PC_st h 0 (by decide) (by decide) (by decide)
theorem k11_1 {E : EE} {f i c : Nat} (h : PC 11 E f i c) : kd f (c + 1) = 20 := PC_kd h 1 (by decide)
theorem l11_1 {E : EE} {f i c : Nat} (h : PC 11 E f i c) : liveC E f i (c + 1) = true := PC_lv h 1 (by decide) (by decide)
theorem s11_1 {E : EE} {f i c : Nat} (h : PC 11 E f i c) : Stab E (.inr (some (f, i, c + 1))) := PC_st h 1 (by decide) (by decide) (by decide)
theorem n11_1 {E : EE} {f i c : Nat} (h : PC 11 E f i c) : sl f (c + 1) = 275 := PC_sl h 1 (by decide)
theorem k11_2 {E : EE} {f i c : Nat} (h : PC 11 E f i c) : kd f (c + 2) = 20 := PC_kd h 2 (by decide)
theorem l11_2 {E : EE} {f i c : Nat} (h : PC 11 E f i c) : liveC E f i (c + 2) = true := PC_lv h 2 (by decide) (by decide)
theorem s11_2 {E : EE} {f i c : Nat} (h : PC 11 E f i c) : Stab E (.inr (some (f, i, c + 2))) := PC_st h 2 (by decide) (by decide) (by decide)
theorem n11_2 {E : EE} {f i c : Nat} (h : PC 11 E f i c) : sl f (c + 2) = 2560 := PC_sl h 2 (by decide)
theorem k11_15 {E : EE} {f i c : Nat} (h : PC 11 E f i c) : kd f (c + 15) = 20 := PC_kd h 15 (by decide)
theorem l11_15 {E : EE} {f i c : Nat} (h : PC 11 E f i c) : liveC E f i (c + 15) = true := PC_lv h 15 (by decide) (by decide)
theorem s11_15 {E : EE} {f i c : Nat} (h : PC 11 E f i c) : Stab E (.inr (some (f, i, c + 15))) := PC_st h 15 (by decide) (by decide) (by decide)
theorem n11_15 {E : EE} {f i c : Nat} (h : PC 11 E f i c) : sl f (c + 15) = 5 := PC_sl h 15 (by decide)
theorem k11_20 {E : EE} {f i c : Nat} (h : PC 11 E f i c) : kd f (c + 20) = 20 := PC_kd h 20 (by decide)
theorem l11_20 {E : EE} {f i c : Nat} (h : PC 11 E f i c) : liveC E f i (c + 20) = true := PC_lv h 20 (by decide) (by decide)
theorem s11_20 {E : EE} {f i c : Nat} (h : PC 11 E f i c) : Stab E (.inr (some (f, i, c + 20))) := PC_st h 20 (by decide) (by decide) (by decide)
theorem n11_20 {E : EE} {f i c : Nat} (h : PC 11 E f i c) : sl f (c + 20) = 5 := PC_sl h 20 (by decide)
theorem k11_21 {E : EE} {f i c : Nat} (h : PC 11 E f i c) : kd f (c + 21) = 20 := PC_kd h 21 (by decide)
theorem l11_21 {E : EE} {f i c : Nat} (h : PC 11 E f i c) : liveC E f i (c + 21) = true := PC_lv h 21 (by decide) (by decide)
theorem s11_21 {E : EE} {f i c : Nat} (h : PC 11 E f i c) : Stab E (.inr (some (f, i, c + 21))) := PC_st h 21 (by decide) (by decide) (by decide)
theorem n11_21 {E : EE} {f i c : Nat} (h : PC 11 E f i c) : sl f (c + 21) = 5 := PC_sl h 21 (by decide)
theorem k11_22 {E : EE} {f i c : Nat} (h : PC 11 E f i c) : kd f (c + 22) = 20 := PC_kd h 22 (by decide)
theorem l11_22 {E : EE} {f i c : Nat} (h : PC 11 E f i c) : liveC E f i (c + 22) = true := PC_lv h 22 (by decide) (by decide)
theorem s11_22 {E : EE} {f i c : Nat} (h : PC 11 E f i c) : Stab E (.inr (some (f, i, c + 22))) := PC_st h 22 (by decide) (by decide) (by decide)
theorem n11_22 {E : EE} {f i c : Nat} (h : PC 11 E f i c) : sl f (c + 22) = 5 := PC_sl h 22 (by decide)
theorem k11_25 {E : EE} {f i c : Nat} (h : PC 11 E f i c) : kd f (c + 25) = 20 := PC_kd h 25 (by decide)
theorem l11_25 {E : EE} {f i c : Nat} (h : PC 11 E f i c) : liveC E f i (c + 25) = true := PC_lv h 25 (by decide) (by decide)
theorem s11_25 {E : EE} {f i c : Nat} (h : PC 11 E f i c) : Stab E (.inr (some (f, i, c + 25))) := PC_st h 25 (by decide) (by decide) (by decide)
theorem n11_25 {E : EE} {f i c : Nat} (h : PC 11 E f i c) : sl f (c + 25) = 30 := PC_sl h 25 (by decide)
theorem k11_27 {E : EE} {f i c : Nat} (h : PC 11 E f i c) : kd f (c + 27) = 20 := PC_kd h 27 (by decide)
theorem l11_27 {E : EE} {f i c : Nat} (h : PC 11 E f i c) : liveC E f i (c + 27) = true := PC_lv h 27 (by decide) (by decide)
theorem s11_27 {E : EE} {f i c : Nat} (h : PC 11 E f i c) : Stab E (.inr (some (f, i, c + 27))) := PC_st h 27 (by decide) (by decide) (by decide)
theorem n11_27 {E : EE} {f i c : Nat} (h : PC 11 E f i c) : sl f (c + 27) = 40 := PC_sl h 27 (by decide)
theorem k11_28 {E : EE} {f i c : Nat} (h : PC 11 E f i c) : kd f (c + 28) = 20 := PC_kd h 28 (by decide)
theorem l11_28 {E : EE} {f i c : Nat} (h : PC 11 E f i c) : liveC E f i (c + 28) = true := PC_lv h 28 (by decide) (by decide)
theorem s11_28 {E : EE} {f i c : Nat} (h : PC 11 E f i c) : Stab E (.inr (some (f, i, c + 28))) := PC_st h 28 (by decide) (by decide) (by decide)
theorem n11_28 {E : EE} {f i c : Nat} (h : PC 11 E f i c) : sl f (c + 28) = 40 := PC_sl h 28 (by decide)
theorem k11_29 {E : EE} {f i c : Nat} (h : PC 11 E f i c) : kd f (c + 29) = 20 := PC_kd h 29 (by decide)
theorem l11_29 {E : EE} {f i c : Nat} (h : PC 11 E f i c) : liveC E f i (c + 29) = true := PC_lv h 29 (by decide) (by decide)
theorem s11_29 {E : EE} {f i c : Nat} (h : PC 11 E f i c) : Stab E (.inr (some (f, i, c + 29))) := PC_st h 29 (by decide) (by decide) (by decide)
theorem n11_29 {E : EE} {f i c : Nat} (h : PC 11 E f i c) : sl f (c + 29) = 32 := PC_sl h 29 (by decide)
theorem k11_30 {E : EE} {f i c : Nat} (h : PC 11 E f i c) : kd f (c + 30) = 22 := PC_kd h 30 (by decide)
theorem l11_30 {E : EE} {f i c : Nat} (h : PC 11 E f i c) : liveC E f i (c + 30) = true := PC_lv h 30 (by decide) (by decide)
theorem s11_30 {E : EE} {f i c : Nat} (h : PC 11 E f i c) : Stab E (.inr (some (f, i, c + 30))) := PC_st h 30 (by decide) (by decide) (by decide)
theorem n11_30 {E : EE} {f i c : Nat} (h : PC 11 E f i c) : sl f (c + 30) = 5 := PC_sl h 30 (by decide)
theorem k11_31 {E : EE} {f i c : Nat} (h : PC 11 E f i c) : kd f (c + 31) = 20 := PC_kd h 31 (by decide)
theorem l11_31 {E : EE} {f i c : Nat} (h : PC 11 E f i c) : liveC E f i (c + 31) = true := PC_lv h 31 (by decide) (by decide)
theorem s11_31 {E : EE} {f i c : Nat} (h : PC 11 E f i c) : Stab E (.inr (some (f, i, c + 31))) := PC_st h 31 (by decide) (by decide) (by decide)
theorem n11_31 {E : EE} {f i c : Nat} (h : PC 11 E f i c) : sl f (c + 31) = 5 := PC_sl h 31 (by decide)
theorem k11_33 {E : EE} {f i c : Nat} (h : PC 11 E f i c) : kd f (c + 33) = 22 := PC_kd h 33 (by decide)
theorem l11_33 {E : EE} {f i c : Nat} (h : PC 11 E f i c) : liveC E f i (c + 33) = true := PC_lv h 33 (by decide) (by decide)
theorem s11_33 {E : EE} {f i c : Nat} (h : PC 11 E f i c) : Stab E (.inr (some (f, i, c + 33))) := PC_st h 33 (by decide) (by decide) (by decide)
theorem n11_33 {E : EE} {f i c : Nat} (h : PC 11 E f i c) : sl f (c + 33) = 5 := PC_sl h 33 (by decide)
theorem k11_34 {E : EE} {f i c : Nat} (h : PC 11 E f i c) : kd f (c + 34) = 20 := PC_kd h 34 (by decide)
theorem l11_34 {E : EE} {f i c : Nat} (h : PC 11 E f i c) : liveC E f i (c + 34) = true := PC_lv h 34 (by decide) (by decide)
theorem s11_34 {E : EE} {f i c : Nat} (h : PC 11 E f i c) : Stab E (.inr (some (f, i, c + 34))) := PC_st h 34 (by decide) (by decide) (by decide)
theorem n11_34 {E : EE} {f i c : Nat} (h : PC 11 E f i c) : sl f (c + 34) = 15000 := PC_sl h 34 (by decide)
theorem k11_35 {E : EE} {f i c : Nat} (h : PC 11 E f i c) : kd f (c + 35) = 20 := PC_kd h 35 (by decide)
theorem l11_35 {E : EE} {f i c : Nat} (h : PC 11 E f i c) : liveC E f i (c + 35) = true := PC_lv h 35 (by decide) (by decide)
theorem s11_35 {E : EE} {f i c : Nat} (h : PC 11 E f i c) : Stab E (.inr (some (f, i, c + 35))) := PC_st h 35 (by decide) (by decide) (by decide)
theorem n11_35 {E : EE} {f i c : Nat} (h : PC 11 E f i c) : sl f (c + 35) = 5 := PC_sl h 35 (by decide)
theorem k11_36 {E : EE} {f i c : Nat} (h : PC 11 E f i c) : kd f (c + 36) = 20 := PC_kd h 36 (by decide)
theorem l11_36 {E : EE} {f i c : Nat} (h : PC 11 E f i c) : liveC E f i (c + 36) = true := PC_lv h 36 (by decide) (by decide)
theorem s11_36 {E : EE} {f i c : Nat} (h : PC 11 E f i c) : Stab E (.inr (some (f, i, c + 36))) := PC_st h 36 (by decide) (by decide) (by decide)
theorem n11_36 {E : EE} {f i c : Nat} (h : PC 11 E f i c) : sl f (c + 36) = 15000 := PC_sl h 36 (by decide)
theorem k11_37 {E : EE} {f i c : Nat} (h : PC 11 E f i c) : kd f (c + 37) = 20 := PC_kd h 37 (by decide)
theorem l11_37 {E : EE} {f i c : Nat} (h : PC 11 E f i c) : liveC E f i (c + 37) = true := PC_lv h 37 (by decide) (by decide)
theorem s11_37 {E : EE} {f i c : Nat} (h : PC 11 E f i c) : Stab E (.inr (some (f, i, c + 37))) := PC_st h 37 (by decide) (by decide) (by decide)
theorem n11_37 {E : EE} {f i c : Nat} (h : PC 11 E f i c) : sl f (c + 37) = 5 := PC_sl h 37 (by decide)
set_option maxRecDepth 100000 in
theorem mw513 : Cond.fieldLink RX11 125 "GuestHallModel" "thrown" "I" ∈ gwl := gwl_tb 1184 rfl rfl
set_option maxRecDepth 100000 in
theorem mw514 : Cond.fieldLink RX11 129 "GuestHallModel" "guests" "I" ∈ gwl := gwl_tb 1210 rfl rfl
set_option maxRecDepth 100000 in
theorem mw515 : Cond.methodLink RX11 132 yX11_in ∈ gwl := gwl_tb 1320 rfl rfl
set_option maxRecDepth 100000 in
theorem mw516 : Cond.static yX11_in ∈ gwl := gwl_tb 1321 rfl rfl
set_option maxRecDepth 100000 in
theorem mw517 : Cond.initialized RX11 ∈ gwl := gwl_tb 7 rfl rfl
set_option maxRecDepth 100000 in
theorem mw518 : Cond.code yX11_in cX11_in 3 (some .boolean) ∈ gwl := gwl_tb 1322 rfl rfl
set_option maxRecDepth 100000 in
theorem mw519 : Cond.fieldLink RX11 136 "GuestHallModel" "time" "I" ∈ gwl := gwl_tb 1225 rfl rfl
set_option maxRecDepth 100000 in
theorem mw520 : Cond.fieldLink RX11 71 "GuestHallModel" "madeAt" "[I" ∈ gwl := gwl_tb 1206 rfl rfl
set_option maxRecDepth 100000 in
theorem mw521 : Cond.fieldLink RX11 65 "GuestHallModel" "scales" "[I" ∈ gwl := gwl_tb 1204 rfl rfl
set_option maxRecDepth 100000 in
theorem mw522 : Cond.fieldLink RX11 68 "GuestHallModel" "shifts" "[I" ∈ gwl := gwl_tb 1205 rfl rfl
set_option maxRecDepth 100000 in
theorem mw523 : Cond.methodLink RX11 139 yX11_rest ∈ gwl := gwl_tb 1353 rfl rfl
set_option maxRecDepth 100000 in
theorem mw524 : Cond.static yX11_rest ∈ gwl := gwl_tb 1354 rfl rfl
set_option maxRecDepth 100000 in
theorem mw525 : Cond.code yX11_rest cX11_rest 1 (some .int) ∈ gwl := gwl_tb 1355 rfl rfl
set_option maxRecDepth 100000 in
theorem mw526 : Cond.fieldLink RX11 49 "GuestHallModel" "hostOf" "[I" ∈ gwl := gwl_tb 1199 rfl rfl
set_option maxRecDepth 100000 in
theorem mw527 : Cond.fieldLink RX11 86 "GuestHallModel" "frame" "[I" ∈ gwl := gwl_tb 1212 rfl rfl
set_option maxRecDepth 100000 in
theorem mw528 : Cond.fieldLink RX11 83 "GuestHallModel" "kind" "[I" ∈ gwl := gwl_tb 1211 rfl rfl
set_option maxRecDepth 100000 in
theorem mw529 : Cond.methodLink RX11 143 yX11_pageIn ∈ gwl := gwl_tb 1408 rfl rfl
set_option maxRecDepth 100000 in
theorem mw530 : Cond.instanceMethod yX11_pageIn ∈ gwl := gwl_tb 1410 rfl rfl
set_option maxRecDepth 100000 in
theorem mw531 : Cond.selects RX11 yX11_pageIn yX11_pageIn ∈ gwl := gwl_sl 38 rfl rfl
set_option maxRecDepth 100000 in
theorem mw532 : Cond.code yX11_pageIn cX11_pageIn 5 (some .int) ∈ gwl := gwl_tb 1411 rfl rfl
set_option maxRecDepth 100000 in
theorem mw533 : Cond.fieldLink RX11 89 "GuestHallModel" "usedAt" "[I" ∈ gwl := gwl_tb 1213 rfl rfl
set_option maxRecDepth 100000 in
theorem mw534 : Cond.fieldLink RX11 95 "GuestHallModel" "toSend" "[I" ∈ gwl := gwl_tb 1215 rfl rfl
set_option maxRecDepth 100000 in
theorem mw535 : Cond.fieldLink RX11 92 "GuestHallModel" "isMoving" "[Z" ∈ gwl := gwl_tb 1214 rfl rfl
set_option maxRecDepth 100000 in
theorem mw536 : Cond.methodLink RX11 150 yX11_holders ∈ gwl := gwl_tb 1412 rfl rfl
set_option maxRecDepth 100000 in
theorem mw537 : Cond.instanceMethod yX11_holders ∈ gwl := gwl_tb 1414 rfl rfl
set_option maxRecDepth 100000 in
theorem mw538 : Cond.selects RX11 yX11_holders yX11_holders ∈ gwl := gwl_sl 39 rfl rfl
set_option maxRecDepth 100000 in
theorem mw539 : Cond.code yX11_holders cX11_holders 5 (some .int) ∈ gwl := gwl_tb 1415 rfl rfl
set_option maxRecDepth 100000 in
theorem mw540 : Cond.methodLink RX11 147 yX11_freeFrame ∈ gwl := gwl_tb 1404 rfl rfl
set_option maxRecDepth 100000 in
theorem mw541 : Cond.instanceMethod yX11_freeFrame ∈ gwl := gwl_tb 1406 rfl rfl
set_option maxRecDepth 100000 in
theorem mw542 : Cond.selects RX11 yX11_freeFrame yX11_freeFrame ∈ gwl := gwl_sl 37 rfl rfl
set_option maxRecDepth 100000 in
theorem mw543 : Cond.code yX11_freeFrame cX11_freeFrame 6 (some .int) ∈ gwl := gwl_tb 1407 rfl rfl
set_option maxRecDepth 100000 in
theorem mw544 : Cond.fieldLink RX11 80 "GuestHallModel" "exits" "[I" ∈ gwl := gwl_tb 1209 rfl rfl
set_option maxRecDepth 100000 in
theorem mw545 : Cond.fieldLink RX11 7 "GuestHallModel" "now" "[I" ∈ gwl := gwl_tb 1185 rfl rfl
set_option maxRecDepth 100000 in
theorem mw546 : Cond.methodLink RX11 153 yX11_goTo ∈ gwl := gwl_tb 1388 rfl rfl
set_option maxRecDepth 100000 in
theorem mw547 : Cond.instanceMethod yX11_goTo ∈ gwl := gwl_tb 1390 rfl rfl
set_option maxRecDepth 100000 in
theorem mw548 : Cond.selects RX11 yX11_goTo yX11_goTo ∈ gwl := gwl_sl 33 rfl rfl
set_option maxRecDepth 100000 in
theorem mw549 : Cond.code yX11_goTo cX11_goTo 4 none ∈ gwl := gwl_tb 1391 rfl rfl
set_option maxRecDepth 100000 in
theorem mw550 : Cond.fieldLink RX11 101 "GuestHallModel" "isFollowed" "[Z" ∈ gwl := gwl_tb 1217 rfl rfl
set_option maxRecDepth 100000 in
theorem mw551 : Cond.fieldLink RX11 104 "GuestHallModel" "said" "[I" ∈ gwl := gwl_tb 1218 rfl rfl
set_option maxRecDepth 100000 in
theorem mw552 : Cond.fieldLink RX11 107 "GuestHallModel" "saidMany" "[I" ∈ gwl := gwl_tb 1219 rfl rfl
set_option maxRecDepth 100000 in
theorem mw553 : Cond.fieldLink RX11 110 "GuestHallModel" "held" "[I" ∈ gwl := gwl_tb 1220 rfl rfl
set_option maxRecDepth 100000 in
theorem mw554 : Cond.fieldLink RX11 113 "GuestHallModel" "heldMany" "[I" ∈ gwl := gwl_tb 1221 rfl rfl
set_option maxRecDepth 100000 in
theorem mw555 : Cond.fieldLink RX11 13 "GuestHallModel" "queue" "[I" ∈ gwl := gwl_tb 1186 rfl rfl
set_option maxRecDepth 100000 in
theorem in_X11 : ∀ w ∈ u_ws RX11 TX11 42, w ∈ gwl := by
  intro w hw
  obtain ⟨k, hk, rfl⟩ := List.mem_map.mp hw
  replace hk := List.mem_range.mp hk
  clear hw
  revert k
  exact (tb_s (tb_s (tb_s (tb_s (tb_s (tb_s (tb_s (tb_s (tb_s (tb_s (tb_s (tb_s (tb_s (tb_s (tb_s (tb_s (tb_s (tb_s (tb_s (tb_s (tb_s (tb_s (tb_s (tb_s (tb_s (tb_s (tb_s (tb_s (tb_s (tb_s (tb_s (tb_s (tb_s (tb_s (tb_s (tb_s (tb_s (tb_s (tb_s (tb_s (tb_s (tb_s tb_0 (gwl_tb 1226 rfl rfl)) (gwl_tb 1228 rfl rfl)) (gwl_tb 1230 rfl rfl)) (gwl_tb 1232 rfl rfl)) (gwl_tb 1234 rfl rfl)) (gwl_tb 1236 rfl rfl)) (gwl_tb 1238 rfl rfl)) (gwl_tb 1240 rfl rfl)) (gwl_tb 1242 rfl rfl)) (gwl_tb 1244 rfl rfl)) (gwl_tb 1246 rfl rfl)) (gwl_tb 1248 rfl rfl)) (gwl_tb 1250 rfl rfl)) (gwl_tb 1252 rfl rfl)) (gwl_tb 1254 rfl rfl)) (gwl_tb 1256 rfl rfl)) (gwl_tb 1258 rfl rfl)) (gwl_tb 1260 rfl rfl)) (gwl_tb 1262 rfl rfl)) (gwl_tb 1264 rfl rfl)) (gwl_tb 1266 rfl rfl)) (gwl_tb 1268 rfl rfl)) (gwl_tb 1270 rfl rfl)) (gwl_tb 1272 rfl rfl)) (gwl_tb 1274 rfl rfl)) (gwl_tb 1276 rfl rfl)) (gwl_tb 1278 rfl rfl)) (gwl_tb 1280 rfl rfl)) (gwl_tb 1282 rfl rfl)) (gwl_tb 1284 rfl rfl)) (gwl_tb 1286 rfl rfl)) (gwl_tb 1288 rfl rfl)) (gwl_tb 1290 rfl rfl)) (gwl_tb 1292 rfl rfl)) (gwl_tb 1294 rfl rfl)) (gwl_tb 1296 rfl rfl)) (gwl_tb 1298 rfl rfl)) (gwl_tb 1300 rfl rfl)) (gwl_tb 1302 rfl rfl)) (gwl_tb 1304 rfl rfl)) (gwl_tb 1306 rfl rfl)) (gwl_tb 1308 rfl rfl))
theorem pd_X11_in : (yX11_in).cls ≠ "java/lang/invoke/MethodHandle" ∧ (yX11_in).cls ≠ "java/lang/invoke/VarHandle" ∧ (parseMethodDescriptor (yX11_in).desc).map (fun d => d.parameters.length) = some 3 := ⟨by decide +kernel, by decide +kernel, by decide +kernel⟩
theorem pd_X11_rest : (yX11_rest).cls ≠ "java/lang/invoke/MethodHandle" ∧ (yX11_rest).cls ≠ "java/lang/invoke/VarHandle" ∧ (parseMethodDescriptor (yX11_rest).desc).map (fun d => d.parameters.length) = some 1 := ⟨by decide +kernel, by decide +kernel, by decide +kernel⟩
theorem pd_X11_pageIn : (yX11_pageIn).cls ≠ "java/lang/invoke/MethodHandle" ∧ (yX11_pageIn).cls ≠ "java/lang/invoke/VarHandle" ∧ (parseMethodDescriptor (yX11_pageIn).desc).map (fun d => d.parameters.length) = some 2 := ⟨by decide +kernel, by decide +kernel, by decide +kernel⟩
theorem pd_X11_holders : (yX11_holders).cls ≠ "java/lang/invoke/MethodHandle" ∧ (yX11_holders).cls ≠ "java/lang/invoke/VarHandle" ∧ (parseMethodDescriptor (yX11_holders).desc).map (fun d => d.parameters.length) = some 2 := ⟨by decide +kernel, by decide +kernel, by decide +kernel⟩
theorem pd_X11_freeFrame : (yX11_freeFrame).cls ≠ "java/lang/invoke/MethodHandle" ∧ (yX11_freeFrame).cls ≠ "java/lang/invoke/VarHandle" ∧ (parseMethodDescriptor (yX11_freeFrame).desc).map (fun d => d.parameters.length) = some 2 := ⟨by decide +kernel, by decide +kernel, by decide +kernel⟩
theorem pd_X11_goTo : (yX11_goTo).cls ≠ "java/lang/invoke/MethodHandle" ∧ (yX11_goTo).cls ≠ "java/lang/invoke/VarHandle" ∧ (parseMethodDescriptor (yX11_goTo).desc).map (fun d => d.parameters.length) = some 2 := ⟨by decide +kernel, by decide +kernel, by decide +kernel⟩
def f_X11_thrown (E : EE) (κ : K) : Option (K × Int32) := some (κ, kV κ 5 0 0 0)
set_option maxHeartbeats 4000000 in
set_option maxRecDepth 100000 in
theorem w_X11_thrown {l0 : Launch} (hfl : l0.stackTraces = false) {X : MX} {B : BX (EE × K)} {g : GP} {E : EE} {κ' : K} {rr : Int32} (O : CK l0 X B g cX11_thrown RX11 1 0) (hKP : KPok B E) (hmL : B.2.2.2.1 = 1) (hE : ∀ (pc : Nat) (lv : List (Nat × AV)), decode cX11_thrown pc = .ok (.ireturn, 1) → J X B (E, κ') pc lv [.inl (.int rr)]) (h0 : PC 11 E 5 0 0) : ∀ (κ : K), f_X11_thrown E κ = some (κ', rr) → J X B (E, κ) 0 [(0, .inr (some (5, 0, 0)))] [] := by
  intro κ h
  unfold f_X11_thrown at h
  refine J_aload_n O.mo dX11_thrown_0 0 rfl ?_
  refine J_getF O.co (kd0 := 11) (k11_0 h0) (l11_0 h0) (C := RX11) (T := TX11) (N := 42) rfl (by decide) rfl in_X11 0 (by decide) (v := .inl (.int (kV κ 5 0 0 0))) rfl mw513 rfl dX11_thrown_1 ?_
  cases h
  exact hE _ _ dX11_thrown_4
theorem c_X11_thrown {l : Launch} (hfl : l.stackTraces = false) {E : EE} {κ κ' : K} (h0 : PC 11 E 5 0 0) {rr : Int32} (h : f_X11_thrown E κ = some (κ', rr)) : Con l yX11_thrown cX11_thrown 1 (some .int) 1 0 [.inr (some (5, 0, 0))] (E, κ) (E, κ') (some (.inl (.int rr))) := by
  exact Con_of hfl (by decide +kernel) (Nat.le_of_ble_eq_true rfl) rfl ⟨_, rfl, rfl⟩ (fun X B g O hKP hmL hE => w_X11_thrown hfl O hKP hmL hE h0 _ h)
def f_X11_in_e (E : EE) (κ : K) (a0 : Int32) (a1 : Int32) (a2 : Int32) : Option (K × Int32) := if a0 < a1 then some (κ, 0) else if a2 < a0 then some (κ, 0) else some (κ, 1)
def f_X11_in (E : EE) (κ : K) (a0 : Int32) (a1 : Int32) (a2 : Int32) : Option (K × Int32) := bd (f_X11_in_e E κ a0 a1 a2) fun κ x => gd (x = 0 ∨ x = 1) (some (κ, x))
set_option maxHeartbeats 4000000 in
set_option maxRecDepth 100000 in
theorem w_X11_in_e {l0 : Launch} (hfl : l0.stackTraces = false) {X : MX} {B : BX (EE × K)} {g : GP} {E : EE} {κ' : K} {rr : Int32} (O : CK l0 X B g cX11_in RX11 1 0) (hKP : KPok B E) (hmL : B.2.2.2.1 = 3) (hE : ∀ (pc : Nat) (lv : List (Nat × AV)), decode cX11_in pc = .ok (.ireturn, 1) → J X B (E, κ') pc lv [.inl (.int rr)]) : ∀ (κ : K) (a0 : Int32) (a1 : Int32) (a2 : Int32), f_X11_in_e E κ a0 a1 a2 = some (κ', rr) → J X B (E, κ) 0 [(0, .inl (.int a0)), (1, .inl (.int a1)), (2, .inl (.int a2))] [] := by
  intro κ a0 a1 a2 h
  unfold f_X11_in_e at h
  refine J_iload_n O.mo dX11_in_0 0 rfl ?_
  refine J_iload_n O.mo dX11_in_1 1 rfl ?_
  refine J_icmp_lt O.mo (tgt := 14) dX11_in_2 (by decide) (fun hc1 => ?_) (fun hc1 => ?_)
  · replace h := (if_pos hc1).symm.trans h
    refine J_iconst O.mo (v := 0) dX11_in_14 (by decide) ?_
    cases h
    exact hE _ _ dX11_in_15
  · replace h := (if_neg hc1).symm.trans h
    refine J_iload_n O.mo dX11_in_5 0 rfl ?_
    refine J_iload_n O.mo dX11_in_6 2 rfl ?_
    refine J_icmp_gt O.mo (tgt := 14) dX11_in_7 (by decide) (fun hc2 => ?_) (fun hc2 => ?_)
    · replace h := (if_pos hc2).symm.trans h
      refine J_iconst O.mo (v := 0) dX11_in_14 (by decide) ?_
      cases h
      exact hE _ _ dX11_in_15
    · replace h := (if_neg hc2).symm.trans h
      refine J_iconst O.mo (v := 1) dX11_in_10 (by decide) ?_
      refine J_goto O.mo (tgt := 15) dX11_in_11 (by decide) ?_
      cases h
      exact hE _ _ dX11_in_15
theorem c_X11_in {l : Launch} (hfl : l.stackTraces = false) {E : EE} {κ κ' : K} {a0 : Int32} {a1 : Int32} {a2 : Int32} {rr : Int32} (h : f_X11_in E κ a0 a1 a2 = some (κ', rr)) : Con l yX11_in cX11_in 3 (some .boolean) 1 0 [.inl (.int a0), .inl (.int a1), .inl (.int a2)] (E, κ) (E, κ') (some (.inl (.int rr))) := by
  unfold f_X11_in at h
  obtain ⟨κ1, x1, q1, q2⟩ := bd_some h
  obtain ⟨hb, q3⟩ := gd_some q2
  cases q3
  exact Con_of hfl (by decide +kernel) (Nat.le_of_ble_eq_true rfl) rfl ⟨_, rfl, nar_b hb⟩ (fun X B g O hKP hmL hE => w_X11_in_e hfl O hKP hmL hE _ _ _ _ q1)
def f_X11_isGuest_e (E : EE) (κ : K) (a1 : Int32) : Option (K × Int32) := bd (f_X11_in E κ a1 0 ((kV κ 5 0 0 26) - 1)) fun κ1 r3 => some (κ1, r3)
def f_X11_isGuest (E : EE) (κ : K) (a1 : Int32) : Option (K × Int32) := bd (f_X11_isGuest_e E κ a1) fun κ x => gd (x = 0 ∨ x = 1) (some (κ, x))
set_option maxHeartbeats 4000000 in
set_option maxRecDepth 100000 in
theorem w_X11_isGuest_e {l0 : Launch} (hfl : l0.stackTraces = false) {X : MX} {B : BX (EE × K)} {g : GP} {E : EE} {κ' : K} {rr : Int32} (O : CK l0 X B g cX11_isGuest RX11 2 22) (hKP : KPok B E) (hmL : B.2.2.2.1 = 2) (hE : ∀ (pc : Nat) (lv : List (Nat × AV)), decode cX11_isGuest pc = .ok (.ireturn, 1) → J X B (E, κ') pc lv [.inl (.int rr)]) (h0 : PC 11 E 5 0 0) : ∀ (κ : K) (a1 : Int32), f_X11_isGuest_e E κ a1 = some (κ', rr) → J X B (E, κ) 0 [(0, .inr (some (5, 0, 0))), (1, .inl (.int a1))] [] := by
  intro κ a1 h
  unfold f_X11_isGuest_e at h
  refine J_iload_n O.mo dX11_isGuest_0 1 rfl ?_
  refine J_iconst O.mo (v := 0) dX11_isGuest_1 (by decide) ?_
  refine J_aload_n O.mo dX11_isGuest_2 0 rfl ?_
  refine J_getF O.co (kd0 := 11) (k11_0 h0) (l11_0 h0) (C := RX11) (T := TX11) (N := 42) rfl (by decide) rfl in_X11 26 (by decide) (v := .inl (.int (kV κ 5 0 0 26))) rfl mw514 rfl dX11_isGuest_3 ?_
  refine J_iconst O.mo (v := 1) dX11_isGuest_6 (by decide) ?_
  refine J_isub O.mo dX11_isGuest_7 ?_
  refine J_sub [] rfl ?_
  obtain ⟨κ1, r3, hq2, h⟩ := bd_some h
  refine J_callS O hKP (as := [.inl (.int a1), .inl (.int 0), .inl (.int ((kV κ 5 0 0 26) - 1))]) (rest := []) (r := (some (.inl (.int r3)))) (c_X11_in hfl hq2) rfl mw515 mw516 mw517 mw518 pd_X11_in rfl (by decide) rfl (Nat.le_of_ble_eq_true rfl) sl_0 st_0 dX11_isGuest_8 ?_
  show J X B (E, κ1) 11 [] [.inl (.int r3)]
  cases h
  exact hE _ _ dX11_isGuest_11
theorem c_X11_isGuest {l : Launch} (hfl : l.stackTraces = false) {E : EE} {κ κ' : K} {a1 : Int32} (h0 : PC 11 E 5 0 0) {rr : Int32} (h : f_X11_isGuest E κ a1 = some (κ', rr)) : Con l yX11_isGuest cX11_isGuest 2 (some .boolean) 2 22 [.inr (some (5, 0, 0)), .inl (.int a1)] (E, κ) (E, κ') (some (.inl (.int rr))) := by
  unfold f_X11_isGuest at h
  obtain ⟨κ1, x1, q1, q2⟩ := bd_some h
  obtain ⟨hb, q3⟩ := gd_some q2
  cases q3
  exact Con_of hfl (by decide +kernel) (Nat.le_of_ble_eq_true rfl) rfl ⟨_, rfl, nar_b hb⟩ (fun X B g O hKP hmL hE => w_X11_isGuest_e hfl O hKP hmL hE h0 _ _ q1)
def f_X11_refused_e (E : EE) (κ : K) (a1 : Int32) : Option (K × Int32) := nm (setV κ 5 0 0 0 a1) fun κ1 => if a1 = 0 then some (κ1, 0) else some (κ1, 1)
def f_X11_refused (E : EE) (κ : K) (a1 : Int32) : Option (K × Int32) := bd (f_X11_refused_e E κ a1) fun κ x => gd (x = 0 ∨ x = 1) (some (κ, x))
set_option maxHeartbeats 4000000 in
set_option maxRecDepth 100000 in
theorem w_X11_refused_e {l0 : Launch} (hfl : l0.stackTraces = false) {X : MX} {B : BX (EE × K)} {g : GP} {E : EE} {κ' : K} {rr : Int32} (O : CK l0 X B g cX11_refused RX11 1 0) (hKP : KPok B E) (hmL : B.2.2.2.1 = 2) (hE : ∀ (pc : Nat) (lv : List (Nat × AV)), decode cX11_refused pc = .ok (.ireturn, 1) → J X B (E, κ') pc lv [.inl (.int rr)]) (h0 : PC 11 E 5 0 0) : ∀ (κ : K) (a1 : Int32), f_X11_refused_e E κ a1 = some (κ', rr) → J X B (E, κ) 0 [(0, .inr (some (5, 0, 0))), (1, .inl (.int a1))] [] := by
  intro κ a1 h
  unfold f_X11_refused_e at h
  refine J_aload_n O.mo dX11_refused_0 0 rfl ?_
  refine J_iload_n O.mo dX11_refused_1 1 rfl ?_
  refine J_putI O.co (kd0 := 11) (k11_0 h0) (l11_0 h0) (C := RX11) (T := TX11) (N := 42) rfl (by decide) rfl in_X11 tyX11 tyX11_ok nmX11 0 (by decide) rfl rfl (x := a1) (Or.inl rfl) mw513 dX11_refused_2 ?_
  refine nm_some (P := fun z => J X B (E, z) 5 [(0, .inr (some (5, 0, 0))), (1, .inl (.int a1))] []) h (fun κ1 h => ?_)
  refine J_iload_n O.mo dX11_refused_5 1 rfl ?_
  refine J_if_eq O.mo (tgt := 13) dX11_refused_6 (by decide) (fun hc2 => ?_) (fun hc2 => ?_)
  · replace h := (if_pos hc2).symm.trans h
    refine J_iconst O.mo (v := 0) dX11_refused_13 (by decide) ?_
    cases h
    exact hE _ _ dX11_refused_14
  · replace h := (if_neg hc2).symm.trans h
    refine J_iconst O.mo (v := 1) dX11_refused_9 (by decide) ?_
    refine J_goto O.mo (tgt := 14) dX11_refused_10 (by decide) ?_
    cases h
    exact hE _ _ dX11_refused_14
theorem c_X11_refused {l : Launch} (hfl : l.stackTraces = false) {E : EE} {κ κ' : K} {a1 : Int32} (h0 : PC 11 E 5 0 0) {rr : Int32} (h : f_X11_refused E κ a1 = some (κ', rr)) : Con l yX11_refused cX11_refused 2 (some .boolean) 1 0 [.inr (some (5, 0, 0)), .inl (.int a1)] (E, κ) (E, κ') (some (.inl (.int rr))) := by
  unfold f_X11_refused at h
  obtain ⟨κ1, x1, q1, q2⟩ := bd_some h
  obtain ⟨hb, q3⟩ := gd_some q2
  cases q3
  exact Con_of hfl (by decide +kernel) (Nat.le_of_ble_eq_true rfl) rfl ⟨_, rfl, nar_b hb⟩ (fun X B g O hKP hmL hE => w_X11_refused_e hfl O hKP hmL hE h0 _ _ q1)
def f_X11_fine (E : EE) (κ : K) (a1 : Int32) : Option (K × Int32) := nm (setV κ 5 0 0 0 0) fun κ1 => some (κ1, a1)
set_option maxHeartbeats 4000000 in
set_option maxRecDepth 100000 in
theorem w_X11_fine {l0 : Launch} (hfl : l0.stackTraces = false) {X : MX} {B : BX (EE × K)} {g : GP} {E : EE} {κ' : K} {rr : Int32} (O : CK l0 X B g cX11_fine RX11 1 0) (hKP : KPok B E) (hmL : B.2.2.2.1 = 2) (hE : ∀ (pc : Nat) (lv : List (Nat × AV)), decode cX11_fine pc = .ok (.ireturn, 1) → J X B (E, κ') pc lv [.inl (.int rr)]) (h0 : PC 11 E 5 0 0) : ∀ (κ : K) (a1 : Int32), f_X11_fine E κ a1 = some (κ', rr) → J X B (E, κ) 0 [(0, .inr (some (5, 0, 0))), (1, .inl (.int a1))] [] := by
  intro κ a1 h
  unfold f_X11_fine at h
  refine J_aload_n O.mo dX11_fine_0 0 rfl ?_
  refine J_iconst O.mo (v := 0) dX11_fine_1 (by decide) ?_
  refine J_putI O.co (kd0 := 11) (k11_0 h0) (l11_0 h0) (C := RX11) (T := TX11) (N := 42) rfl (by decide) rfl in_X11 tyX11 tyX11_ok nmX11 0 (by decide) rfl rfl (x := 0) (Or.inl rfl) mw513 dX11_fine_2 ?_
  refine nm_some (P := fun z => J X B (E, z) 5 [(0, .inr (some (5, 0, 0))), (1, .inl (.int a1))] []) h (fun κ1 h => ?_)
  refine J_iload_n O.mo dX11_fine_5 1 rfl ?_
  cases h
  exact hE _ _ dX11_fine_6
theorem c_X11_fine {l : Launch} (hfl : l.stackTraces = false) {E : EE} {κ κ' : K} {a1 : Int32} (h0 : PC 11 E 5 0 0) {rr : Int32} (h : f_X11_fine E κ a1 = some (κ', rr)) : Con l yX11_fine cX11_fine 2 (some .int) 1 0 [.inr (some (5, 0, 0)), .inl (.int a1)] (E, κ) (E, κ') (some (.inl (.int rr))) := by
  exact Con_of hfl (by decide +kernel) (Nat.le_of_ble_eq_true rfl) rfl ⟨_, rfl, rfl⟩ (fun X B g O hKP hmL hE => w_X11_fine hfl O hKP hmL hE h0 _ _ h)
def f_X11_rest (E : EE) (κ : K) (a0 : Int32) : Option (K × Int32) := some (κ, ((a0 - a0 / 10000 * 10000) + 10000) - ((a0 - a0 / 10000 * 10000) + 10000) / 10000 * 10000)
set_option maxHeartbeats 4000000 in
set_option maxRecDepth 100000 in
theorem w_X11_rest {l0 : Launch} (hfl : l0.stackTraces = false) {X : MX} {B : BX (EE × K)} {g : GP} {E : EE} {κ' : K} {rr : Int32} (O : CK l0 X B g cX11_rest RX11 1 0) (hKP : KPok B E) (hmL : B.2.2.2.1 = 1) (hE : ∀ (pc : Nat) (lv : List (Nat × AV)), decode cX11_rest pc = .ok (.ireturn, 1) → J X B (E, κ') pc lv [.inl (.int rr)]) : ∀ (κ : K) (a0 : Int32), f_X11_rest E κ a0 = some (κ', rr) → J X B (E, κ) 0 [(0, .inl (.int a0))] [] := by
  intro κ a0 h
  unfold f_X11_rest at h
  refine J_iload_n O.mo dX11_rest_0 0 rfl ?_
  refine J_sipush O.mo (v := 10000) dX11_rest_1 (by decide) ?_
  refine J_irem O.mo dX11_rest_4 (by decide) ?_
  refine J_sipush O.mo (v := 10000) dX11_rest_5 (by decide) ?_
  refine J_iadd O.mo dX11_rest_8 ?_
  refine J_sipush O.mo (v := 10000) dX11_rest_9 (by decide) ?_
  refine J_irem O.mo dX11_rest_12 (by decide) ?_
  cases h
  exact hE _ _ dX11_rest_13
theorem c_X11_rest {l : Launch} (hfl : l.stackTraces = false) {E : EE} {κ κ' : K} {a0 : Int32} {rr : Int32} (h : f_X11_rest E κ a0 = some (κ', rr)) : Con l yX11_rest cX11_rest 1 (some .int) 1 0 [.inl (.int a0)] (E, κ) (E, κ') (some (.inl (.int rr))) := by
  exact Con_of hfl (by decide +kernel) (Nat.le_of_ble_eq_true rfl) rfl ⟨_, rfl, rfl⟩ (fun X B g O hKP hmL hE => w_X11_rest hfl O hKP hmL hE _ _ h)
def f_X11_clock (E : EE) (κ : K) (a1 : Int32) : Option (K × Int32) := gd (¬ (a1 < 0 ∨ 5 ≤ a1.toNatClampNeg)) (gd (¬ (a1 < 0 ∨ 5 ≤ a1.toNatClampNeg)) (gd (¬ (a1 < 0 ∨ 5 ≤ a1.toNatClampNeg)) (bd (f_X11_rest E κ ((((kV κ 5 0 0 41) - ((kV κ 5 0 22) a1.toNatClampNeg)) * ((kV κ 5 0 20) a1.toNatClampNeg)) + ((kV κ 5 0 21) a1.toNatClampNeg))) fun κ4 r6 => some (κ4, r6))))
set_option maxHeartbeats 4000000 in
set_option maxRecDepth 100000 in
theorem w_X11_clock {l0 : Launch} (hfl : l0.stackTraces = false) {X : MX} {B : BX (EE × K)} {g : GP} {E : EE} {κ' : K} {rr : Int32} (O : CK l0 X B g cX11_clock RX11 2 20) (hKP : KPok B E) (hmL : B.2.2.2.1 = 2) (hE : ∀ (pc : Nat) (lv : List (Nat × AV)), decode cX11_clock pc = .ok (.ireturn, 1) → J X B (E, κ') pc lv [.inl (.int rr)]) (h0 : PC 11 E 5 0 0) : ∀ (κ : K) (a1 : Int32), f_X11_clock E κ a1 = some (κ', rr) → J X B (E, κ) 0 [(0, .inr (some (5, 0, 0))), (1, .inl (.int a1))] [] := by
  intro κ a1 h
  unfold f_X11_clock at h
  refine J_aload_n O.mo dX11_clock_0 0 rfl ?_
  refine J_getF O.co (kd0 := 11) (k11_0 h0) (l11_0 h0) (C := RX11) (T := TX11) (N := 42) rfl (by decide) rfl in_X11 41 (by decide) (v := .inl (.int (kV κ 5 0 0 41))) rfl mw519 rfl dX11_clock_1 ?_
  refine J_aload_n O.mo dX11_clock_4 0 rfl ?_
  refine J_getF O.co (kd0 := 11) (k11_0 h0) (l11_0 h0) (C := RX11) (T := TX11) (N := 42) rfl (by decide) rfl in_X11 22 (by decide) (v := .inr (some (5, 0, 22))) rfl mw520 rfl dX11_clock_5 ?_
  refine J_iload_n O.mo dX11_clock_8 1 rfl ?_
  obtain ⟨hg1, h⟩ := gd_some h
  refine J_iald O.co (g := (kV κ 5 0 22)) (ct_20n (l11_22 h0) (k11_22 h0) (n11_22 h0)) hg1 dX11_clock_9 ?_
  refine J_isub O.mo dX11_clock_10 ?_
  refine J_aload_n O.mo dX11_clock_11 0 rfl ?_
  refine J_getF O.co (kd0 := 11) (k11_0 h0) (l11_0 h0) (C := RX11) (T := TX11) (N := 42) rfl (by decide) rfl in_X11 20 (by decide) (v := .inr (some (5, 0, 20))) rfl mw521 rfl dX11_clock_12 ?_
  refine J_iload_n O.mo dX11_clock_15 1 rfl ?_
  obtain ⟨hg2, h⟩ := gd_some h
  refine J_iald O.co (g := (kV κ 5 0 20)) (ct_20n (l11_20 h0) (k11_20 h0) (n11_20 h0)) hg2 dX11_clock_16 ?_
  refine J_imul O.mo dX11_clock_17 ?_
  refine J_aload_n O.mo dX11_clock_18 0 rfl ?_
  refine J_getF O.co (kd0 := 11) (k11_0 h0) (l11_0 h0) (C := RX11) (T := TX11) (N := 42) rfl (by decide) rfl in_X11 21 (by decide) (v := .inr (some (5, 0, 21))) rfl mw522 rfl dX11_clock_19 ?_
  refine J_iload_n O.mo dX11_clock_22 1 rfl ?_
  obtain ⟨hg3, h⟩ := gd_some h
  refine J_iald O.co (g := (kV κ 5 0 21)) (ct_20n (l11_21 h0) (k11_21 h0) (n11_21 h0)) hg3 dX11_clock_23 ?_
  refine J_iadd O.mo dX11_clock_24 ?_
  refine J_sub [] rfl ?_
  obtain ⟨κ4, r6, hq5, h⟩ := bd_some h
  refine J_callS O hKP (as := [.inl (.int ((((kV κ 5 0 0 41) - ((kV κ 5 0 22) a1.toNatClampNeg)) * ((kV κ 5 0 20) a1.toNatClampNeg)) + ((kV κ 5 0 21) a1.toNatClampNeg)))]) (rest := []) (r := (some (.inl (.int r6)))) (c_X11_rest hfl hq5) rfl mw523 mw524 mw517 mw525 pd_X11_rest rfl (by decide) rfl (Nat.le_of_ble_eq_true rfl) sl_0 st_0 dX11_clock_25 ?_
  show J X B (E, κ4) 28 [] [.inl (.int r6)]
  cases h
  exact hE _ _ dX11_clock_28
theorem c_X11_clock {l : Launch} (hfl : l.stackTraces = false) {E : EE} {κ κ' : K} {a1 : Int32} (h0 : PC 11 E 5 0 0) {rr : Int32} (h : f_X11_clock E κ a1 = some (κ', rr)) : Con l yX11_clock cX11_clock 2 (some .int) 2 20 [.inr (some (5, 0, 0)), .inl (.int a1)] (E, κ) (E, κ') (some (.inl (.int rr))) := by
  exact Con_of hfl (by decide +kernel) (Nat.le_of_ble_eq_true rfl) rfl ⟨_, rfl, rfl⟩ (fun X B g O hKP hmL hE => w_X11_clock hfl O hKP hmL hE h0 _ _ h)
def f_X11_shift (E : EE) (κ : K) (a1 : Int32) (a2 : Int32) : Option (K × Unit) := gd (¬ (a1 < 0 ∨ 5 ≤ a1.toNatClampNeg)) (gd (¬ (a1 < 0 ∨ 5 ≤ a1.toNatClampNeg)) (bd (f_X11_rest E κ (a2 - (((kV κ 5 0 0 41) - ((kV κ 5 0 22) a1.toNatClampNeg)) * ((kV κ 5 0 20) a1.toNatClampNeg)))) fun κ3 r5 => gd (¬ (a1 < 0 ∨ 5 ≤ a1.toNatClampNeg)) (nm (setV κ3 5 0 21 a1.toNatClampNeg r5) fun κ7 => some (κ7, ()))))
set_option maxHeartbeats 4000000 in
set_option maxRecDepth 100000 in
theorem w_X11_shift {l0 : Launch} (hfl : l0.stackTraces = false) {X : MX} {B : BX (EE × K)} {g : GP} {E : EE} {κ' : K} {rr : Unit} (O : CK l0 X B g cX11_shift RX11 2 20) (hKP : KPok B E) (hmL : B.2.2.2.1 = 3) (hE : ∀ (pc : Nat) (lv : List (Nat × AV)), decode cX11_shift pc = .ok (.return_, 1) → J X B (E, κ') pc lv []) (h0 : PC 11 E 5 0 0) : ∀ (κ : K) (a1 : Int32) (a2 : Int32), f_X11_shift E κ a1 a2 = some (κ', rr) → J X B (E, κ) 0 [(0, .inr (some (5, 0, 0))), (1, .inl (.int a1)), (2, .inl (.int a2))] [] := by
  intro κ a1 a2 h
  unfold f_X11_shift at h
  refine J_aload_n O.mo dX11_shift_0 0 rfl ?_
  refine J_getF O.co (kd0 := 11) (k11_0 h0) (l11_0 h0) (C := RX11) (T := TX11) (N := 42) rfl (by decide) rfl in_X11 21 (by decide) (v := .inr (some (5, 0, 21))) rfl mw522 rfl dX11_shift_1 ?_
  refine J_iload_n O.mo dX11_shift_4 1 rfl ?_
  refine J_iload_n O.mo dX11_shift_5 2 rfl ?_
  refine J_aload_n O.mo dX11_shift_6 0 rfl ?_
  refine J_getF O.co (kd0 := 11) (k11_0 h0) (l11_0 h0) (C := RX11) (T := TX11) (N := 42) rfl (by decide) rfl in_X11 41 (by decide) (v := .inl (.int (kV κ 5 0 0 41))) rfl mw519 rfl dX11_shift_7 ?_
  refine J_aload_n O.mo dX11_shift_10 0 rfl ?_
  refine J_getF O.co (kd0 := 11) (k11_0 h0) (l11_0 h0) (C := RX11) (T := TX11) (N := 42) rfl (by decide) rfl in_X11 22 (by decide) (v := .inr (some (5, 0, 22))) rfl mw520 rfl dX11_shift_11 ?_
  refine J_iload_n O.mo dX11_shift_14 1 rfl ?_
  obtain ⟨hg1, h⟩ := gd_some h
  refine J_iald O.co (g := (kV κ 5 0 22)) (ct_20n (l11_22 h0) (k11_22 h0) (n11_22 h0)) hg1 dX11_shift_15 ?_
  refine J_isub O.mo dX11_shift_16 ?_
  refine J_aload_n O.mo dX11_shift_17 0 rfl ?_
  refine J_getF O.co (kd0 := 11) (k11_0 h0) (l11_0 h0) (C := RX11) (T := TX11) (N := 42) rfl (by decide) rfl in_X11 20 (by decide) (v := .inr (some (5, 0, 20))) rfl mw521 rfl dX11_shift_18 ?_
  refine J_iload_n O.mo dX11_shift_21 1 rfl ?_
  obtain ⟨hg2, h⟩ := gd_some h
  refine J_iald O.co (g := (kV κ 5 0 20)) (ct_20n (l11_20 h0) (k11_20 h0) (n11_20 h0)) hg2 dX11_shift_22 ?_
  refine J_imul O.mo dX11_shift_23 ?_
  refine J_isub O.mo dX11_shift_24 ?_
  refine J_sub [] rfl ?_
  obtain ⟨κ3, r5, hq4, h⟩ := bd_some h
  refine J_callS O hKP (as := [.inl (.int (a2 - (((kV κ 5 0 0 41) - ((kV κ 5 0 22) a1.toNatClampNeg)) * ((kV κ 5 0 20) a1.toNatClampNeg))))]) (rest := [.inl (.int a1), .inr (some (5, 0, 21))]) (r := (some (.inl (.int r5)))) (c_X11_rest hfl hq4) rfl mw523 mw524 mw517 mw525 pd_X11_rest rfl (by decide) rfl (Nat.le_of_ble_eq_true rfl) sl_0 (st_v (st_p (s11_21 h0) st_0)) dX11_shift_25 ?_
  show J X B (E, κ3) 28 [] [.inl (.int r5), .inl (.int a1), .inr (some (5, 0, 21))]
  obtain ⟨hg6, h⟩ := gd_some h
  refine row_20 O (l11_21 h0) (k11_21 h0) (n11_21 h0) hg6 (x := r5) dX11_shift_28 ?_
  refine nm_some (P := fun z => J X B (E, z) 29 [] []) h (fun κ7 h => ?_)
  cases h
  exact hE _ _ dX11_shift_29
theorem c_X11_shift {l : Launch} (hfl : l.stackTraces = false) {E : EE} {κ κ' : K} {a1 : Int32} {a2 : Int32} (h0 : PC 11 E 5 0 0) {rr : Unit} (h : f_X11_shift E κ a1 a2 = some (κ', rr)) : Con l yX11_shift cX11_shift 3 none 2 20 [.inr (some (5, 0, 0)), .inl (.int a1), .inl (.int a2)] (E, κ) (E, κ') none := by
  exact Con_of hfl (by decide +kernel) (Nat.le_of_ble_eq_true rfl) rfl rfl (fun X B g O hKP hmL hE => w_X11_shift hfl O hKP hmL hE h0 _ _ _ h)
def f_X11_holders_b48 (E : EE) (k5 : K → Int32 → Int32 → Int32 → Int32 → Option (K × Int32)) (κ : K) (x1 : Int32) (x2 : Int32) (x4 : Int32) (xs0 : Int32) (xs1 : Int32) : Option (K × Int32) := nm (xs1 + xs0) fun y4 => nm (x4 + 1) fun y5 => k5 κ x1 x2 y4 y5
def f_X11_holders_b47 (E : EE) (k5 : K → Int32 → Int32 → Int32 → Int32 → Option (K × Int32)) (κ : K) (x1 : Int32) (x2 : Int32) (x4 : Int32) (xs0 : Int32) : Option (K × Int32) := f_X11_holders_b48 E k5 κ x1 x2 x4 0 xs0
def f_X11_holders_b5 (E : EE) : Nat → K → Int32 → Int32 → Int32 → Int32 → Option (K × Int32)
  | 0, _, _, _, _, _ => none
  | n + 1, κ, x1, x2, x3, x4 => if 8 * (kV κ 5 0 0 26) ≤ x4 then some (κ, x3) else gd (¬ ((x4 / 8) < 0 ∨ 5 ≤ (x4 / 8).toNatClampNeg)) (if (kV κ 5 0 15) (x4 / 8).toNatClampNeg = x1 then gd (¬ (x4 < 0 ∨ 40 ≤ x4.toNatClampNeg)) (if (kV κ 5 0 28) x4.toNatClampNeg = x2 then f_X11_holders_b48 E (f_X11_holders_b5 E n) κ x1 x2 x4 1 x3 else f_X11_holders_b47 E (f_X11_holders_b5 E n) κ x1 x2 x4 x3) else f_X11_holders_b47 E (f_X11_holders_b5 E n) κ x1 x2 x4 x3)
def f_X11_holders (E : EE) (κ : K) (a1 : Int32) (a2 : Int32) : Option (K × Int32) := f_X11_holders_b5 E FU κ a1 a2 0 0
set_option maxHeartbeats 4000000 in
set_option maxRecDepth 100000 in
theorem w_X11_holders_b48 {l0 : Launch} (hfl : l0.stackTraces = false) {X : MX} {B : BX (EE × K)} {g : GP} {E : EE} {κ' : K} {rr : Int32} (O : CK l0 X B g cX11_holders RX11 1 0) (hKP : KPok B E) (hmL : B.2.2.2.1 = 5) (hE : ∀ (pc : Nat) (lv : List (Nat × AV)), decode cX11_holders pc = .ok (.ireturn, 1) → J X B (E, κ') pc lv [.inl (.int rr)]) (h0 : PC 11 E 5 0 0) {k5 : K → Int32 → Int32 → Int32 → Int32 → Option (K × Int32)} (hk5 : ∀ (κ : K) (x1 : Int32) (x2 : Int32) (x3 : Int32) (x4 : Int32), k5 κ x1 x2 x3 x4 = some (κ', rr) → J X B (E, κ) 5 [(0, .inr (some (5, 0, 0))), (1, .inl (.int x1)), (2, .inl (.int x2)), (3, .inl (.int x3)), (4, .inl (.int x4))] []) : ∀ (κ : K) (x1 : Int32) (x2 : Int32) (x4 : Int32) (xs0 : Int32) (xs1 : Int32), f_X11_holders_b48 E k5 κ x1 x2 x4 xs0 xs1 = some (κ', rr) → J X B (E, κ) 48 [(0, .inr (some (5, 0, 0))), (1, .inl (.int x1)), (2, .inl (.int x2)), (4, .inl (.int x4))] [.inl (.int xs0), .inl (.int xs1)] := by
  intro κ x1 x2 x4 xs0 xs1 h
  unfold f_X11_holders_b48 at h
  refine J_iadd O.mo dX11_holders_48 ?_
  refine J_istore_n O.mo (lv' := [(0, .inr (some (5, 0, 0))), (1, .inl (.int x1)), (2, .inl (.int x2)), (4, .inl (.int x4))]) dX11_holders_49 (by rw [hmL]; decide) rfl rfl ?_
  refine nm_some (P := fun z => J X B (E, κ) 50 [(3, .inl (.int z)), (0, .inr (some (5, 0, 0))), (1, .inl (.int x1)), (2, .inl (.int x2)), (4, .inl (.int x4))] []) h (fun y4 h => ?_)
  refine J_iinc O.mo (v := x4 + 1) (lv' := [(3, .inl (.int y4)), (0, .inr (some (5, 0, 0))), (1, .inl (.int x1)), (2, .inl (.int x2))]) dX11_holders_50 (by rw [hmL]; decide) 4 rfl (by rw [show Int32.ofInt (1) = (1 : Int32) from by decide]) rfl rfl ?_
  refine nm_some (P := fun z => J X B (E, κ) 53 [(4, .inl (.int z)), (3, .inl (.int y4)), (0, .inr (some (5, 0, 0))), (1, .inl (.int x1)), (2, .inl (.int x2))] []) h (fun y5 h => ?_)
  refine J_goto O.mo (tgt := 5) dX11_holders_53 (by decide) ?_
  refine J_sub [2, 3, 4, 1, 0] rfl ?_
  exact hk5 _ _ _ _ _ h
set_option maxHeartbeats 4000000 in
set_option maxRecDepth 100000 in
theorem w_X11_holders_b47 {l0 : Launch} (hfl : l0.stackTraces = false) {X : MX} {B : BX (EE × K)} {g : GP} {E : EE} {κ' : K} {rr : Int32} (O : CK l0 X B g cX11_holders RX11 1 0) (hKP : KPok B E) (hmL : B.2.2.2.1 = 5) (hE : ∀ (pc : Nat) (lv : List (Nat × AV)), decode cX11_holders pc = .ok (.ireturn, 1) → J X B (E, κ') pc lv [.inl (.int rr)]) (h0 : PC 11 E 5 0 0) {k5 : K → Int32 → Int32 → Int32 → Int32 → Option (K × Int32)} (hk5 : ∀ (κ : K) (x1 : Int32) (x2 : Int32) (x3 : Int32) (x4 : Int32), k5 κ x1 x2 x3 x4 = some (κ', rr) → J X B (E, κ) 5 [(0, .inr (some (5, 0, 0))), (1, .inl (.int x1)), (2, .inl (.int x2)), (3, .inl (.int x3)), (4, .inl (.int x4))] []) : ∀ (κ : K) (x1 : Int32) (x2 : Int32) (x4 : Int32) (xs0 : Int32), f_X11_holders_b47 E k5 κ x1 x2 x4 xs0 = some (κ', rr) → J X B (E, κ) 47 [(0, .inr (some (5, 0, 0))), (1, .inl (.int x1)), (2, .inl (.int x2)), (4, .inl (.int x4))] [.inl (.int xs0)] := by
  intro κ x1 x2 x4 xs0 h
  unfold f_X11_holders_b47 at h
  refine J_iconst O.mo (v := 0) dX11_holders_47 (by decide) ?_
  exact w_X11_holders_b48 hfl O hKP hmL hE h0 hk5 _ _ _ _ _ _ h
set_option maxHeartbeats 4000000 in
set_option maxRecDepth 100000 in
theorem w_X11_holders_b5 {l0 : Launch} (hfl : l0.stackTraces = false) {X : MX} {B : BX (EE × K)} {g : GP} {E : EE} {κ' : K} {rr : Int32} (O : CK l0 X B g cX11_holders RX11 1 0) (hKP : KPok B E) (hmL : B.2.2.2.1 = 5) (hE : ∀ (pc : Nat) (lv : List (Nat × AV)), decode cX11_holders pc = .ok (.ireturn, 1) → J X B (E, κ') pc lv [.inl (.int rr)]) (h0 : PC 11 E 5 0 0) : ∀ (n : Nat) (κ : K) (x1 : Int32) (x2 : Int32) (x3 : Int32) (x4 : Int32), f_X11_holders_b5 E n κ x1 x2 x3 x4 = some (κ', rr) → J X B (E, κ) 5 [(0, .inr (some (5, 0, 0))), (1, .inl (.int x1)), (2, .inl (.int x2)), (3, .inl (.int x3)), (4, .inl (.int x4))] [] := by
  intro n
  induction n with
  | zero => intro κ x1 x2 x3 x4 h; cases h
  | succ n ih =>
    intro κ x1 x2 x3 x4 h
    rw [f_X11_holders_b5] at h
    refine J_iload O.mo dX11_holders_5 4 rfl ?_
    refine J_bipush O.mo (v := 8) dX11_holders_7 (by decide) ?_
    refine J_aload_n O.mo dX11_holders_9 0 rfl ?_
    refine J_getF O.co (kd0 := 11) (k11_0 h0) (l11_0 h0) (C := RX11) (T := TX11) (N := 42) rfl (by decide) rfl in_X11 26 (by decide) (v := .inl (.int (kV κ 5 0 0 26))) rfl mw514 rfl dX11_holders_10 ?_
    refine J_imul O.mo dX11_holders_13 ?_
    refine J_icmp_ge O.mo (tgt := 56) dX11_holders_14 (by decide) (fun hc1 => ?_) (fun hc1 => ?_)
    · replace h := (if_pos hc1).symm.trans h
      refine J_iload_n O.mo dX11_holders_56 3 rfl ?_
      cases h
      exact hE _ _ dX11_holders_57
    · replace h := (if_neg hc1).symm.trans h
      refine J_iload_n O.mo dX11_holders_17 3 rfl ?_
      refine J_aload_n O.mo dX11_holders_18 0 rfl ?_
      refine J_getF O.co (kd0 := 11) (k11_0 h0) (l11_0 h0) (C := RX11) (T := TX11) (N := 42) rfl (by decide) rfl in_X11 15 (by decide) (v := .inr (some (5, 0, 15))) rfl mw526 rfl dX11_holders_19 ?_
      refine J_iload O.mo dX11_holders_22 4 rfl ?_
      refine J_bipush O.mo (v := 8) dX11_holders_24 (by decide) ?_
      refine J_idiv O.mo dX11_holders_26 (by decide) ?_
      obtain ⟨hg2, h⟩ := gd_some h
      refine J_iald O.co (g := (kV κ 5 0 15)) (ct_20n (l11_15 h0) (k11_15 h0) (n11_15 h0)) hg2 dX11_holders_27 ?_
      refine J_iload_n O.mo dX11_holders_28 1 rfl ?_
      refine J_icmp_ne O.mo (tgt := 47) dX11_holders_29 (by decide) (fun hc3 => ?_) (fun hc3 => ?_)
      · replace h := (if_neg hc3).symm.trans h
        refine J_sub [0, 1, 2, 4] rfl ?_
        exact w_X11_holders_b47 hfl O hKP hmL hE h0 ih _ _ _ _ _ h
      · replace h := (if_pos hc3).symm.trans h
        refine J_aload_n O.mo dX11_holders_32 0 rfl ?_
        refine J_getF O.co (kd0 := 11) (k11_0 h0) (l11_0 h0) (C := RX11) (T := TX11) (N := 42) rfl (by decide) rfl in_X11 28 (by decide) (v := .inr (some (5, 0, 28))) rfl mw527 rfl dX11_holders_33 ?_
        refine J_iload O.mo dX11_holders_36 4 rfl ?_
        obtain ⟨hg6, h⟩ := gd_some h
        refine J_iald O.co (g := (kV κ 5 0 28)) (ct_20n (l11_28 h0) (k11_28 h0) (n11_28 h0)) hg6 dX11_holders_38 ?_
        refine J_iload_n O.mo dX11_holders_39 2 rfl ?_
        refine J_icmp_ne O.mo (tgt := 47) dX11_holders_40 (by decide) (fun hc7 => ?_) (fun hc7 => ?_)
        · replace h := (if_neg hc7).symm.trans h
          refine J_sub [0, 1, 2, 4] rfl ?_
          exact w_X11_holders_b47 hfl O hKP hmL hE h0 ih _ _ _ _ _ h
        · replace h := (if_pos hc7).symm.trans h
          refine J_iconst O.mo (v := 1) dX11_holders_43 (by decide) ?_
          refine J_goto O.mo (tgt := 48) dX11_holders_44 (by decide) ?_
          refine J_sub [0, 1, 2, 4] rfl ?_
          exact w_X11_holders_b48 hfl O hKP hmL hE h0 ih _ _ _ _ _ _ h
set_option maxHeartbeats 4000000 in
set_option maxRecDepth 100000 in
theorem w_X11_holders {l0 : Launch} (hfl : l0.stackTraces = false) {X : MX} {B : BX (EE × K)} {g : GP} {E : EE} {κ' : K} {rr : Int32} (O : CK l0 X B g cX11_holders RX11 1 0) (hKP : KPok B E) (hmL : B.2.2.2.1 = 5) (hE : ∀ (pc : Nat) (lv : List (Nat × AV)), decode cX11_holders pc = .ok (.ireturn, 1) → J X B (E, κ') pc lv [.inl (.int rr)]) (h0 : PC 11 E 5 0 0) : ∀ (κ : K) (a1 : Int32) (a2 : Int32), f_X11_holders E κ a1 a2 = some (κ', rr) → J X B (E, κ) 0 [(0, .inr (some (5, 0, 0))), (1, .inl (.int a1)), (2, .inl (.int a2))] [] := by
  intro κ a1 a2 h
  unfold f_X11_holders at h
  refine J_iconst O.mo (v := 0) dX11_holders_0 (by decide) ?_
  refine J_istore_n O.mo (lv' := [(0, .inr (some (5, 0, 0))), (1, .inl (.int a1)), (2, .inl (.int a2))]) dX11_holders_1 (by rw [hmL]; decide) rfl rfl ?_
  refine J_iconst O.mo (v := 0) dX11_holders_2 (by decide) ?_
  refine J_istore O.mo (lv' := [(3, .inl (.int 0)), (0, .inr (some (5, 0, 0))), (1, .inl (.int a1)), (2, .inl (.int a2))]) dX11_holders_3 (by rw [hmL]; decide) rfl rfl ?_
  refine J_sub [2, 3, 4, 1, 0] rfl ?_
  exact w_X11_holders_b5 hfl O hKP hmL hE h0 FU _ _ _ _ _ h
theorem c_X11_holders {l : Launch} (hfl : l.stackTraces = false) {E : EE} {κ κ' : K} {a1 : Int32} {a2 : Int32} (h0 : PC 11 E 5 0 0) {rr : Int32} (h : f_X11_holders E κ a1 a2 = some (κ', rr)) : Con l yX11_holders cX11_holders 5 (some .int) 1 0 [.inr (some (5, 0, 0)), .inl (.int a1), .inl (.int a2)] (E, κ) (E, κ') (some (.inl (.int rr))) := by
  exact Con_of hfl (by decide +kernel) (Nat.le_of_ble_eq_true rfl) rfl ⟨_, rfl, rfl⟩ (fun X B g O hKP hmL hE => w_X11_holders hfl O hKP hmL hE h0 _ _ _ h)
def f_X11_pageIn_b53 (E : EE) (k5 : K → Int32 → Int32 → Int32 → Int32 → Option (K × Int32)) (κ : K) (x1 : Int32) (x2 : Int32) (x4 : Int32) (xs0 : Int32) : Option (K × Int32) := nm (x4 + 1) fun y3 => k5 κ x1 x2 xs0 y3
def f_X11_pageIn_b52 (E : EE) (k5 : K → Int32 → Int32 → Int32 → Int32 → Option (K × Int32)) (κ : K) (x1 : Int32) (x2 : Int32) (x3 : Int32) (x4 : Int32) : Option (K × Int32) := f_X11_pageIn_b53 E k5 κ x1 x2 x4 x3
def f_X11_pageIn_b5 (E : EE) : Nat → K → Int32 → Int32 → Int32 → Int32 → Option (K × Int32)
  | 0, _, _, _, _, _ => none
  | n + 1, κ, x1, x2, x3, x4 => if 8 * (kV κ 5 0 0 26) ≤ x4 then some (κ, x3) else if x3 = (-1) then gd (¬ ((x4 / 8) < 0 ∨ 5 ≤ (x4 / 8).toNatClampNeg)) (if (kV κ 5 0 15) (x4 / 8).toNatClampNeg = x1 then gd (¬ (x4 < 0 ∨ 40 ≤ x4.toNatClampNeg)) (if (kV κ 5 0 28) x4.toNatClampNeg = x2 then f_X11_pageIn_b53 E (f_X11_pageIn_b5 E n) κ x1 x2 x4 x4 else f_X11_pageIn_b52 E (f_X11_pageIn_b5 E n) κ x1 x2 x3 x4) else f_X11_pageIn_b52 E (f_X11_pageIn_b5 E n) κ x1 x2 x3 x4) else f_X11_pageIn_b52 E (f_X11_pageIn_b5 E n) κ x1 x2 x3 x4
def f_X11_pageIn (E : EE) (κ : K) (a1 : Int32) (a2 : Int32) : Option (K × Int32) := f_X11_pageIn_b5 E FU κ a1 a2 ((-1)) 0
set_option maxHeartbeats 4000000 in
set_option maxRecDepth 100000 in
theorem w_X11_pageIn_b53 {l0 : Launch} (hfl : l0.stackTraces = false) {X : MX} {B : BX (EE × K)} {g : GP} {E : EE} {κ' : K} {rr : Int32} (O : CK l0 X B g cX11_pageIn RX11 1 0) (hKP : KPok B E) (hmL : B.2.2.2.1 = 5) (hE : ∀ (pc : Nat) (lv : List (Nat × AV)), decode cX11_pageIn pc = .ok (.ireturn, 1) → J X B (E, κ') pc lv [.inl (.int rr)]) (h0 : PC 11 E 5 0 0) {k5 : K → Int32 → Int32 → Int32 → Int32 → Option (K × Int32)} (hk5 : ∀ (κ : K) (x1 : Int32) (x2 : Int32) (x3 : Int32) (x4 : Int32), k5 κ x1 x2 x3 x4 = some (κ', rr) → J X B (E, κ) 5 [(0, .inr (some (5, 0, 0))), (1, .inl (.int x1)), (2, .inl (.int x2)), (3, .inl (.int x3)), (4, .inl (.int x4))] []) : ∀ (κ : K) (x1 : Int32) (x2 : Int32) (x4 : Int32) (xs0 : Int32), f_X11_pageIn_b53 E k5 κ x1 x2 x4 xs0 = some (κ', rr) → J X B (E, κ) 53 [(0, .inr (some (5, 0, 0))), (1, .inl (.int x1)), (2, .inl (.int x2)), (4, .inl (.int x4))] [.inl (.int xs0)] := by
  intro κ x1 x2 x4 xs0 h
  unfold f_X11_pageIn_b53 at h
  refine J_istore_n O.mo (lv' := [(0, .inr (some (5, 0, 0))), (1, .inl (.int x1)), (2, .inl (.int x2)), (4, .inl (.int x4))]) dX11_pageIn_53 (by rw [hmL]; decide) rfl rfl ?_
  refine J_iinc O.mo (v := x4 + 1) (lv' := [(3, .inl (.int xs0)), (0, .inr (some (5, 0, 0))), (1, .inl (.int x1)), (2, .inl (.int x2))]) dX11_pageIn_54 (by rw [hmL]; decide) 4 rfl (by rw [show Int32.ofInt (1) = (1 : Int32) from by decide]) rfl rfl ?_
  refine nm_some (P := fun z => J X B (E, κ) 57 [(4, .inl (.int z)), (3, .inl (.int xs0)), (0, .inr (some (5, 0, 0))), (1, .inl (.int x1)), (2, .inl (.int x2))] []) h (fun y3 h => ?_)
  refine J_goto O.mo (tgt := 5) dX11_pageIn_57 (by decide) ?_
  refine J_sub [2, 3, 4, 1, 0] rfl ?_
  exact hk5 _ _ _ _ _ h
set_option maxHeartbeats 4000000 in
set_option maxRecDepth 100000 in
theorem w_X11_pageIn_b52 {l0 : Launch} (hfl : l0.stackTraces = false) {X : MX} {B : BX (EE × K)} {g : GP} {E : EE} {κ' : K} {rr : Int32} (O : CK l0 X B g cX11_pageIn RX11 1 0) (hKP : KPok B E) (hmL : B.2.2.2.1 = 5) (hE : ∀ (pc : Nat) (lv : List (Nat × AV)), decode cX11_pageIn pc = .ok (.ireturn, 1) → J X B (E, κ') pc lv [.inl (.int rr)]) (h0 : PC 11 E 5 0 0) {k5 : K → Int32 → Int32 → Int32 → Int32 → Option (K × Int32)} (hk5 : ∀ (κ : K) (x1 : Int32) (x2 : Int32) (x3 : Int32) (x4 : Int32), k5 κ x1 x2 x3 x4 = some (κ', rr) → J X B (E, κ) 5 [(0, .inr (some (5, 0, 0))), (1, .inl (.int x1)), (2, .inl (.int x2)), (3, .inl (.int x3)), (4, .inl (.int x4))] []) : ∀ (κ : K) (x1 : Int32) (x2 : Int32) (x3 : Int32) (x4 : Int32), f_X11_pageIn_b52 E k5 κ x1 x2 x3 x4 = some (κ', rr) → J X B (E, κ) 52 [(0, .inr (some (5, 0, 0))), (1, .inl (.int x1)), (2, .inl (.int x2)), (3, .inl (.int x3)), (4, .inl (.int x4))] [] := by
  intro κ x1 x2 x3 x4 h
  unfold f_X11_pageIn_b52 at h
  refine J_iload_n O.mo dX11_pageIn_52 3 rfl ?_
  refine J_sub [0, 1, 2, 4] rfl ?_
  exact w_X11_pageIn_b53 hfl O hKP hmL hE h0 hk5 _ _ _ _ _ h
set_option maxHeartbeats 4000000 in
set_option maxRecDepth 100000 in
theorem w_X11_pageIn_b5 {l0 : Launch} (hfl : l0.stackTraces = false) {X : MX} {B : BX (EE × K)} {g : GP} {E : EE} {κ' : K} {rr : Int32} (O : CK l0 X B g cX11_pageIn RX11 1 0) (hKP : KPok B E) (hmL : B.2.2.2.1 = 5) (hE : ∀ (pc : Nat) (lv : List (Nat × AV)), decode cX11_pageIn pc = .ok (.ireturn, 1) → J X B (E, κ') pc lv [.inl (.int rr)]) (h0 : PC 11 E 5 0 0) : ∀ (n : Nat) (κ : K) (x1 : Int32) (x2 : Int32) (x3 : Int32) (x4 : Int32), f_X11_pageIn_b5 E n κ x1 x2 x3 x4 = some (κ', rr) → J X B (E, κ) 5 [(0, .inr (some (5, 0, 0))), (1, .inl (.int x1)), (2, .inl (.int x2)), (3, .inl (.int x3)), (4, .inl (.int x4))] [] := by
  intro n
  induction n with
  | zero => intro κ x1 x2 x3 x4 h; cases h
  | succ n ih =>
    intro κ x1 x2 x3 x4 h
    rw [f_X11_pageIn_b5] at h
    refine J_iload O.mo dX11_pageIn_5 4 rfl ?_
    refine J_bipush O.mo (v := 8) dX11_pageIn_7 (by decide) ?_
    refine J_aload_n O.mo dX11_pageIn_9 0 rfl ?_
    refine J_getF O.co (kd0 := 11) (k11_0 h0) (l11_0 h0) (C := RX11) (T := TX11) (N := 42) rfl (by decide) rfl in_X11 26 (by decide) (v := .inl (.int (kV κ 5 0 0 26))) rfl mw514 rfl dX11_pageIn_10 ?_
    refine J_imul O.mo dX11_pageIn_13 ?_
    refine J_icmp_ge O.mo (tgt := 60) dX11_pageIn_14 (by decide) (fun hc1 => ?_) (fun hc1 => ?_)
    · replace h := (if_pos hc1).symm.trans h
      refine J_iload_n O.mo dX11_pageIn_60 3 rfl ?_
      cases h
      exact hE _ _ dX11_pageIn_61
    · replace h := (if_neg hc1).symm.trans h
      refine J_iload_n O.mo dX11_pageIn_17 3 rfl ?_
      refine J_iconst O.mo (v := (-1)) dX11_pageIn_18 (by decide) ?_
      refine J_icmp_ne O.mo (tgt := 52) dX11_pageIn_19 (by decide) (fun hc2 => ?_) (fun hc2 => ?_)
      · replace h := (if_neg hc2).symm.trans h
        exact w_X11_pageIn_b52 hfl O hKP hmL hE h0 ih _ _ _ _ _ h
      · replace h := (if_pos hc2).symm.trans h
        refine J_aload_n O.mo dX11_pageIn_22 0 rfl ?_
        refine J_getF O.co (kd0 := 11) (k11_0 h0) (l11_0 h0) (C := RX11) (T := TX11) (N := 42) rfl (by decide) rfl in_X11 15 (by decide) (v := .inr (some (5, 0, 15))) rfl mw526 rfl dX11_pageIn_23 ?_
        refine J_iload O.mo dX11_pageIn_26 4 rfl ?_
        refine J_bipush O.mo (v := 8) dX11_pageIn_28 (by decide) ?_
        refine J_idiv O.mo dX11_pageIn_30 (by decide) ?_
        obtain ⟨hg4, h⟩ := gd_some h
        refine J_iald O.co (g := (kV κ 5 0 15)) (ct_20n (l11_15 h0) (k11_15 h0) (n11_15 h0)) hg4 dX11_pageIn_31 ?_
        refine J_iload_n O.mo dX11_pageIn_32 1 rfl ?_
        refine J_icmp_ne O.mo (tgt := 52) dX11_pageIn_33 (by decide) (fun hc5 => ?_) (fun hc5 => ?_)
        · replace h := (if_neg hc5).symm.trans h
          exact w_X11_pageIn_b52 hfl O hKP hmL hE h0 ih _ _ _ _ _ h
        · replace h := (if_pos hc5).symm.trans h
          refine J_aload_n O.mo dX11_pageIn_36 0 rfl ?_
          refine J_getF O.co (kd0 := 11) (k11_0 h0) (l11_0 h0) (C := RX11) (T := TX11) (N := 42) rfl (by decide) rfl in_X11 28 (by decide) (v := .inr (some (5, 0, 28))) rfl mw527 rfl dX11_pageIn_37 ?_
          refine J_iload O.mo dX11_pageIn_40 4 rfl ?_
          obtain ⟨hg6, h⟩ := gd_some h
          refine J_iald O.co (g := (kV κ 5 0 28)) (ct_20n (l11_28 h0) (k11_28 h0) (n11_28 h0)) hg6 dX11_pageIn_42 ?_
          refine J_iload_n O.mo dX11_pageIn_43 2 rfl ?_
          refine J_icmp_ne O.mo (tgt := 52) dX11_pageIn_44 (by decide) (fun hc7 => ?_) (fun hc7 => ?_)
          · replace h := (if_neg hc7).symm.trans h
            exact w_X11_pageIn_b52 hfl O hKP hmL hE h0 ih _ _ _ _ _ h
          · replace h := (if_pos hc7).symm.trans h
            refine J_iload O.mo dX11_pageIn_47 4 rfl ?_
            refine J_goto O.mo (tgt := 53) dX11_pageIn_49 (by decide) ?_
            refine J_sub [0, 1, 2, 4] rfl ?_
            exact w_X11_pageIn_b53 hfl O hKP hmL hE h0 ih _ _ _ _ _ h
set_option maxHeartbeats 4000000 in
set_option maxRecDepth 100000 in
theorem w_X11_pageIn {l0 : Launch} (hfl : l0.stackTraces = false) {X : MX} {B : BX (EE × K)} {g : GP} {E : EE} {κ' : K} {rr : Int32} (O : CK l0 X B g cX11_pageIn RX11 1 0) (hKP : KPok B E) (hmL : B.2.2.2.1 = 5) (hE : ∀ (pc : Nat) (lv : List (Nat × AV)), decode cX11_pageIn pc = .ok (.ireturn, 1) → J X B (E, κ') pc lv [.inl (.int rr)]) (h0 : PC 11 E 5 0 0) : ∀ (κ : K) (a1 : Int32) (a2 : Int32), f_X11_pageIn E κ a1 a2 = some (κ', rr) → J X B (E, κ) 0 [(0, .inr (some (5, 0, 0))), (1, .inl (.int a1)), (2, .inl (.int a2))] [] := by
  intro κ a1 a2 h
  unfold f_X11_pageIn at h
  refine J_iconst O.mo (v := (-1)) dX11_pageIn_0 (by decide) ?_
  refine J_istore_n O.mo (lv' := [(0, .inr (some (5, 0, 0))), (1, .inl (.int a1)), (2, .inl (.int a2))]) dX11_pageIn_1 (by rw [hmL]; decide) rfl rfl ?_
  refine J_iconst O.mo (v := 0) dX11_pageIn_2 (by decide) ?_
  refine J_istore O.mo (lv' := [(3, .inl (.int ((-1)))), (0, .inr (some (5, 0, 0))), (1, .inl (.int a1)), (2, .inl (.int a2))]) dX11_pageIn_3 (by rw [hmL]; decide) rfl rfl ?_
  refine J_sub [2, 3, 4, 1, 0] rfl ?_
  exact w_X11_pageIn_b5 hfl O hKP hmL hE h0 FU _ _ _ _ _ h
theorem c_X11_pageIn {l : Launch} (hfl : l.stackTraces = false) {E : EE} {κ κ' : K} {a1 : Int32} {a2 : Int32} (h0 : PC 11 E 5 0 0) {rr : Int32} (h : f_X11_pageIn E κ a1 a2 = some (κ', rr)) : Con l yX11_pageIn cX11_pageIn 5 (some .int) 1 0 [.inr (some (5, 0, 0)), .inl (.int a1), .inl (.int a2)] (E, κ) (E, κ') (some (.inl (.int rr))) := by
  exact Con_of hfl (by decide +kernel) (Nat.le_of_ble_eq_true rfl) rfl ⟨_, rfl, rfl⟩ (fun X B g O hKP hmL hE => w_X11_pageIn hfl O hKP hmL hE h0 _ _ _ h)
def f_X11_freeFrame_b144 (E : EE) (k91 : K → Int32 → Int32 → Int32 → Option (K × Int32)) (κ : K) (x1 : Int32) (x3 : Int32) (x4 : Int32) : Option (K × Int32) := nm (x4 + 1) fun y5 => k91 κ x1 x3 y5
def f_X11_freeFrame_b91 (E : EE) : Nat → K → Int32 → Int32 → Int32 → Option (K × Int32)
  | 0, _, _, _, _ => none
  | n + 1, κ, x1, x3, x4 => if 8 * (kV κ 5 0 0 26) ≤ x4 then some (κ, x3) else gd (¬ ((x4 / 8) < 0 ∨ 5 ≤ (x4 / 8).toNatClampNeg)) (if (kV κ 5 0 15) (x4 / 8).toNatClampNeg = x1 then gd (¬ (x4 < 0 ∨ 40 ≤ x4.toNatClampNeg)) (if (kV κ 5 0 28) x4.toNatClampNeg = x3 then gd (¬ (x4 < 0 ∨ 40 ≤ x4.toNatClampNeg)) (nm (setV κ 5 0 28 x4.toNatClampNeg ((-1))) fun κ9 => gd (¬ (x4 < 0 ∨ 40 ≤ x4.toNatClampNeg)) (nm (setV κ9 5 0 27 x4.toNatClampNeg 2) fun κ11 => f_X11_freeFrame_b144 E (f_X11_freeFrame_b91 E n) κ11 x1 x3 x4)) else f_X11_freeFrame_b144 E (f_X11_freeFrame_b91 E n) κ x1 x3 x4) else f_X11_freeFrame_b144 E (f_X11_freeFrame_b91 E n) κ x1 x3 x4)
def f_X11_freeFrame_b88 (E : EE) (κ : K) (x1 : Int32) (x3 : Int32) : Option (K × Int32) := f_X11_freeFrame_b91 E FU κ x1 x3 0
def f_X11_freeFrame_b81 (E : EE) (k5 : K → Int32 → Int32 → Int32 → Int32 → Option (K × Int32)) (κ : K) (x1 : Int32) (x2 : Int32) (x4 : Int32) (xs0 : Int32) : Option (K × Int32) := nm (x4 + 1) fun y18 => k5 κ x1 x2 xs0 y18
def f_X11_freeFrame_b80 (E : EE) (k5 : K → Int32 → Int32 → Int32 → Int32 → Option (K × Int32)) (κ : K) (x1 : Int32) (x2 : Int32) (x3 : Int32) (x4 : Int32) : Option (K × Int32) := f_X11_freeFrame_b81 E k5 κ x1 x2 x4 x3
def f_X11_freeFrame_b62 (E : EE) (k5 : K → Int32 → Int32 → Int32 → Int32 → Option (K × Int32)) (κ : K) (x1 : Int32) (x2 : Int32) (x3 : Int32) (x4 : Int32) (xs0 : Int32) : Option (K × Int32) := if x4 = x2 then f_X11_freeFrame_b80 E k5 κ x1 x2 x3 x4 else if xs0 = 0 then f_X11_freeFrame_b80 E k5 κ x1 x2 x3 x4 else f_X11_freeFrame_b81 E k5 κ x1 x2 x4 x4
def f_X11_freeFrame_b57 (E : EE) (k5 : K → Int32 → Int32 → Int32 → Int32 → Option (K × Int32)) (κ : K) (x1 : Int32) (x2 : Int32) (x3 : Int32) (x4 : Int32) : Option (K × Int32) := f_X11_freeFrame_b62 E k5 κ x1 x2 x3 x4 1
def f_X11_freeFrame_b5 (E : EE) : Nat → K → Int32 → Int32 → Int32 → Int32 → Option (K × Int32)
  | 0, _, _, _, _, _ => none
  | n + 1, κ, x1, x2, x3, x4 => if 16 ≤ x4 then f_X11_freeFrame_b88 E κ x1 x3 else bd (f_X11_pageIn E κ x1 x4) fun κ12 r14 => if r14 = (-1) then some (κ12, x4) else if x3 = (-1) then f_X11_freeFrame_b57 E (f_X11_freeFrame_b5 E n) κ12 x1 x2 x3 x4 else gd (¬ (((16 * x1) + x4) < 0 ∨ 32 ≤ ((16 * x1) + x4).toNatClampNeg)) (gd (¬ (((16 * x1) + x3) < 0 ∨ 32 ≤ ((16 * x1) + x3).toNatClampNeg)) (if (kV κ12 5 0 29) ((16 * x1) + x3).toNatClampNeg ≤ (kV κ12 5 0 29) ((16 * x1) + x4).toNatClampNeg then f_X11_freeFrame_b62 E (f_X11_freeFrame_b5 E n) κ12 x1 x2 x3 x4 0 else f_X11_freeFrame_b57 E (f_X11_freeFrame_b5 E n) κ12 x1 x2 x3 x4))
def f_X11_freeFrame (E : EE) (κ : K) (a1 : Int32) (a2 : Int32) : Option (K × Int32) := f_X11_freeFrame_b5 E FU κ a1 a2 ((-1)) 0
set_option maxHeartbeats 4000000 in
set_option maxRecDepth 100000 in
theorem w_X11_freeFrame_b144 {l0 : Launch} (hfl : l0.stackTraces = false) {X : MX} {B : BX (EE × K)} {g : GP} {E : EE} {κ' : K} {rr : Int32} (O : CK l0 X B g cX11_freeFrame RX11 2 24) (hKP : KPok B E) (hmL : B.2.2.2.1 = 6) (hE : ∀ (pc : Nat) (lv : List (Nat × AV)), decode cX11_freeFrame pc = .ok (.ireturn, 1) → J X B (E, κ') pc lv [.inl (.int rr)]) (h0 : PC 11 E 5 0 0) {k91 : K → Int32 → Int32 → Int32 → Option (K × Int32)} (hk91 : ∀ (κ : K) (x1 : Int32) (x3 : Int32) (x4 : Int32), k91 κ x1 x3 x4 = some (κ', rr) → J X B (E, κ) 91 [(0, .inr (some (5, 0, 0))), (1, .inl (.int x1)), (3, .inl (.int x3)), (4, .inl (.int x4))] []) : ∀ (κ : K) (x1 : Int32) (x3 : Int32) (x4 : Int32), f_X11_freeFrame_b144 E k91 κ x1 x3 x4 = some (κ', rr) → J X B (E, κ) 144 [(0, .inr (some (5, 0, 0))), (1, .inl (.int x1)), (3, .inl (.int x3)), (4, .inl (.int x4))] [] := by
  intro κ x1 x3 x4 h
  unfold f_X11_freeFrame_b144 at h
  refine J_iinc O.mo (v := x4 + 1) (lv' := [(0, .inr (some (5, 0, 0))), (1, .inl (.int x1)), (3, .inl (.int x3))]) dX11_freeFrame_144 (by rw [hmL]; decide) 3 rfl (by rw [show Int32.ofInt (1) = (1 : Int32) from by decide]) rfl rfl ?_
  refine nm_some (P := fun z => J X B (E, κ) 147 [(4, .inl (.int z)), (0, .inr (some (5, 0, 0))), (1, .inl (.int x1)), (3, .inl (.int x3))] []) h (fun y5 h => ?_)
  refine J_goto O.mo (tgt := 91) dX11_freeFrame_147 (by decide) ?_
  refine J_sub [1, 2, 3, 0] rfl ?_
  exact hk91 _ _ _ _ h
set_option maxHeartbeats 4000000 in
set_option maxRecDepth 100000 in
theorem w_X11_freeFrame_b91 {l0 : Launch} (hfl : l0.stackTraces = false) {X : MX} {B : BX (EE × K)} {g : GP} {E : EE} {κ' : K} {rr : Int32} (O : CK l0 X B g cX11_freeFrame RX11 2 24) (hKP : KPok B E) (hmL : B.2.2.2.1 = 6) (hE : ∀ (pc : Nat) (lv : List (Nat × AV)), decode cX11_freeFrame pc = .ok (.ireturn, 1) → J X B (E, κ') pc lv [.inl (.int rr)]) (h0 : PC 11 E 5 0 0) : ∀ (n : Nat) (κ : K) (x1 : Int32) (x3 : Int32) (x4 : Int32), f_X11_freeFrame_b91 E n κ x1 x3 x4 = some (κ', rr) → J X B (E, κ) 91 [(0, .inr (some (5, 0, 0))), (1, .inl (.int x1)), (3, .inl (.int x3)), (4, .inl (.int x4))] [] := by
  intro n
  induction n with
  | zero => intro κ x1 x3 x4 h; cases h
  | succ n ih =>
    intro κ x1 x3 x4 h
    rw [f_X11_freeFrame_b91] at h
    refine J_iload O.mo dX11_freeFrame_91 3 rfl ?_
    refine J_bipush O.mo (v := 8) dX11_freeFrame_93 (by decide) ?_
    refine J_aload_n O.mo dX11_freeFrame_95 0 rfl ?_
    refine J_getF O.co (kd0 := 11) (k11_0 h0) (l11_0 h0) (C := RX11) (T := TX11) (N := 42) rfl (by decide) rfl in_X11 26 (by decide) (v := .inl (.int (kV κ 5 0 0 26))) rfl mw514 rfl dX11_freeFrame_96 ?_
    refine J_imul O.mo dX11_freeFrame_99 ?_
    refine J_icmp_ge O.mo (tgt := 150) dX11_freeFrame_100 (by decide) (fun hc2 => ?_) (fun hc2 => ?_)
    · replace h := (if_pos hc2).symm.trans h
      refine J_iload_n O.mo dX11_freeFrame_150 2 rfl ?_
      cases h
      exact hE _ _ dX11_freeFrame_151
    · replace h := (if_neg hc2).symm.trans h
      refine J_aload_n O.mo dX11_freeFrame_103 0 rfl ?_
      refine J_getF O.co (kd0 := 11) (k11_0 h0) (l11_0 h0) (C := RX11) (T := TX11) (N := 42) rfl (by decide) rfl in_X11 15 (by decide) (v := .inr (some (5, 0, 15))) rfl mw526 rfl dX11_freeFrame_104 ?_
      refine J_iload O.mo dX11_freeFrame_107 3 rfl ?_
      refine J_bipush O.mo (v := 8) dX11_freeFrame_109 (by decide) ?_
      refine J_idiv O.mo dX11_freeFrame_111 (by decide) ?_
      obtain ⟨hg3, h⟩ := gd_some h
      refine J_iald O.co (g := (kV κ 5 0 15)) (ct_20n (l11_15 h0) (k11_15 h0) (n11_15 h0)) hg3 dX11_freeFrame_112 ?_
      refine J_iload_n O.mo dX11_freeFrame_113 1 rfl ?_
      refine J_icmp_ne O.mo (tgt := 144) dX11_freeFrame_114 (by decide) (fun hc4 => ?_) (fun hc4 => ?_)
      · replace h := (if_neg hc4).symm.trans h
        exact w_X11_freeFrame_b144 hfl O hKP hmL hE h0 ih _ _ _ _ h
      · replace h := (if_pos hc4).symm.trans h
        refine J_aload_n O.mo dX11_freeFrame_117 0 rfl ?_
        refine J_getF O.co (kd0 := 11) (k11_0 h0) (l11_0 h0) (C := RX11) (T := TX11) (N := 42) rfl (by decide) rfl in_X11 28 (by decide) (v := .inr (some (5, 0, 28))) rfl mw527 rfl dX11_freeFrame_118 ?_
        refine J_iload O.mo dX11_freeFrame_121 3 rfl ?_
        obtain ⟨hg6, h⟩ := gd_some h
        refine J_iald O.co (g := (kV κ 5 0 28)) (ct_20n (l11_28 h0) (k11_28 h0) (n11_28 h0)) hg6 dX11_freeFrame_123 ?_
        refine J_iload_n O.mo dX11_freeFrame_124 2 rfl ?_
        refine J_icmp_ne O.mo (tgt := 144) dX11_freeFrame_125 (by decide) (fun hc7 => ?_) (fun hc7 => ?_)
        · replace h := (if_neg hc7).symm.trans h
          exact w_X11_freeFrame_b144 hfl O hKP hmL hE h0 ih _ _ _ _ h
        · replace h := (if_pos hc7).symm.trans h
          refine J_aload_n O.mo dX11_freeFrame_128 0 rfl ?_
          refine J_getF O.co (kd0 := 11) (k11_0 h0) (l11_0 h0) (C := RX11) (T := TX11) (N := 42) rfl (by decide) rfl in_X11 28 (by decide) (v := .inr (some (5, 0, 28))) rfl mw527 rfl dX11_freeFrame_129 ?_
          refine J_iload O.mo dX11_freeFrame_132 3 rfl ?_
          refine J_iconst O.mo (v := (-1)) dX11_freeFrame_134 (by decide) ?_
          obtain ⟨hg8, h⟩ := gd_some h
          refine row_20 O (l11_28 h0) (k11_28 h0) (n11_28 h0) hg8 (x := ((-1))) dX11_freeFrame_135 ?_
          refine nm_some (P := fun z => J X B (E, z) 136 [(0, .inr (some (5, 0, 0))), (1, .inl (.int x1)), (3, .inl (.int x3)), (4, .inl (.int x4))] []) h (fun κ9 h => ?_)
          refine J_aload_n O.mo dX11_freeFrame_136 0 rfl ?_
          refine J_getF O.co (kd0 := 11) (k11_0 h0) (l11_0 h0) (C := RX11) (T := TX11) (N := 42) rfl (by decide) rfl in_X11 27 (by decide) (v := .inr (some (5, 0, 27))) rfl mw528 rfl dX11_freeFrame_137 ?_
          refine J_iload O.mo dX11_freeFrame_140 3 rfl ?_
          refine J_iconst O.mo (v := 2) dX11_freeFrame_142 (by decide) ?_
          obtain ⟨hg10, h⟩ := gd_some h
          refine row_20 O (l11_27 h0) (k11_27 h0) (n11_27 h0) hg10 (x := 2) dX11_freeFrame_143 ?_
          refine nm_some (P := fun z => J X B (E, z) 144 [(0, .inr (some (5, 0, 0))), (1, .inl (.int x1)), (3, .inl (.int x3)), (4, .inl (.int x4))] []) h (fun κ11 h => ?_)
          exact w_X11_freeFrame_b144 hfl O hKP hmL hE h0 ih _ _ _ _ h
set_option maxHeartbeats 4000000 in
set_option maxRecDepth 100000 in
theorem w_X11_freeFrame_b88 {l0 : Launch} (hfl : l0.stackTraces = false) {X : MX} {B : BX (EE × K)} {g : GP} {E : EE} {κ' : K} {rr : Int32} (O : CK l0 X B g cX11_freeFrame RX11 2 24) (hKP : KPok B E) (hmL : B.2.2.2.1 = 6) (hE : ∀ (pc : Nat) (lv : List (Nat × AV)), decode cX11_freeFrame pc = .ok (.ireturn, 1) → J X B (E, κ') pc lv [.inl (.int rr)]) (h0 : PC 11 E 5 0 0) : ∀ (κ : K) (x1 : Int32) (x3 : Int32), f_X11_freeFrame_b88 E κ x1 x3 = some (κ', rr) → J X B (E, κ) 88 [(0, .inr (some (5, 0, 0))), (1, .inl (.int x1)), (3, .inl (.int x3))] [] := by
  intro κ x1 x3 h
  unfold f_X11_freeFrame_b88 at h
  refine J_iconst O.mo (v := 0) dX11_freeFrame_88 (by decide) ?_
  refine J_istore O.mo (lv' := [(0, .inr (some (5, 0, 0))), (1, .inl (.int x1)), (3, .inl (.int x3))]) dX11_freeFrame_89 (by rw [hmL]; decide) rfl rfl ?_
  refine J_sub [1, 2, 3, 0] rfl ?_
  exact w_X11_freeFrame_b91 hfl O hKP hmL hE h0 FU _ _ _ _ h
set_option maxHeartbeats 4000000 in
set_option maxRecDepth 100000 in
theorem w_X11_freeFrame_b81 {l0 : Launch} (hfl : l0.stackTraces = false) {X : MX} {B : BX (EE × K)} {g : GP} {E : EE} {κ' : K} {rr : Int32} (O : CK l0 X B g cX11_freeFrame RX11 2 24) (hKP : KPok B E) (hmL : B.2.2.2.1 = 6) (hE : ∀ (pc : Nat) (lv : List (Nat × AV)), decode cX11_freeFrame pc = .ok (.ireturn, 1) → J X B (E, κ') pc lv [.inl (.int rr)]) (h0 : PC 11 E 5 0 0) {k5 : K → Int32 → Int32 → Int32 → Int32 → Option (K × Int32)} (hk5 : ∀ (κ : K) (x1 : Int32) (x2 : Int32) (x3 : Int32) (x4 : Int32), k5 κ x1 x2 x3 x4 = some (κ', rr) → J X B (E, κ) 5 [(0, .inr (some (5, 0, 0))), (1, .inl (.int x1)), (2, .inl (.int x2)), (3, .inl (.int x3)), (4, .inl (.int x4))] []) : ∀ (κ : K) (x1 : Int32) (x2 : Int32) (x4 : Int32) (xs0 : Int32), f_X11_freeFrame_b81 E k5 κ x1 x2 x4 xs0 = some (κ', rr) → J X B (E, κ) 81 [(0, .inr (some (5, 0, 0))), (1, .inl (.int x1)), (2, .inl (.int x2)), (4, .inl (.int x4))] [.inl (.int xs0)] := by
  intro κ x1 x2 x4 xs0 h
  unfold f_X11_freeFrame_b81 at h
  refine J_istore_n O.mo (lv' := [(0, .inr (some (5, 0, 0))), (1, .inl (.int x1)), (2, .inl (.int x2)), (4, .inl (.int x4))]) dX11_freeFrame_81 (by rw [hmL]; decide) rfl rfl ?_
  refine J_iinc O.mo (v := x4 + 1) (lv' := [(3, .inl (.int xs0)), (0, .inr (some (5, 0, 0))), (1, .inl (.int x1)), (2, .inl (.int x2))]) dX11_freeFrame_82 (by rw [hmL]; decide) 4 rfl (by rw [show Int32.ofInt (1) = (1 : Int32) from by decide]) rfl rfl ?_
  refine nm_some (P := fun z => J X B (E, κ) 85 [(4, .inl (.int z)), (3, .inl (.int xs0)), (0, .inr (some (5, 0, 0))), (1, .inl (.int x1)), (2, .inl (.int x2))] []) h (fun y18 h => ?_)
  refine J_goto O.mo (tgt := 5) dX11_freeFrame_85 (by decide) ?_
  refine J_sub [2, 3, 4, 1, 0] rfl ?_
  exact hk5 _ _ _ _ _ h
set_option maxHeartbeats 4000000 in
set_option maxRecDepth 100000 in
theorem w_X11_freeFrame_b80 {l0 : Launch} (hfl : l0.stackTraces = false) {X : MX} {B : BX (EE × K)} {g : GP} {E : EE} {κ' : K} {rr : Int32} (O : CK l0 X B g cX11_freeFrame RX11 2 24) (hKP : KPok B E) (hmL : B.2.2.2.1 = 6) (hE : ∀ (pc : Nat) (lv : List (Nat × AV)), decode cX11_freeFrame pc = .ok (.ireturn, 1) → J X B (E, κ') pc lv [.inl (.int rr)]) (h0 : PC 11 E 5 0 0) {k5 : K → Int32 → Int32 → Int32 → Int32 → Option (K × Int32)} (hk5 : ∀ (κ : K) (x1 : Int32) (x2 : Int32) (x3 : Int32) (x4 : Int32), k5 κ x1 x2 x3 x4 = some (κ', rr) → J X B (E, κ) 5 [(0, .inr (some (5, 0, 0))), (1, .inl (.int x1)), (2, .inl (.int x2)), (3, .inl (.int x3)), (4, .inl (.int x4))] []) : ∀ (κ : K) (x1 : Int32) (x2 : Int32) (x3 : Int32) (x4 : Int32), f_X11_freeFrame_b80 E k5 κ x1 x2 x3 x4 = some (κ', rr) → J X B (E, κ) 80 [(0, .inr (some (5, 0, 0))), (1, .inl (.int x1)), (2, .inl (.int x2)), (3, .inl (.int x3)), (4, .inl (.int x4))] [] := by
  intro κ x1 x2 x3 x4 h
  unfold f_X11_freeFrame_b80 at h
  refine J_iload_n O.mo dX11_freeFrame_80 3 rfl ?_
  refine J_sub [0, 1, 2, 4] rfl ?_
  exact w_X11_freeFrame_b81 hfl O hKP hmL hE h0 hk5 _ _ _ _ _ h
set_option maxHeartbeats 4000000 in
set_option maxRecDepth 100000 in
theorem w_X11_freeFrame_b62 {l0 : Launch} (hfl : l0.stackTraces = false) {X : MX} {B : BX (EE × K)} {g : GP} {E : EE} {κ' : K} {rr : Int32} (O : CK l0 X B g cX11_freeFrame RX11 2 24) (hKP : KPok B E) (hmL : B.2.2.2.1 = 6) (hE : ∀ (pc : Nat) (lv : List (Nat × AV)), decode cX11_freeFrame pc = .ok (.ireturn, 1) → J X B (E, κ') pc lv [.inl (.int rr)]) (h0 : PC 11 E 5 0 0) {k5 : K → Int32 → Int32 → Int32 → Int32 → Option (K × Int32)} (hk5 : ∀ (κ : K) (x1 : Int32) (x2 : Int32) (x3 : Int32) (x4 : Int32), k5 κ x1 x2 x3 x4 = some (κ', rr) → J X B (E, κ) 5 [(0, .inr (some (5, 0, 0))), (1, .inl (.int x1)), (2, .inl (.int x2)), (3, .inl (.int x3)), (4, .inl (.int x4))] []) : ∀ (κ : K) (x1 : Int32) (x2 : Int32) (x3 : Int32) (x4 : Int32) (xs0 : Int32), f_X11_freeFrame_b62 E k5 κ x1 x2 x3 x4 xs0 = some (κ', rr) → J X B (E, κ) 62 [(0, .inr (some (5, 0, 0))), (1, .inl (.int x1)), (2, .inl (.int x2)), (3, .inl (.int x3)), (4, .inl (.int x4))] [.inl (.int xs0)] := by
  intro κ x1 x2 x3 x4 xs0 h
  unfold f_X11_freeFrame_b62 at h
  refine J_istore O.mo (lv' := [(0, .inr (some (5, 0, 0))), (1, .inl (.int x1)), (2, .inl (.int x2)), (3, .inl (.int x3)), (4, .inl (.int x4))]) dX11_freeFrame_62 (by rw [hmL]; decide) rfl rfl ?_
  refine J_iload O.mo dX11_freeFrame_64 5 rfl ?_
  refine J_iload_n O.mo dX11_freeFrame_66 3 rfl ?_
  refine J_icmp_eq O.mo (tgt := 80) dX11_freeFrame_67 (by decide) (fun hc17 => ?_) (fun hc17 => ?_)
  · replace h := (if_pos hc17).symm.trans h
    refine J_sub [1, 2, 3, 4, 5] rfl ?_
    exact w_X11_freeFrame_b80 hfl O hKP hmL hE h0 hk5 _ _ _ _ _ h
  · replace h := (if_neg hc17).symm.trans h
    refine J_iload O.mo dX11_freeFrame_70 0 rfl ?_
    refine J_if_eq O.mo (tgt := 80) dX11_freeFrame_72 (by decide) (fun hc19 => ?_) (fun hc19 => ?_)
    · replace h := (if_pos hc19).symm.trans h
      refine J_sub [1, 2, 3, 4, 5] rfl ?_
      exact w_X11_freeFrame_b80 hfl O hKP hmL hE h0 hk5 _ _ _ _ _ h
    · replace h := (if_neg hc19).symm.trans h
      refine J_iload O.mo dX11_freeFrame_75 5 rfl ?_
      refine J_goto O.mo (tgt := 81) dX11_freeFrame_77 (by decide) ?_
      refine J_sub [1, 2, 3, 5] rfl ?_
      exact w_X11_freeFrame_b81 hfl O hKP hmL hE h0 hk5 _ _ _ _ _ h
set_option maxHeartbeats 4000000 in
set_option maxRecDepth 100000 in
theorem w_X11_freeFrame_b57 {l0 : Launch} (hfl : l0.stackTraces = false) {X : MX} {B : BX (EE × K)} {g : GP} {E : EE} {κ' : K} {rr : Int32} (O : CK l0 X B g cX11_freeFrame RX11 2 24) (hKP : KPok B E) (hmL : B.2.2.2.1 = 6) (hE : ∀ (pc : Nat) (lv : List (Nat × AV)), decode cX11_freeFrame pc = .ok (.ireturn, 1) → J X B (E, κ') pc lv [.inl (.int rr)]) (h0 : PC 11 E 5 0 0) {k5 : K → Int32 → Int32 → Int32 → Int32 → Option (K × Int32)} (hk5 : ∀ (κ : K) (x1 : Int32) (x2 : Int32) (x3 : Int32) (x4 : Int32), k5 κ x1 x2 x3 x4 = some (κ', rr) → J X B (E, κ) 5 [(0, .inr (some (5, 0, 0))), (1, .inl (.int x1)), (2, .inl (.int x2)), (3, .inl (.int x3)), (4, .inl (.int x4))] []) : ∀ (κ : K) (x1 : Int32) (x2 : Int32) (x3 : Int32) (x4 : Int32), f_X11_freeFrame_b57 E k5 κ x1 x2 x3 x4 = some (κ', rr) → J X B (E, κ) 57 [(0, .inr (some (5, 0, 0))), (1, .inl (.int x1)), (2, .inl (.int x2)), (3, .inl (.int x3)), (4, .inl (.int x4))] [] := by
  intro κ x1 x2 x3 x4 h
  unfold f_X11_freeFrame_b57 at h
  refine J_iconst O.mo (v := 1) dX11_freeFrame_57 (by decide) ?_
  refine J_goto O.mo (tgt := 62) dX11_freeFrame_58 (by decide) ?_
  exact w_X11_freeFrame_b62 hfl O hKP hmL hE h0 hk5 _ _ _ _ _ _ h
set_option maxHeartbeats 4000000 in
set_option maxRecDepth 100000 in
theorem w_X11_freeFrame_b5 {l0 : Launch} (hfl : l0.stackTraces = false) {X : MX} {B : BX (EE × K)} {g : GP} {E : EE} {κ' : K} {rr : Int32} (O : CK l0 X B g cX11_freeFrame RX11 2 24) (hKP : KPok B E) (hmL : B.2.2.2.1 = 6) (hE : ∀ (pc : Nat) (lv : List (Nat × AV)), decode cX11_freeFrame pc = .ok (.ireturn, 1) → J X B (E, κ') pc lv [.inl (.int rr)]) (h0 : PC 11 E 5 0 0) : ∀ (n : Nat) (κ : K) (x1 : Int32) (x2 : Int32) (x3 : Int32) (x4 : Int32), f_X11_freeFrame_b5 E n κ x1 x2 x3 x4 = some (κ', rr) → J X B (E, κ) 5 [(0, .inr (some (5, 0, 0))), (1, .inl (.int x1)), (2, .inl (.int x2)), (3, .inl (.int x3)), (4, .inl (.int x4))] [] := by
  intro n
  induction n with
  | zero => intro κ x1 x2 x3 x4 h; cases h
  | succ n ih =>
    intro κ x1 x2 x3 x4 h
    rw [f_X11_freeFrame_b5] at h
    refine J_iload O.mo dX11_freeFrame_5 4 rfl ?_
    refine J_bipush O.mo (v := 16) dX11_freeFrame_7 (by decide) ?_
    refine J_icmp_ge O.mo (tgt := 88) dX11_freeFrame_9 (by decide) (fun hc1 => ?_) (fun hc1 => ?_)
    · replace h := (if_pos hc1).symm.trans h
      refine J_sub [0, 1, 3] rfl ?_
      exact w_X11_freeFrame_b88 hfl O hKP hmL hE h0 _ _ _ h
    · replace h := (if_neg hc1).symm.trans h
      refine J_aload_n O.mo dX11_freeFrame_12 0 rfl ?_
      refine J_iload_n O.mo dX11_freeFrame_13 1 rfl ?_
      refine J_iload O.mo dX11_freeFrame_14 4 rfl ?_
      obtain ⟨κ12, r14, hq13, h⟩ := bd_some h
      refine J_callV O hKP (as := [.inl (.int x1), .inl (.int x4)]) (rest := []) (r := (some (.inl (.int r14)))) (c_X11_pageIn hfl h0 hq13) rfl (kd0 := 11) (k11_0 h0) (l11_0 h0) (T := TX11) (N := 42) rfl (by decide) mw529 mw530 mw531 mw517 mw532 pd_X11_pageIn rfl (by decide) rfl (Nat.le_of_ble_eq_true rfl) (sl_p (s11_0 h0) (sl_v (sl_v (sl_v (sl_v sl_0))))) st_0 dX11_freeFrame_16 ?_
      show J X B (E, κ12) 19 [(0, .inr (some (5, 0, 0))), (1, .inl (.int x1)), (2, .inl (.int x2)), (3, .inl (.int x3)), (4, .inl (.int x4))] [.inl (.int r14)]
      refine J_iconst O.mo (v := (-1)) dX11_freeFrame_19 (by decide) ?_
      refine J_icmp_ne O.mo (tgt := 26) dX11_freeFrame_20 (by decide) (fun hc15 => ?_) (fun hc15 => ?_)
      · replace h := (if_neg hc15).symm.trans h
        refine J_iload_n O.mo dX11_freeFrame_26 3 rfl ?_
        refine J_iconst O.mo (v := (-1)) dX11_freeFrame_27 (by decide) ?_
        refine J_icmp_eq O.mo (tgt := 57) dX11_freeFrame_28 (by decide) (fun hc16 => ?_) (fun hc16 => ?_)
        · replace h := (if_pos hc16).symm.trans h
          exact w_X11_freeFrame_b57 hfl O hKP hmL hE h0 ih _ _ _ _ _ h
        · replace h := (if_neg hc16).symm.trans h
          refine J_aload_n O.mo dX11_freeFrame_31 0 rfl ?_
          refine J_getF O.co (kd0 := 11) (k11_0 h0) (l11_0 h0) (C := RX11) (T := TX11) (N := 42) rfl (by decide) rfl in_X11 29 (by decide) (v := .inr (some (5, 0, 29))) rfl mw533 rfl dX11_freeFrame_32 ?_
          refine J_bipush O.mo (v := 16) dX11_freeFrame_35 (by decide) ?_
          refine J_iload_n O.mo dX11_freeFrame_37 1 rfl ?_
          refine J_imul O.mo dX11_freeFrame_38 ?_
          refine J_iload O.mo dX11_freeFrame_39 4 rfl ?_
          refine J_iadd O.mo dX11_freeFrame_41 ?_
          obtain ⟨hg20, h⟩ := gd_some h
          refine J_iald O.co (g := (kV κ12 5 0 29)) (ct_20n (l11_29 h0) (k11_29 h0) (n11_29 h0)) hg20 dX11_freeFrame_42 ?_
          refine J_aload_n O.mo dX11_freeFrame_43 0 rfl ?_
          refine J_getF O.co (kd0 := 11) (k11_0 h0) (l11_0 h0) (C := RX11) (T := TX11) (N := 42) rfl (by decide) rfl in_X11 29 (by decide) (v := .inr (some (5, 0, 29))) rfl mw533 rfl dX11_freeFrame_44 ?_
          refine J_bipush O.mo (v := 16) dX11_freeFrame_47 (by decide) ?_
          refine J_iload_n O.mo dX11_freeFrame_49 1 rfl ?_
          refine J_imul O.mo dX11_freeFrame_50 ?_
          refine J_iload_n O.mo dX11_freeFrame_51 3 rfl ?_
          refine J_iadd O.mo dX11_freeFrame_52 ?_
          obtain ⟨hg21, h⟩ := gd_some h
          refine J_iald O.co (g := (kV κ12 5 0 29)) (ct_20n (l11_29 h0) (k11_29 h0) (n11_29 h0)) hg21 dX11_freeFrame_53 ?_
          refine J_icmp_ge O.mo (tgt := 61) dX11_freeFrame_54 (by decide) (fun hc22 => ?_) (fun hc22 => ?_)
          · replace h := (if_pos hc22).symm.trans h
            refine J_iconst O.mo (v := 0) dX11_freeFrame_61 (by decide) ?_
            exact w_X11_freeFrame_b62 hfl O hKP hmL hE h0 ih _ _ _ _ _ _ h
          · replace h := (if_neg hc22).symm.trans h
            exact w_X11_freeFrame_b57 hfl O hKP hmL hE h0 ih _ _ _ _ _ h
      · replace h := (if_pos hc15).symm.trans h
        refine J_iload O.mo dX11_freeFrame_23 4 rfl ?_
        cases h
        exact hE _ _ dX11_freeFrame_25
set_option maxHeartbeats 4000000 in
set_option maxRecDepth 100000 in
theorem w_X11_freeFrame {l0 : Launch} (hfl : l0.stackTraces = false) {X : MX} {B : BX (EE × K)} {g : GP} {E : EE} {κ' : K} {rr : Int32} (O : CK l0 X B g cX11_freeFrame RX11 2 24) (hKP : KPok B E) (hmL : B.2.2.2.1 = 6) (hE : ∀ (pc : Nat) (lv : List (Nat × AV)), decode cX11_freeFrame pc = .ok (.ireturn, 1) → J X B (E, κ') pc lv [.inl (.int rr)]) (h0 : PC 11 E 5 0 0) : ∀ (κ : K) (a1 : Int32) (a2 : Int32), f_X11_freeFrame E κ a1 a2 = some (κ', rr) → J X B (E, κ) 0 [(0, .inr (some (5, 0, 0))), (1, .inl (.int a1)), (2, .inl (.int a2))] [] := by
  intro κ a1 a2 h
  unfold f_X11_freeFrame at h
  refine J_iconst O.mo (v := (-1)) dX11_freeFrame_0 (by decide) ?_
  refine J_istore_n O.mo (lv' := [(0, .inr (some (5, 0, 0))), (1, .inl (.int a1)), (2, .inl (.int a2))]) dX11_freeFrame_1 (by rw [hmL]; decide) rfl rfl ?_
  refine J_iconst O.mo (v := 0) dX11_freeFrame_2 (by decide) ?_
  refine J_istore O.mo (lv' := [(3, .inl (.int ((-1)))), (0, .inr (some (5, 0, 0))), (1, .inl (.int a1)), (2, .inl (.int a2))]) dX11_freeFrame_3 (by rw [hmL]; decide) rfl rfl ?_
  refine J_sub [2, 3, 4, 1, 0] rfl ?_
  exact w_X11_freeFrame_b5 hfl O hKP hmL hE h0 FU _ _ _ _ _ h
theorem c_X11_freeFrame {l : Launch} (hfl : l.stackTraces = false) {E : EE} {κ κ' : K} {a1 : Int32} {a2 : Int32} (h0 : PC 11 E 5 0 0) {rr : Int32} (h : f_X11_freeFrame E κ a1 a2 = some (κ', rr)) : Con l yX11_freeFrame cX11_freeFrame 6 (some .int) 2 24 [.inr (some (5, 0, 0)), .inl (.int a1), .inl (.int a2)] (E, κ) (E, κ') (some (.inl (.int rr))) := by
  exact Con_of hfl (by decide +kernel) (Nat.le_of_ble_eq_true rfl) rfl ⟨_, rfl, rfl⟩ (fun X B g O hKP hmL hE => w_X11_freeFrame hfl O hKP hmL hE h0 _ _ _ h)
def f_X11_touch_b196 (E : EE) (κ : K) (xs0 : Int32) (xs1 : Int32) (xs2 : Int32) : Option (K × Unit) := gd (¬ (xs2 < 0 ∨ 5 ≤ xs2.toNatClampNeg)) (nm (setV κ 5 0 31 xs2.toNatClampNeg (xs1 ||| xs0)) fun κ13 => some (κ13, ()))
def f_X11_touch_b195 (E : EE) (κ : K) (xs0 : Int32) (xs1 : Int32) : Option (K × Unit) := f_X11_touch_b196 E κ 0 xs0 xs1
def f_X11_touch_b145 (E : EE) (κ : K) (x1 : Int32) (x2 : Int32) (x3 : Int32) (x4 : Int32) (x5 : Int32) : Option (K × Unit) := gd (¬ (x4 < 0 ∨ 40 ≤ x4.toNatClampNeg)) (gd (¬ (((16 * x5) + ((kV κ 5 0 28) x4.toNatClampNeg)) < 0 ∨ 32 ≤ ((16 * x5) + ((kV κ 5 0 28) x4.toNatClampNeg)).toNatClampNeg)) (nm (setV κ 5 0 29 ((16 * x5) + ((kV κ 5 0 28) x4.toNatClampNeg)).toNatClampNeg ((kV κ 5 0 0 41) + 1)) fun κ9 => gd (¬ (x1 < 0 ∨ 5 ≤ x1.toNatClampNeg)) (if x3 = 0 then f_X11_touch_b195 E κ9 ((kV κ9 5 0 31) x1.toNatClampNeg) x1 else gd (¬ (x1 < 0 ∨ 5 ≤ x1.toNatClampNeg)) (if (kV κ9 5 0 30) x1.toNatClampNeg = 0 then f_X11_touch_b195 E κ9 ((kV κ9 5 0 31) x1.toNatClampNeg) x1 else f_X11_touch_b196 E κ9 (1 <<< (x2 &&& 31)) ((kV κ9 5 0 31) x1.toNatClampNeg) x1))))
def f_X11_touch_b59 (E : EE) (κ : K) (x1 : Int32) (x2 : Int32) (x3 : Int32) (x4 : Int32) (x5 : Int32) (x6 : Int32) (xs0 : Int32) (xs1 : Int32) : Option (K × Unit) := gd (¬ ((xs1 + xs0) < 0 ∨ 30 ≤ (xs1 + xs0).toNatClampNeg)) (gd (¬ ((xs1 + xs0) < 0 ∨ 30 ≤ (xs1 + xs0).toNatClampNeg)) (nm (setV κ 5 0 25 (xs1 + xs0).toNatClampNeg (((kV κ 5 0 25) (xs1 + xs0).toNatClampNeg) + 1)) fun κ37 => gd (¬ (x4 < 0 ∨ 40 ≤ x4.toNatClampNeg)) (nm (setV κ37 5 0 27 x4.toNatClampNeg 1) fun κ39 => gd (¬ (x4 < 0 ∨ 40 ≤ x4.toNatClampNeg)) (nm (setV κ39 5 0 28 x4.toNatClampNeg x6) fun κ41 => f_X11_touch_b145 E κ41 x1 x2 x3 x4 x5))))
def f_X11_touch (E : EE) (κ : K) (a1 : Int32) (a2 : Int32) (a3 : Int32) : Option (K × Unit) := nm ((8 * a1) + a2) fun y1 => gd (¬ (a1 < 0 ∨ 5 ≤ a1.toNatClampNeg)) (nm ((kV κ 5 0 15) a1.toNatClampNeg) fun y3 => gd (¬ (y1 < 0 ∨ 40 ≤ y1.toNatClampNeg)) (if (kV κ 5 0 27) y1.toNatClampNeg = 1 then if a3 = 0 then f_X11_touch_b145 E κ a1 a2 a3 y1 y3 else gd (¬ (y1 < 0 ∨ 40 ≤ y1.toNatClampNeg)) (bd (f_X11_holders E κ y3 ((kV κ 5 0 28) y1.toNatClampNeg)) fun κ17 r19 => if r19 ≤ 1 then f_X11_touch_b145 E κ17 a1 a2 a3 y1 y3 else gd (¬ (y1 < 0 ∨ 40 ≤ y1.toNatClampNeg)) (bd (f_X11_freeFrame E κ17 y3 ((kV κ17 5 0 28) y1.toNatClampNeg)) fun κ22 r24 => gd (¬ (((6 * a1) + 2) < 0 ∨ 30 ≤ ((6 * a1) + 2).toNatClampNeg)) (gd (¬ (((6 * a1) + 2) < 0 ∨ 30 ≤ ((6 * a1) + 2).toNatClampNeg)) (nm (setV κ22 5 0 25 ((6 * a1) + 2).toNatClampNeg (((kV κ22 5 0 25) ((6 * a1) + 2).toNatClampNeg) + 1)) fun κ27 => gd (¬ (y1 < 0 ∨ 40 ≤ y1.toNatClampNeg)) (nm (setV κ27 5 0 28 y1.toNatClampNeg r24) fun κ29 => f_X11_touch_b145 E κ29 a1 a2 a3 y1 y3))))) else bd (f_X11_freeFrame E κ y3 ((-1))) fun κ30 r32 => gd (¬ (y1 < 0 ∨ 40 ≤ y1.toNatClampNeg)) (if (kV κ30 5 0 27) y1.toNatClampNeg = 0 then f_X11_touch_b59 E κ30 a1 a2 a3 y1 y3 r32 0 (6 * a1) else f_X11_touch_b59 E κ30 a1 a2 a3 y1 y3 r32 1 (6 * a1))))
set_option maxHeartbeats 4000000 in
set_option maxRecDepth 100000 in
theorem w_X11_touch_b196 {l0 : Launch} (hfl : l0.stackTraces = false) {X : MX} {B : BX (EE × K)} {g : GP} {E : EE} {κ' : K} {rr : Unit} (O : CK l0 X B g cX11_touch RX11 3 49) (hKP : KPok B E) (hmL : B.2.2.2.1 = 7) (hE : ∀ (pc : Nat) (lv : List (Nat × AV)), decode cX11_touch pc = .ok (.return_, 1) → J X B (E, κ') pc lv []) (h0 : PC 11 E 5 0 0) : ∀ (κ : K) (xs0 : Int32) (xs1 : Int32) (xs2 : Int32), f_X11_touch_b196 E κ xs0 xs1 xs2 = some (κ', rr) → J X B (E, κ) 196 [] [.inl (.int xs0), .inl (.int xs1), .inl (.int xs2), .inr (some (5, 0, 31))] := by
  intro κ xs0 xs1 xs2 h
  unfold f_X11_touch_b196 at h
  refine J_ior O.mo dX11_touch_196 ?_
  obtain ⟨hg12, h⟩ := gd_some h
  refine row_20 O (l11_31 h0) (k11_31 h0) (n11_31 h0) hg12 (x := (xs1 ||| xs0)) dX11_touch_197 ?_
  refine nm_some (P := fun z => J X B (E, z) 198 [] []) h (fun κ13 h => ?_)
  cases h
  exact hE _ _ dX11_touch_198
set_option maxHeartbeats 4000000 in
set_option maxRecDepth 100000 in
theorem w_X11_touch_b195 {l0 : Launch} (hfl : l0.stackTraces = false) {X : MX} {B : BX (EE × K)} {g : GP} {E : EE} {κ' : K} {rr : Unit} (O : CK l0 X B g cX11_touch RX11 3 49) (hKP : KPok B E) (hmL : B.2.2.2.1 = 7) (hE : ∀ (pc : Nat) (lv : List (Nat × AV)), decode cX11_touch pc = .ok (.return_, 1) → J X B (E, κ') pc lv []) (h0 : PC 11 E 5 0 0) : ∀ (κ : K) (xs0 : Int32) (xs1 : Int32), f_X11_touch_b195 E κ xs0 xs1 = some (κ', rr) → J X B (E, κ) 195 [] [.inl (.int xs0), .inl (.int xs1), .inr (some (5, 0, 31))] := by
  intro κ xs0 xs1 h
  unfold f_X11_touch_b195 at h
  refine J_iconst O.mo (v := 0) dX11_touch_195 (by decide) ?_
  exact w_X11_touch_b196 hfl O hKP hmL hE h0 _ _ _ _ h
set_option maxHeartbeats 4000000 in
set_option maxRecDepth 100000 in
theorem w_X11_touch_b145 {l0 : Launch} (hfl : l0.stackTraces = false) {X : MX} {B : BX (EE × K)} {g : GP} {E : EE} {κ' : K} {rr : Unit} (O : CK l0 X B g cX11_touch RX11 3 49) (hKP : KPok B E) (hmL : B.2.2.2.1 = 7) (hE : ∀ (pc : Nat) (lv : List (Nat × AV)), decode cX11_touch pc = .ok (.return_, 1) → J X B (E, κ') pc lv []) (h0 : PC 11 E 5 0 0) : ∀ (κ : K) (x1 : Int32) (x2 : Int32) (x3 : Int32) (x4 : Int32) (x5 : Int32), f_X11_touch_b145 E κ x1 x2 x3 x4 x5 = some (κ', rr) → J X B (E, κ) 145 [(0, .inr (some (5, 0, 0))), (1, .inl (.int x1)), (2, .inl (.int x2)), (3, .inl (.int x3)), (4, .inl (.int x4)), (5, .inl (.int x5))] [] := by
  intro κ x1 x2 x3 x4 x5 h
  unfold f_X11_touch_b145 at h
  refine J_aload_n O.mo dX11_touch_145 0 rfl ?_
  refine J_getF O.co (kd0 := 11) (k11_0 h0) (l11_0 h0) (C := RX11) (T := TX11) (N := 42) rfl (by decide) rfl in_X11 29 (by decide) (v := .inr (some (5, 0, 29))) rfl mw533 rfl dX11_touch_146 ?_
  refine J_bipush O.mo (v := 16) dX11_touch_149 (by decide) ?_
  refine J_iload O.mo dX11_touch_151 5 rfl ?_
  refine J_imul O.mo dX11_touch_153 ?_
  refine J_aload_n O.mo dX11_touch_154 0 rfl ?_
  refine J_getF O.co (kd0 := 11) (k11_0 h0) (l11_0 h0) (C := RX11) (T := TX11) (N := 42) rfl (by decide) rfl in_X11 28 (by decide) (v := .inr (some (5, 0, 28))) rfl mw527 rfl dX11_touch_155 ?_
  refine J_iload O.mo dX11_touch_158 4 rfl ?_
  obtain ⟨hg7, h⟩ := gd_some h
  refine J_iald O.co (g := (kV κ 5 0 28)) (ct_20n (l11_28 h0) (k11_28 h0) (n11_28 h0)) hg7 dX11_touch_160 ?_
  refine J_iadd O.mo dX11_touch_161 ?_
  refine J_aload_n O.mo dX11_touch_162 0 rfl ?_
  refine J_getF O.co (kd0 := 11) (k11_0 h0) (l11_0 h0) (C := RX11) (T := TX11) (N := 42) rfl (by decide) rfl in_X11 41 (by decide) (v := .inl (.int (kV κ 5 0 0 41))) rfl mw519 rfl dX11_touch_163 ?_
  refine J_iconst O.mo (v := 1) dX11_touch_166 (by decide) ?_
  refine J_iadd O.mo dX11_touch_167 ?_
  obtain ⟨hg8, h⟩ := gd_some h
  refine row_20 O (l11_29 h0) (k11_29 h0) (n11_29 h0) hg8 (x := ((kV κ 5 0 0 41) + 1)) dX11_touch_168 ?_
  refine nm_some (P := fun z => J X B (E, z) 169 [(0, .inr (some (5, 0, 0))), (1, .inl (.int x1)), (2, .inl (.int x2)), (3, .inl (.int x3)), (4, .inl (.int x4)), (5, .inl (.int x5))] []) h (fun κ9 h => ?_)
  refine J_aload_n O.mo dX11_touch_169 0 rfl ?_
  refine J_getF O.co (kd0 := 11) (k11_0 h0) (l11_0 h0) (C := RX11) (T := TX11) (N := 42) rfl (by decide) rfl in_X11 31 (by decide) (v := .inr (some (5, 0, 31))) rfl mw534 rfl dX11_touch_170 ?_
  refine J_iload_n O.mo dX11_touch_173 1 rfl ?_
  refine J_dup2 O.mo dX11_touch_174 rfl rfl ?_
  obtain ⟨hg10, h⟩ := gd_some h
  refine J_iald O.co (g := (kV κ9 5 0 31)) (ct_20n (l11_31 h0) (k11_31 h0) (n11_31 h0)) hg10 dX11_touch_175 ?_
  refine J_iload_n O.mo dX11_touch_176 3 rfl ?_
  refine J_if_eq O.mo (tgt := 195) dX11_touch_177 (by decide) (fun hc11 => ?_) (fun hc11 => ?_)
  · replace h := (if_pos hc11).symm.trans h
    refine J_sub [] rfl ?_
    exact w_X11_touch_b195 hfl O hKP hmL hE h0 _ _ _ h
  · replace h := (if_neg hc11).symm.trans h
    refine J_aload_n O.mo dX11_touch_180 0 rfl ?_
    refine J_getF O.co (kd0 := 11) (k11_0 h0) (l11_0 h0) (C := RX11) (T := TX11) (N := 42) rfl (by decide) rfl in_X11 30 (by decide) (v := .inr (some (5, 0, 30))) rfl mw535 rfl dX11_touch_181 ?_
    refine J_iload_n O.mo dX11_touch_184 1 rfl ?_
    obtain ⟨hg14, h⟩ := gd_some h
    refine J_bald O.co (g := (kV κ9 5 0 30)) (ct_22n (l11_30 h0) (k11_30 h0) (n11_30 h0)) hg14 dX11_touch_185 ?_
    refine J_if_eq O.mo (tgt := 195) dX11_touch_186 (by decide) (fun hc15 => ?_) (fun hc15 => ?_)
    · replace h := (if_pos hc15).symm.trans h
      refine J_sub [] rfl ?_
      exact w_X11_touch_b195 hfl O hKP hmL hE h0 _ _ _ h
    · replace h := (if_neg hc15).symm.trans h
      refine J_iconst O.mo (v := 1) dX11_touch_189 (by decide) ?_
      refine J_iload_n O.mo dX11_touch_190 2 rfl ?_
      refine J_ishl O.mo dX11_touch_191 ?_
      refine J_goto O.mo (tgt := 196) dX11_touch_192 (by decide) ?_
      refine J_sub [] rfl ?_
      exact w_X11_touch_b196 hfl O hKP hmL hE h0 _ _ _ _ h
set_option maxHeartbeats 4000000 in
set_option maxRecDepth 100000 in
theorem w_X11_touch_b59 {l0 : Launch} (hfl : l0.stackTraces = false) {X : MX} {B : BX (EE × K)} {g : GP} {E : EE} {κ' : K} {rr : Unit} (O : CK l0 X B g cX11_touch RX11 3 49) (hKP : KPok B E) (hmL : B.2.2.2.1 = 7) (hE : ∀ (pc : Nat) (lv : List (Nat × AV)), decode cX11_touch pc = .ok (.return_, 1) → J X B (E, κ') pc lv []) (h0 : PC 11 E 5 0 0) : ∀ (κ : K) (x1 : Int32) (x2 : Int32) (x3 : Int32) (x4 : Int32) (x5 : Int32) (x6 : Int32) (xs0 : Int32) (xs1 : Int32), f_X11_touch_b59 E κ x1 x2 x3 x4 x5 x6 xs0 xs1 = some (κ', rr) → J X B (E, κ) 59 [(0, .inr (some (5, 0, 0))), (1, .inl (.int x1)), (2, .inl (.int x2)), (3, .inl (.int x3)), (4, .inl (.int x4)), (5, .inl (.int x5)), (6, .inl (.int x6))] [.inl (.int xs0), .inl (.int xs1), .inr (some (5, 0, 25))] := by
  intro κ x1 x2 x3 x4 x5 x6 xs0 xs1 h
  unfold f_X11_touch_b59 at h
  refine J_iadd O.mo dX11_touch_59 ?_
  refine J_dup2 O.mo dX11_touch_60 rfl rfl ?_
  obtain ⟨hg35, h⟩ := gd_some h
  refine J_iald O.co (g := (kV κ 5 0 25)) (ct_20n (l11_25 h0) (k11_25 h0) (n11_25 h0)) hg35 dX11_touch_61 ?_
  refine J_iconst O.mo (v := 1) dX11_touch_62 (by decide) ?_
  refine J_iadd O.mo dX11_touch_63 ?_
  obtain ⟨hg36, h⟩ := gd_some h
  refine row_20 O (l11_25 h0) (k11_25 h0) (n11_25 h0) hg36 (x := (((kV κ 5 0 25) (xs1 + xs0).toNatClampNeg) + 1)) dX11_touch_64 ?_
  refine nm_some (P := fun z => J X B (E, z) 65 [(0, .inr (some (5, 0, 0))), (1, .inl (.int x1)), (2, .inl (.int x2)), (3, .inl (.int x3)), (4, .inl (.int x4)), (5, .inl (.int x5)), (6, .inl (.int x6))] []) h (fun κ37 h => ?_)
  refine J_aload_n O.mo dX11_touch_65 0 rfl ?_
  refine J_getF O.co (kd0 := 11) (k11_0 h0) (l11_0 h0) (C := RX11) (T := TX11) (N := 42) rfl (by decide) rfl in_X11 27 (by decide) (v := .inr (some (5, 0, 27))) rfl mw528 rfl dX11_touch_66 ?_
  refine J_iload O.mo dX11_touch_69 4 rfl ?_
  refine J_iconst O.mo (v := 1) dX11_touch_71 (by decide) ?_
  obtain ⟨hg38, h⟩ := gd_some h
  refine row_20 O (l11_27 h0) (k11_27 h0) (n11_27 h0) hg38 (x := 1) dX11_touch_72 ?_
  refine nm_some (P := fun z => J X B (E, z) 73 [(0, .inr (some (5, 0, 0))), (1, .inl (.int x1)), (2, .inl (.int x2)), (3, .inl (.int x3)), (4, .inl (.int x4)), (5, .inl (.int x5)), (6, .inl (.int x6))] []) h (fun κ39 h => ?_)
  refine J_aload_n O.mo dX11_touch_73 0 rfl ?_
  refine J_getF O.co (kd0 := 11) (k11_0 h0) (l11_0 h0) (C := RX11) (T := TX11) (N := 42) rfl (by decide) rfl in_X11 28 (by decide) (v := .inr (some (5, 0, 28))) rfl mw527 rfl dX11_touch_74 ?_
  refine J_iload O.mo dX11_touch_77 4 rfl ?_
  refine J_iload O.mo dX11_touch_79 6 rfl ?_
  obtain ⟨hg40, h⟩ := gd_some h
  refine row_20 O (l11_28 h0) (k11_28 h0) (n11_28 h0) hg40 (x := x6) dX11_touch_81 ?_
  refine nm_some (P := fun z => J X B (E, z) 82 [(0, .inr (some (5, 0, 0))), (1, .inl (.int x1)), (2, .inl (.int x2)), (3, .inl (.int x3)), (4, .inl (.int x4)), (5, .inl (.int x5)), (6, .inl (.int x6))] []) h (fun κ41 h => ?_)
  refine J_goto O.mo (tgt := 145) dX11_touch_82 (by decide) ?_
  refine J_sub [0, 1, 2, 3, 4, 5] rfl ?_
  exact w_X11_touch_b145 hfl O hKP hmL hE h0 _ _ _ _ _ _ h
set_option maxHeartbeats 4000000 in
set_option maxRecDepth 100000 in
theorem w_X11_touch {l0 : Launch} (hfl : l0.stackTraces = false) {X : MX} {B : BX (EE × K)} {g : GP} {E : EE} {κ' : K} {rr : Unit} (O : CK l0 X B g cX11_touch RX11 3 49) (hKP : KPok B E) (hmL : B.2.2.2.1 = 7) (hE : ∀ (pc : Nat) (lv : List (Nat × AV)), decode cX11_touch pc = .ok (.return_, 1) → J X B (E, κ') pc lv []) (h0 : PC 11 E 5 0 0) : ∀ (κ : K) (a1 : Int32) (a2 : Int32) (a3 : Int32), f_X11_touch E κ a1 a2 a3 = some (κ', rr) → J X B (E, κ) 0 [(0, .inr (some (5, 0, 0))), (1, .inl (.int a1)), (2, .inl (.int a2)), (3, .inl (.int a3))] [] := by
  intro κ a1 a2 a3 h
  unfold f_X11_touch at h
  refine J_bipush O.mo (v := 8) dX11_touch_0 (by decide) ?_
  refine J_iload_n O.mo dX11_touch_2 1 rfl ?_
  refine J_imul O.mo dX11_touch_3 ?_
  refine J_iload_n O.mo dX11_touch_4 2 rfl ?_
  refine J_iadd O.mo dX11_touch_5 ?_
  refine J_istore O.mo (lv' := [(0, .inr (some (5, 0, 0))), (1, .inl (.int a1)), (2, .inl (.int a2)), (3, .inl (.int a3))]) dX11_touch_6 (by rw [hmL]; decide) rfl rfl ?_
  refine nm_some (P := fun z => J X B (E, κ) 8 [(4, .inl (.int z)), (0, .inr (some (5, 0, 0))), (1, .inl (.int a1)), (2, .inl (.int a2)), (3, .inl (.int a3))] []) h (fun y1 h => ?_)
  refine J_aload_n O.mo dX11_touch_8 1 rfl ?_
  refine J_getF O.co (kd0 := 11) (k11_0 h0) (l11_0 h0) (C := RX11) (T := TX11) (N := 42) rfl (by decide) rfl in_X11 15 (by decide) (v := .inr (some (5, 0, 15))) rfl mw526 rfl dX11_touch_9 ?_
  refine J_iload_n O.mo dX11_touch_12 2 rfl ?_
  obtain ⟨hg2, h⟩ := gd_some h
  refine J_iald O.co (g := (kV κ 5 0 15)) (ct_20n (l11_15 h0) (k11_15 h0) (n11_15 h0)) hg2 dX11_touch_13 ?_
  refine J_istore O.mo (lv' := [(4, .inl (.int y1)), (0, .inr (some (5, 0, 0))), (1, .inl (.int a1)), (2, .inl (.int a2)), (3, .inl (.int a3))]) dX11_touch_14 (by rw [hmL]; decide) rfl rfl ?_
  refine nm_some (P := fun z => J X B (E, κ) 16 [(5, .inl (.int z)), (4, .inl (.int y1)), (0, .inr (some (5, 0, 0))), (1, .inl (.int a1)), (2, .inl (.int a2)), (3, .inl (.int a3))] []) h (fun y3 h => ?_)
  refine J_aload_n O.mo dX11_touch_16 2 rfl ?_
  refine J_getF O.co (kd0 := 11) (k11_0 h0) (l11_0 h0) (C := RX11) (T := TX11) (N := 42) rfl (by decide) rfl in_X11 27 (by decide) (v := .inr (some (5, 0, 27))) rfl mw528 rfl dX11_touch_17 ?_
  refine J_iload O.mo dX11_touch_20 1 rfl ?_
  obtain ⟨hg4, h⟩ := gd_some h
  refine J_iald O.co (g := (kV κ 5 0 27)) (ct_20n (l11_27 h0) (k11_27 h0) (n11_27 h0)) hg4 dX11_touch_22 ?_
  refine J_iconst O.mo (v := 1) dX11_touch_23 (by decide) ?_
  refine J_icmp_eq O.mo (tgt := 85) dX11_touch_24 (by decide) (fun hc5 => ?_) (fun hc5 => ?_)
  · replace h := (if_pos hc5).symm.trans h
    refine J_iload_n O.mo dX11_touch_85 5 rfl ?_
    refine J_if_eq O.mo (tgt := 145) dX11_touch_86 (by decide) (fun hc6 => ?_) (fun hc6 => ?_)
    · replace h := (if_pos hc6).symm.trans h
      refine J_sub [2, 3, 4, 5, 1, 0] rfl ?_
      exact w_X11_touch_b145 hfl O hKP hmL hE h0 _ _ _ _ _ _ h
    · replace h := (if_neg hc6).symm.trans h
      refine J_aload_n O.mo dX11_touch_89 2 rfl ?_
      refine J_iload O.mo dX11_touch_90 0 rfl ?_
      refine J_aload_n O.mo dX11_touch_92 2 rfl ?_
      refine J_getF O.co (kd0 := 11) (k11_0 h0) (l11_0 h0) (C := RX11) (T := TX11) (N := 42) rfl (by decide) rfl in_X11 28 (by decide) (v := .inr (some (5, 0, 28))) rfl mw527 rfl dX11_touch_93 ?_
      refine J_iload O.mo dX11_touch_96 1 rfl ?_
      obtain ⟨hg16, h⟩ := gd_some h
      refine J_iald O.co (g := (kV κ 5 0 28)) (ct_20n (l11_28 h0) (k11_28 h0) (n11_28 h0)) hg16 dX11_touch_98 ?_
      obtain ⟨κ17, r19, hq18, h⟩ := bd_some h
      refine J_callV O hKP (as := [.inl (.int y3), .inl (.int ((kV κ 5 0 28) y1.toNatClampNeg))]) (rest := []) (r := (some (.inl (.int r19)))) (c_X11_holders hfl h0 hq18) rfl (kd0 := 11) (k11_0 h0) (l11_0 h0) (T := TX11) (N := 42) rfl (by decide) mw536 mw537 mw538 mw517 mw539 pd_X11_holders rfl (by decide) rfl (Nat.le_of_ble_eq_true rfl) (sl_v (sl_v (sl_p (s11_0 h0) (sl_v (sl_v (sl_v sl_0)))))) st_0 dX11_touch_99 ?_
      show J X B (E, κ17) 102 [(5, .inl (.int y3)), (4, .inl (.int y1)), (0, .inr (some (5, 0, 0))), (1, .inl (.int a1)), (2, .inl (.int a2)), (3, .inl (.int a3))] [.inl (.int r19)]
      refine J_iconst O.mo (v := 1) dX11_touch_102 (by decide) ?_
      refine J_icmp_le O.mo (tgt := 145) dX11_touch_103 (by decide) (fun hc20 => ?_) (fun hc20 => ?_)
      · replace h := (if_pos hc20).symm.trans h
        refine J_sub [2, 3, 4, 5, 1, 0] rfl ?_
        exact w_X11_touch_b145 hfl O hKP hmL hE h0 _ _ _ _ _ _ h
      · replace h := (if_neg hc20).symm.trans h
        refine J_aload_n O.mo dX11_touch_106 2 rfl ?_
        refine J_iload O.mo dX11_touch_107 0 rfl ?_
        refine J_aload_n O.mo dX11_touch_109 2 rfl ?_
        refine J_getF O.co (kd0 := 11) (k11_0 h0) (l11_0 h0) (C := RX11) (T := TX11) (N := 42) rfl (by decide) rfl in_X11 28 (by decide) (v := .inr (some (5, 0, 28))) rfl mw527 rfl dX11_touch_110 ?_
        refine J_iload O.mo dX11_touch_113 1 rfl ?_
        obtain ⟨hg21, h⟩ := gd_some h
        refine J_iald O.co (g := (kV κ17 5 0 28)) (ct_20n (l11_28 h0) (k11_28 h0) (n11_28 h0)) hg21 dX11_touch_115 ?_
        obtain ⟨κ22, r24, hq23, h⟩ := bd_some h
        refine J_callV O hKP (as := [.inl (.int y3), .inl (.int ((kV κ17 5 0 28) y1.toNatClampNeg))]) (rest := []) (r := (some (.inl (.int r24)))) (c_X11_freeFrame hfl h0 hq23) rfl (kd0 := 11) (k11_0 h0) (l11_0 h0) (T := TX11) (N := 42) rfl (by decide) mw540 mw541 mw542 mw517 mw543 pd_X11_freeFrame rfl (by decide) rfl (Nat.le_of_ble_eq_true rfl) (sl_v (sl_v (sl_p (s11_0 h0) (sl_v (sl_v (sl_v sl_0)))))) st_0 dX11_touch_116 ?_
        show J X B (E, κ22) 119 [(5, .inl (.int y3)), (4, .inl (.int y1)), (0, .inr (some (5, 0, 0))), (1, .inl (.int a1)), (2, .inl (.int a2)), (3, .inl (.int a3))] [.inl (.int r24)]
        refine J_istore O.mo (lv' := [(5, .inl (.int y3)), (4, .inl (.int y1)), (0, .inr (some (5, 0, 0))), (1, .inl (.int a1)), (2, .inl (.int a2)), (3, .inl (.int a3))]) dX11_touch_119 (by rw [hmL]; decide) rfl rfl ?_
        refine J_aload_n O.mo dX11_touch_121 3 rfl ?_
        refine J_getF O.co (kd0 := 11) (k11_0 h0) (l11_0 h0) (C := RX11) (T := TX11) (N := 42) rfl (by decide) rfl in_X11 25 (by decide) (v := .inr (some (5, 0, 25))) rfl mw544 rfl dX11_touch_122 ?_
        refine J_bipush O.mo (v := 6) dX11_touch_125 (by decide) ?_
        refine J_iload_n O.mo dX11_touch_127 4 rfl ?_
        refine J_imul O.mo dX11_touch_128 ?_
        refine J_iconst O.mo (v := 2) dX11_touch_129 (by decide) ?_
        refine J_iadd O.mo dX11_touch_130 ?_
        refine J_dup2 O.mo dX11_touch_131 rfl rfl ?_
        obtain ⟨hg25, h⟩ := gd_some h
        refine J_iald O.co (g := (kV κ22 5 0 25)) (ct_20n (l11_25 h0) (k11_25 h0) (n11_25 h0)) hg25 dX11_touch_132 ?_
        refine J_iconst O.mo (v := 1) dX11_touch_133 (by decide) ?_
        refine J_iadd O.mo dX11_touch_134 ?_
        obtain ⟨hg26, h⟩ := gd_some h
        refine row_20 O (l11_25 h0) (k11_25 h0) (n11_25 h0) hg26 (x := (((kV κ22 5 0 25) ((6 * a1) + 2).toNatClampNeg) + 1)) dX11_touch_135 ?_
        refine nm_some (P := fun z => J X B (E, z) 136 [(6, .inl (.int r24)), (5, .inl (.int y3)), (4, .inl (.int y1)), (0, .inr (some (5, 0, 0))), (1, .inl (.int a1)), (2, .inl (.int a2)), (3, .inl (.int a3))] []) h (fun κ27 h => ?_)
        refine J_aload_n O.mo dX11_touch_136 3 rfl ?_
        refine J_getF O.co (kd0 := 11) (k11_0 h0) (l11_0 h0) (C := RX11) (T := TX11) (N := 42) rfl (by decide) rfl in_X11 28 (by decide) (v := .inr (some (5, 0, 28))) rfl mw527 rfl dX11_touch_137 ?_
        refine J_iload O.mo dX11_touch_140 2 rfl ?_
        refine J_iload O.mo dX11_touch_142 0 rfl ?_
        obtain ⟨hg28, h⟩ := gd_some h
        refine row_20 O (l11_28 h0) (k11_28 h0) (n11_28 h0) hg28 (x := r24) dX11_touch_144 ?_
        refine nm_some (P := fun z => J X B (E, z) 145 [(6, .inl (.int r24)), (5, .inl (.int y3)), (4, .inl (.int y1)), (0, .inr (some (5, 0, 0))), (1, .inl (.int a1)), (2, .inl (.int a2)), (3, .inl (.int a3))] []) h (fun κ29 h => ?_)
        refine J_sub [3, 4, 5, 6, 2, 1] rfl ?_
        exact w_X11_touch_b145 hfl O hKP hmL hE h0 _ _ _ _ _ _ h
  · replace h := (if_neg hc5).symm.trans h
    refine J_aload_n O.mo dX11_touch_27 2 rfl ?_
    refine J_iload O.mo dX11_touch_28 0 rfl ?_
    refine J_iconst O.mo (v := (-1)) dX11_touch_30 (by decide) ?_
    obtain ⟨κ30, r32, hq31, h⟩ := bd_some h
    refine J_callV O hKP (as := [.inl (.int y3), .inl (.int ((-1)))]) (rest := []) (r := (some (.inl (.int r32)))) (c_X11_freeFrame hfl h0 hq31) rfl (kd0 := 11) (k11_0 h0) (l11_0 h0) (T := TX11) (N := 42) rfl (by decide) mw540 mw541 mw542 mw517 mw543 pd_X11_freeFrame rfl (by decide) rfl (Nat.le_of_ble_eq_true rfl) (sl_v (sl_v (sl_p (s11_0 h0) (sl_v (sl_v (sl_v sl_0)))))) st_0 dX11_touch_31 ?_
    show J X B (E, κ30) 34 [(5, .inl (.int y3)), (4, .inl (.int y1)), (0, .inr (some (5, 0, 0))), (1, .inl (.int a1)), (2, .inl (.int a2)), (3, .inl (.int a3))] [.inl (.int r32)]
    refine J_istore O.mo (lv' := [(5, .inl (.int y3)), (4, .inl (.int y1)), (0, .inr (some (5, 0, 0))), (1, .inl (.int a1)), (2, .inl (.int a2)), (3, .inl (.int a3))]) dX11_touch_34 (by rw [hmL]; decide) rfl rfl ?_
    refine J_aload_n O.mo dX11_touch_36 3 rfl ?_
    refine J_getF O.co (kd0 := 11) (k11_0 h0) (l11_0 h0) (C := RX11) (T := TX11) (N := 42) rfl (by decide) rfl in_X11 25 (by decide) (v := .inr (some (5, 0, 25))) rfl mw544 rfl dX11_touch_37 ?_
    refine J_bipush O.mo (v := 6) dX11_touch_40 (by decide) ?_
    refine J_iload_n O.mo dX11_touch_42 4 rfl ?_
    refine J_imul O.mo dX11_touch_43 ?_
    refine J_aload_n O.mo dX11_touch_44 3 rfl ?_
    refine J_getF O.co (kd0 := 11) (k11_0 h0) (l11_0 h0) (C := RX11) (T := TX11) (N := 42) rfl (by decide) rfl in_X11 27 (by decide) (v := .inr (some (5, 0, 27))) rfl mw528 rfl dX11_touch_45 ?_
    refine J_iload O.mo dX11_touch_48 2 rfl ?_
    obtain ⟨hg33, h⟩ := gd_some h
    refine J_iald O.co (g := (kV κ30 5 0 27)) (ct_20n (l11_27 h0) (k11_27 h0) (n11_27 h0)) hg33 dX11_touch_50 ?_
    refine J_if_ne O.mo (tgt := 58) dX11_touch_51 (by decide) (fun hc34 => ?_) (fun hc34 => ?_)
    · replace h := (if_neg hc34).symm.trans h
      refine J_iconst O.mo (v := 1) dX11_touch_58 (by decide) ?_
      refine J_sub [3, 4, 5, 6, 2, 1, 0] rfl ?_
      exact w_X11_touch_b59 hfl O hKP hmL hE h0 _ _ _ _ _ _ _ _ _ h
    · replace h := (if_pos hc34).symm.trans h
      refine J_iconst O.mo (v := 0) dX11_touch_54 (by decide) ?_
      refine J_goto O.mo (tgt := 59) dX11_touch_55 (by decide) ?_
      refine J_sub [3, 4, 5, 6, 2, 1, 0] rfl ?_
      exact w_X11_touch_b59 hfl O hKP hmL hE h0 _ _ _ _ _ _ _ _ _ h
theorem c_X11_touch {l : Launch} (hfl : l.stackTraces = false) {E : EE} {κ κ' : K} {a1 : Int32} {a2 : Int32} {a3 : Int32} (h0 : PC 11 E 5 0 0) {rr : Unit} (h : f_X11_touch E κ a1 a2 a3 = some (κ', rr)) : Con l yX11_touch cX11_touch 7 none 3 49 [.inr (some (5, 0, 0)), .inl (.int a1), .inl (.int a2), .inl (.int a3)] (E, κ) (E, κ') none := by
  exact Con_of hfl (by decide +kernel) (Nat.le_of_ble_eq_true rfl) rfl rfl (fun X B g O hKP hmL hE => w_X11_touch hfl O hKP hmL hE h0 _ _ _ _ h)
def f_X11_isZero_b38 (E : EE) (a1 : Pl) (k6 : K → Int32 → Int32 → Int32 → Int32 → Option (K × Int32)) (κ : K) (x2 : Int32) (x3 : Int32) (x5 : Int32) (xs0 : Int32) : Option (K × Int32) := nm (x5 + 1) fun y3 => k6 κ x2 x3 xs0 y3
def f_X11_isZero_b37 (E : EE) (a1 : Pl) (k6 : K → Int32 → Int32 → Int32 → Int32 → Option (K × Int32)) (κ : K) (x2 : Int32) (x3 : Int32) (x5 : Int32) : Option (K × Int32) := f_X11_isZero_b38 E a1 k6 κ x2 x3 x5 0
def f_X11_isZero_b6 (E : EE) (a1 : Pl) : Nat → K → Int32 → Int32 → Int32 → Int32 → Option (K × Int32)
  | 0, _, _, _, _, _ => none
  | n + 1, κ, x2, x3, x4, x5 => if 4 ≤ x5 then some (κ, x4) else if x4 = 0 then f_X11_isZero_b37 E a1 (f_X11_isZero_b6 E a1 n) κ x2 x3 x5 else tmpG (kA E κ a1) fun n5 ar6 => gd (¬ ((((x2 + 17) + (4 * x3)) + x5) < 0 ∨ n5 ≤ (((x2 + 17) + (4 * x3)) + x5).toNatClampNeg)) (if ar6 (((x2 + 17) + (4 * x3)) + x5).toNatClampNeg = 0 then f_X11_isZero_b38 E a1 (f_X11_isZero_b6 E a1 n) κ x2 x3 x5 1 else f_X11_isZero_b37 E a1 (f_X11_isZero_b6 E a1 n) κ x2 x3 x5)
def f_X11_isZero_e (E : EE) (κ : K) (a1 : Pl) (a2 : Int32) (a3 : Int32) : Option (K × Int32) := f_X11_isZero_b6 E a1 FU κ a2 a3 1 0
def f_X11_isZero (E : EE) (κ : K) (a1 : Pl) (a2 : Int32) (a3 : Int32) : Option (K × Int32) := bd (f_X11_isZero_e E κ a1 a2 a3) fun κ x => gd (x = 0 ∨ x = 1) (some (κ, x))
set_option maxHeartbeats 4000000 in
set_option maxRecDepth 100000 in
theorem w_X11_isZero_b38 {l0 : Launch} (hfl : l0.stackTraces = false) {X : MX} {B : BX (EE × K)} {g : GP} {E : EE} {κ' : K} {rr : Int32} {a1 : Pl} (O : CK l0 X B g cX11_isZero RX11 1 0) (hKP : KPok B E) (hmL : B.2.2.2.1 = 6) (hE : ∀ (pc : Nat) (lv : List (Nat × AV)), decode cX11_isZero pc = .ok (.ireturn, 1) → J X B (E, κ') pc lv [.inl (.int rr)]) (h0 : PC 11 E 5 0 0) {k6 : K → Int32 → Int32 → Int32 → Int32 → Option (K × Int32)} (hk6 : ∀ (κ : K) (x2 : Int32) (x3 : Int32) (x4 : Int32) (x5 : Int32), k6 κ x2 x3 x4 x5 = some (κ', rr) → J X B (E, κ) 6 [(1, .inr (some a1)), (2, .inl (.int x2)), (3, .inl (.int x3)), (4, .inl (.int x4)), (5, .inl (.int x5))] []) : ∀ (κ : K) (x2 : Int32) (x3 : Int32) (x5 : Int32) (xs0 : Int32), f_X11_isZero_b38 E a1 k6 κ x2 x3 x5 xs0 = some (κ', rr) → J X B (E, κ) 38 [(1, .inr (some a1)), (2, .inl (.int x2)), (3, .inl (.int x3)), (5, .inl (.int x5))] [.inl (.int xs0)] := by
  intro κ x2 x3 x5 xs0 h
  unfold f_X11_isZero_b38 at h
  refine J_istore O.mo (lv' := [(1, .inr (some a1)), (2, .inl (.int x2)), (3, .inl (.int x3)), (5, .inl (.int x5))]) dX11_isZero_38 (by rw [hmL]; decide) rfl rfl ?_
  refine J_iinc O.mo (v := x5 + 1) (lv' := [(4, .inl (.int xs0)), (1, .inr (some a1)), (2, .inl (.int x2)), (3, .inl (.int x3))]) dX11_isZero_40 (by rw [hmL]; decide) 4 rfl (by rw [show Int32.ofInt (1) = (1 : Int32) from by decide]) rfl rfl ?_
  refine nm_some (P := fun z => J X B (E, κ) 43 [(5, .inl (.int z)), (4, .inl (.int xs0)), (1, .inr (some a1)), (2, .inl (.int x2)), (3, .inl (.int x3))] []) h (fun y3 h => ?_)
  refine J_goto O.mo (tgt := 6) dX11_isZero_43 (by decide) ?_
  refine J_sub [2, 3, 4, 1, 0] rfl ?_
  exact hk6 _ _ _ _ _ h
set_option maxHeartbeats 4000000 in
set_option maxRecDepth 100000 in
theorem w_X11_isZero_b37 {l0 : Launch} (hfl : l0.stackTraces = false) {X : MX} {B : BX (EE × K)} {g : GP} {E : EE} {κ' : K} {rr : Int32} {a1 : Pl} (O : CK l0 X B g cX11_isZero RX11 1 0) (hKP : KPok B E) (hmL : B.2.2.2.1 = 6) (hE : ∀ (pc : Nat) (lv : List (Nat × AV)), decode cX11_isZero pc = .ok (.ireturn, 1) → J X B (E, κ') pc lv [.inl (.int rr)]) (h0 : PC 11 E 5 0 0) {k6 : K → Int32 → Int32 → Int32 → Int32 → Option (K × Int32)} (hk6 : ∀ (κ : K) (x2 : Int32) (x3 : Int32) (x4 : Int32) (x5 : Int32), k6 κ x2 x3 x4 x5 = some (κ', rr) → J X B (E, κ) 6 [(1, .inr (some a1)), (2, .inl (.int x2)), (3, .inl (.int x3)), (4, .inl (.int x4)), (5, .inl (.int x5))] []) : ∀ (κ : K) (x2 : Int32) (x3 : Int32) (x5 : Int32), f_X11_isZero_b37 E a1 k6 κ x2 x3 x5 = some (κ', rr) → J X B (E, κ) 37 [(1, .inr (some a1)), (2, .inl (.int x2)), (3, .inl (.int x3)), (5, .inl (.int x5))] [] := by
  intro κ x2 x3 x5 h
  unfold f_X11_isZero_b37 at h
  refine J_iconst O.mo (v := 0) dX11_isZero_37 (by decide) ?_
  exact w_X11_isZero_b38 hfl O hKP hmL hE h0 hk6 _ _ _ _ _ h
set_option maxHeartbeats 4000000 in
set_option maxRecDepth 100000 in
theorem w_X11_isZero_b6 {l0 : Launch} (hfl : l0.stackTraces = false) {X : MX} {B : BX (EE × K)} {g : GP} {E : EE} {κ' : K} {rr : Int32} {a1 : Pl} (O : CK l0 X B g cX11_isZero RX11 1 0) (hKP : KPok B E) (hmL : B.2.2.2.1 = 6) (hE : ∀ (pc : Nat) (lv : List (Nat × AV)), decode cX11_isZero pc = .ok (.ireturn, 1) → J X B (E, κ') pc lv [.inl (.int rr)]) (h0 : PC 11 E 5 0 0) : ∀ (n : Nat) (κ : K) (x2 : Int32) (x3 : Int32) (x4 : Int32) (x5 : Int32), f_X11_isZero_b6 E a1 n κ x2 x3 x4 x5 = some (κ', rr) → J X B (E, κ) 6 [(1, .inr (some a1)), (2, .inl (.int x2)), (3, .inl (.int x3)), (4, .inl (.int x4)), (5, .inl (.int x5))] [] := by
  intro n
  induction n with
  | zero => intro κ x2 x3 x4 x5 h; cases h
  | succ n ih =>
    intro κ x2 x3 x4 x5 h
    rw [f_X11_isZero_b6] at h
    refine J_iload O.mo dX11_isZero_6 4 rfl ?_
    refine J_iconst O.mo (v := 4) dX11_isZero_8 (by decide) ?_
    refine J_icmp_ge O.mo (tgt := 46) dX11_isZero_9 (by decide) (fun hc1 => ?_) (fun hc1 => ?_)
    · replace h := (if_pos hc1).symm.trans h
      refine J_iload O.mo dX11_isZero_46 3 rfl ?_
      cases h
      exact hE _ _ dX11_isZero_48
    · replace h := (if_neg hc1).symm.trans h
      refine J_iload O.mo dX11_isZero_12 3 rfl ?_
      refine J_if_eq O.mo (tgt := 37) dX11_isZero_14 (by decide) (fun hc2 => ?_) (fun hc2 => ?_)
      · replace h := (if_pos hc2).symm.trans h
        refine J_sub [0, 1, 2, 4] rfl ?_
        exact w_X11_isZero_b37 hfl O hKP hmL hE h0 ih _ _ _ _ h
      · replace h := (if_neg hc2).symm.trans h
        refine J_aload_n O.mo dX11_isZero_17 0 rfl ?_
        refine J_iload_n O.mo dX11_isZero_18 1 rfl ?_
        refine J_bipush O.mo (v := 17) dX11_isZero_19 (by decide) ?_
        refine J_iadd O.mo dX11_isZero_21 ?_
        refine J_iconst O.mo (v := 4) dX11_isZero_22 (by decide) ?_
        refine J_iload_n O.mo dX11_isZero_23 2 rfl ?_
        refine J_imul O.mo dX11_isZero_24 ?_
        refine J_iadd O.mo dX11_isZero_25 ?_
        refine J_iload O.mo dX11_isZero_26 4 rfl ?_
        refine J_iadd O.mo dX11_isZero_28 ?_
        obtain ⟨n5, ar6, hA7, h⟩ := tmpG_some h
        obtain ⟨hg4, h⟩ := gd_some h
        refine J_iald O.co (g := ar6) (ct_A hA7) hg4 dX11_isZero_29 ?_
        refine J_if_ne O.mo (tgt := 37) dX11_isZero_30 (by decide) (fun hc8 => ?_) (fun hc8 => ?_)
        · replace h := (if_neg hc8).symm.trans h
          refine J_sub [0, 1, 2, 4] rfl ?_
          exact w_X11_isZero_b37 hfl O hKP hmL hE h0 ih _ _ _ _ h
        · replace h := (if_pos hc8).symm.trans h
          refine J_iconst O.mo (v := 1) dX11_isZero_33 (by decide) ?_
          refine J_goto O.mo (tgt := 38) dX11_isZero_34 (by decide) ?_
          refine J_sub [0, 1, 2, 4] rfl ?_
          exact w_X11_isZero_b38 hfl O hKP hmL hE h0 ih _ _ _ _ _ h
set_option maxHeartbeats 4000000 in
set_option maxRecDepth 100000 in
theorem w_X11_isZero_e {l0 : Launch} (hfl : l0.stackTraces = false) {X : MX} {B : BX (EE × K)} {g : GP} {E : EE} {κ' : K} {rr : Int32} {a1 : Pl} (O : CK l0 X B g cX11_isZero RX11 1 0) (hKP : KPok B E) (hmL : B.2.2.2.1 = 6) (hE : ∀ (pc : Nat) (lv : List (Nat × AV)), decode cX11_isZero pc = .ok (.ireturn, 1) → J X B (E, κ') pc lv [.inl (.int rr)]) (h0 : PC 11 E 5 0 0) : ∀ (κ : K) (a2 : Int32) (a3 : Int32), f_X11_isZero_e E κ a1 a2 a3 = some (κ', rr) → J X B (E, κ) 0 [(0, .inr (some (5, 0, 0))), (1, .inr (some a1)), (2, .inl (.int a2)), (3, .inl (.int a3))] [] := by
  intro κ a2 a3 h
  unfold f_X11_isZero_e at h
  refine J_iconst O.mo (v := 1) dX11_isZero_0 (by decide) ?_
  refine J_istore O.mo (lv' := [(0, .inr (some (5, 0, 0))), (1, .inr (some a1)), (2, .inl (.int a2)), (3, .inl (.int a3))]) dX11_isZero_1 (by rw [hmL]; decide) rfl rfl ?_
  refine J_iconst O.mo (v := 0) dX11_isZero_3 (by decide) ?_
  refine J_istore O.mo (lv' := [(4, .inl (.int 1)), (0, .inr (some (5, 0, 0))), (1, .inr (some a1)), (2, .inl (.int a2)), (3, .inl (.int a3))]) dX11_isZero_4 (by rw [hmL]; decide) rfl rfl ?_
  refine J_sub [3, 4, 5, 1, 0] rfl ?_
  exact w_X11_isZero_b6 hfl O hKP hmL hE h0 FU _ _ _ _ _ h
theorem c_X11_isZero {l : Launch} (hfl : l.stackTraces = false) {E : EE} {κ κ' : K} {a1 : Pl} {a2 : Int32} {a3 : Int32} (h0 : PC 11 E 5 0 0) {rr : Int32} (h : f_X11_isZero E κ a1 a2 a3 = some (κ', rr)) : Con l yX11_isZero cX11_isZero 6 (some .boolean) 1 0 [.inr (some (5, 0, 0)), .inr (some a1), .inl (.int a2), .inl (.int a3)] (E, κ) (E, κ') (some (.inl (.int rr))) := by
  unfold f_X11_isZero at h
  obtain ⟨κ1, x1, q1, q2⟩ := bd_some h
  obtain ⟨hb, q3⟩ := gd_some q2
  cases q3
  exact Con_of hfl (by decide +kernel) (Nat.le_of_ble_eq_true rfl) rfl ⟨_, rfl, nar_b hb⟩ (fun X B g O hKP hmL hE => w_X11_isZero_e hfl O hKP hmL hE h0 _ _ _ q1)
def f_X11_goTo (E : EE) (κ : K) (a1 : Int32) (a2 : Int32) : Option (K × Unit) := nm (55 * a1) fun y1 => gd (¬ ((y1 + 4) < 0 ∨ 275 ≤ (y1 + 4).toNatClampNeg)) (gd (¬ ((y1 + 6) < 0 ∨ 275 ≤ (y1 + 6).toNatClampNeg)) (nm (setV κ 5 0 1 (y1 + 6).toNatClampNeg ((kV κ 5 0 1) (y1 + 4).toNatClampNeg)) fun κ4 => gd (¬ ((y1 + 5) < 0 ∨ 275 ≤ (y1 + 5).toNatClampNeg)) (gd (¬ ((y1 + 4) < 0 ∨ 275 ≤ (y1 + 4).toNatClampNeg)) (nm (setV κ4 5 0 1 (y1 + 4).toNatClampNeg ((kV κ4 5 0 1) (y1 + 5).toNatClampNeg)) fun κ7 => gd (¬ ((y1 + 8) < 0 ∨ 275 ≤ (y1 + 8).toNatClampNeg)) (nm (setV κ7 5 0 1 (y1 + 8).toNatClampNeg 1) fun κ9 => gd (¬ ((y1 + 7) < 0 ∨ 275 ≤ (y1 + 7).toNatClampNeg)) (nm (setV κ9 5 0 1 (y1 + 7).toNatClampNeg a2) fun κ11 => some (κ11, ())))))))
set_option maxHeartbeats 4000000 in
set_option maxRecDepth 100000 in
theorem w_X11_goTo {l0 : Launch} (hfl : l0.stackTraces = false) {X : MX} {B : BX (EE × K)} {g : GP} {E : EE} {κ' : K} {rr : Unit} (O : CK l0 X B g cX11_goTo RX11 1 0) (hKP : KPok B E) (hmL : B.2.2.2.1 = 4) (hE : ∀ (pc : Nat) (lv : List (Nat × AV)), decode cX11_goTo pc = .ok (.return_, 1) → J X B (E, κ') pc lv []) (h0 : PC 11 E 5 0 0) : ∀ (κ : K) (a1 : Int32) (a2 : Int32), f_X11_goTo E κ a1 a2 = some (κ', rr) → J X B (E, κ) 0 [(0, .inr (some (5, 0, 0))), (1, .inl (.int a1)), (2, .inl (.int a2))] [] := by
  intro κ a1 a2 h
  unfold f_X11_goTo at h
  refine J_bipush O.mo (v := 55) dX11_goTo_0 (by decide) ?_
  refine J_iload_n O.mo dX11_goTo_2 1 rfl ?_
  refine J_imul O.mo dX11_goTo_3 ?_
  refine J_istore_n O.mo (lv' := [(0, .inr (some (5, 0, 0))), (1, .inl (.int a1)), (2, .inl (.int a2))]) dX11_goTo_4 (by rw [hmL]; decide) rfl rfl ?_
  refine nm_some (P := fun z => J X B (E, κ) 5 [(3, .inl (.int z)), (0, .inr (some (5, 0, 0))), (1, .inl (.int a1)), (2, .inl (.int a2))] []) h (fun y1 h => ?_)
  refine J_aload_n O.mo dX11_goTo_5 1 rfl ?_
  refine J_getF O.co (kd0 := 11) (k11_0 h0) (l11_0 h0) (C := RX11) (T := TX11) (N := 42) rfl (by decide) rfl in_X11 1 (by decide) (v := .inr (some (5, 0, 1))) rfl mw545 rfl dX11_goTo_6 ?_
  refine J_iload_n O.mo dX11_goTo_9 0 rfl ?_
  refine J_bipush O.mo (v := 6) dX11_goTo_10 (by decide) ?_
  refine J_iadd O.mo dX11_goTo_12 ?_
  refine J_aload_n O.mo dX11_goTo_13 1 rfl ?_
  refine J_getF O.co (kd0 := 11) (k11_0 h0) (l11_0 h0) (C := RX11) (T := TX11) (N := 42) rfl (by decide) rfl in_X11 1 (by decide) (v := .inr (some (5, 0, 1))) rfl mw545 rfl dX11_goTo_14 ?_
  refine J_iload_n O.mo dX11_goTo_17 0 rfl ?_
  refine J_iconst O.mo (v := 4) dX11_goTo_18 (by decide) ?_
  refine J_iadd O.mo dX11_goTo_19 ?_
  obtain ⟨hg2, h⟩ := gd_some h
  refine J_iald O.co (g := (kV κ 5 0 1)) (ct_20n (l11_1 h0) (k11_1 h0) (n11_1 h0)) hg2 dX11_goTo_20 ?_
  obtain ⟨hg3, h⟩ := gd_some h
  refine row_20 O (l11_1 h0) (k11_1 h0) (n11_1 h0) hg3 (x := ((kV κ 5 0 1) (y1 + 4).toNatClampNeg)) dX11_goTo_21 ?_
  refine nm_some (P := fun z => J X B (E, z) 22 [(3, .inl (.int y1)), (0, .inr (some (5, 0, 0))), (1, .inl (.int a1)), (2, .inl (.int a2))] []) h (fun κ4 h => ?_)
  refine J_aload_n O.mo dX11_goTo_22 1 rfl ?_
  refine J_getF O.co (kd0 := 11) (k11_0 h0) (l11_0 h0) (C := RX11) (T := TX11) (N := 42) rfl (by decide) rfl in_X11 1 (by decide) (v := .inr (some (5, 0, 1))) rfl mw545 rfl dX11_goTo_23 ?_
  refine J_iload_n O.mo dX11_goTo_26 0 rfl ?_
  refine J_iconst O.mo (v := 4) dX11_goTo_27 (by decide) ?_
  refine J_iadd O.mo dX11_goTo_28 ?_
  refine J_aload_n O.mo dX11_goTo_29 1 rfl ?_
  refine J_getF O.co (kd0 := 11) (k11_0 h0) (l11_0 h0) (C := RX11) (T := TX11) (N := 42) rfl (by decide) rfl in_X11 1 (by decide) (v := .inr (some (5, 0, 1))) rfl mw545 rfl dX11_goTo_30 ?_
  refine J_iload_n O.mo dX11_goTo_33 0 rfl ?_
  refine J_iconst O.mo (v := 5) dX11_goTo_34 (by decide) ?_
  refine J_iadd O.mo dX11_goTo_35 ?_
  obtain ⟨hg5, h⟩ := gd_some h
  refine J_iald O.co (g := (kV κ4 5 0 1)) (ct_20n (l11_1 h0) (k11_1 h0) (n11_1 h0)) hg5 dX11_goTo_36 ?_
  obtain ⟨hg6, h⟩ := gd_some h
  refine row_20 O (l11_1 h0) (k11_1 h0) (n11_1 h0) hg6 (x := ((kV κ4 5 0 1) (y1 + 5).toNatClampNeg)) dX11_goTo_37 ?_
  refine nm_some (P := fun z => J X B (E, z) 38 [(3, .inl (.int y1)), (0, .inr (some (5, 0, 0))), (1, .inl (.int a1)), (2, .inl (.int a2))] []) h (fun κ7 h => ?_)
  refine J_aload_n O.mo dX11_goTo_38 1 rfl ?_
  refine J_getF O.co (kd0 := 11) (k11_0 h0) (l11_0 h0) (C := RX11) (T := TX11) (N := 42) rfl (by decide) rfl in_X11 1 (by decide) (v := .inr (some (5, 0, 1))) rfl mw545 rfl dX11_goTo_39 ?_
  refine J_iload_n O.mo dX11_goTo_42 0 rfl ?_
  refine J_bipush O.mo (v := 8) dX11_goTo_43 (by decide) ?_
  refine J_iadd O.mo dX11_goTo_45 ?_
  refine J_iconst O.mo (v := 1) dX11_goTo_46 (by decide) ?_
  obtain ⟨hg8, h⟩ := gd_some h
  refine row_20 O (l11_1 h0) (k11_1 h0) (n11_1 h0) hg8 (x := 1) dX11_goTo_47 ?_
  refine nm_some (P := fun z => J X B (E, z) 48 [(3, .inl (.int y1)), (0, .inr (some (5, 0, 0))), (1, .inl (.int a1)), (2, .inl (.int a2))] []) h (fun κ9 h => ?_)
  refine J_aload_n O.mo dX11_goTo_48 1 rfl ?_
  refine J_getF O.co (kd0 := 11) (k11_0 h0) (l11_0 h0) (C := RX11) (T := TX11) (N := 42) rfl (by decide) rfl in_X11 1 (by decide) (v := .inr (some (5, 0, 1))) rfl mw545 rfl dX11_goTo_49 ?_
  refine J_iload_n O.mo dX11_goTo_52 0 rfl ?_
  refine J_bipush O.mo (v := 7) dX11_goTo_53 (by decide) ?_
  refine J_iadd O.mo dX11_goTo_55 ?_
  refine J_iload_n O.mo dX11_goTo_56 3 rfl ?_
  obtain ⟨hg10, h⟩ := gd_some h
  refine row_20 O (l11_1 h0) (k11_1 h0) (n11_1 h0) hg10 (x := a2) dX11_goTo_57 ?_
  refine nm_some (P := fun z => J X B (E, z) 58 [(3, .inl (.int y1)), (0, .inr (some (5, 0, 0))), (1, .inl (.int a1)), (2, .inl (.int a2))] []) h (fun κ11 h => ?_)
  cases h
  exact hE _ _ dX11_goTo_58
theorem c_X11_goTo {l : Launch} (hfl : l.stackTraces = false) {E : EE} {κ κ' : K} {a1 : Int32} {a2 : Int32} (h0 : PC 11 E 5 0 0) {rr : Unit} (h : f_X11_goTo E κ a1 a2 = some (κ', rr)) : Con l yX11_goTo cX11_goTo 4 none 1 0 [.inr (some (5, 0, 0)), .inl (.int a1), .inl (.int a2)] (E, κ) (E, κ') none := by
  exact Con_of hfl (by decide +kernel) (Nat.le_of_ble_eq_true rfl) rfl rfl (fun X B g O hKP hmL hE => w_X11_goTo hfl O hKP hmL hE h0 _ _ _ h)
def f_X11_fault_b30 (E : EE) (κ : K) (x2 : Int32) : Option (K × Unit) := gd (¬ ((x2 + 49) < 0 ∨ 275 ≤ (x2 + 49).toNatClampNeg)) (nm (setV κ 5 0 1 (x2 + 49).toNatClampNeg 3) fun κ5 => some (κ5, ()))
def f_X11_fault (E : EE) (κ : K) (a1 : Int32) : Option (K × Unit) := nm (55 * a1) fun y1 => gd (¬ ((y1 + 5) < 0 ∨ 275 ≤ (y1 + 5).toNatClampNeg)) (if (kV κ 5 0 1) (y1 + 5).toNatClampNeg = (-1) then f_X11_fault_b30 E κ y1 else gd (¬ ((y1 + 8) < 0 ∨ 275 ≤ (y1 + 8).toNatClampNeg)) (if (kV κ 5 0 1) (y1 + 8).toNatClampNeg = 1 then f_X11_fault_b30 E κ y1 else bd (f_X11_goTo E κ a1 1) fun κ8 _ => some (κ8, ())))
set_option maxHeartbeats 4000000 in
set_option maxRecDepth 100000 in
theorem w_X11_fault_b30 {l0 : Launch} (hfl : l0.stackTraces = false) {X : MX} {B : BX (EE × K)} {g : GP} {E : EE} {κ' : K} {rr : Unit} (O : CK l0 X B g cX11_fault RX11 2 23) (hKP : KPok B E) (hmL : B.2.2.2.1 = 3) (hE : ∀ (pc : Nat) (lv : List (Nat × AV)), decode cX11_fault pc = .ok (.return_, 1) → J X B (E, κ') pc lv []) (h0 : PC 11 E 5 0 0) : ∀ (κ : K) (x2 : Int32), f_X11_fault_b30 E κ x2 = some (κ', rr) → J X B (E, κ) 30 [(0, .inr (some (5, 0, 0))), (2, .inl (.int x2))] [] := by
  intro κ x2 h
  unfold f_X11_fault_b30 at h
  refine J_aload_n O.mo dX11_fault_30 0 rfl ?_
  refine J_getF O.co (kd0 := 11) (k11_0 h0) (l11_0 h0) (C := RX11) (T := TX11) (N := 42) rfl (by decide) rfl in_X11 1 (by decide) (v := .inr (some (5, 0, 1))) rfl mw545 rfl dX11_fault_31 ?_
  refine J_iload_n O.mo dX11_fault_34 1 rfl ?_
  refine J_bipush O.mo (v := 49) dX11_fault_35 (by decide) ?_
  refine J_iadd O.mo dX11_fault_37 ?_
  refine J_iconst O.mo (v := 3) dX11_fault_38 (by decide) ?_
  obtain ⟨hg4, h⟩ := gd_some h
  refine row_20 O (l11_1 h0) (k11_1 h0) (n11_1 h0) hg4 (x := 3) dX11_fault_39 ?_
  refine nm_some (P := fun z => J X B (E, z) 40 [(0, .inr (some (5, 0, 0))), (2, .inl (.int x2))] []) h (fun κ5 h => ?_)
  cases h
  exact hE _ _ dX11_fault_40
set_option maxHeartbeats 4000000 in
set_option maxRecDepth 100000 in
theorem w_X11_fault {l0 : Launch} (hfl : l0.stackTraces = false) {X : MX} {B : BX (EE × K)} {g : GP} {E : EE} {κ' : K} {rr : Unit} (O : CK l0 X B g cX11_fault RX11 2 23) (hKP : KPok B E) (hmL : B.2.2.2.1 = 3) (hE : ∀ (pc : Nat) (lv : List (Nat × AV)), decode cX11_fault pc = .ok (.return_, 1) → J X B (E, κ') pc lv []) (h0 : PC 11 E 5 0 0) : ∀ (κ : K) (a1 : Int32), f_X11_fault E κ a1 = some (κ', rr) → J X B (E, κ) 0 [(0, .inr (some (5, 0, 0))), (1, .inl (.int a1))] [] := by
  intro κ a1 h
  unfold f_X11_fault at h
  refine J_bipush O.mo (v := 55) dX11_fault_0 (by decide) ?_
  refine J_iload_n O.mo dX11_fault_2 1 rfl ?_
  refine J_imul O.mo dX11_fault_3 ?_
  refine J_istore_n O.mo (lv' := [(0, .inr (some (5, 0, 0))), (1, .inl (.int a1))]) dX11_fault_4 (by rw [hmL]; decide) rfl rfl ?_
  refine nm_some (P := fun z => J X B (E, κ) 5 [(2, .inl (.int z)), (0, .inr (some (5, 0, 0))), (1, .inl (.int a1))] []) h (fun y1 h => ?_)
  refine J_aload_n O.mo dX11_fault_5 1 rfl ?_
  refine J_getF O.co (kd0 := 11) (k11_0 h0) (l11_0 h0) (C := RX11) (T := TX11) (N := 42) rfl (by decide) rfl in_X11 1 (by decide) (v := .inr (some (5, 0, 1))) rfl mw545 rfl dX11_fault_6 ?_
  refine J_iload_n O.mo dX11_fault_9 0 rfl ?_
  refine J_iconst O.mo (v := 5) dX11_fault_10 (by decide) ?_
  refine J_iadd O.mo dX11_fault_11 ?_
  obtain ⟨hg2, h⟩ := gd_some h
  refine J_iald O.co (g := (kV κ 5 0 1)) (ct_20n (l11_1 h0) (k11_1 h0) (n11_1 h0)) hg2 dX11_fault_12 ?_
  refine J_iconst O.mo (v := (-1)) dX11_fault_13 (by decide) ?_
  refine J_icmp_eq O.mo (tgt := 30) dX11_fault_14 (by decide) (fun hc3 => ?_) (fun hc3 => ?_)
  · replace h := (if_pos hc3).symm.trans h
    refine J_sub [1, 0] rfl ?_
    exact w_X11_fault_b30 hfl O hKP hmL hE h0 _ _ h
  · replace h := (if_neg hc3).symm.trans h
    refine J_aload_n O.mo dX11_fault_17 1 rfl ?_
    refine J_getF O.co (kd0 := 11) (k11_0 h0) (l11_0 h0) (C := RX11) (T := TX11) (N := 42) rfl (by decide) rfl in_X11 1 (by decide) (v := .inr (some (5, 0, 1))) rfl mw545 rfl dX11_fault_18 ?_
    refine J_iload_n O.mo dX11_fault_21 0 rfl ?_
    refine J_bipush O.mo (v := 8) dX11_fault_22 (by decide) ?_
    refine J_iadd O.mo dX11_fault_24 ?_
    obtain ⟨hg6, h⟩ := gd_some h
    refine J_iald O.co (g := (kV κ 5 0 1)) (ct_20n (l11_1 h0) (k11_1 h0) (n11_1 h0)) hg6 dX11_fault_25 ?_
    refine J_iconst O.mo (v := 1) dX11_fault_26 (by decide) ?_
    refine J_icmp_ne O.mo (tgt := 41) dX11_fault_27 (by decide) (fun hc7 => ?_) (fun hc7 => ?_)
    · replace h := (if_neg hc7).symm.trans h
      refine J_aload_n O.mo dX11_fault_41 1 rfl ?_
      refine J_iload_n O.mo dX11_fault_42 2 rfl ?_
      refine J_iconst O.mo (v := 1) dX11_fault_43 (by decide) ?_
      refine J_sub [] rfl ?_
      obtain ⟨κ8, r10, hq9, h⟩ := bd_some h
      refine J_callV O hKP (as := [.inl (.int a1), .inl (.int 1)]) (rest := []) (r := none) (c_X11_goTo hfl h0 hq9) rfl (kd0 := 11) (k11_0 h0) (l11_0 h0) (T := TX11) (N := 42) rfl (by decide) mw546 mw547 mw548 mw517 mw549 pd_X11_goTo rfl (by decide) rfl (Nat.le_of_ble_eq_true rfl) sl_0 st_0 dX11_fault_44 ?_
      show J X B (E, κ8) 47 [] []
      cases h
      exact hE _ _ dX11_fault_47
    · replace h := (if_pos hc7).symm.trans h
      refine J_sub [1, 0] rfl ?_
      exact w_X11_fault_b30 hfl O hKP hmL hE h0 _ _ h
theorem c_X11_fault {l : Launch} (hfl : l.stackTraces = false) {E : EE} {κ κ' : K} {a1 : Int32} (h0 : PC 11 E 5 0 0) {rr : Unit} (h : f_X11_fault E κ a1 = some (κ', rr)) : Con l yX11_fault cX11_fault 3 none 2 23 [.inr (some (5, 0, 0)), .inl (.int a1)] (E, κ) (E, κ') none := by
  exact Con_of hfl (by decide +kernel) (Nat.le_of_ble_eq_true rfl) rfl rfl (fun X B g O hKP hmL hE => w_X11_fault hfl O hKP hmL hE h0 _ _ h)
def f_X11_say (E : EE) (κ : K) (a1 : Int32) (a2 : Int32) : Option (K × Unit) := gd (¬ (a1 < 0 ∨ 5 ≤ a1.toNatClampNeg)) (if (kV κ 5 0 33) a1.toNatClampNeg = 0 then gd (¬ (a1 < 0 ∨ 5 ≤ a1.toNatClampNeg)) (gd (¬ (((3000 * a1) + ((kV κ 5 0 35) a1.toNatClampNeg)) < 0 ∨ 15000 ≤ ((3000 * a1) + ((kV κ 5 0 35) a1.toNatClampNeg)).toNatClampNeg)) (nm (setV κ 5 0 34 ((3000 * a1) + ((kV κ 5 0 35) a1.toNatClampNeg)).toNatClampNeg a2) fun κ5 => gd (¬ (a1 < 0 ∨ 5 ≤ a1.toNatClampNeg)) (gd (¬ (a1 < 0 ∨ 5 ≤ a1.toNatClampNeg)) (nm (setV κ5 5 0 35 a1.toNatClampNeg (((kV κ5 5 0 35) a1.toNatClampNeg) + 1)) fun κ8 => some (κ8, ()))))) else gd (¬ (a1 < 0 ∨ 5 ≤ a1.toNatClampNeg)) (gd (¬ (((3000 * a1) + ((kV κ 5 0 37) a1.toNatClampNeg)) < 0 ∨ 15000 ≤ ((3000 * a1) + ((kV κ 5 0 37) a1.toNatClampNeg)).toNatClampNeg)) (nm (setV κ 5 0 36 ((3000 * a1) + ((kV κ 5 0 37) a1.toNatClampNeg)).toNatClampNeg a2) fun κ11 => gd (¬ (a1 < 0 ∨ 5 ≤ a1.toNatClampNeg)) (gd (¬ (a1 < 0 ∨ 5 ≤ a1.toNatClampNeg)) (nm (setV κ11 5 0 37 a1.toNatClampNeg (((kV κ11 5 0 37) a1.toNatClampNeg) + 1)) fun κ14 => some (κ14, ()))))))
set_option maxHeartbeats 4000000 in
set_option maxRecDepth 100000 in
theorem w_X11_say {l0 : Launch} (hfl : l0.stackTraces = false) {X : MX} {B : BX (EE × K)} {g : GP} {E : EE} {κ' : K} {rr : Unit} (O : CK l0 X B g cX11_say RX11 1 0) (hKP : KPok B E) (hmL : B.2.2.2.1 = 3) (hE : ∀ (pc : Nat) (lv : List (Nat × AV)), decode cX11_say pc = .ok (.return_, 1) → J X B (E, κ') pc lv []) (h0 : PC 11 E 5 0 0) : ∀ (κ : K) (a1 : Int32) (a2 : Int32), f_X11_say E κ a1 a2 = some (κ', rr) → J X B (E, κ) 0 [(0, .inr (some (5, 0, 0))), (1, .inl (.int a1)), (2, .inl (.int a2))] [] := by
  intro κ a1 a2 h
  unfold f_X11_say at h
  refine J_aload_n O.mo dX11_say_0 0 rfl ?_
  refine J_getF O.co (kd0 := 11) (k11_0 h0) (l11_0 h0) (C := RX11) (T := TX11) (N := 42) rfl (by decide) rfl in_X11 33 (by decide) (v := .inr (some (5, 0, 33))) rfl mw550 rfl dX11_say_1 ?_
  refine J_iload_n O.mo dX11_say_4 1 rfl ?_
  obtain ⟨hg1, h⟩ := gd_some h
  refine J_bald O.co (g := (kV κ 5 0 33)) (ct_22n (l11_33 h0) (k11_33 h0) (n11_33 h0)) hg1 dX11_say_5 ?_
  refine J_if_eq O.mo (tgt := 40) dX11_say_6 (by decide) (fun hc2 => ?_) (fun hc2 => ?_)
  · replace h := (if_pos hc2).symm.trans h
    refine J_aload_n O.mo dX11_say_40 0 rfl ?_
    refine J_getF O.co (kd0 := 11) (k11_0 h0) (l11_0 h0) (C := RX11) (T := TX11) (N := 42) rfl (by decide) rfl in_X11 34 (by decide) (v := .inr (some (5, 0, 34))) rfl mw551 rfl dX11_say_41 ?_
    refine J_sipush O.mo (v := 3000) dX11_say_44 (by decide) ?_
    refine J_iload_n O.mo dX11_say_47 1 rfl ?_
    refine J_imul O.mo dX11_say_48 ?_
    refine J_aload_n O.mo dX11_say_49 0 rfl ?_
    refine J_getF O.co (kd0 := 11) (k11_0 h0) (l11_0 h0) (C := RX11) (T := TX11) (N := 42) rfl (by decide) rfl in_X11 35 (by decide) (v := .inr (some (5, 0, 35))) rfl mw552 rfl dX11_say_50 ?_
    refine J_iload_n O.mo dX11_say_53 1 rfl ?_
    obtain ⟨hg3, h⟩ := gd_some h
    refine J_iald O.co (g := (kV κ 5 0 35)) (ct_20n (l11_35 h0) (k11_35 h0) (n11_35 h0)) hg3 dX11_say_54 ?_
    refine J_iadd O.mo dX11_say_55 ?_
    refine J_iload_n O.mo dX11_say_56 2 rfl ?_
    obtain ⟨hg4, h⟩ := gd_some h
    refine row_20 O (l11_34 h0) (k11_34 h0) (n11_34 h0) hg4 (x := a2) dX11_say_57 ?_
    refine nm_some (P := fun z => J X B (E, z) 58 [(0, .inr (some (5, 0, 0))), (1, .inl (.int a1)), (2, .inl (.int a2))] []) h (fun κ5 h => ?_)
    refine J_aload_n O.mo dX11_say_58 0 rfl ?_
    refine J_getF O.co (kd0 := 11) (k11_0 h0) (l11_0 h0) (C := RX11) (T := TX11) (N := 42) rfl (by decide) rfl in_X11 35 (by decide) (v := .inr (some (5, 0, 35))) rfl mw552 rfl dX11_say_59 ?_
    refine J_iload_n O.mo dX11_say_62 1 rfl ?_
    refine J_dup2 O.mo dX11_say_63 rfl rfl ?_
    obtain ⟨hg6, h⟩ := gd_some h
    refine J_iald O.co (g := (kV κ5 5 0 35)) (ct_20n (l11_35 h0) (k11_35 h0) (n11_35 h0)) hg6 dX11_say_64 ?_
    refine J_iconst O.mo (v := 1) dX11_say_65 (by decide) ?_
    refine J_iadd O.mo dX11_say_66 ?_
    obtain ⟨hg7, h⟩ := gd_some h
    refine row_20 O (l11_35 h0) (k11_35 h0) (n11_35 h0) hg7 (x := (((kV κ5 5 0 35) a1.toNatClampNeg) + 1)) dX11_say_67 ?_
    refine nm_some (P := fun z => J X B (E, z) 68 [(0, .inr (some (5, 0, 0))), (1, .inl (.int a1)), (2, .inl (.int a2))] []) h (fun κ8 h => ?_)
    cases h
    exact hE _ _ dX11_say_68
  · replace h := (if_neg hc2).symm.trans h
    refine J_aload_n O.mo dX11_say_9 0 rfl ?_
    refine J_getF O.co (kd0 := 11) (k11_0 h0) (l11_0 h0) (C := RX11) (T := TX11) (N := 42) rfl (by decide) rfl in_X11 36 (by decide) (v := .inr (some (5, 0, 36))) rfl mw553 rfl dX11_say_10 ?_
    refine J_sipush O.mo (v := 3000) dX11_say_13 (by decide) ?_
    refine J_iload_n O.mo dX11_say_16 1 rfl ?_
    refine J_imul O.mo dX11_say_17 ?_
    refine J_aload_n O.mo dX11_say_18 0 rfl ?_
    refine J_getF O.co (kd0 := 11) (k11_0 h0) (l11_0 h0) (C := RX11) (T := TX11) (N := 42) rfl (by decide) rfl in_X11 37 (by decide) (v := .inr (some (5, 0, 37))) rfl mw554 rfl dX11_say_19 ?_
    refine J_iload_n O.mo dX11_say_22 1 rfl ?_
    obtain ⟨hg9, h⟩ := gd_some h
    refine J_iald O.co (g := (kV κ 5 0 37)) (ct_20n (l11_37 h0) (k11_37 h0) (n11_37 h0)) hg9 dX11_say_23 ?_
    refine J_iadd O.mo dX11_say_24 ?_
    refine J_iload_n O.mo dX11_say_25 2 rfl ?_
    obtain ⟨hg10, h⟩ := gd_some h
    refine row_20 O (l11_36 h0) (k11_36 h0) (n11_36 h0) hg10 (x := a2) dX11_say_26 ?_
    refine nm_some (P := fun z => J X B (E, z) 27 [(0, .inr (some (5, 0, 0))), (1, .inl (.int a1)), (2, .inl (.int a2))] []) h (fun κ11 h => ?_)
    refine J_aload_n O.mo dX11_say_27 0 rfl ?_
    refine J_getF O.co (kd0 := 11) (k11_0 h0) (l11_0 h0) (C := RX11) (T := TX11) (N := 42) rfl (by decide) rfl in_X11 37 (by decide) (v := .inr (some (5, 0, 37))) rfl mw554 rfl dX11_say_28 ?_
    refine J_iload_n O.mo dX11_say_31 1 rfl ?_
    refine J_dup2 O.mo dX11_say_32 rfl rfl ?_
    obtain ⟨hg12, h⟩ := gd_some h
    refine J_iald O.co (g := (kV κ11 5 0 37)) (ct_20n (l11_37 h0) (k11_37 h0) (n11_37 h0)) hg12 dX11_say_33 ?_
    refine J_iconst O.mo (v := 1) dX11_say_34 (by decide) ?_
    refine J_iadd O.mo dX11_say_35 ?_
    obtain ⟨hg13, h⟩ := gd_some h
    refine row_20 O (l11_37 h0) (k11_37 h0) (n11_37 h0) hg13 (x := (((kV κ11 5 0 37) a1.toNatClampNeg) + 1)) dX11_say_36 ?_
    refine nm_some (P := fun z => J X B (E, z) 37 [(0, .inr (some (5, 0, 0))), (1, .inl (.int a1)), (2, .inl (.int a2))] []) h (fun κ14 h => ?_)
    refine J_goto O.mo (tgt := 68) dX11_say_37 (by decide) ?_
    cases h
    exact hE _ _ dX11_say_68
theorem c_X11_say {l : Launch} (hfl : l.stackTraces = false) {E : EE} {κ κ' : K} {a1 : Int32} {a2 : Int32} (h0 : PC 11 E 5 0 0) {rr : Unit} (h : f_X11_say E κ a1 a2 = some (κ', rr)) : Con l yX11_say cX11_say 3 none 1 0 [.inr (some (5, 0, 0)), .inl (.int a1), .inl (.int a2)] (E, κ) (E, κ') none := by
  exact Con_of hfl (by decide +kernel) (Nat.le_of_ble_eq_true rfl) rfl rfl (fun X B g O hKP hmL hE => w_X11_say hfl O hKP hmL hE h0 _ _ _ h)
def f_X11_letOut_b59 (E : EE) (κ : K) (x1 : Int32) (x2 : Int32) : Option (K × Int32) := gd (¬ (x1 < 0 ∨ 5 ≤ x1.toNatClampNeg)) (nm (setV κ 5 0 37 x1.toNatClampNeg 0) fun κ5 => some (κ5, x2))
def f_X11_letOut_b9 (E : EE) : Nat → K → Int32 → Int32 → Int32 → Option (K × Int32)
  | 0, _, _, _, _ => none
  | n + 1, κ, x1, x2, x3 => if x2 ≤ x3 then f_X11_letOut_b59 E κ x1 x2 else gd (¬ (x1 < 0 ∨ 5 ≤ x1.toNatClampNeg)) (gd (¬ (((3000 * x1) + x3) < 0 ∨ 15000 ≤ ((3000 * x1) + x3).toNatClampNeg)) (gd (¬ (((3000 * x1) + ((kV κ 5 0 35) x1.toNatClampNeg)) < 0 ∨ 15000 ≤ ((3000 * x1) + ((kV κ 5 0 35) x1.toNatClampNeg)).toNatClampNeg)) (nm (setV κ 5 0 34 ((3000 * x1) + ((kV κ 5 0 35) x1.toNatClampNeg)).toNatClampNeg ((kV κ 5 0 36) ((3000 * x1) + x3).toNatClampNeg)) fun κ9 => gd (¬ (x1 < 0 ∨ 5 ≤ x1.toNatClampNeg)) (gd (¬ (x1 < 0 ∨ 5 ≤ x1.toNatClampNeg)) (nm (setV κ9 5 0 35 x1.toNatClampNeg (((kV κ9 5 0 35) x1.toNatClampNeg) + 1)) fun κ12 => nm (x3 + 1) fun y13 => f_X11_letOut_b9 E n κ12 x1 x2 y13)))))
def f_X11_letOut (E : EE) (κ : K) (a1 : Int32) : Option (K × Int32) := gd (¬ (a1 < 0 ∨ 5 ≤ a1.toNatClampNeg)) (nm ((kV κ 5 0 37) a1.toNatClampNeg) fun y2 => f_X11_letOut_b9 E FU κ a1 y2 0)
set_option maxHeartbeats 4000000 in
set_option maxRecDepth 100000 in
theorem w_X11_letOut_b59 {l0 : Launch} (hfl : l0.stackTraces = false) {X : MX} {B : BX (EE × K)} {g : GP} {E : EE} {κ' : K} {rr : Int32} (O : CK l0 X B g cX11_letOut RX11 1 0) (hKP : KPok B E) (hmL : B.2.2.2.1 = 4) (hE : ∀ (pc : Nat) (lv : List (Nat × AV)), decode cX11_letOut pc = .ok (.ireturn, 1) → J X B (E, κ') pc lv [.inl (.int rr)]) (h0 : PC 11 E 5 0 0) : ∀ (κ : K) (x1 : Int32) (x2 : Int32), f_X11_letOut_b59 E κ x1 x2 = some (κ', rr) → J X B (E, κ) 59 [(0, .inr (some (5, 0, 0))), (1, .inl (.int x1)), (2, .inl (.int x2))] [] := by
  intro κ x1 x2 h
  unfold f_X11_letOut_b59 at h
  refine J_aload_n O.mo dX11_letOut_59 0 rfl ?_
  refine J_getF O.co (kd0 := 11) (k11_0 h0) (l11_0 h0) (C := RX11) (T := TX11) (N := 42) rfl (by decide) rfl in_X11 37 (by decide) (v := .inr (some (5, 0, 37))) rfl mw554 rfl dX11_letOut_60 ?_
  refine J_iload_n O.mo dX11_letOut_63 1 rfl ?_
  refine J_iconst O.mo (v := 0) dX11_letOut_64 (by decide) ?_
  obtain ⟨hg4, h⟩ := gd_some h
  refine row_20 O (l11_37 h0) (k11_37 h0) (n11_37 h0) hg4 (x := 0) dX11_letOut_65 ?_
  refine nm_some (P := fun z => J X B (E, z) 66 [(0, .inr (some (5, 0, 0))), (1, .inl (.int x1)), (2, .inl (.int x2))] []) h (fun κ5 h => ?_)
  refine J_iload_n O.mo dX11_letOut_66 2 rfl ?_
  cases h
  exact hE _ _ dX11_letOut_67
set_option maxHeartbeats 4000000 in
set_option maxRecDepth 100000 in
theorem w_X11_letOut_b9 {l0 : Launch} (hfl : l0.stackTraces = false) {X : MX} {B : BX (EE × K)} {g : GP} {E : EE} {κ' : K} {rr : Int32} (O : CK l0 X B g cX11_letOut RX11 1 0) (hKP : KPok B E) (hmL : B.2.2.2.1 = 4) (hE : ∀ (pc : Nat) (lv : List (Nat × AV)), decode cX11_letOut pc = .ok (.ireturn, 1) → J X B (E, κ') pc lv [.inl (.int rr)]) (h0 : PC 11 E 5 0 0) : ∀ (n : Nat) (κ : K) (x1 : Int32) (x2 : Int32) (x3 : Int32), f_X11_letOut_b9 E n κ x1 x2 x3 = some (κ', rr) → J X B (E, κ) 9 [(0, .inr (some (5, 0, 0))), (1, .inl (.int x1)), (2, .inl (.int x2)), (3, .inl (.int x3))] [] := by
  intro n
  induction n with
  | zero => intro κ x1 x2 x3 h; cases h
  | succ n ih =>
    intro κ x1 x2 x3 h
    rw [f_X11_letOut_b9] at h
    refine J_iload_n O.mo dX11_letOut_9 3 rfl ?_
    refine J_iload_n O.mo dX11_letOut_10 2 rfl ?_
    refine J_icmp_ge O.mo (tgt := 59) dX11_letOut_11 (by decide) (fun hc3 => ?_) (fun hc3 => ?_)
    · replace h := (if_pos hc3).symm.trans h
      refine J_sub [0, 1, 2] rfl ?_
      exact w_X11_letOut_b59 hfl O hKP hmL hE h0 _ _ _ h
    · replace h := (if_neg hc3).symm.trans h
      refine J_aload_n O.mo dX11_letOut_14 0 rfl ?_
      refine J_getF O.co (kd0 := 11) (k11_0 h0) (l11_0 h0) (C := RX11) (T := TX11) (N := 42) rfl (by decide) rfl in_X11 34 (by decide) (v := .inr (some (5, 0, 34))) rfl mw551 rfl dX11_letOut_15 ?_
      refine J_sipush O.mo (v := 3000) dX11_letOut_18 (by decide) ?_
      refine J_iload_n O.mo dX11_letOut_21 1 rfl ?_
      refine J_imul O.mo dX11_letOut_22 ?_
      refine J_aload_n O.mo dX11_letOut_23 0 rfl ?_
      refine J_getF O.co (kd0 := 11) (k11_0 h0) (l11_0 h0) (C := RX11) (T := TX11) (N := 42) rfl (by decide) rfl in_X11 35 (by decide) (v := .inr (some (5, 0, 35))) rfl mw552 rfl dX11_letOut_24 ?_
      refine J_iload_n O.mo dX11_letOut_27 1 rfl ?_
      obtain ⟨hg6, h⟩ := gd_some h
      refine J_iald O.co (g := (kV κ 5 0 35)) (ct_20n (l11_35 h0) (k11_35 h0) (n11_35 h0)) hg6 dX11_letOut_28 ?_
      refine J_iadd O.mo dX11_letOut_29 ?_
      refine J_aload_n O.mo dX11_letOut_30 0 rfl ?_
      refine J_getF O.co (kd0 := 11) (k11_0 h0) (l11_0 h0) (C := RX11) (T := TX11) (N := 42) rfl (by decide) rfl in_X11 36 (by decide) (v := .inr (some (5, 0, 36))) rfl mw553 rfl dX11_letOut_31 ?_
      refine J_sipush O.mo (v := 3000) dX11_letOut_34 (by decide) ?_
      refine J_iload_n O.mo dX11_letOut_37 1 rfl ?_
      refine J_imul O.mo dX11_letOut_38 ?_
      refine J_iload_n O.mo dX11_letOut_39 3 rfl ?_
      refine J_iadd O.mo dX11_letOut_40 ?_
      obtain ⟨hg7, h⟩ := gd_some h
      refine J_iald O.co (g := (kV κ 5 0 36)) (ct_20n (l11_36 h0) (k11_36 h0) (n11_36 h0)) hg7 dX11_letOut_41 ?_
      obtain ⟨hg8, h⟩ := gd_some h
      refine row_20 O (l11_34 h0) (k11_34 h0) (n11_34 h0) hg8 (x := ((kV κ 5 0 36) ((3000 * x1) + x3).toNatClampNeg)) dX11_letOut_42 ?_
      refine nm_some (P := fun z => J X B (E, z) 43 [(0, .inr (some (5, 0, 0))), (1, .inl (.int x1)), (2, .inl (.int x2)), (3, .inl (.int x3))] []) h (fun κ9 h => ?_)
      refine J_aload_n O.mo dX11_letOut_43 0 rfl ?_
      refine J_getF O.co (kd0 := 11) (k11_0 h0) (l11_0 h0) (C := RX11) (T := TX11) (N := 42) rfl (by decide) rfl in_X11 35 (by decide) (v := .inr (some (5, 0, 35))) rfl mw552 rfl dX11_letOut_44 ?_
      refine J_iload_n O.mo dX11_letOut_47 1 rfl ?_
      refine J_dup2 O.mo dX11_letOut_48 rfl rfl ?_
      obtain ⟨hg10, h⟩ := gd_some h
      refine J_iald O.co (g := (kV κ9 5 0 35)) (ct_20n (l11_35 h0) (k11_35 h0) (n11_35 h0)) hg10 dX11_letOut_49 ?_
      refine J_iconst O.mo (v := 1) dX11_letOut_50 (by decide) ?_
      refine J_iadd O.mo dX11_letOut_51 ?_
      obtain ⟨hg11, h⟩ := gd_some h
      refine row_20 O (l11_35 h0) (k11_35 h0) (n11_35 h0) hg11 (x := (((kV κ9 5 0 35) x1.toNatClampNeg) + 1)) dX11_letOut_52 ?_
      refine nm_some (P := fun z => J X B (E, z) 53 [(0, .inr (some (5, 0, 0))), (1, .inl (.int x1)), (2, .inl (.int x2)), (3, .inl (.int x3))] []) h (fun κ12 h => ?_)
      refine J_iinc O.mo (v := x3 + 1) (lv' := [(0, .inr (some (5, 0, 0))), (1, .inl (.int x1)), (2, .inl (.int x2))]) dX11_letOut_53 (by rw [hmL]; decide) 3 rfl (by rw [show Int32.ofInt (1) = (1 : Int32) from by decide]) rfl rfl ?_
      refine nm_some (P := fun z => J X B (E, κ12) 56 [(3, .inl (.int z)), (0, .inr (some (5, 0, 0))), (1, .inl (.int x1)), (2, .inl (.int x2))] []) h (fun y13 h => ?_)
      refine J_goto O.mo (tgt := 9) dX11_letOut_56 (by decide) ?_
      refine J_sub [1, 2, 3, 0] rfl ?_
      exact ih _ _ _ _ h
set_option maxHeartbeats 4000000 in
set_option maxRecDepth 100000 in
theorem w_X11_letOut {l0 : Launch} (hfl : l0.stackTraces = false) {X : MX} {B : BX (EE × K)} {g : GP} {E : EE} {κ' : K} {rr : Int32} (O : CK l0 X B g cX11_letOut RX11 1 0) (hKP : KPok B E) (hmL : B.2.2.2.1 = 4) (hE : ∀ (pc : Nat) (lv : List (Nat × AV)), decode cX11_letOut pc = .ok (.ireturn, 1) → J X B (E, κ') pc lv [.inl (.int rr)]) (h0 : PC 11 E 5 0 0) : ∀ (κ : K) (a1 : Int32), f_X11_letOut E κ a1 = some (κ', rr) → J X B (E, κ) 0 [(0, .inr (some (5, 0, 0))), (1, .inl (.int a1))] [] := by
  intro κ a1 h
  unfold f_X11_letOut at h
  refine J_aload_n O.mo dX11_letOut_0 0 rfl ?_
  refine J_getF O.co (kd0 := 11) (k11_0 h0) (l11_0 h0) (C := RX11) (T := TX11) (N := 42) rfl (by decide) rfl in_X11 37 (by decide) (v := .inr (some (5, 0, 37))) rfl mw554 rfl dX11_letOut_1 ?_
  refine J_iload_n O.mo dX11_letOut_4 1 rfl ?_
  obtain ⟨hg1, h⟩ := gd_some h
  refine J_iald O.co (g := (kV κ 5 0 37)) (ct_20n (l11_37 h0) (k11_37 h0) (n11_37 h0)) hg1 dX11_letOut_5 ?_
  refine J_istore_n O.mo (lv' := [(0, .inr (some (5, 0, 0))), (1, .inl (.int a1))]) dX11_letOut_6 (by rw [hmL]; decide) rfl rfl ?_
  refine nm_some (P := fun z => J X B (E, κ) 7 [(2, .inl (.int z)), (0, .inr (some (5, 0, 0))), (1, .inl (.int a1))] []) h (fun y2 h => ?_)
  refine J_iconst O.mo (v := 0) dX11_letOut_7 (by decide) ?_
  refine J_istore_n O.mo (lv' := [(2, .inl (.int y2)), (0, .inr (some (5, 0, 0))), (1, .inl (.int a1))]) dX11_letOut_8 (by rw [hmL]; decide) rfl rfl ?_
  refine J_sub [2, 3, 1, 0] rfl ?_
  exact w_X11_letOut_b9 hfl O hKP hmL hE h0 FU _ _ _ _ h
theorem c_X11_letOut {l : Launch} (hfl : l.stackTraces = false) {E : EE} {κ κ' : K} {a1 : Int32} (h0 : PC 11 E 5 0 0) {rr : Int32} (h : f_X11_letOut E κ a1 = some (κ', rr)) : Con l yX11_letOut cX11_letOut 4 (some .int) 1 0 [.inr (some (5, 0, 0)), .inl (.int a1)] (E, κ) (E, κ') (some (.inl (.int rr))) := by
  exact Con_of hfl (by decide +kernel) (Nat.le_of_ble_eq_true rfl) rfl ⟨_, rfl, rfl⟩ (fun X B g O hKP hmL hE => w_X11_letOut hfl O hKP hmL hE h0 _ _ h)
def f_X11_takeInput_b46 (E : EE) : Nat → K → Int32 → Int32 → Int32 → Int32 → Option (K × Int32)
  | 0, _, _, _, _, _ => none
  | n + 1, κ, x1, x2, x3, x4 => gd (¬ ((x2 + 54) < 0 ∨ 275 ≤ (x2 + 54).toNatClampNeg)) (if (kV κ 5 0 1) (x2 + 54).toNatClampNeg ≤ x4 then some (κ, x3) else gd (¬ ((((512 * x1) + x4) + 1) < 0 ∨ 2560 ≤ (((512 * x1) + x4) + 1).toNatClampNeg)) (gd (¬ (((512 * x1) + x4) < 0 ∨ 2560 ≤ ((512 * x1) + x4).toNatClampNeg)) (nm (setV κ 5 0 2 ((512 * x1) + x4).toNatClampNeg ((kV κ 5 0 2) (((512 * x1) + x4) + 1).toNatClampNeg)) fun κ13 => nm (x4 + 1) fun y14 => f_X11_takeInput_b46 E n κ13 x1 x2 x3 y14)))
def f_X11_takeInput (E : EE) (κ : K) (a1 : Int32) : Option (K × Int32) := nm (55 * a1) fun y1 => gd (¬ ((y1 + 54) < 0 ∨ 275 ≤ (y1 + 54).toNatClampNeg)) (if (kV κ 5 0 1) (y1 + 54).toNatClampNeg = 0 then some (κ, 0) else gd (¬ ((512 * a1) < 0 ∨ 2560 ≤ (512 * a1).toNatClampNeg)) (nm ((kV κ 5 0 2) (512 * a1).toNatClampNeg) fun y5 => gd (¬ ((y1 + 54) < 0 ∨ 275 ≤ (y1 + 54).toNatClampNeg)) (gd (¬ ((y1 + 54) < 0 ∨ 275 ≤ (y1 + 54).toNatClampNeg)) (nm (setV κ 5 0 1 (y1 + 54).toNatClampNeg (((kV κ 5 0 1) (y1 + 54).toNatClampNeg) - 1)) fun κ8 => f_X11_takeInput_b46 E FU κ8 a1 y1 y5 0))))
set_option maxHeartbeats 4000000 in
set_option maxRecDepth 100000 in
theorem w_X11_takeInput_b46 {l0 : Launch} (hfl : l0.stackTraces = false) {X : MX} {B : BX (EE × K)} {g : GP} {E : EE} {κ' : K} {rr : Int32} (O : CK l0 X B g cX11_takeInput RX11 1 0) (hKP : KPok B E) (hmL : B.2.2.2.1 = 5) (hE : ∀ (pc : Nat) (lv : List (Nat × AV)), decode cX11_takeInput pc = .ok (.ireturn, 1) → J X B (E, κ') pc lv [.inl (.int rr)]) (h0 : PC 11 E 5 0 0) : ∀ (n : Nat) (κ : K) (x1 : Int32) (x2 : Int32) (x3 : Int32) (x4 : Int32), f_X11_takeInput_b46 E n κ x1 x2 x3 x4 = some (κ', rr) → J X B (E, κ) 46 [(0, .inr (some (5, 0, 0))), (1, .inl (.int x1)), (2, .inl (.int x2)), (3, .inl (.int x3)), (4, .inl (.int x4))] [] := by
  intro n
  induction n with
  | zero => intro κ x1 x2 x3 x4 h; cases h
  | succ n ih =>
    intro κ x1 x2 x3 x4 h
    rw [f_X11_takeInput_b46] at h
    refine J_iload O.mo dX11_takeInput_46 4 rfl ?_
    refine J_aload_n O.mo dX11_takeInput_48 0 rfl ?_
    refine J_getF O.co (kd0 := 11) (k11_0 h0) (l11_0 h0) (C := RX11) (T := TX11) (N := 42) rfl (by decide) rfl in_X11 1 (by decide) (v := .inr (some (5, 0, 1))) rfl mw545 rfl dX11_takeInput_49 ?_
    refine J_iload_n O.mo dX11_takeInput_52 2 rfl ?_
    refine J_bipush O.mo (v := 54) dX11_takeInput_53 (by decide) ?_
    refine J_iadd O.mo dX11_takeInput_55 ?_
    obtain ⟨hg9, h⟩ := gd_some h
    refine J_iald O.co (g := (kV κ 5 0 1)) (ct_20n (l11_1 h0) (k11_1 h0) (n11_1 h0)) hg9 dX11_takeInput_56 ?_
    refine J_icmp_ge O.mo (tgt := 94) dX11_takeInput_57 (by decide) (fun hc10 => ?_) (fun hc10 => ?_)
    · replace h := (if_pos hc10).symm.trans h
      refine J_iload_n O.mo dX11_takeInput_94 3 rfl ?_
      cases h
      exact hE _ _ dX11_takeInput_95
    · replace h := (if_neg hc10).symm.trans h
      refine J_aload_n O.mo dX11_takeInput_60 0 rfl ?_
      refine J_getF O.co (kd0 := 11) (k11_0 h0) (l11_0 h0) (C := RX11) (T := TX11) (N := 42) rfl (by decide) rfl in_X11 2 (by decide) (v := .inr (some (5, 0, 2))) rfl mw555 rfl dX11_takeInput_61 ?_
      refine J_sipush O.mo (v := 512) dX11_takeInput_64 (by decide) ?_
      refine J_iload_n O.mo dX11_takeInput_67 1 rfl ?_
      refine J_imul O.mo dX11_takeInput_68 ?_
      refine J_iload O.mo dX11_takeInput_69 4 rfl ?_
      refine J_iadd O.mo dX11_takeInput_71 ?_
      refine J_aload_n O.mo dX11_takeInput_72 0 rfl ?_
      refine J_getF O.co (kd0 := 11) (k11_0 h0) (l11_0 h0) (C := RX11) (T := TX11) (N := 42) rfl (by decide) rfl in_X11 2 (by decide) (v := .inr (some (5, 0, 2))) rfl mw555 rfl dX11_takeInput_73 ?_
      refine J_sipush O.mo (v := 512) dX11_takeInput_76 (by decide) ?_
      refine J_iload_n O.mo dX11_takeInput_79 1 rfl ?_
      refine J_imul O.mo dX11_takeInput_80 ?_
      refine J_iload O.mo dX11_takeInput_81 4 rfl ?_
      refine J_iadd O.mo dX11_takeInput_83 ?_
      refine J_iconst O.mo (v := 1) dX11_takeInput_84 (by decide) ?_
      refine J_iadd O.mo dX11_takeInput_85 ?_
      obtain ⟨hg11, h⟩ := gd_some h
      refine J_iald O.co (g := (kV κ 5 0 2)) (ct_20n (l11_2 h0) (k11_2 h0) (n11_2 h0)) hg11 dX11_takeInput_86 ?_
      obtain ⟨hg12, h⟩ := gd_some h
      refine row_20 O (l11_2 h0) (k11_2 h0) (n11_2 h0) hg12 (x := ((kV κ 5 0 2) (((512 * x1) + x4) + 1).toNatClampNeg)) dX11_takeInput_87 ?_
      refine nm_some (P := fun z => J X B (E, z) 88 [(0, .inr (some (5, 0, 0))), (1, .inl (.int x1)), (2, .inl (.int x2)), (3, .inl (.int x3)), (4, .inl (.int x4))] []) h (fun κ13 h => ?_)
      refine J_iinc O.mo (v := x4 + 1) (lv' := [(0, .inr (some (5, 0, 0))), (1, .inl (.int x1)), (2, .inl (.int x2)), (3, .inl (.int x3))]) dX11_takeInput_88 (by rw [hmL]; decide) 4 rfl (by rw [show Int32.ofInt (1) = (1 : Int32) from by decide]) rfl rfl ?_
      refine nm_some (P := fun z => J X B (E, κ13) 91 [(4, .inl (.int z)), (0, .inr (some (5, 0, 0))), (1, .inl (.int x1)), (2, .inl (.int x2)), (3, .inl (.int x3))] []) h (fun y14 h => ?_)
      refine J_goto O.mo (tgt := 46) dX11_takeInput_91 (by decide) ?_
      refine J_sub [1, 2, 3, 4, 0] rfl ?_
      exact ih _ _ _ _ _ h
set_option maxHeartbeats 4000000 in
set_option maxRecDepth 100000 in
theorem w_X11_takeInput {l0 : Launch} (hfl : l0.stackTraces = false) {X : MX} {B : BX (EE × K)} {g : GP} {E : EE} {κ' : K} {rr : Int32} (O : CK l0 X B g cX11_takeInput RX11 1 0) (hKP : KPok B E) (hmL : B.2.2.2.1 = 5) (hE : ∀ (pc : Nat) (lv : List (Nat × AV)), decode cX11_takeInput pc = .ok (.ireturn, 1) → J X B (E, κ') pc lv [.inl (.int rr)]) (h0 : PC 11 E 5 0 0) : ∀ (κ : K) (a1 : Int32), f_X11_takeInput E κ a1 = some (κ', rr) → J X B (E, κ) 0 [(0, .inr (some (5, 0, 0))), (1, .inl (.int a1))] [] := by
  intro κ a1 h
  unfold f_X11_takeInput at h
  refine J_bipush O.mo (v := 55) dX11_takeInput_0 (by decide) ?_
  refine J_iload_n O.mo dX11_takeInput_2 1 rfl ?_
  refine J_imul O.mo dX11_takeInput_3 ?_
  refine J_istore_n O.mo (lv' := [(0, .inr (some (5, 0, 0))), (1, .inl (.int a1))]) dX11_takeInput_4 (by rw [hmL]; decide) rfl rfl ?_
  refine nm_some (P := fun z => J X B (E, κ) 5 [(2, .inl (.int z)), (0, .inr (some (5, 0, 0))), (1, .inl (.int a1))] []) h (fun y1 h => ?_)
  refine J_aload_n O.mo dX11_takeInput_5 1 rfl ?_
  refine J_getF O.co (kd0 := 11) (k11_0 h0) (l11_0 h0) (C := RX11) (T := TX11) (N := 42) rfl (by decide) rfl in_X11 1 (by decide) (v := .inr (some (5, 0, 1))) rfl mw545 rfl dX11_takeInput_6 ?_
  refine J_iload_n O.mo dX11_takeInput_9 0 rfl ?_
  refine J_bipush O.mo (v := 54) dX11_takeInput_10 (by decide) ?_
  refine J_iadd O.mo dX11_takeInput_12 ?_
  obtain ⟨hg2, h⟩ := gd_some h
  refine J_iald O.co (g := (kV κ 5 0 1)) (ct_20n (l11_1 h0) (k11_1 h0) (n11_1 h0)) hg2 dX11_takeInput_13 ?_
  refine J_if_ne O.mo (tgt := 19) dX11_takeInput_14 (by decide) (fun hc3 => ?_) (fun hc3 => ?_)
  · replace h := (if_neg hc3).symm.trans h
    refine J_aload_n O.mo dX11_takeInput_19 1 rfl ?_
    refine J_getF O.co (kd0 := 11) (k11_0 h0) (l11_0 h0) (C := RX11) (T := TX11) (N := 42) rfl (by decide) rfl in_X11 2 (by decide) (v := .inr (some (5, 0, 2))) rfl mw555 rfl dX11_takeInput_20 ?_
    refine J_sipush O.mo (v := 512) dX11_takeInput_23 (by decide) ?_
    refine J_iload_n O.mo dX11_takeInput_26 2 rfl ?_
    refine J_imul O.mo dX11_takeInput_27 ?_
    obtain ⟨hg4, h⟩ := gd_some h
    refine J_iald O.co (g := (kV κ 5 0 2)) (ct_20n (l11_2 h0) (k11_2 h0) (n11_2 h0)) hg4 dX11_takeInput_28 ?_
    refine J_istore_n O.mo (lv' := [(2, .inl (.int y1)), (0, .inr (some (5, 0, 0))), (1, .inl (.int a1))]) dX11_takeInput_29 (by rw [hmL]; decide) rfl rfl ?_
    refine nm_some (P := fun z => J X B (E, κ) 30 [(3, .inl (.int z)), (2, .inl (.int y1)), (0, .inr (some (5, 0, 0))), (1, .inl (.int a1))] []) h (fun y5 h => ?_)
    refine J_aload_n O.mo dX11_takeInput_30 2 rfl ?_
    refine J_getF O.co (kd0 := 11) (k11_0 h0) (l11_0 h0) (C := RX11) (T := TX11) (N := 42) rfl (by decide) rfl in_X11 1 (by decide) (v := .inr (some (5, 0, 1))) rfl mw545 rfl dX11_takeInput_31 ?_
    refine J_iload_n O.mo dX11_takeInput_34 1 rfl ?_
    refine J_bipush O.mo (v := 54) dX11_takeInput_35 (by decide) ?_
    refine J_iadd O.mo dX11_takeInput_37 ?_
    refine J_dup2 O.mo dX11_takeInput_38 rfl rfl ?_
    obtain ⟨hg6, h⟩ := gd_some h
    refine J_iald O.co (g := (kV κ 5 0 1)) (ct_20n (l11_1 h0) (k11_1 h0) (n11_1 h0)) hg6 dX11_takeInput_39 ?_
    refine J_iconst O.mo (v := 1) dX11_takeInput_40 (by decide) ?_
    refine J_isub O.mo dX11_takeInput_41 ?_
    obtain ⟨hg7, h⟩ := gd_some h
    refine row_20 O (l11_1 h0) (k11_1 h0) (n11_1 h0) hg7 (x := (((kV κ 5 0 1) (y1 + 54).toNatClampNeg) - 1)) dX11_takeInput_42 ?_
    refine nm_some (P := fun z => J X B (E, z) 43 [(3, .inl (.int y5)), (2, .inl (.int y1)), (0, .inr (some (5, 0, 0))), (1, .inl (.int a1))] []) h (fun κ8 h => ?_)
    refine J_iconst O.mo (v := 0) dX11_takeInput_43 (by decide) ?_
    refine J_istore O.mo (lv' := [(3, .inl (.int y5)), (2, .inl (.int y1)), (0, .inr (some (5, 0, 0))), (1, .inl (.int a1))]) dX11_takeInput_44 (by rw [hmL]; decide) rfl rfl ?_
    refine J_sub [3, 4, 2, 1, 0] rfl ?_
    exact w_X11_takeInput_b46 hfl O hKP hmL hE h0 FU _ _ _ _ _ h
  · replace h := (if_pos hc3).symm.trans h
    refine J_iconst O.mo (v := 0) dX11_takeInput_17 (by decide) ?_
    cases h
    exact hE _ _ dX11_takeInput_18
theorem c_X11_takeInput {l : Launch} (hfl : l.stackTraces = false) {E : EE} {κ κ' : K} {a1 : Int32} (h0 : PC 11 E 5 0 0) {rr : Int32} (h : f_X11_takeInput E κ a1 = some (κ', rr)) : Con l yX11_takeInput cX11_takeInput 5 (some .int) 1 0 [.inr (some (5, 0, 0)), .inl (.int a1)] (E, κ) (E, κ') (some (.inl (.int rr))) := by
  exact Con_of hfl (by decide +kernel) (Nat.le_of_ble_eq_true rfl) rfl ⟨_, rfl, rfl⟩ (fun X B g O hKP hmL hE => w_X11_takeInput hfl O hKP hmL hE h0 _ _ h)
