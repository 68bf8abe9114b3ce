theorem k3_0 {E : EE} {f i c : Nat} (h : PC 3 E f i c) : kd f (c) = 3 := PC_kd h 0 (by decide)
theorem l3_0 {E : EE} {f i c : Nat} (h : PC 3 E f i c) : liveC E f i (c) = true := PC_lv h 0 (by decide)
theorem s3_0 {E : EE} {f i c : Nat} (h : PC 3 E f i c) : Stab E (.inr (some (f, i, c))) := PC_st h 0 (by decide) (by decide)
theorem k3_1 {E : EE} {f i c : Nat} (h : PC 3 E f i c) : kd f (c + 1) = 20 := PC_kd h 1 (by decide)
theorem l3_1 {E : EE} {f i c : Nat} (h : PC 3 E f i c) : liveC E f i (c + 1) = true := PC_lv h 1 (by decide)
theorem s3_1 {E : EE} {f i c : Nat} (h : PC 3 E f i c) : Stab E (.inr (some (f, i, c + 1))) := PC_st h 1 (by decide) (by decide)
theorem n3_1 {E : EE} {f i c : Nat} (h : PC 3 E f i c) : sl f (c + 1) = 40 := PC_sl h 1 (by decide)
theorem k3_2 {E : EE} {f i c : Nat} (h : PC 3 E f i c) : kd f (c + 2) = 20 := PC_kd h 2 (by decide)
theorem l3_2 {E : EE} {f i c : Nat} (h : PC 3 E f i c) : liveC E f i (c + 2) = true := PC_lv h 2 (by decide)
theorem s3_2 {E : EE} {f i c : Nat} (h : PC 3 E f i c) : Stab E (.inr (some (f, i, c + 2))) := PC_st h 2 (by decide) (by decide)
theorem n3_2 {E : EE} {f i c : Nat} (h : PC 3 E f i c) : sl f (c + 2) = 16 := PC_sl h 2 (by decide)
theorem k3_3 {E : EE} {f i c : Nat} (h : PC 3 E f i c) : kd f (c + 3) = 20 := PC_kd h 3 (by decide)
theorem l3_3 {E : EE} {f i c : Nat} (h : PC 3 E f i c) : liveC E f i (c + 3) = true := PC_lv h 3 (by decide)
theorem s3_3 {E : EE} {f i c : Nat} (h : PC 3 E f i c) : Stab E (.inr (some (f, i, c + 3))) := PC_st h 3 (by decide) (by decide)
theorem n3_3 {E : EE} {f i c : Nat} (h : PC 3 E f i c) : sl f (c + 3) = 16 := PC_sl h 3 (by decide)
set_option maxRecDepth 100000 in
theorem mw0 : Cond.fieldLink RX2 15 "GuestHall$Host" "pagesIn" "[I" ∈ gwl := gwl_tb 77 rfl rfl
set_option maxRecDepth 100000 in
theorem mw1 : Cond.fieldLink RX2 9 "GuestHall$Host" "frameOfKey" "[I" ∈ gwl := gwl_tb 75 rfl rfl
set_option maxRecDepth 100000 in
theorem mw2 : Cond.fieldLink RX2 18 "GuestHall$Host" "usedAt" "[I" ∈ gwl := gwl_tb 79 rfl rfl
set_option maxRecDepth 100000 in
theorem mw3 : Cond.methodLink RX2 46 Lib.Math.max.name ∈ gwl := gwl_tb 866 rfl rfl
set_option maxRecDepth 100000 in
theorem mw4 : Cond.static Lib.Math.max.name ∈ gwl := gwl_tb 523 rfl rfl
set_option maxRecDepth 100000 in
theorem mw5 : Cond.initialized "java/lang/Math" ∈ gwl := gwl_tb 22 rfl rfl
set_option maxRecDepth 100000 in
theorem mw6 : Cond.code Lib.Math.max.name Lib.Math.max.code 2 (some .int) ∈ gwl := gwl_tb 524 rfl rfl
set_option maxRecDepth 100000 in
theorem mw7 : Cond.methodLink RX2 39 yX2_moveAll ∈ gwl := gwl_tb 751 rfl rfl
set_option maxRecDepth 100000 in
theorem mw8 : Cond.instanceMethod yX2_moveAll ∈ gwl := gwl_tb 753 rfl rfl
set_option maxRecDepth 100000 in
theorem mw9 : Cond.selects RX2 yX2_moveAll yX2_moveAll ∈ gwl := gwl_sl 15 rfl rfl
set_option maxRecDepth 100000 in
theorem mw10 : Cond.initialized RX2 ∈ gwl := gwl_tb 5 rfl rfl
set_option maxRecDepth 100000 in
theorem mw11 : Cond.code yX2_moveAll cX2_moveAll 4 none ∈ gwl := gwl_tb 754 rfl rfl
set_option maxRecDepth 100000 in
theorem mw12 : Cond.methodLink RX2 31 yX2_lowestFree ∈ gwl := gwl_tb 743 rfl rfl
set_option maxRecDepth 100000 in
theorem mw13 : Cond.instanceMethod yX2_lowestFree ∈ gwl := gwl_tb 745 rfl rfl
set_option maxRecDepth 100000 in
theorem mw14 : Cond.selects RX2 yX2_lowestFree yX2_lowestFree ∈ gwl := gwl_sl 13 rfl rfl
set_option maxRecDepth 100000 in
theorem mw15 : Cond.code yX2_lowestFree cX2_lowestFree 2 (some .int) ∈ gwl := gwl_tb 746 rfl rfl
set_option maxRecDepth 100000 in
theorem mw16 : Cond.fieldLink RX2 43 "GuestHall$Host" "tick" "I" ∈ gwl := gwl_tb 82 rfl rfl
set_option maxRecDepth 100000 in
theorem mw17 : Cond.methodLink RX2 35 yX2_oldestBut ∈ gwl := gwl_tb 747 rfl rfl
set_option maxRecDepth 100000 in
theorem mw18 : Cond.instanceMethod yX2_oldestBut ∈ gwl := gwl_tb 749 rfl rfl
set_option maxRecDepth 100000 in
theorem mw19 : Cond.selects RX2 yX2_oldestBut yX2_oldestBut ∈ gwl := gwl_sl 14 rfl rfl
set_option maxRecDepth 100000 in
theorem mw20 : Cond.code yX2_oldestBut cX2_oldestBut 4 (some .int) ∈ gwl := gwl_tb 750 rfl rfl
set_option maxRecDepth 100000 in
theorem in_X2 : ∀ w ∈ u_ws RX2 TX2 8, w ∈ gwl := by
  intro w hw
  obtain ⟨k, hk, rfl⟩ := List.mem_map.mp hw
  have hk := List.mem_range.mp hk
  match k, hk with
  | 0, _ => exact gwl_tb 87 rfl rfl
  | 1, _ => exact gwl_tb 89 rfl rfl
  | 2, _ => exact gwl_tb 91 rfl rfl
  | 3, _ => exact gwl_tb 93 rfl rfl
  | 4, _ => exact gwl_tb 95 rfl rfl
  | 5, _ => exact gwl_tb 97 rfl rfl
  | 6, _ => exact gwl_tb 99 rfl rfl
  | 7, _ => exact gwl_tb 101 rfl rfl
theorem pd_X2_moveAll : (yX2_moveAll).cls ≠ "java/lang/invoke/MethodHandle" ∧ (yX2_moveAll).cls ≠ "java/lang/invoke/VarHandle" ∧ (parseMethodDescriptor (yX2_moveAll).desc).map (fun d => d.parameters.length) = some 2 := ⟨by decide +kernel, by decide +kernel, by decide +kernel⟩
theorem pd_X2_lowestFree : (yX2_lowestFree).cls ≠ "java/lang/invoke/MethodHandle" ∧ (yX2_lowestFree).cls ≠ "java/lang/invoke/VarHandle" ∧ (parseMethodDescriptor (yX2_lowestFree).desc).map (fun d => d.parameters.length) = some 0 := ⟨by decide +kernel, by decide +kernel, by decide +kernel⟩
theorem pd_X2_oldestBut : (yX2_oldestBut).cls ≠ "java/lang/invoke/MethodHandle" ∧ (yX2_oldestBut).cls ≠ "java/lang/invoke/VarHandle" ∧ (parseMethodDescriptor (yX2_oldestBut).desc).map (fun d => d.parameters.length) = some 1 := ⟨by decide +kernel, by decide +kernel, by decide +kernel⟩
