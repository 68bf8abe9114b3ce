theorem k3_0 {E : EE} {f i c : Nat} (h : PC 3 E f i c) : kd f (c) = 3 := PC_kd h 0 (by decide)
theorem l3_0 {E : EE} {f i c : Nat} (h : PC 3 E f i c) : liveC E f i (c) = true := PC_lv h 0 (by decide) (by decide)
theorem s3_0 {E : EE} {f i c : Nat} (h : PC 3 E f i c) : Stab E (.inr (some (f, i, c))) := PC_st h 0 (by decide) (by decide) (by decide)
theorem k3_1 {E : EE} {f i c : Nat} (h : PC 3 E f i c) : kd f (c + 1) = 20 := PC_kd h 1 (by decide)
theorem l3_1 {E : EE} {f i c : Nat} (h : PC 3 E f i c) : liveC E f i (c + 1) = true := PC_lv h 1 (by decide) (by decide)
theorem s3_1 {E : EE} {f i c : Nat} (h : PC 3 E f i c) : Stab E (.inr (some (f, i, c + 1))) := PC_st h 1 (by decide) (by decide) (by decide)
theorem n3_1 {E : EE} {f i c : Nat} (h : PC 3 E f i c) : sl f (c + 1) = 40 := PC_sl h 1 (by decide)
theorem k3_2 {E : EE} {f i c : Nat} (h : PC 3 E f i c) : kd f (c + 2) = 20 := PC_kd h 2 (by decide)
theorem l3_2 {E : EE} {f i c : Nat} (h : PC 3 E f i c) : liveC E f i (c + 2) = true := PC_lv h 2 (by decide) (by decide)
theorem s3_2 {E : EE} {f i c : Nat} (h : PC 3 E f i c) : Stab E (.inr (some (f, i, c + 2))) := PC_st h 2 (by decide) (by decide) (by decide)
theorem n3_2 {E : EE} {f i c : Nat} (h : PC 3 E f i c) : sl f (c + 2) = 16 := PC_sl h 2 (by decide)
theorem k3_3 {E : EE} {f i c : Nat} (h : PC 3 E f i c) : kd f (c + 3) = 20 := PC_kd h 3 (by decide)
theorem l3_3 {E : EE} {f i c : Nat} (h : PC 3 E f i c) : liveC E f i (c + 3) = true := PC_lv h 3 (by decide) (by decide)
theorem s3_3 {E : EE} {f i c : Nat} (h : PC 3 E f i c) : Stab E (.inr (some (f, i, c + 3))) := PC_st h 3 (by decide) (by decide) (by decide)
theorem n3_3 {E : EE} {f i c : Nat} (h : PC 3 E f i c) : sl f (c + 3) = 16 := PC_sl h 3 (by decide)
set_option maxRecDepth 100000 in
theorem mw0 : Cond.fieldLink RX2 15 "GuestHall$Host" "pagesIn" "[I" ∈ gwl := gwl_tb 76 rfl rfl
set_option maxRecDepth 100000 in
theorem mw1 : Cond.fieldLink RX2 9 "GuestHall$Host" "frameOfKey" "[I" ∈ gwl := gwl_tb 74 rfl rfl
set_option maxRecDepth 100000 in
theorem mw2 : Cond.fieldLink RX2 18 "GuestHall$Host" "usedAt" "[I" ∈ gwl := gwl_tb 78 rfl rfl
set_option maxRecDepth 100000 in
theorem mw3 : Cond.methodLink RX2 46 Lib.Math.max.name ∈ gwl := gwl_tb 871 rfl rfl
set_option maxRecDepth 100000 in
theorem mw4 : Cond.static Lib.Math.max.name ∈ gwl := gwl_tb 526 rfl rfl
set_option maxRecDepth 100000 in
theorem mw5 : Cond.initialized "java/lang/Math" ∈ gwl := gwl_tb 21 rfl rfl
set_option maxRecDepth 100000 in
theorem mw6 : Cond.code Lib.Math.max.name Lib.Math.max.code 2 (some .int) ∈ gwl := gwl_tb 527 rfl rfl
set_option maxRecDepth 100000 in
theorem mw7 : Cond.methodLink RX2 39 yX2_moveAll ∈ gwl := gwl_tb 756 rfl rfl
set_option maxRecDepth 100000 in
theorem mw8 : Cond.instanceMethod yX2_moveAll ∈ gwl := gwl_tb 758 rfl rfl
set_option maxRecDepth 100000 in
theorem mw9 : Cond.selects RX2 yX2_moveAll yX2_moveAll ∈ gwl := gwl_sl 15 rfl rfl
set_option maxRecDepth 100000 in
theorem mw10 : Cond.initialized RX2 ∈ gwl := gwl_tb 5 rfl rfl
set_option maxRecDepth 100000 in
theorem mw11 : Cond.code yX2_moveAll cX2_moveAll 4 none ∈ gwl := gwl_tb 759 rfl rfl
set_option maxRecDepth 100000 in
theorem mw12 : Cond.methodLink RX2 31 yX2_lowestFree ∈ gwl := gwl_tb 748 rfl rfl
set_option maxRecDepth 100000 in
theorem mw13 : Cond.instanceMethod yX2_lowestFree ∈ gwl := gwl_tb 750 rfl rfl
set_option maxRecDepth 100000 in
theorem mw14 : Cond.selects RX2 yX2_lowestFree yX2_lowestFree ∈ gwl := gwl_sl 13 rfl rfl
set_option maxRecDepth 100000 in
theorem mw15 : Cond.code yX2_lowestFree cX2_lowestFree 2 (some .int) ∈ gwl := gwl_tb 751 rfl rfl
set_option maxRecDepth 100000 in
theorem mw16 : Cond.fieldLink RX2 43 "GuestHall$Host" "tick" "I" ∈ gwl := gwl_tb 81 rfl rfl
set_option maxRecDepth 100000 in
theorem mw17 : Cond.methodLink RX2 35 yX2_oldestBut ∈ gwl := gwl_tb 752 rfl rfl
set_option maxRecDepth 100000 in
theorem mw18 : Cond.instanceMethod yX2_oldestBut ∈ gwl := gwl_tb 754 rfl rfl
set_option maxRecDepth 100000 in
theorem mw19 : Cond.selects RX2 yX2_oldestBut yX2_oldestBut ∈ gwl := gwl_sl 14 rfl rfl
set_option maxRecDepth 100000 in
theorem mw20 : Cond.code yX2_oldestBut cX2_oldestBut 4 (some .int) ∈ gwl := gwl_tb 755 rfl rfl
set_option maxRecDepth 100000 in
theorem in_X2 : ∀ w ∈ u_ws RX2 TX2 8, w ∈ gwl := by
  intro w hw
  obtain ⟨k, hk, rfl⟩ := List.mem_map.mp hw
  replace hk := List.mem_range.mp hk
  clear hw
  revert k
  exact (tb_s (tb_s (tb_s (tb_s (tb_s (tb_s (tb_s (tb_s tb_0 (gwl_tb 86 rfl rfl)) (gwl_tb 88 rfl rfl)) (gwl_tb 90 rfl rfl)) (gwl_tb 92 rfl rfl)) (gwl_tb 94 rfl rfl)) (gwl_tb 96 rfl rfl)) (gwl_tb 98 rfl rfl)) (gwl_tb 100 rfl rfl))
theorem pd_X2_moveAll : (yX2_moveAll).cls ≠ "java/lang/invoke/MethodHandle" ∧ (yX2_moveAll).cls ≠ "java/lang/invoke/VarHandle" ∧ (parseMethodDescriptor (yX2_moveAll).desc).map (fun d => d.parameters.length) = some 2 := ⟨by decide +kernel, by decide +kernel, by decide +kernel⟩
theorem pd_X2_lowestFree : (yX2_lowestFree).cls ≠ "java/lang/invoke/MethodHandle" ∧ (yX2_lowestFree).cls ≠ "java/lang/invoke/VarHandle" ∧ (parseMethodDescriptor (yX2_lowestFree).desc).map (fun d => d.parameters.length) = some 0 := ⟨by decide +kernel, by decide +kernel, by decide +kernel⟩
theorem pd_X2_oldestBut : (yX2_oldestBut).cls ≠ "java/lang/invoke/MethodHandle" ∧ (yX2_oldestBut).cls ≠ "java/lang/invoke/VarHandle" ∧ (parseMethodDescriptor (yX2_oldestBut).desc).map (fun d => d.parameters.length) = some 1 := ⟨by decide +kernel, by decide +kernel, by decide +kernel⟩
def f_X2_countUsed_b22 (E : EE) (a0 : Nat) (k4 : K → Int32 → Int32 → Option (K × Int32)) (κ : K) (x1 : Int32) (x2 : Int32) : Option (K × Int32) := nm (x2 + 1) fun y4 => k4 κ x1 y4
def f_X2_countUsed_b4 (E : EE) (a0 : Nat) : Nat → K → Int32 → Int32 → Option (K × Int32)
  | 0, _, _, _ => none
  | n + 1, κ, x1, x2 => if 16 ≤ x2 then some (κ, x1) else gd (¬ (x2 < 0 ∨ 16 ≤ x2.toNatClampNeg)) (if (kV κ 2 a0 2) x2.toNatClampNeg ≤ 0 then f_X2_countUsed_b22 E a0 (f_X2_countUsed_b4 E a0 n) κ x1 x2 else nm (x1 + 1) fun y5 => f_X2_countUsed_b22 E a0 (f_X2_countUsed_b4 E a0 n) κ y5 x2)
def f_X2_countUsed (E : EE) (κ : K) (a0 : Nat) : Option (K × Int32) := f_X2_countUsed_b4 E a0 FU κ 0 0
set_option maxHeartbeats 4000000 in
set_option maxRecDepth 100000 in
theorem w_X2_countUsed_b22 {l0 : Launch} (hfl : l0.stackTraces = false) {X : MX} {B : BX (EE × K)} {g : GP} {E : EE} {κ' : K} {rr : Int32} {a0 : Nat} (O : CK l0 X B g cX2_countUsed RX2 1 0) (hKP : KPok B E) (hmL : B.2.2.2.1 = 3) (hE : ∀ (pc : Nat) (lv : List (Nat × AV)), decode cX2_countUsed pc = .ok (.ireturn, 1) → J X B (E, κ') pc lv [.inl (.int rr)]) (h0 : PC 3 E 2 a0 0) {k4 : K → Int32 → Int32 → Option (K × Int32)} (hk4 : ∀ (κ : K) (x1 : Int32) (x2 : Int32), k4 κ x1 x2 = some (κ', rr) → J X B (E, κ) 4 [(0, .inr (some (2, a0, 0))), (1, .inl (.int x1)), (2, .inl (.int x2))] []) : ∀ (κ : K) (x1 : Int32) (x2 : Int32), f_X2_countUsed_b22 E a0 k4 κ x1 x2 = some (κ', rr) → J X B (E, κ) 22 [(0, .inr (some (2, a0, 0))), (1, .inl (.int x1)), (2, .inl (.int x2))] [] := by
  intro κ x1 x2 h
  unfold f_X2_countUsed_b22 at h
  refine J_iinc O.mo (v := x2 + 1) (lv' := [(0, .inr (some (2, a0, 0))), (1, .inl (.int x1))]) dX2_countUsed_22 (by rw [hmL]; decide) 2 rfl (by rw [show Int32.ofInt (1) = (1 : Int32) from by decide]) rfl rfl ?_
  refine nm_some (P := fun z => J X B (E, κ) 25 [(2, .inl (.int z)), (0, .inr (some (2, a0, 0))), (1, .inl (.int x1))] []) h (fun y4 h => ?_)
  refine J_goto O.mo (tgt := 4) dX2_countUsed_25 (by decide) ?_
  refine J_sub [1, 2, 0] rfl ?_
  exact hk4 _ _ _ h
set_option maxHeartbeats 4000000 in
set_option maxRecDepth 100000 in
theorem w_X2_countUsed_b4 {l0 : Launch} (hfl : l0.stackTraces = false) {X : MX} {B : BX (EE × K)} {g : GP} {E : EE} {κ' : K} {rr : Int32} {a0 : Nat} (O : CK l0 X B g cX2_countUsed RX2 1 0) (hKP : KPok B E) (hmL : B.2.2.2.1 = 3) (hE : ∀ (pc : Nat) (lv : List (Nat × AV)), decode cX2_countUsed pc = .ok (.ireturn, 1) → J X B (E, κ') pc lv [.inl (.int rr)]) (h0 : PC 3 E 2 a0 0) : ∀ (n : Nat) (κ : K) (x1 : Int32) (x2 : Int32), f_X2_countUsed_b4 E a0 n κ x1 x2 = some (κ', rr) → J X B (E, κ) 4 [(0, .inr (some (2, a0, 0))), (1, .inl (.int x1)), (2, .inl (.int x2))] [] := by
  intro n
  induction n with
  | zero => intro κ x1 x2 h; cases h
  | succ n ih =>
    intro κ x1 x2 h
    rw [f_X2_countUsed_b4] at h
    refine J_iload_n O.mo dX2_countUsed_4 2 rfl ?_
    refine J_bipush O.mo (v := 16) dX2_countUsed_5 (by decide) ?_
    refine J_icmp_ge O.mo (tgt := 28) dX2_countUsed_7 (by decide) (fun hc1 => ?_) (fun hc1 => ?_)
    · replace h := (if_pos hc1).symm.trans h
      refine J_iload_n O.mo dX2_countUsed_28 1 rfl ?_
      cases h
      exact hE _ _ dX2_countUsed_29
    · replace h := (if_neg hc1).symm.trans h
      refine J_aload_n O.mo dX2_countUsed_10 0 rfl ?_
      refine J_getF O.co (kd0 := 3) (k3_0 h0) (l3_0 h0) (C := RX2) (T := TX2) (N := 8) rfl (by decide) rfl in_X2 2 (by decide) (v := .inr (some (2, a0, 2))) rfl mw0 rfl dX2_countUsed_11 ?_
      refine J_iload_n O.mo dX2_countUsed_14 2 rfl ?_
      obtain ⟨hg2, h⟩ := gd_some h
      refine J_iald O.co (g := (kV κ 2 a0 2)) (ct_20n (l3_2 h0) (k3_2 h0) (n3_2 h0)) hg2 dX2_countUsed_15 ?_
      refine J_if_le O.mo (tgt := 22) dX2_countUsed_16 (by decide) (fun hc3 => ?_) (fun hc3 => ?_)
      · replace h := (if_pos hc3).symm.trans h
        exact w_X2_countUsed_b22 hfl O hKP hmL hE h0 ih _ _ _ h
      · replace h := (if_neg hc3).symm.trans h
        refine J_iinc O.mo (v := x1 + 1) (lv' := [(0, .inr (some (2, a0, 0))), (2, .inl (.int x2))]) dX2_countUsed_19 (by rw [hmL]; decide) 1 rfl (by rw [show Int32.ofInt (1) = (1 : Int32) from by decide]) rfl rfl ?_
        refine nm_some (P := fun z => J X B (E, κ) 22 [(1, .inl (.int z)), (0, .inr (some (2, a0, 0))), (2, .inl (.int x2))] []) h (fun y5 h => ?_)
        refine J_sub [1, 0, 2] rfl ?_
        exact w_X2_countUsed_b22 hfl O hKP hmL hE h0 ih _ _ _ h
set_option maxHeartbeats 4000000 in
set_option maxRecDepth 100000 in
theorem w_X2_countUsed {l0 : Launch} (hfl : l0.stackTraces = false) {X : MX} {B : BX (EE × K)} {g : GP} {E : EE} {κ' : K} {rr : Int32} {a0 : Nat} (O : CK l0 X B g cX2_countUsed RX2 1 0) (hKP : KPok B E) (hmL : B.2.2.2.1 = 3) (hE : ∀ (pc : Nat) (lv : List (Nat × AV)), decode cX2_countUsed pc = .ok (.ireturn, 1) → J X B (E, κ') pc lv [.inl (.int rr)]) (h0 : PC 3 E 2 a0 0) : ∀ (κ : K), f_X2_countUsed E κ a0 = some (κ', rr) → J X B (E, κ) 0 [(0, .inr (some (2, a0, 0)))] [] := by
  intro κ h
  unfold f_X2_countUsed at h
  refine J_iconst O.mo (v := 0) dX2_countUsed_0 (by decide) ?_
  refine J_istore_n O.mo (lv' := [(0, .inr (some (2, a0, 0)))]) dX2_countUsed_1 (by rw [hmL]; decide) rfl rfl ?_
  refine J_iconst O.mo (v := 0) dX2_countUsed_2 (by decide) ?_
  refine J_istore_n O.mo (lv' := [(1, .inl (.int 0)), (0, .inr (some (2, a0, 0)))]) dX2_countUsed_3 (by rw [hmL]; decide) rfl rfl ?_
  refine J_sub [2, 1, 0] rfl ?_
  exact w_X2_countUsed_b4 hfl O hKP hmL hE h0 FU _ _ _ h
theorem c_X2_countUsed {l : Launch} (hfl : l.stackTraces = false) {E : EE} {κ κ' : K} {a0 : Nat} (h0 : PC 3 E 2 a0 0) {rr : Int32} (h : f_X2_countUsed E κ a0 = some (κ', rr)) : Con l yX2_countUsed cX2_countUsed 3 (some .int) 1 0 [.inr (some (2, a0, 0))] (E, κ) (E, κ') (some (.inl (.int rr))) := by
  exact Con_of hfl (by decide +kernel) (Nat.le_of_ble_eq_true rfl) rfl ⟨_, rfl, rfl⟩ (fun X B g O hKP hmL hE => w_X2_countUsed hfl O hKP hmL hE h0 _ h)
def f_X2_keyIn_b2 (E : EE) (a0 : Nat) : Nat → K → Int32 → Int32 → Option (K × Int32)
  | 0, _, _, _ => none
  | n + 1, κ, x1, x2 => if nI 40 ≤ x2 then some (κ, (-1)) else gd (¬ (x2 < 0 ∨ 40 ≤ x2.toNatClampNeg)) (if (kV κ 2 a0 1) x2.toNatClampNeg = x1 then some (κ, x2) else nm (x2 + 1) fun y4 => f_X2_keyIn_b2 E a0 n κ x1 y4)
def f_X2_keyIn (E : EE) (κ : K) (a0 : Nat) (a1 : Int32) : Option (K × Int32) := f_X2_keyIn_b2 E a0 FU κ a1 0
set_option maxHeartbeats 4000000 in
set_option maxRecDepth 100000 in
theorem w_X2_keyIn_b2 {l0 : Launch} (hfl : l0.stackTraces = false) {X : MX} {B : BX (EE × K)} {g : GP} {E : EE} {κ' : K} {rr : Int32} {a0 : Nat} (O : CK l0 X B g cX2_keyIn RX2 1 0) (hKP : KPok B E) (hmL : B.2.2.2.1 = 3) (hE : ∀ (pc : Nat) (lv : List (Nat × AV)), decode cX2_keyIn pc = .ok (.ireturn, 1) → J X B (E, κ') pc lv [.inl (.int rr)]) (h0 : PC 3 E 2 a0 0) : ∀ (n : Nat) (κ : K) (x1 : Int32) (x2 : Int32), f_X2_keyIn_b2 E a0 n κ x1 x2 = some (κ', rr) → J X B (E, κ) 2 [(0, .inr (some (2, a0, 0))), (1, .inl (.int x1)), (2, .inl (.int x2))] [] := by
  intro n
  induction n with
  | zero => intro κ x1 x2 h; cases h
  | succ n ih =>
    intro κ x1 x2 h
    rw [f_X2_keyIn_b2] at h
    refine J_iload_n O.mo dX2_keyIn_2 2 rfl ?_
    refine J_aload_n O.mo dX2_keyIn_3 0 rfl ?_
    refine J_getF O.co (kd0 := 3) (k3_0 h0) (l3_0 h0) (C := RX2) (T := TX2) (N := 8) rfl (by decide) rfl in_X2 1 (by decide) (v := .inr (some (2, a0, 1))) rfl mw1 rfl dX2_keyIn_4 ?_
    refine J_alen O.co (g := (kV κ 2 a0 1)) (ct_20n (l3_1 h0) (k3_1 h0) (n3_1 h0)) dX2_keyIn_7 ?_
    refine J_icmp_ge O.mo (tgt := 29) dX2_keyIn_8 (by decide) (fun hc1 => ?_) (fun hc1 => ?_)
    · replace h := (if_pos hc1).symm.trans h
      refine J_iconst O.mo (v := (-1)) dX2_keyIn_29 (by decide) ?_
      cases h
      exact hE _ _ dX2_keyIn_30
    · replace h := (if_neg hc1).symm.trans h
      refine J_aload_n O.mo dX2_keyIn_11 0 rfl ?_
      refine J_getF O.co (kd0 := 3) (k3_0 h0) (l3_0 h0) (C := RX2) (T := TX2) (N := 8) rfl (by decide) rfl in_X2 1 (by decide) (v := .inr (some (2, a0, 1))) rfl mw1 rfl dX2_keyIn_12 ?_
      refine J_iload_n O.mo dX2_keyIn_15 2 rfl ?_
      obtain ⟨hg2, h⟩ := gd_some h
      refine J_iald O.co (g := (kV κ 2 a0 1)) (ct_20n (l3_1 h0) (k3_1 h0) (n3_1 h0)) hg2 dX2_keyIn_16 ?_
      refine J_iload_n O.mo dX2_keyIn_17 1 rfl ?_
      refine J_icmp_ne O.mo (tgt := 23) dX2_keyIn_18 (by decide) (fun hc3 => ?_) (fun hc3 => ?_)
      · replace h := (if_neg hc3).symm.trans h
        refine J_iinc O.mo (v := x2 + 1) (lv' := [(0, .inr (some (2, a0, 0))), (1, .inl (.int x1))]) dX2_keyIn_23 (by rw [hmL]; decide) 2 rfl (by rw [show Int32.ofInt (1) = (1 : Int32) from by decide]) rfl rfl ?_
        refine nm_some (P := fun z => J X B (E, κ) 26 [(2, .inl (.int z)), (0, .inr (some (2, a0, 0))), (1, .inl (.int x1))] []) h (fun y4 h => ?_)
        refine J_goto O.mo (tgt := 2) dX2_keyIn_26 (by decide) ?_
        refine J_sub [1, 2, 0] rfl ?_
        exact ih _ _ _ h
      · replace h := (if_pos hc3).symm.trans h
        refine J_iload_n O.mo dX2_keyIn_21 2 rfl ?_
        cases h
        exact hE _ _ dX2_keyIn_22
set_option maxHeartbeats 4000000 in
set_option maxRecDepth 100000 in
theorem w_X2_keyIn {l0 : Launch} (hfl : l0.stackTraces = false) {X : MX} {B : BX (EE × K)} {g : GP} {E : EE} {κ' : K} {rr : Int32} {a0 : Nat} (O : CK l0 X B g cX2_keyIn RX2 1 0) (hKP : KPok B E) (hmL : B.2.2.2.1 = 3) (hE : ∀ (pc : Nat) (lv : List (Nat × AV)), decode cX2_keyIn pc = .ok (.ireturn, 1) → J X B (E, κ') pc lv [.inl (.int rr)]) (h0 : PC 3 E 2 a0 0) : ∀ (κ : K) (a1 : Int32), f_X2_keyIn E κ a0 a1 = some (κ', rr) → J X B (E, κ) 0 [(0, .inr (some (2, a0, 0))), (1, .inl (.int a1))] [] := by
  intro κ a1 h
  unfold f_X2_keyIn at h
  refine J_iconst O.mo (v := 0) dX2_keyIn_0 (by decide) ?_
  refine J_istore_n O.mo (lv' := [(0, .inr (some (2, a0, 0))), (1, .inl (.int a1))]) dX2_keyIn_1 (by rw [hmL]; decide) rfl rfl ?_
  refine J_sub [1, 2, 0] rfl ?_
  exact w_X2_keyIn_b2 hfl O hKP hmL hE h0 FU _ _ _ h
theorem c_X2_keyIn {l : Launch} (hfl : l.stackTraces = false) {E : EE} {κ κ' : K} {a0 : Nat} {a1 : Int32} (h0 : PC 3 E 2 a0 0) {rr : Int32} (h : f_X2_keyIn E κ a0 a1 = some (κ', rr)) : Con l yX2_keyIn cX2_keyIn 3 (some .int) 1 0 [.inr (some (2, a0, 0)), .inl (.int a1)] (E, κ) (E, κ') (some (.inl (.int rr))) := by
  exact Con_of hfl (by decide +kernel) (Nat.le_of_ble_eq_true rfl) rfl ⟨_, rfl, rfl⟩ (fun X B g O hKP hmL hE => w_X2_keyIn hfl O hKP hmL hE h0 _ _ h)
def f_X2_lowestFree_b2 (E : EE) (a0 : Nat) : Nat → K → Int32 → Option (K × Int32)
  | 0, _, _ => none
  | n + 1, κ, x1 => if 16 ≤ x1 then some (κ, (-1)) else gd (¬ (x1 < 0 ∨ 16 ≤ x1.toNatClampNeg)) (if (kV κ 2 a0 2) x1.toNatClampNeg = 0 then some (κ, x1) else nm (x1 + 1) fun y4 => f_X2_lowestFree_b2 E a0 n κ y4)
def f_X2_lowestFree (E : EE) (κ : K) (a0 : Nat) : Option (K × Int32) := f_X2_lowestFree_b2 E a0 FU κ 0
set_option maxHeartbeats 4000000 in
set_option maxRecDepth 100000 in
theorem w_X2_lowestFree_b2 {l0 : Launch} (hfl : l0.stackTraces = false) {X : MX} {B : BX (EE × K)} {g : GP} {E : EE} {κ' : K} {rr : Int32} {a0 : Nat} (O : CK l0 X B g cX2_lowestFree RX2 1 0) (hKP : KPok B E) (hmL : B.2.2.2.1 = 2) (hE : ∀ (pc : Nat) (lv : List (Nat × AV)), decode cX2_lowestFree pc = .ok (.ireturn, 1) → J X B (E, κ') pc lv [.inl (.int rr)]) (h0 : PC 3 E 2 a0 0) : ∀ (n : Nat) (κ : K) (x1 : Int32), f_X2_lowestFree_b2 E a0 n κ x1 = some (κ', rr) → J X B (E, κ) 2 [(0, .inr (some (2, a0, 0))), (1, .inl (.int x1))] [] := by
  intro n
  induction n with
  | zero => intro κ x1 h; cases h
  | succ n ih =>
    intro κ x1 h
    rw [f_X2_lowestFree_b2] at h
    refine J_iload_n O.mo dX2_lowestFree_2 1 rfl ?_
    refine J_bipush O.mo (v := 16) dX2_lowestFree_3 (by decide) ?_
    refine J_icmp_ge O.mo (tgt := 25) dX2_lowestFree_5 (by decide) (fun hc1 => ?_) (fun hc1 => ?_)
    · replace h := (if_pos hc1).symm.trans h
      refine J_iconst O.mo (v := (-1)) dX2_lowestFree_25 (by decide) ?_
      cases h
      exact hE _ _ dX2_lowestFree_26
    · replace h := (if_neg hc1).symm.trans h
      refine J_aload_n O.mo dX2_lowestFree_8 0 rfl ?_
      refine J_getF O.co (kd0 := 3) (k3_0 h0) (l3_0 h0) (C := RX2) (T := TX2) (N := 8) rfl (by decide) rfl in_X2 2 (by decide) (v := .inr (some (2, a0, 2))) rfl mw0 rfl dX2_lowestFree_9 ?_
      refine J_iload_n O.mo dX2_lowestFree_12 1 rfl ?_
      obtain ⟨hg2, h⟩ := gd_some h
      refine J_iald O.co (g := (kV κ 2 a0 2)) (ct_20n (l3_2 h0) (k3_2 h0) (n3_2 h0)) hg2 dX2_lowestFree_13 ?_
      refine J_if_ne O.mo (tgt := 19) dX2_lowestFree_14 (by decide) (fun hc3 => ?_) (fun hc3 => ?_)
      · replace h := (if_neg hc3).symm.trans h
        refine J_iinc O.mo (v := x1 + 1) (lv' := [(0, .inr (some (2, a0, 0)))]) dX2_lowestFree_19 (by rw [hmL]; decide) 1 rfl (by rw [show Int32.ofInt (1) = (1 : Int32) from by decide]) rfl rfl ?_
        refine nm_some (P := fun z => J X B (E, κ) 22 [(1, .inl (.int z)), (0, .inr (some (2, a0, 0)))] []) h (fun y4 h => ?_)
        refine J_goto O.mo (tgt := 2) dX2_lowestFree_22 (by decide) ?_
        refine J_sub [1, 0] rfl ?_
        exact ih _ _ h
      · replace h := (if_pos hc3).symm.trans h
        refine J_iload_n O.mo dX2_lowestFree_17 1 rfl ?_
        cases h
        exact hE _ _ dX2_lowestFree_18
set_option maxHeartbeats 4000000 in
set_option maxRecDepth 100000 in
theorem w_X2_lowestFree {l0 : Launch} (hfl : l0.stackTraces = false) {X : MX} {B : BX (EE × K)} {g : GP} {E : EE} {κ' : K} {rr : Int32} {a0 : Nat} (O : CK l0 X B g cX2_lowestFree RX2 1 0) (hKP : KPok B E) (hmL : B.2.2.2.1 = 2) (hE : ∀ (pc : Nat) (lv : List (Nat × AV)), decode cX2_lowestFree pc = .ok (.ireturn, 1) → J X B (E, κ') pc lv [.inl (.int rr)]) (h0 : PC 3 E 2 a0 0) : ∀ (κ : K), f_X2_lowestFree E κ a0 = some (κ', rr) → J X B (E, κ) 0 [(0, .inr (some (2, a0, 0)))] [] := by
  intro κ h
  unfold f_X2_lowestFree at h
  refine J_iconst O.mo (v := 0) dX2_lowestFree_0 (by decide) ?_
  refine J_istore_n O.mo (lv' := [(0, .inr (some (2, a0, 0)))]) dX2_lowestFree_1 (by rw [hmL]; decide) rfl rfl ?_
  refine J_sub [1, 0] rfl ?_
  exact w_X2_lowestFree_b2 hfl O hKP hmL hE h0 FU _ _ h
theorem c_X2_lowestFree {l : Launch} (hfl : l.stackTraces = false) {E : EE} {κ κ' : K} {a0 : Nat} (h0 : PC 3 E 2 a0 0) {rr : Int32} (h : f_X2_lowestFree E κ a0 = some (κ', rr)) : Con l yX2_lowestFree cX2_lowestFree 2 (some .int) 1 0 [.inr (some (2, a0, 0))] (E, κ) (E, κ') (some (.inl (.int rr))) := by
  exact Con_of hfl (by decide +kernel) (Nat.le_of_ble_eq_true rfl) rfl ⟨_, rfl, rfl⟩ (fun X B g O hKP hmL hE => w_X2_lowestFree hfl O hKP hmL hE h0 _ h)
def f_X2_oldestBut_b40 (E : EE) (a0 : Nat) (k12 : K → Int32 → Int32 → Int32 → Option (K × Int32)) (κ : K) (x1 : Int32) (x2 : Int32) (x3 : Int32) : Option (K × Int32) := nm (x3 + 1) fun y4 => k12 κ x1 x2 y4
def f_X2_oldestBut_b12 (E : EE) (a0 : Nat) : Nat → K → Int32 → Int32 → Int32 → Option (K × Int32)
  | 0, _, _, _, _ => none
  | n + 1, κ, x1, x2, x3 => if 16 ≤ x3 then some (κ, x2) else if x3 = x1 then f_X2_oldestBut_b40 E a0 (f_X2_oldestBut_b12 E a0 n) κ x1 x2 x3 else gd (¬ (x3 < 0 ∨ 16 ≤ x3.toNatClampNeg)) (gd (¬ (x2 < 0 ∨ 16 ≤ x2.toNatClampNeg)) (if (kV κ 2 a0 3) x2.toNatClampNeg ≤ (kV κ 2 a0 3) x3.toNatClampNeg then f_X2_oldestBut_b40 E a0 (f_X2_oldestBut_b12 E a0 n) κ x1 x2 x3 else f_X2_oldestBut_b40 E a0 (f_X2_oldestBut_b12 E a0 n) κ x1 x3 x3))
def f_X2_oldestBut_b9 (E : EE) (a0 : Nat) (κ : K) (x1 : Int32) (xs0 : Int32) : Option (K × Int32) := f_X2_oldestBut_b12 E a0 FU κ x1 xs0 0
def f_X2_oldestBut (E : EE) (κ : K) (a0 : Nat) (a1 : Int32) : Option (K × Int32) := if a1 = 0 then f_X2_oldestBut_b9 E a0 κ a1 1 else f_X2_oldestBut_b9 E a0 κ a1 0
set_option maxHeartbeats 4000000 in
set_option maxRecDepth 100000 in
theorem w_X2_oldestBut_b40 {l0 : Launch} (hfl : l0.stackTraces = false) {X : MX} {B : BX (EE × K)} {g : GP} {E : EE} {κ' : K} {rr : Int32} {a0 : Nat} (O : CK l0 X B g cX2_oldestBut RX2 1 0) (hKP : KPok B E) (hmL : B.2.2.2.1 = 4) (hE : ∀ (pc : Nat) (lv : List (Nat × AV)), decode cX2_oldestBut pc = .ok (.ireturn, 1) → J X B (E, κ') pc lv [.inl (.int rr)]) (h0 : PC 3 E 2 a0 0) {k12 : K → Int32 → Int32 → Int32 → Option (K × Int32)} (hk12 : ∀ (κ : K) (x1 : Int32) (x2 : Int32) (x3 : Int32), k12 κ x1 x2 x3 = some (κ', rr) → J X B (E, κ) 12 [(0, .inr (some (2, a0, 0))), (1, .inl (.int x1)), (2, .inl (.int x2)), (3, .inl (.int x3))] []) : ∀ (κ : K) (x1 : Int32) (x2 : Int32) (x3 : Int32), f_X2_oldestBut_b40 E a0 k12 κ x1 x2 x3 = some (κ', rr) → J X B (E, κ) 40 [(0, .inr (some (2, a0, 0))), (1, .inl (.int x1)), (2, .inl (.int x2)), (3, .inl (.int x3))] [] := by
  intro κ x1 x2 x3 h
  unfold f_X2_oldestBut_b40 at h
  refine J_iinc O.mo (v := x3 + 1) (lv' := [(0, .inr (some (2, a0, 0))), (1, .inl (.int x1)), (2, .inl (.int x2))]) dX2_oldestBut_40 (by rw [hmL]; decide) 3 rfl (by rw [show Int32.ofInt (1) = (1 : Int32) from by decide]) rfl rfl ?_
  refine nm_some (P := fun z => J X B (E, κ) 43 [(3, .inl (.int z)), (0, .inr (some (2, a0, 0))), (1, .inl (.int x1)), (2, .inl (.int x2))] []) h (fun y4 h => ?_)
  refine J_goto O.mo (tgt := 12) dX2_oldestBut_43 (by decide) ?_
  refine J_sub [1, 2, 3, 0] rfl ?_
  exact hk12 _ _ _ _ h
set_option maxHeartbeats 4000000 in
set_option maxRecDepth 100000 in
theorem w_X2_oldestBut_b12 {l0 : Launch} (hfl : l0.stackTraces = false) {X : MX} {B : BX (EE × K)} {g : GP} {E : EE} {κ' : K} {rr : Int32} {a0 : Nat} (O : CK l0 X B g cX2_oldestBut RX2 1 0) (hKP : KPok B E) (hmL : B.2.2.2.1 = 4) (hE : ∀ (pc : Nat) (lv : List (Nat × AV)), decode cX2_oldestBut pc = .ok (.ireturn, 1) → J X B (E, κ') pc lv [.inl (.int rr)]) (h0 : PC 3 E 2 a0 0) : ∀ (n : Nat) (κ : K) (x1 : Int32) (x2 : Int32) (x3 : Int32), f_X2_oldestBut_b12 E a0 n κ x1 x2 x3 = some (κ', rr) → J X B (E, κ) 12 [(0, .inr (some (2, a0, 0))), (1, .inl (.int x1)), (2, .inl (.int x2)), (3, .inl (.int x3))] [] := by
  intro n
  induction n with
  | zero => intro κ x1 x2 x3 h; cases h
  | succ n ih =>
    intro κ x1 x2 x3 h
    rw [f_X2_oldestBut_b12] at h
    refine J_iload_n O.mo dX2_oldestBut_12 3 rfl ?_
    refine J_bipush O.mo (v := 16) dX2_oldestBut_13 (by decide) ?_
    refine J_icmp_ge O.mo (tgt := 46) dX2_oldestBut_15 (by decide) (fun hc2 => ?_) (fun hc2 => ?_)
    · replace h := (if_pos hc2).symm.trans h
      refine J_iload_n O.mo dX2_oldestBut_46 2 rfl ?_
      cases h
      exact hE _ _ dX2_oldestBut_47
    · replace h := (if_neg hc2).symm.trans h
      refine J_iload_n O.mo dX2_oldestBut_18 3 rfl ?_
      refine J_iload_n O.mo dX2_oldestBut_19 1 rfl ?_
      refine J_icmp_eq O.mo (tgt := 40) dX2_oldestBut_20 (by decide) (fun hc3 => ?_) (fun hc3 => ?_)
      · replace h := (if_pos hc3).symm.trans h
        exact w_X2_oldestBut_b40 hfl O hKP hmL hE h0 ih _ _ _ _ h
      · replace h := (if_neg hc3).symm.trans h
        refine J_aload_n O.mo dX2_oldestBut_23 0 rfl ?_
        refine J_getF O.co (kd0 := 3) (k3_0 h0) (l3_0 h0) (C := RX2) (T := TX2) (N := 8) rfl (by decide) rfl in_X2 3 (by decide) (v := .inr (some (2, a0, 3))) rfl mw2 rfl dX2_oldestBut_24 ?_
        refine J_iload_n O.mo dX2_oldestBut_27 3 rfl ?_
        obtain ⟨hg5, h⟩ := gd_some h
        refine J_iald O.co (g := (kV κ 2 a0 3)) (ct_20n (l3_3 h0) (k3_3 h0) (n3_3 h0)) hg5 dX2_oldestBut_28 ?_
        refine J_aload_n O.mo dX2_oldestBut_29 0 rfl ?_
        refine J_getF O.co (kd0 := 3) (k3_0 h0) (l3_0 h0) (C := RX2) (T := TX2) (N := 8) rfl (by decide) rfl in_X2 3 (by decide) (v := .inr (some (2, a0, 3))) rfl mw2 rfl dX2_oldestBut_30 ?_
        refine J_iload_n O.mo dX2_oldestBut_33 2 rfl ?_
        obtain ⟨hg6, h⟩ := gd_some h
        refine J_iald O.co (g := (kV κ 2 a0 3)) (ct_20n (l3_3 h0) (k3_3 h0) (n3_3 h0)) hg6 dX2_oldestBut_34 ?_
        refine J_icmp_ge O.mo (tgt := 40) dX2_oldestBut_35 (by decide) (fun hc7 => ?_) (fun hc7 => ?_)
        · replace h := (if_pos hc7).symm.trans h
          exact w_X2_oldestBut_b40 hfl O hKP hmL hE h0 ih _ _ _ _ h
        · replace h := (if_neg hc7).symm.trans h
          refine J_iload_n O.mo dX2_oldestBut_38 3 rfl ?_
          refine J_istore_n O.mo (lv' := [(0, .inr (some (2, a0, 0))), (1, .inl (.int x1)), (3, .inl (.int x3))]) dX2_oldestBut_39 (by rw [hmL]; decide) rfl rfl ?_
          refine J_sub [1, 2, 0, 3] rfl ?_
          exact w_X2_oldestBut_b40 hfl O hKP hmL hE h0 ih _ _ _ _ h
set_option maxHeartbeats 4000000 in
set_option maxRecDepth 100000 in
theorem w_X2_oldestBut_b9 {l0 : Launch} (hfl : l0.stackTraces = false) {X : MX} {B : BX (EE × K)} {g : GP} {E : EE} {κ' : K} {rr : Int32} {a0 : Nat} (O : CK l0 X B g cX2_oldestBut RX2 1 0) (hKP : KPok B E) (hmL : B.2.2.2.1 = 4) (hE : ∀ (pc : Nat) (lv : List (Nat × AV)), decode cX2_oldestBut pc = .ok (.ireturn, 1) → J X B (E, κ') pc lv [.inl (.int rr)]) (h0 : PC 3 E 2 a0 0) : ∀ (κ : K) (x1 : Int32) (xs0 : Int32), f_X2_oldestBut_b9 E a0 κ x1 xs0 = some (κ', rr) → J X B (E, κ) 9 [(0, .inr (some (2, a0, 0))), (1, .inl (.int x1))] [.inl (.int xs0)] := by
  intro κ x1 xs0 h
  unfold f_X2_oldestBut_b9 at h
  refine J_istore_n O.mo (lv' := [(0, .inr (some (2, a0, 0))), (1, .inl (.int x1))]) dX2_oldestBut_9 (by rw [hmL]; decide) rfl rfl ?_
  refine J_iconst O.mo (v := 0) dX2_oldestBut_10 (by decide) ?_
  refine J_istore_n O.mo (lv' := [(2, .inl (.int xs0)), (0, .inr (some (2, a0, 0))), (1, .inl (.int x1))]) dX2_oldestBut_11 (by rw [hmL]; decide) rfl rfl ?_
  refine J_sub [2, 3, 1, 0] rfl ?_
  exact w_X2_oldestBut_b12 hfl O hKP hmL hE h0 FU _ _ _ _ h
set_option maxHeartbeats 4000000 in
set_option maxRecDepth 100000 in
theorem w_X2_oldestBut {l0 : Launch} (hfl : l0.stackTraces = false) {X : MX} {B : BX (EE × K)} {g : GP} {E : EE} {κ' : K} {rr : Int32} {a0 : Nat} (O : CK l0 X B g cX2_oldestBut RX2 1 0) (hKP : KPok B E) (hmL : B.2.2.2.1 = 4) (hE : ∀ (pc : Nat) (lv : List (Nat × AV)), decode cX2_oldestBut pc = .ok (.ireturn, 1) → J X B (E, κ') pc lv [.inl (.int rr)]) (h0 : PC 3 E 2 a0 0) : ∀ (κ : K) (a1 : Int32), f_X2_oldestBut E κ a0 a1 = some (κ', rr) → J X B (E, κ) 0 [(0, .inr (some (2, a0, 0))), (1, .inl (.int a1))] [] := by
  intro κ a1 h
  unfold f_X2_oldestBut at h
  refine J_iload_n O.mo dX2_oldestBut_0 1 rfl ?_
  refine J_if_ne O.mo (tgt := 8) dX2_oldestBut_1 (by decide) (fun hc1 => ?_) (fun hc1 => ?_)
  · replace h := (if_neg hc1).symm.trans h
    refine J_iconst O.mo (v := 0) dX2_oldestBut_8 (by decide) ?_
    exact w_X2_oldestBut_b9 hfl O hKP hmL hE h0 _ _ _ h
  · replace h := (if_pos hc1).symm.trans h
    refine J_iconst O.mo (v := 1) dX2_oldestBut_4 (by decide) ?_
    refine J_goto O.mo (tgt := 9) dX2_oldestBut_5 (by decide) ?_
    exact w_X2_oldestBut_b9 hfl O hKP hmL hE h0 _ _ _ h
theorem c_X2_oldestBut {l : Launch} (hfl : l.stackTraces = false) {E : EE} {κ κ' : K} {a0 : Nat} {a1 : Int32} (h0 : PC 3 E 2 a0 0) {rr : Int32} (h : f_X2_oldestBut E κ a0 a1 = some (κ', rr)) : Con l yX2_oldestBut cX2_oldestBut 4 (some .int) 1 0 [.inr (some (2, a0, 0)), .inl (.int a1)] (E, κ) (E, κ') (some (.inl (.int rr))) := by
  exact Con_of hfl (by decide +kernel) (Nat.le_of_ble_eq_true rfl) rfl ⟨_, rfl, rfl⟩ (fun X B g O hKP hmL hE => w_X2_oldestBut hfl O hKP hmL hE h0 _ _ h)
def f_X2_moveAll_b34 (E : EE) (a0 : Nat) (κ : K) (x1 : Int32) : Option (K × Unit) := gd (¬ (x1 < 0 ∨ 16 ≤ x1.toNatClampNeg)) (nm (setV κ 2 a0 2 x1.toNatClampNeg 0) fun κ3 => some (κ3, ()))
def f_X2_moveAll_b28 (E : EE) (a0 : Nat) (k2 : K → Int32 → Int32 → Int32 → Option (K × Unit)) (κ : K) (x1 : Int32) (x2 : Int32) (x3 : Int32) : Option (K × Unit) := nm (x3 + 1) fun y6 => k2 κ x1 x2 y6
def f_X2_moveAll_b2 (E : EE) (a0 : Nat) : Nat → K → Int32 → Int32 → Int32 → Option (K × Unit)
  | 0, _, _, _, _ => none
  | n + 1, κ, x1, x2, x3 => if nI 40 ≤ x3 then f_X2_moveAll_b34 E a0 κ x1 else gd (¬ (x3 < 0 ∨ 40 ≤ x3.toNatClampNeg)) (if (kV κ 2 a0 1) x3.toNatClampNeg = x1 then gd (¬ (x3 < 0 ∨ 40 ≤ x3.toNatClampNeg)) (nm (setV κ 2 a0 1 x3.toNatClampNeg x2) fun κ8 => f_X2_moveAll_b28 E a0 (f_X2_moveAll_b2 E a0 n) κ8 x1 x2 x3) else f_X2_moveAll_b28 E a0 (f_X2_moveAll_b2 E a0 n) κ x1 x2 x3)
def f_X2_moveAll (E : EE) (κ : K) (a0 : Nat) (a1 : Int32) (a2 : Int32) : Option (K × Unit) := f_X2_moveAll_b2 E a0 FU κ a1 a2 0
set_option maxHeartbeats 4000000 in
set_option maxRecDepth 100000 in
theorem w_X2_moveAll_b34 {l0 : Launch} (hfl : l0.stackTraces = false) {X : MX} {B : BX (EE × K)} {g : GP} {E : EE} {κ' : K} {rr : Unit} {a0 : Nat} (O : CK l0 X B g cX2_moveAll RX2 1 0) (hKP : KPok B E) (hmL : B.2.2.2.1 = 4) (hE : ∀ (pc : Nat) (lv : List (Nat × AV)), decode cX2_moveAll pc = .ok (.return_, 1) → J X B (E, κ') pc lv []) (h0 : PC 3 E 2 a0 0) : ∀ (κ : K) (x1 : Int32), f_X2_moveAll_b34 E a0 κ x1 = some (κ', rr) → J X B (E, κ) 34 [(0, .inr (some (2, a0, 0))), (1, .inl (.int x1))] [] := by
  intro κ x1 h
  unfold f_X2_moveAll_b34 at h
  refine J_aload_n O.mo dX2_moveAll_34 0 rfl ?_
  refine J_getF O.co (kd0 := 3) (k3_0 h0) (l3_0 h0) (C := RX2) (T := TX2) (N := 8) rfl (by decide) rfl in_X2 2 (by decide) (v := .inr (some (2, a0, 2))) rfl mw0 rfl dX2_moveAll_35 ?_
  refine J_iload_n O.mo dX2_moveAll_38 1 rfl ?_
  refine J_iconst O.mo (v := 0) dX2_moveAll_39 (by decide) ?_
  obtain ⟨hg2, h⟩ := gd_some h
  refine row_20 O (l3_2 h0) (k3_2 h0) (n3_2 h0) hg2 (x := 0) dX2_moveAll_40 ?_
  refine nm_some (P := fun z => J X B (E, z) 41 [(0, .inr (some (2, a0, 0))), (1, .inl (.int x1))] []) h (fun κ3 h => ?_)
  cases h
  exact hE _ _ dX2_moveAll_41
set_option maxHeartbeats 4000000 in
set_option maxRecDepth 100000 in
theorem w_X2_moveAll_b28 {l0 : Launch} (hfl : l0.stackTraces = false) {X : MX} {B : BX (EE × K)} {g : GP} {E : EE} {κ' : K} {rr : Unit} {a0 : Nat} (O : CK l0 X B g cX2_moveAll RX2 1 0) (hKP : KPok B E) (hmL : B.2.2.2.1 = 4) (hE : ∀ (pc : Nat) (lv : List (Nat × AV)), decode cX2_moveAll pc = .ok (.return_, 1) → J X B (E, κ') pc lv []) (h0 : PC 3 E 2 a0 0) {k2 : K → Int32 → Int32 → Int32 → Option (K × Unit)} (hk2 : ∀ (κ : K) (x1 : Int32) (x2 : Int32) (x3 : Int32), k2 κ x1 x2 x3 = some (κ', rr) → J X B (E, κ) 2 [(0, .inr (some (2, a0, 0))), (1, .inl (.int x1)), (2, .inl (.int x2)), (3, .inl (.int x3))] []) : ∀ (κ : K) (x1 : Int32) (x2 : Int32) (x3 : Int32), f_X2_moveAll_b28 E a0 k2 κ x1 x2 x3 = some (κ', rr) → J X B (E, κ) 28 [(0, .inr (some (2, a0, 0))), (1, .inl (.int x1)), (2, .inl (.int x2)), (3, .inl (.int x3))] [] := by
  intro κ x1 x2 x3 h
  unfold f_X2_moveAll_b28 at h
  refine J_iinc O.mo (v := x3 + 1) (lv' := [(0, .inr (some (2, a0, 0))), (1, .inl (.int x1)), (2, .inl (.int x2))]) dX2_moveAll_28 (by rw [hmL]; decide) 3 rfl (by rw [show Int32.ofInt (1) = (1 : Int32) from by decide]) rfl rfl ?_
  refine nm_some (P := fun z => J X B (E, κ) 31 [(3, .inl (.int z)), (0, .inr (some (2, a0, 0))), (1, .inl (.int x1)), (2, .inl (.int x2))] []) h (fun y6 h => ?_)
  refine J_goto O.mo (tgt := 2) dX2_moveAll_31 (by decide) ?_
  refine J_sub [1, 2, 3, 0] rfl ?_
  exact hk2 _ _ _ _ h
set_option maxHeartbeats 4000000 in
set_option maxRecDepth 100000 in
theorem w_X2_moveAll_b2 {l0 : Launch} (hfl : l0.stackTraces = false) {X : MX} {B : BX (EE × K)} {g : GP} {E : EE} {κ' : K} {rr : Unit} {a0 : Nat} (O : CK l0 X B g cX2_moveAll RX2 1 0) (hKP : KPok B E) (hmL : B.2.2.2.1 = 4) (hE : ∀ (pc : Nat) (lv : List (Nat × AV)), decode cX2_moveAll pc = .ok (.return_, 1) → J X B (E, κ') pc lv []) (h0 : PC 3 E 2 a0 0) : ∀ (n : Nat) (κ : K) (x1 : Int32) (x2 : Int32) (x3 : Int32), f_X2_moveAll_b2 E a0 n κ x1 x2 x3 = some (κ', rr) → J X B (E, κ) 2 [(0, .inr (some (2, a0, 0))), (1, .inl (.int x1)), (2, .inl (.int x2)), (3, .inl (.int x3))] [] := by
  intro n
  induction n with
  | zero => intro κ x1 x2 x3 h; cases h
  | succ n ih =>
    intro κ x1 x2 x3 h
    rw [f_X2_moveAll_b2] at h
    refine J_iload_n O.mo dX2_moveAll_2 3 rfl ?_
    refine J_aload_n O.mo dX2_moveAll_3 0 rfl ?_
    refine J_getF O.co (kd0 := 3) (k3_0 h0) (l3_0 h0) (C := RX2) (T := TX2) (N := 8) rfl (by decide) rfl in_X2 1 (by decide) (v := .inr (some (2, a0, 1))) rfl mw1 rfl dX2_moveAll_4 ?_
    refine J_alen O.co (g := (kV κ 2 a0 1)) (ct_20n (l3_1 h0) (k3_1 h0) (n3_1 h0)) dX2_moveAll_7 ?_
    refine J_icmp_ge O.mo (tgt := 34) dX2_moveAll_8 (by decide) (fun hc1 => ?_) (fun hc1 => ?_)
    · replace h := (if_pos hc1).symm.trans h
      refine J_sub [0, 1] rfl ?_
      exact w_X2_moveAll_b34 hfl O hKP hmL hE h0 _ _ h
    · replace h := (if_neg hc1).symm.trans h
      refine J_aload_n O.mo dX2_moveAll_11 0 rfl ?_
      refine J_getF O.co (kd0 := 3) (k3_0 h0) (l3_0 h0) (C := RX2) (T := TX2) (N := 8) rfl (by decide) rfl in_X2 1 (by decide) (v := .inr (some (2, a0, 1))) rfl mw1 rfl dX2_moveAll_12 ?_
      refine J_iload_n O.mo dX2_moveAll_15 3 rfl ?_
      obtain ⟨hg4, h⟩ := gd_some h
      refine J_iald O.co (g := (kV κ 2 a0 1)) (ct_20n (l3_1 h0) (k3_1 h0) (n3_1 h0)) hg4 dX2_moveAll_16 ?_
      refine J_iload_n O.mo dX2_moveAll_17 1 rfl ?_
      refine J_icmp_ne O.mo (tgt := 28) dX2_moveAll_18 (by decide) (fun hc5 => ?_) (fun hc5 => ?_)
      · replace h := (if_neg hc5).symm.trans h
        exact w_X2_moveAll_b28 hfl O hKP hmL hE h0 ih _ _ _ _ h
      · replace h := (if_pos hc5).symm.trans h
        refine J_aload_n O.mo dX2_moveAll_21 0 rfl ?_
        refine J_getF O.co (kd0 := 3) (k3_0 h0) (l3_0 h0) (C := RX2) (T := TX2) (N := 8) rfl (by decide) rfl in_X2 1 (by decide) (v := .inr (some (2, a0, 1))) rfl mw1 rfl dX2_moveAll_22 ?_
        refine J_iload_n O.mo dX2_moveAll_25 3 rfl ?_
        refine J_iload_n O.mo dX2_moveAll_26 2 rfl ?_
        obtain ⟨hg7, h⟩ := gd_some h
        refine row_20 O (l3_1 h0) (k3_1 h0) (n3_1 h0) hg7 (x := x2) dX2_moveAll_27 ?_
        refine nm_some (P := fun z => J X B (E, z) 28 [(0, .inr (some (2, a0, 0))), (1, .inl (.int x1)), (2, .inl (.int x2)), (3, .inl (.int x3))] []) h (fun κ8 h => ?_)
        exact w_X2_moveAll_b28 hfl O hKP hmL hE h0 ih _ _ _ _ h
set_option maxHeartbeats 4000000 in
set_option maxRecDepth 100000 in
theorem w_X2_moveAll {l0 : Launch} (hfl : l0.stackTraces = false) {X : MX} {B : BX (EE × K)} {g : GP} {E : EE} {κ' : K} {rr : Unit} {a0 : Nat} (O : CK l0 X B g cX2_moveAll RX2 1 0) (hKP : KPok B E) (hmL : B.2.2.2.1 = 4) (hE : ∀ (pc : Nat) (lv : List (Nat × AV)), decode cX2_moveAll pc = .ok (.return_, 1) → J X B (E, κ') pc lv []) (h0 : PC 3 E 2 a0 0) : ∀ (κ : K) (a1 : Int32) (a2 : Int32), f_X2_moveAll E κ a0 a1 a2 = some (κ', rr) → J X B (E, κ) 0 [(0, .inr (some (2, a0, 0))), (1, .inl (.int a1)), (2, .inl (.int a2))] [] := by
  intro κ a1 a2 h
  unfold f_X2_moveAll at h
  refine J_iconst O.mo (v := 0) dX2_moveAll_0 (by decide) ?_
  refine J_istore_n O.mo (lv' := [(0, .inr (some (2, a0, 0))), (1, .inl (.int a1)), (2, .inl (.int a2))]) dX2_moveAll_1 (by rw [hmL]; decide) rfl rfl ?_
  refine J_sub [1, 2, 3, 0] rfl ?_
  exact w_X2_moveAll_b2 hfl O hKP hmL hE h0 FU _ _ _ _ h
theorem c_X2_moveAll {l : Launch} (hfl : l.stackTraces = false) {E : EE} {κ κ' : K} {a0 : Nat} {a1 : Int32} {a2 : Int32} (h0 : PC 3 E 2 a0 0) {rr : Unit} (h : f_X2_moveAll E κ a0 a1 a2 = some (κ', rr)) : Con l yX2_moveAll cX2_moveAll 4 none 1 0 [.inr (some (2, a0, 0)), .inl (.int a1), .inl (.int a2)] (E, κ) (E, κ') none := by
  exact Con_of hfl (by decide +kernel) (Nat.le_of_ble_eq_true rfl) rfl rfl (fun X B g O hKP hmL hE => w_X2_moveAll hfl O hKP hmL hE h0 _ _ _ h)
def f_X2_leave (E : EE) (κ : K) (a0 : Nat) (a1 : Int32) : Option (K × Unit) := gd (¬ (a1 < 0 ∨ 40 ≤ a1.toNatClampNeg)) (nm ((kV κ 2 a0 1) a1.toNatClampNeg) fun y2 => if y2 = (-1) then some (κ, ()) else gd (¬ (y2 < 0 ∨ 16 ≤ y2.toNatClampNeg)) (gd (¬ (y2 < 0 ∨ 16 ≤ y2.toNatClampNeg)) (nm (setV κ 2 a0 2 y2.toNatClampNeg (((kV κ 2 a0 2) y2.toNatClampNeg) - 1)) fun κ6 => gd (¬ (a1 < 0 ∨ 40 ≤ a1.toNatClampNeg)) (nm (setV κ6 2 a0 1 a1.toNatClampNeg ((-1))) fun κ8 => some (κ8, ())))))
set_option maxHeartbeats 4000000 in
set_option maxRecDepth 100000 in
theorem w_X2_leave {l0 : Launch} (hfl : l0.stackTraces = false) {X : MX} {B : BX (EE × K)} {g : GP} {E : EE} {κ' : K} {rr : Unit} {a0 : Nat} (O : CK l0 X B g cX2_leave RX2 1 0) (hKP : KPok B E) (hmL : B.2.2.2.1 = 3) (hE : ∀ (pc : Nat) (lv : List (Nat × AV)), decode cX2_leave pc = .ok (.return_, 1) → J X B (E, κ') pc lv []) (h0 : PC 3 E 2 a0 0) : ∀ (κ : K) (a1 : Int32), f_X2_leave E κ a0 a1 = some (κ', rr) → J X B (E, κ) 0 [(0, .inr (some (2, a0, 0))), (1, .inl (.int a1))] [] := by
  intro κ a1 h
  unfold f_X2_leave at h
  refine J_aload_n O.mo dX2_leave_0 0 rfl ?_
  refine J_getF O.co (kd0 := 3) (k3_0 h0) (l3_0 h0) (C := RX2) (T := TX2) (N := 8) rfl (by decide) rfl in_X2 1 (by decide) (v := .inr (some (2, a0, 1))) rfl mw1 rfl dX2_leave_1 ?_
  refine J_iload_n O.mo dX2_leave_4 1 rfl ?_
  obtain ⟨hg1, h⟩ := gd_some h
  refine J_iald O.co (g := (kV κ 2 a0 1)) (ct_20n (l3_1 h0) (k3_1 h0) (n3_1 h0)) hg1 dX2_leave_5 ?_
  refine J_istore_n O.mo (lv' := [(0, .inr (some (2, a0, 0))), (1, .inl (.int a1))]) dX2_leave_6 (by rw [hmL]; decide) rfl rfl ?_
  refine nm_some (P := fun z => J X B (E, κ) 7 [(2, .inl (.int z)), (0, .inr (some (2, a0, 0))), (1, .inl (.int a1))] []) h (fun y2 h => ?_)
  refine J_iload_n O.mo dX2_leave_7 0 rfl ?_
  refine J_iconst O.mo (v := (-1)) dX2_leave_8 (by decide) ?_
  refine J_icmp_eq O.mo (tgt := 29) dX2_leave_9 (by decide) (fun hc3 => ?_) (fun hc3 => ?_)
  · replace h := (if_pos hc3).symm.trans h
    cases h
    exact hE _ _ dX2_leave_29
  · replace h := (if_neg hc3).symm.trans h
    refine J_aload_n O.mo dX2_leave_12 1 rfl ?_
    refine J_getF O.co (kd0 := 3) (k3_0 h0) (l3_0 h0) (C := RX2) (T := TX2) (N := 8) rfl (by decide) rfl in_X2 2 (by decide) (v := .inr (some (2, a0, 2))) rfl mw0 rfl dX2_leave_13 ?_
    refine J_iload_n O.mo dX2_leave_16 0 rfl ?_
    refine J_dup2 O.mo dX2_leave_17 rfl rfl ?_
    obtain ⟨hg4, h⟩ := gd_some h
    refine J_iald O.co (g := (kV κ 2 a0 2)) (ct_20n (l3_2 h0) (k3_2 h0) (n3_2 h0)) hg4 dX2_leave_18 ?_
    refine J_iconst O.mo (v := 1) dX2_leave_19 (by decide) ?_
    refine J_isub O.mo dX2_leave_20 ?_
    obtain ⟨hg5, h⟩ := gd_some h
    refine row_20 O (l3_2 h0) (k3_2 h0) (n3_2 h0) hg5 (x := (((kV κ 2 a0 2) y2.toNatClampNeg) - 1)) dX2_leave_21 ?_
    refine nm_some (P := fun z => J X B (E, z) 22 [(2, .inl (.int y2)), (0, .inr (some (2, a0, 0))), (1, .inl (.int a1))] []) h (fun κ6 h => ?_)
    refine J_aload_n O.mo dX2_leave_22 1 rfl ?_
    refine J_getF O.co (kd0 := 3) (k3_0 h0) (l3_0 h0) (C := RX2) (T := TX2) (N := 8) rfl (by decide) rfl in_X2 1 (by decide) (v := .inr (some (2, a0, 1))) rfl mw1 rfl dX2_leave_23 ?_
    refine J_iload_n O.mo dX2_leave_26 2 rfl ?_
    refine J_iconst O.mo (v := (-1)) dX2_leave_27 (by decide) ?_
    obtain ⟨hg7, h⟩ := gd_some h
    refine row_20 O (l3_1 h0) (k3_1 h0) (n3_1 h0) hg7 (x := ((-1))) dX2_leave_28 ?_
    refine nm_some (P := fun z => J X B (E, z) 29 [(2, .inl (.int y2)), (0, .inr (some (2, a0, 0))), (1, .inl (.int a1))] []) h (fun κ8 h => ?_)
    cases h
    exact hE _ _ dX2_leave_29
theorem c_X2_leave {l : Launch} (hfl : l.stackTraces = false) {E : EE} {κ κ' : K} {a0 : Nat} {a1 : Int32} (h0 : PC 3 E 2 a0 0) {rr : Unit} (h : f_X2_leave E κ a0 a1 = some (κ', rr)) : Con l yX2_leave cX2_leave 3 none 1 0 [.inr (some (2, a0, 0)), .inl (.int a1)] (E, κ) (E, κ') none := by
  exact Con_of hfl (by decide +kernel) (Nat.le_of_ble_eq_true rfl) rfl rfl (fun X B g O hKP hmL hE => w_X2_leave hfl O hKP hmL hE h0 _ _ h)
def f_X2_merge (E : EE) (κ : K) (a0 : Nat) (a1 : Int32) (a2 : Int32) : Option (K × Unit) := gd (¬ (a1 < 0 ∨ 16 ≤ a1.toNatClampNeg)) (gd (¬ (a2 < 0 ∨ 16 ≤ a2.toNatClampNeg)) (gd (¬ (a1 < 0 ∨ 16 ≤ a1.toNatClampNeg)) (nm (setV κ 2 a0 2 a1.toNatClampNeg (((kV κ 2 a0 2) a1.toNatClampNeg) + ((kV κ 2 a0 2) a2.toNatClampNeg))) fun κ4 => gd (¬ (a1 < 0 ∨ 16 ≤ a1.toNatClampNeg)) (gd (¬ (a2 < 0 ∨ 16 ≤ a2.toNatClampNeg)) (gd (¬ (a1 < 0 ∨ 16 ≤ a1.toNatClampNeg)) (nm (setV κ4 2 a0 3 a1.toNatClampNeg (if ((kV κ4 2 a0 3) a1.toNatClampNeg) < ((kV κ4 2 a0 3) a2.toNatClampNeg) then ((kV κ4 2 a0 3) a2.toNatClampNeg) else ((kV κ4 2 a0 3) a1.toNatClampNeg))) fun κ8 => bd (f_X2_moveAll E κ8 a0 a2 a1) fun κ9 _ => some (κ9, ())))))))
set_option maxHeartbeats 4000000 in
set_option maxRecDepth 100000 in
theorem w_X2_merge {l0 : Launch} (hfl : l0.stackTraces = false) {X : MX} {B : BX (EE × K)} {g : GP} {E : EE} {κ' : K} {rr : Unit} {a0 : Nat} (O : CK l0 X B g cX2_merge RX2 2 23) (hKP : KPok B E) (hmL : B.2.2.2.1 = 3) (hE : ∀ (pc : Nat) (lv : List (Nat × AV)), decode cX2_merge pc = .ok (.return_, 1) → J X B (E, κ') pc lv []) (h0 : PC 3 E 2 a0 0) : ∀ (κ : K) (a1 : Int32) (a2 : Int32), f_X2_merge E κ a0 a1 a2 = some (κ', rr) → J X B (E, κ) 0 [(0, .inr (some (2, a0, 0))), (1, .inl (.int a1)), (2, .inl (.int a2))] [] := by
  intro κ a1 a2 h
  unfold f_X2_merge at h
  refine J_aload_n O.mo dX2_merge_0 0 rfl ?_
  refine J_getF O.co (kd0 := 3) (k3_0 h0) (l3_0 h0) (C := RX2) (T := TX2) (N := 8) rfl (by decide) rfl in_X2 2 (by decide) (v := .inr (some (2, a0, 2))) rfl mw0 rfl dX2_merge_1 ?_
  refine J_iload_n O.mo dX2_merge_4 1 rfl ?_
  refine J_dup2 O.mo dX2_merge_5 rfl rfl ?_
  obtain ⟨hg1, h⟩ := gd_some h
  refine J_iald O.co (g := (kV κ 2 a0 2)) (ct_20n (l3_2 h0) (k3_2 h0) (n3_2 h0)) hg1 dX2_merge_6 ?_
  refine J_aload_n O.mo dX2_merge_7 0 rfl ?_
  refine J_getF O.co (kd0 := 3) (k3_0 h0) (l3_0 h0) (C := RX2) (T := TX2) (N := 8) rfl (by decide) rfl in_X2 2 (by decide) (v := .inr (some (2, a0, 2))) rfl mw0 rfl dX2_merge_8 ?_
  refine J_iload_n O.mo dX2_merge_11 2 rfl ?_
  obtain ⟨hg2, h⟩ := gd_some h
  refine J_iald O.co (g := (kV κ 2 a0 2)) (ct_20n (l3_2 h0) (k3_2 h0) (n3_2 h0)) hg2 dX2_merge_12 ?_
  refine J_iadd O.mo dX2_merge_13 ?_
  obtain ⟨hg3, h⟩ := gd_some h
  refine row_20 O (l3_2 h0) (k3_2 h0) (n3_2 h0) hg3 (x := (((kV κ 2 a0 2) a1.toNatClampNeg) + ((kV κ 2 a0 2) a2.toNatClampNeg))) dX2_merge_14 ?_
  refine nm_some (P := fun z => J X B (E, z) 15 [(0, .inr (some (2, a0, 0))), (1, .inl (.int a1)), (2, .inl (.int a2))] []) h (fun κ4 h => ?_)
  refine J_aload_n O.mo dX2_merge_15 0 rfl ?_
  refine J_getF O.co (kd0 := 3) (k3_0 h0) (l3_0 h0) (C := RX2) (T := TX2) (N := 8) rfl (by decide) rfl in_X2 3 (by decide) (v := .inr (some (2, a0, 3))) rfl mw2 rfl dX2_merge_16 ?_
  refine J_iload_n O.mo dX2_merge_19 1 rfl ?_
  refine J_aload_n O.mo dX2_merge_20 0 rfl ?_
  refine J_getF O.co (kd0 := 3) (k3_0 h0) (l3_0 h0) (C := RX2) (T := TX2) (N := 8) rfl (by decide) rfl in_X2 3 (by decide) (v := .inr (some (2, a0, 3))) rfl mw2 rfl dX2_merge_21 ?_
  refine J_iload_n O.mo dX2_merge_24 1 rfl ?_
  obtain ⟨hg5, h⟩ := gd_some h
  refine J_iald O.co (g := (kV κ4 2 a0 3)) (ct_20n (l3_3 h0) (k3_3 h0) (n3_3 h0)) hg5 dX2_merge_25 ?_
  refine J_aload_n O.mo dX2_merge_26 0 rfl ?_
  refine J_getF O.co (kd0 := 3) (k3_0 h0) (l3_0 h0) (C := RX2) (T := TX2) (N := 8) rfl (by decide) rfl in_X2 3 (by decide) (v := .inr (some (2, a0, 3))) rfl mw2 rfl dX2_merge_27 ?_
  refine J_iload_n O.mo dX2_merge_30 2 rfl ?_
  obtain ⟨hg6, h⟩ := gd_some h
  refine J_iald O.co (g := (kV κ4 2 a0 3)) (ct_20n (l3_3 h0) (k3_3 h0) (n3_3 h0)) hg6 dX2_merge_31 ?_
  refine J_max O mw3 mw4 mw5 mw6 (by decide) (Nat.le_of_ble_eq_true rfl) rfl dX2_merge_32 ?_
  obtain ⟨hg7, h⟩ := gd_some h
  refine row_20 O (l3_3 h0) (k3_3 h0) (n3_3 h0) hg7 (x := (if ((kV κ4 2 a0 3) a1.toNatClampNeg) < ((kV κ4 2 a0 3) a2.toNatClampNeg) then ((kV κ4 2 a0 3) a2.toNatClampNeg) else ((kV κ4 2 a0 3) a1.toNatClampNeg))) dX2_merge_35 ?_
  refine nm_some (P := fun z => J X B (E, z) 36 [(0, .inr (some (2, a0, 0))), (1, .inl (.int a1)), (2, .inl (.int a2))] []) h (fun κ8 h => ?_)
  refine J_aload_n O.mo dX2_merge_36 0 rfl ?_
  refine J_iload_n O.mo dX2_merge_37 2 rfl ?_
  refine J_iload_n O.mo dX2_merge_38 1 rfl ?_
  refine J_sub [] rfl ?_
  obtain ⟨κ9, r11, hq10, h⟩ := bd_some h
  refine J_callV O hKP (as := [.inl (.int a2), .inl (.int a1)]) (rest := []) (r := none) (c_X2_moveAll hfl h0 hq10) rfl (kd0 := 3) (k3_0 h0) (l3_0 h0) (T := TX2) (N := 8) rfl (by decide) mw7 mw8 mw9 mw10 mw11 pd_X2_moveAll rfl (by decide) rfl (Nat.le_of_ble_eq_true rfl) sl_0 st_0 dX2_merge_39 ?_
  show J X B (E, κ9) 42 [] []
  cases h
  exact hE _ _ dX2_merge_42
theorem c_X2_merge {l : Launch} (hfl : l.stackTraces = false) {E : EE} {κ κ' : K} {a0 : Nat} {a1 : Int32} {a2 : Int32} (h0 : PC 3 E 2 a0 0) {rr : Unit} (h : f_X2_merge E κ a0 a1 a2 = some (κ', rr)) : Con l yX2_merge cX2_merge 3 none 2 23 [.inr (some (2, a0, 0)), .inl (.int a1), .inl (.int a2)] (E, κ) (E, κ') none := by
  exact Con_of hfl (by decide +kernel) (Nat.le_of_ble_eq_true rfl) rfl rfl (fun X B g O hKP hmL hE => w_X2_merge hfl O hKP hmL hE h0 _ _ _ h)
def f_X2_hold_b22 (E : EE) (a0 : Nat) (κ : K) (x1 : Int32) (x3 : Int32) : Option (K × Unit) := gd (¬ (x1 < 0 ∨ 40 ≤ x1.toNatClampNeg)) (nm (setV κ 2 a0 1 x1.toNatClampNeg x3) fun κ6 => gd (¬ (x3 < 0 ∨ 16 ≤ x3.toNatClampNeg)) (gd (¬ (x3 < 0 ∨ 16 ≤ x3.toNatClampNeg)) (nm (setV κ6 2 a0 2 x3.toNatClampNeg (((kV κ6 2 a0 2) x3.toNatClampNeg) + 1)) fun κ9 => gd (¬ (x3 < 0 ∨ 16 ≤ x3.toNatClampNeg)) (nm (setV κ9 2 a0 3 x3.toNatClampNeg (kV κ9 2 a0 0 5)) fun κ11 => some (κ11, ())))))
def f_X2_hold (E : EE) (κ : K) (a0 : Nat) (a1 : Int32) (a2 : Int32) : Option (K × Unit) := bd (f_X2_lowestFree E κ a0) fun κ1 r3 => if r3 = (-1) then bd (f_X2_oldestBut E κ1 a0 a2) fun κ12 r14 => bd (f_X2_moveAll E κ12 a0 r14 ((-1))) fun κ15 _ => f_X2_hold_b22 E a0 κ15 a1 r14 else f_X2_hold_b22 E a0 κ1 a1 r3
set_option maxHeartbeats 4000000 in
set_option maxRecDepth 100000 in
theorem w_X2_hold_b22 {l0 : Launch} (hfl : l0.stackTraces = false) {X : MX} {B : BX (EE × K)} {g : GP} {E : EE} {κ' : K} {rr : Unit} {a0 : Nat} (O : CK l0 X B g cX2_hold RX2 2 23) (hKP : KPok B E) (hmL : B.2.2.2.1 = 4) (hE : ∀ (pc : Nat) (lv : List (Nat × AV)), decode cX2_hold pc = .ok (.return_, 1) → J X B (E, κ') pc lv []) (h0 : PC 3 E 2 a0 0) : ∀ (κ : K) (x1 : Int32) (x3 : Int32), f_X2_hold_b22 E a0 κ x1 x3 = some (κ', rr) → J X B (E, κ) 22 [(0, .inr (some (2, a0, 0))), (1, .inl (.int x1)), (3, .inl (.int x3))] [] := by
  intro κ x1 x3 h
  unfold f_X2_hold_b22 at h
  refine J_aload_n O.mo dX2_hold_22 0 rfl ?_
  refine J_getF O.co (kd0 := 3) (k3_0 h0) (l3_0 h0) (C := RX2) (T := TX2) (N := 8) rfl (by decide) rfl in_X2 1 (by decide) (v := .inr (some (2, a0, 1))) rfl mw1 rfl dX2_hold_23 ?_
  refine J_iload_n O.mo dX2_hold_26 1 rfl ?_
  refine J_iload_n O.mo dX2_hold_27 2 rfl ?_
  obtain ⟨hg5, h⟩ := gd_some h
  refine row_20 O (l3_1 h0) (k3_1 h0) (n3_1 h0) hg5 (x := x3) dX2_hold_28 ?_
  refine nm_some (P := fun z => J X B (E, z) 29 [(0, .inr (some (2, a0, 0))), (1, .inl (.int x1)), (3, .inl (.int x3))] []) h (fun κ6 h => ?_)
  refine J_aload_n O.mo dX2_hold_29 0 rfl ?_
  refine J_getF O.co (kd0 := 3) (k3_0 h0) (l3_0 h0) (C := RX2) (T := TX2) (N := 8) rfl (by decide) rfl in_X2 2 (by decide) (v := .inr (some (2, a0, 2))) rfl mw0 rfl dX2_hold_30 ?_
  refine J_iload_n O.mo dX2_hold_33 2 rfl ?_
  refine J_dup2 O.mo dX2_hold_34 rfl rfl ?_
  obtain ⟨hg7, h⟩ := gd_some h
  refine J_iald O.co (g := (kV κ6 2 a0 2)) (ct_20n (l3_2 h0) (k3_2 h0) (n3_2 h0)) hg7 dX2_hold_35 ?_
  refine J_iconst O.mo (v := 1) dX2_hold_36 (by decide) ?_
  refine J_iadd O.mo dX2_hold_37 ?_
  obtain ⟨hg8, h⟩ := gd_some h
  refine row_20 O (l3_2 h0) (k3_2 h0) (n3_2 h0) hg8 (x := (((kV κ6 2 a0 2) x3.toNatClampNeg) + 1)) dX2_hold_38 ?_
  refine nm_some (P := fun z => J X B (E, z) 39 [(0, .inr (some (2, a0, 0))), (1, .inl (.int x1)), (3, .inl (.int x3))] []) h (fun κ9 h => ?_)
  refine J_aload_n O.mo dX2_hold_39 0 rfl ?_
  refine J_getF O.co (kd0 := 3) (k3_0 h0) (l3_0 h0) (C := RX2) (T := TX2) (N := 8) rfl (by decide) rfl in_X2 3 (by decide) (v := .inr (some (2, a0, 3))) rfl mw2 rfl dX2_hold_40 ?_
  refine J_iload_n O.mo dX2_hold_43 2 rfl ?_
  refine J_aload_n O.mo dX2_hold_44 0 rfl ?_
  refine J_getF O.co (kd0 := 3) (k3_0 h0) (l3_0 h0) (C := RX2) (T := TX2) (N := 8) rfl (by decide) rfl in_X2 5 (by decide) (v := .inl (.int (kV κ9 2 a0 0 5))) rfl mw16 rfl dX2_hold_45 ?_
  obtain ⟨hg10, h⟩ := gd_some h
  refine row_20 O (l3_3 h0) (k3_3 h0) (n3_3 h0) hg10 (x := (kV κ9 2 a0 0 5)) dX2_hold_48 ?_
  refine nm_some (P := fun z => J X B (E, z) 49 [(0, .inr (some (2, a0, 0))), (1, .inl (.int x1)), (3, .inl (.int x3))] []) h (fun κ11 h => ?_)
  cases h
  exact hE _ _ dX2_hold_49
set_option maxHeartbeats 4000000 in
set_option maxRecDepth 100000 in
theorem w_X2_hold {l0 : Launch} (hfl : l0.stackTraces = false) {X : MX} {B : BX (EE × K)} {g : GP} {E : EE} {κ' : K} {rr : Unit} {a0 : Nat} (O : CK l0 X B g cX2_hold RX2 2 23) (hKP : KPok B E) (hmL : B.2.2.2.1 = 4) (hE : ∀ (pc : Nat) (lv : List (Nat × AV)), decode cX2_hold pc = .ok (.return_, 1) → J X B (E, κ') pc lv []) (h0 : PC 3 E 2 a0 0) : ∀ (κ : K) (a1 : Int32) (a2 : Int32), f_X2_hold E κ a0 a1 a2 = some (κ', rr) → J X B (E, κ) 0 [(0, .inr (some (2, a0, 0))), (1, .inl (.int a1)), (2, .inl (.int a2))] [] := by
  intro κ a1 a2 h
  unfold f_X2_hold at h
  refine J_aload_n O.mo dX2_hold_0 0 rfl ?_
  obtain ⟨κ1, r3, hq2, h⟩ := bd_some h
  refine J_callV O hKP (as := []) (rest := []) (r := (some (.inl (.int r3)))) (c_X2_lowestFree hfl h0 hq2) rfl (kd0 := 3) (k3_0 h0) (l3_0 h0) (T := TX2) (N := 8) rfl (by decide) mw12 mw13 mw14 mw10 mw15 pd_X2_lowestFree rfl (by decide) rfl (Nat.le_of_ble_eq_true rfl) (sl_p (s3_0 h0) (sl_v (sl_v sl_0))) st_0 dX2_hold_1 ?_
  show J X B (E, κ1) 4 [(0, .inr (some (2, a0, 0))), (1, .inl (.int a1)), (2, .inl (.int a2))] [.inl (.int r3)]
  refine J_istore_n O.mo (lv' := [(0, .inr (some (2, a0, 0))), (1, .inl (.int a1)), (2, .inl (.int a2))]) dX2_hold_4 (by rw [hmL]; decide) rfl rfl ?_
  refine J_iload_n O.mo dX2_hold_5 0 rfl ?_
  refine J_iconst O.mo (v := (-1)) dX2_hold_6 (by decide) ?_
  refine J_icmp_ne O.mo (tgt := 22) dX2_hold_7 (by decide) (fun hc4 => ?_) (fun hc4 => ?_)
  · replace h := (if_neg hc4).symm.trans h
    refine J_sub [1, 2, 0] rfl ?_
    exact w_X2_hold_b22 hfl O hKP hmL hE h0 _ _ _ h
  · replace h := (if_pos hc4).symm.trans h
    refine J_aload_n O.mo dX2_hold_10 1 rfl ?_
    refine J_iload_n O.mo dX2_hold_11 3 rfl ?_
    refine J_sub [1, 2] rfl ?_
    obtain ⟨κ12, r14, hq13, h⟩ := bd_some h
    refine J_callV O hKP (as := [.inl (.int a2)]) (rest := []) (r := (some (.inl (.int r14)))) (c_X2_oldestBut hfl h0 hq13) rfl (kd0 := 3) (k3_0 h0) (l3_0 h0) (T := TX2) (N := 8) rfl (by decide) mw17 mw18 mw19 mw10 mw20 pd_X2_oldestBut rfl (by decide) rfl (Nat.le_of_ble_eq_true rfl) (sl_p (s3_0 h0) (sl_v sl_0)) st_0 dX2_hold_12 ?_
    show J X B (E, κ12) 15 [(0, .inr (some (2, a0, 0))), (1, .inl (.int a1))] [.inl (.int r14)]
    refine J_istore_n O.mo (lv' := [(0, .inr (some (2, a0, 0))), (1, .inl (.int a1))]) dX2_hold_15 (by rw [hmL]; decide) rfl rfl ?_
    refine J_aload_n O.mo dX2_hold_16 1 rfl ?_
    refine J_iload_n O.mo dX2_hold_17 0 rfl ?_
    refine J_iconst O.mo (v := (-1)) dX2_hold_18 (by decide) ?_
    obtain ⟨κ15, r17, hq16, h⟩ := bd_some h
    refine J_callV O hKP (as := [.inl (.int r14), .inl (.int ((-1)))]) (rest := []) (r := none) (c_X2_moveAll hfl h0 hq16) rfl (kd0 := 3) (k3_0 h0) (l3_0 h0) (T := TX2) (N := 8) rfl (by decide) mw7 mw8 mw9 mw10 mw11 pd_X2_moveAll rfl (by decide) rfl (Nat.le_of_ble_eq_true rfl) (sl_v (sl_p (s3_0 h0) (sl_v sl_0))) st_0 dX2_hold_19 ?_
    show J X B (E, κ15) 22 [(3, .inl (.int r14)), (0, .inr (some (2, a0, 0))), (1, .inl (.int a1))] []
    refine J_sub [1, 2, 0] rfl ?_
    exact w_X2_hold_b22 hfl O hKP hmL hE h0 _ _ _ h
theorem c_X2_hold {l : Launch} (hfl : l.stackTraces = false) {E : EE} {κ κ' : K} {a0 : Nat} {a1 : Int32} {a2 : Int32} (h0 : PC 3 E 2 a0 0) {rr : Unit} (h : f_X2_hold E κ a0 a1 a2 = some (κ', rr)) : Con l yX2_hold cX2_hold 4 none 2 23 [.inr (some (2, a0, 0)), .inl (.int a1), .inl (.int a2)] (E, κ) (E, κ') none := by
  exact Con_of hfl (by decide +kernel) (Nat.le_of_ble_eq_true rfl) rfl rfl (fun X B g O hKP hmL hE => w_X2_hold hfl O hKP hmL hE h0 _ _ _ h)
