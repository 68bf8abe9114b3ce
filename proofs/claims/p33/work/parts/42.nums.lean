theorem k5_0 {E : EE} {f i c : Nat} (h : PC 5 E f i c) : kd f (c) = 5 := PC_kd h 0 (by decide)
theorem l5_0 {E : EE} {f i c : Nat} (h : PC 5 E f i c) : liveC E f i (c) = true := PC_lv h 0 (by decide) (by decide)
theorem s5_0 {E : EE} {f i c : Nat} (h : PC 5 E f i c) : Stab E (.inr (some (f, i, c))) := PC_st h 0 (by decide) (by decide) (by decide)
theorem k6_0 {E : EE} {f i c : Nat} (h : PC 6 E f i c) : kd f (c) = 6 := PC_kd h 0 (by decide)
theorem l6_0 {E : EE} {f i c : Nat} (h : PC 6 E f i c) : liveC E f i (c) = true := PC_lv h 0 (by decide) (by decide)
theorem s6_0 {E : EE} {f i c : Nat} (h : PC 6 E f i c) : Stab E (.inr (some (f, i, c))) := PC_st h 0 (by decide) (by decide) (by decide)
theorem k6_1 {E : EE} {f i c : Nat} (h : PC 6 E f i c) : kd f (c + 1) = 20 := PC_kd h 1 (by decide)
theorem l6_1 {E : EE} {f i c : Nat} (h : PC 6 E f i c) : liveC E f i (c + 1) = true := PC_lv h 1 (by decide) (by decide)
theorem s6_1 {E : EE} {f i c : Nat} (h : PC 6 E f i c) : Stab E (.inr (some (f, i, c + 1))) := PC_st h 1 (by decide) (by decide) (by decide)
theorem n6_1 {E : EE} {f i c : Nat} (h : PC 6 E f i c) : sl f (c + 1) = 24 := PC_sl h 1 (by decide)
theorem k6_2 {E : EE} {f i c : Nat} (h : PC 6 E f i c) : kd f (c + 2) = 20 := PC_kd h 2 (by decide)
theorem l6_2 {E : EE} {f i c : Nat} (h : PC 6 E f i c) : liveC E f i (c + 2) = true := PC_lv h 2 (by decide) (by decide)
theorem s6_2 {E : EE} {f i c : Nat} (h : PC 6 E f i c) : Stab E (.inr (some (f, i, c + 2))) := PC_st h 2 (by decide) (by decide) (by decide)
theorem n6_2 {E : EE} {f i c : Nat} (h : PC 6 E f i c) : sl f (c + 2) = 24 := PC_sl h 2 (by decide)
theorem k6_3 {E : EE} {f i c : Nat} (h : PC 6 E f i c) : kd f (c + 3) = 20 := PC_kd h 3 (by decide)
theorem l6_3 {E : EE} {f i c : Nat} (h : PC 6 E f i c) : liveC E f i (c + 3) = true := PC_lv h 3 (by decide) (by decide)
theorem s6_3 {E : EE} {f i c : Nat} (h : PC 6 E f i c) : Stab E (.inr (some (f, i, c + 3))) := PC_st h 3 (by decide) (by decide) (by decide)
theorem n6_3 {E : EE} {f i c : Nat} (h : PC 6 E f i c) : sl f (c + 3) = 24 := PC_sl h 3 (by decide)
set_option maxRecDepth 100000 in
theorem mw47 : Cond.fieldLink RX4 13 "GuestHall$Numbers" "size" "I" ∈ gwl := gwl_tb 340 rfl rfl
set_option maxRecDepth 100000 in
theorem mw48 : Cond.fieldLink RX4 7 "GuestHall$Numbers" "row" "[I" ∈ gwl := gwl_tb 337 rfl rfl
set_option maxRecDepth 100000 in
theorem mw49 : Cond.methodLink RX4 17 yJ7_copyOf_59c91 ∈ gwl := gwl_tb 636 rfl rfl
set_option maxRecDepth 100000 in
theorem mw50 : Cond.static yJ7_copyOf_59c91 ∈ gwl := gwl_tb 637 rfl rfl
set_option maxRecDepth 100000 in
theorem mw51 : Cond.initialized RJ7 ∈ gwl := gwl_tb 6 rfl rfl
set_option maxRecDepth 100000 in
theorem mw52 : Cond.code yJ7_copyOf_59c91 cJ7_copyOf_59c91 3 (some (.array .int)) ∈ gwl := gwl_tb 638 rfl rfl
set_option maxRecDepth 100000 in
theorem mw53 : Cond.methodLink RX4 23 yX4_add ∈ gwl := gwl_tb 1009 rfl rfl
set_option maxRecDepth 100000 in
theorem mw54 : Cond.instanceMethod yX4_add ∈ gwl := gwl_tb 633 rfl rfl
set_option maxRecDepth 100000 in
theorem mw55 : Cond.selects RX4 yX4_add yX4_add ∈ gwl := gwl_tb 634 rfl rfl
set_option maxRecDepth 100000 in
theorem mw56 : Cond.initialized RX4 ∈ gwl := gwl_tb 18 rfl rfl
set_option maxRecDepth 100000 in
theorem mw57 : Cond.code yX4_add cX4_add 2 none ∈ gwl := gwl_tb 635 rfl rfl
set_option maxRecDepth 100000 in
theorem mw58 : Cond.methodLink RX4 27 arraycopyName ∈ gwl := gwl_tb 806 rfl rfl
set_option maxRecDepth 100000 in
theorem mw59 : Cond.fieldLink RX5 21 "GuestHall$Program" "size" "I" ∈ gwl := gwl_tb 267 rfl rfl
set_option maxRecDepth 100000 in
theorem mw60 : Cond.fieldLink RX5 9 "GuestHall$Program" "whats" "[I" ∈ gwl := gwl_tb 261 rfl rfl
set_option maxRecDepth 100000 in
theorem mw61 : Cond.fieldLink RX5 15 "GuestHall$Program" "firsts" "[I" ∈ gwl := gwl_tb 263 rfl rfl
set_option maxRecDepth 100000 in
theorem mw62 : Cond.fieldLink RX5 18 "GuestHall$Program" "seconds" "[I" ∈ gwl := gwl_tb 265 rfl rfl
set_option maxRecDepth 100000 in
theorem in_X4 : ∀ w ∈ u_ws RX4 TX4 2, w ∈ gwl := by
  intro w hw
  obtain ⟨k, hk, rfl⟩ := List.mem_map.mp hw
  replace hk := List.mem_range.mp hk
  clear hw
  revert k
  exact (tb_s (tb_s tb_0 (gwl_tb 345 rfl rfl)) (gwl_tb 347 rfl rfl))
set_option maxRecDepth 100000 in
theorem in_X5 : ∀ w ∈ u_ws RX5 TX5 4, w ∈ gwl := by
  intro w hw
  obtain ⟨k, hk, rfl⟩ := List.mem_map.mp hw
  replace hk := List.mem_range.mp hk
  clear hw
  revert k
  exact (tb_s (tb_s (tb_s (tb_s tb_0 (gwl_tb 270 rfl rfl)) (gwl_tb 272 rfl rfl)) (gwl_tb 274 rfl rfl)) (gwl_tb 276 rfl rfl))
theorem pd_J7_copyOf_59c91 : (yJ7_copyOf_59c91).cls ≠ "java/lang/invoke/MethodHandle" ∧ (yJ7_copyOf_59c91).cls ≠ "java/lang/invoke/VarHandle" ∧ (parseMethodDescriptor (yJ7_copyOf_59c91).desc).map (fun d => d.parameters.length) = some 2 := ⟨by decide +kernel, by decide +kernel, by decide +kernel⟩
theorem pd_X4_add : (yX4_add).cls ≠ "java/lang/invoke/MethodHandle" ∧ (yX4_add).cls ≠ "java/lang/invoke/VarHandle" ∧ (parseMethodDescriptor (yX4_add).desc).map (fun d => d.parameters.length) = some 1 := ⟨by decide +kernel, by decide +kernel, by decide +kernel⟩
def f_X4_add_b30 (E : EE) (f0 : Nat) (i0 : Nat) (c0 : Nat) (κ : K) (x1 : Int32) : Option (K × Unit) := gd (¬ ((kV κ f0 i0 c0 1) < 0 ∨ kN κ f0 i0 (c0 + 1) ≤ (kV κ f0 i0 c0 1).toNatClampNeg)) (nm (setV κ f0 i0 (c0 + 1) (kV κ f0 i0 c0 1).toNatClampNeg x1) fun κ3 => nm (setV κ3 f0 i0 c0 1 ((kV κ3 f0 i0 c0 1) + 1)) fun κ4 => some (κ4, ()))
def f_X4_add (E : EE) (κ : K) (f0 : Nat) (i0 : Nat) (c0 : Nat) (a1 : Int32) : Option (K × Unit) := if kV κ f0 i0 c0 1 < nI (kN κ f0 i0 (c0 + 1)) then f_X4_add_b30 E f0 i0 c0 κ a1 else bd (f_J7_copyOf_59c91 E κ f0 i0 c0 (2 * (nI (kN κ f0 i0 (c0 + 1))))) fun κ5 _ => tmpG (kT κ5) fun n9 ar10 => nm (setRow κ5 f0 i0 c0 n9 ar10) fun κ8 => f_X4_add_b30 E f0 i0 c0 κ8 a1
set_option maxHeartbeats 4000000 in
set_option maxRecDepth 100000 in
theorem w_X4_add_b30 {l0 : Launch} (hfl : l0.stackTraces = false) {X : MX} {B : BX (EE × K)} {g : GP} {E : EE} {κ' : K} {rr : Unit} {f0 : Nat} {i0 : Nat} {c0 : Nat} (O : CK l0 X B g cX4_add RX4 3 122) (hKP : KPok B E) (hmL : B.2.2.2.1 = 2) (hE : ∀ (pc : Nat) (lv : List (Nat × AV)), decode cX4_add pc = .ok (.return_, 1) → J X B (E, κ') pc lv []) (h0 : PC 5 E f0 i0 c0) : ∀ (κ : K) (x1 : Int32), f_X4_add_b30 E f0 i0 c0 κ x1 = some (κ', rr) → J X B (E, κ) 30 [(0, .inr (some (f0, i0, c0))), (1, .inl (.int x1))] [] := by
  intro κ x1 h
  unfold f_X4_add_b30 at h
  refine J_aload_n O.mo dX4_add_30 0 rfl ?_
  refine J_getF O.co (kd0 := 5) (k5_0 h0) (l5_0 h0) (C := RX4) (T := TX4) (N := 2) rfl (by decide) rfl in_X4 0 (by decide) (v := .inr (some (f0, i0, c0 + 1))) rfl mw48 rfl dX4_add_31 ?_
  refine J_aload_n O.mo dX4_add_34 0 rfl ?_
  refine J_getF O.co (kd0 := 5) (k5_0 h0) (l5_0 h0) (C := RX4) (T := TX4) (N := 2) rfl (by decide) rfl in_X4 1 (by decide) (v := .inl (.int (kV κ f0 i0 c0 1))) rfl mw47 rfl dX4_add_35 ?_
  refine J_iload_n O.mo dX4_add_38 1 rfl ?_
  obtain ⟨hg2, h⟩ := gd_some h
  refine row_21 O (l5_1 h0) (k5_1 h0) hg2 (x := x1) dX4_add_39 ?_
  refine nm_some (P := fun z => J X B (E, z) 40 [(0, .inr (some (f0, i0, c0))), (1, .inl (.int x1))] []) h (fun κ3 h => ?_)
  refine J_aload_n O.mo dX4_add_40 0 rfl ?_
  refine J_dup O.mo dX4_add_41 rfl ?_
  refine J_getF O.co (kd0 := 5) (k5_0 h0) (l5_0 h0) (C := RX4) (T := TX4) (N := 2) rfl (by decide) rfl in_X4 1 (by decide) (v := .inl (.int (kV κ3 f0 i0 c0 1))) rfl mw47 rfl dX4_add_42 ?_
  refine J_iconst O.mo (v := 1) dX4_add_45 (by decide) ?_
  refine J_iadd O.mo dX4_add_46 ?_
  refine J_putI O.co (kd0 := 5) (k5_0 h0) (l5_0 h0) (C := RX4) (T := TX4) (N := 2) rfl (by decide) rfl in_X4 tyX4 tyX4_ok nmX4 1 (by decide) rfl rfl (x := ((kV κ3 f0 i0 c0 1) + 1)) (Or.inl rfl) mw47 dX4_add_47 ?_
  refine nm_some (P := fun z => J X B (E, z) 50 [(0, .inr (some (f0, i0, c0))), (1, .inl (.int x1))] []) h (fun κ4 h => ?_)
  cases h
  exact hE _ _ dX4_add_50
set_option maxHeartbeats 4000000 in
set_option maxRecDepth 100000 in
theorem w_X4_add {l0 : Launch} (hfl : l0.stackTraces = false) {X : MX} {B : BX (EE × K)} {g : GP} {E : EE} {κ' : K} {rr : Unit} {f0 : Nat} {i0 : Nat} {c0 : Nat} (O : CK l0 X B g cX4_add RX4 3 122) (hKP : KPok B E) (hmL : B.2.2.2.1 = 2) (hE : ∀ (pc : Nat) (lv : List (Nat × AV)), decode cX4_add pc = .ok (.return_, 1) → J X B (E, κ') pc lv []) (h0 : PC 5 E f0 i0 c0) : ∀ (κ : K) (a1 : Int32), f_X4_add E κ f0 i0 c0 a1 = some (κ', rr) → J X B (E, κ) 0 [(0, .inr (some (f0, i0, c0))), (1, .inl (.int a1))] [] := by
  intro κ a1 h
  unfold f_X4_add at h
  refine J_aload_n O.mo dX4_add_0 0 rfl ?_
  refine J_getF O.co (kd0 := 5) (k5_0 h0) (l5_0 h0) (C := RX4) (T := TX4) (N := 2) rfl (by decide) rfl in_X4 1 (by decide) (v := .inl (.int (kV κ f0 i0 c0 1))) rfl mw47 rfl dX4_add_1 ?_
  refine J_aload_n O.mo dX4_add_4 0 rfl ?_
  refine J_getF O.co (kd0 := 5) (k5_0 h0) (l5_0 h0) (C := RX4) (T := TX4) (N := 2) rfl (by decide) rfl in_X4 0 (by decide) (v := .inr (some (f0, i0, c0 + 1))) rfl mw48 rfl dX4_add_5 ?_
  refine J_alen O.co (g := (kV κ f0 i0 (c0 + 1))) (fun ad => ct_21 (l5_1 h0) (k5_1 h0) ad) dX4_add_8 ?_
  refine J_icmp_lt O.mo (tgt := 30) dX4_add_9 (by decide) (fun hc1 => ?_) (fun hc1 => ?_)
  · replace h := (if_pos hc1).symm.trans h
    exact w_X4_add_b30 hfl O hKP hmL hE h0 _ _ h
  · replace h := (if_neg hc1).symm.trans h
    refine J_aload_n O.mo dX4_add_12 0 rfl ?_
    refine J_aload_n O.mo dX4_add_13 0 rfl ?_
    refine J_getF O.co (kd0 := 5) (k5_0 h0) (l5_0 h0) (C := RX4) (T := TX4) (N := 2) rfl (by decide) rfl in_X4 0 (by decide) (v := .inr (some (f0, i0, c0 + 1))) rfl mw48 rfl dX4_add_14 ?_
    refine J_iconst O.mo (v := 2) dX4_add_17 (by decide) ?_
    refine J_aload_n O.mo dX4_add_18 0 rfl ?_
    refine J_getF O.co (kd0 := 5) (k5_0 h0) (l5_0 h0) (C := RX4) (T := TX4) (N := 2) rfl (by decide) rfl in_X4 0 (by decide) (v := .inr (some (f0, i0, c0 + 1))) rfl mw48 rfl dX4_add_19 ?_
    refine J_alen O.co (g := (kV κ f0 i0 (c0 + 1))) (fun ad => ct_21 (l5_1 h0) (k5_1 h0) ad) dX4_add_22 ?_
    refine J_imul O.mo dX4_add_23 ?_
    obtain ⟨κ5, r7, hq6, h⟩ := bd_some h
    refine J_callS O hKP (as := [.inr (some (f0, i0, c0 + 1)), .inl (.int (2 * (nI (kN κ f0 i0 (c0 + 1)))))]) (rest := [.inr (some (f0, i0, c0))]) (r := (some (.inr (some (7, 0, 0))))) (c_J7_copyOf_59c91 hfl h0 hq6) rfl mw49 mw50 mw51 mw52 pd_J7_copyOf_59c91 rfl (by decide) rfl (Nat.le_of_ble_eq_true rfl) (sl_p (s5_0 h0) (sl_v sl_0)) (st_p (s5_0 h0) st_0) dX4_add_24 ?_
    show J X B (E, κ5) 27 [(0, .inr (some (f0, i0, c0))), (1, .inl (.int a1))] [.inr (some (7, 0, 0)), .inr (some (f0, i0, c0))]
    obtain ⟨n9, ar10, ht11, h⟩ := tmpG_some h
    refine J_putRow O hKP (k5_0 h0) (k5_1 h0) (l5_0 h0) (l5_1 h0) in_X4 mw48 ht11 (sl_p (s5_0 h0) (sl_v sl_0)) st_0 dX4_add_27 ?_
    refine nm_some (P := fun z => J X B (E, z) 30 [(0, .inr (some (f0, i0, c0))), (1, .inl (.int a1))] []) h (fun κ8 h => ?_)
    exact w_X4_add_b30 hfl O hKP hmL hE h0 _ _ h
theorem c_X4_add {l : Launch} (hfl : l.stackTraces = false) {E : EE} {κ κ' : K} {f0 : Nat} {i0 : Nat} {c0 : Nat} {a1 : Int32} (h0 : PC 5 E f0 i0 c0) {rr : Unit} (h : f_X4_add E κ f0 i0 c0 a1 = some (κ', rr)) : Con l yX4_add cX4_add 2 none 3 122 [.inr (some (f0, i0, c0)), .inl (.int a1)] (E, κ) (E, κ') none := by
  exact Con_of hfl (by decide +kernel) (Nat.le_of_ble_eq_true rfl) rfl rfl (fun X B g O hKP hmL hE => w_X4_add hfl O hKP hmL hE h0 _ _ h)
def f_X4_addAll_b2 (E : EE) (f0 : Nat) (i0 : Nat) (c0 : Nat) (f1 : Nat) (i1 : Nat) (c1 : Nat) : Nat → K → Int32 → Option (K × Unit)
  | 0, _, _ => none
  | n + 1, κ, x2 => if kV κ f1 i1 c1 1 ≤ x2 then some (κ, ()) else gd (¬ (x2 < 0 ∨ kN κ f1 i1 (c1 + 1) ≤ x2.toNatClampNeg)) (bd (f_X4_add E κ f0 i0 c0 ((kV κ f1 i1 (c1 + 1)) x2.toNatClampNeg)) fun κ3 _ => nm (x2 + 1) fun y6 => f_X4_addAll_b2 E f0 i0 c0 f1 i1 c1 n κ3 y6)
def f_X4_addAll (E : EE) (κ : K) (f0 : Nat) (i0 : Nat) (c0 : Nat) (f1 : Nat) (i1 : Nat) (c1 : Nat) : Option (K × Unit) := f_X4_addAll_b2 E f0 i0 c0 f1 i1 c1 FU κ 0
set_option maxHeartbeats 4000000 in
set_option maxRecDepth 100000 in
theorem w_X4_addAll_b2 {l0 : Launch} (hfl : l0.stackTraces = false) {X : MX} {B : BX (EE × K)} {g : GP} {E : EE} {κ' : K} {rr : Unit} {f0 : Nat} {i0 : Nat} {c0 : Nat} {f1 : Nat} {i1 : Nat} {c1 : Nat} (O : CK l0 X B g cX4_addAll RX4 4 143) (hKP : KPok B E) (hmL : B.2.2.2.1 = 3) (hE : ∀ (pc : Nat) (lv : List (Nat × AV)), decode cX4_addAll pc = .ok (.return_, 1) → J X B (E, κ') pc lv []) (h0 : PC 5 E f0 i0 c0) (h1 : PC 5 E f1 i1 c1) : ∀ (n : Nat) (κ : K) (x2 : Int32), f_X4_addAll_b2 E f0 i0 c0 f1 i1 c1 n κ x2 = some (κ', rr) → J X B (E, κ) 2 [(0, .inr (some (f0, i0, c0))), (1, .inr (some (f1, i1, c1))), (2, .inl (.int x2))] [] := by
  intro n
  induction n with
  | zero => intro κ x2 h; cases h
  | succ n ih =>
    intro κ x2 h
    rw [f_X4_addAll_b2] at h
    refine J_iload_n O.mo dX4_addAll_2 2 rfl ?_
    refine J_aload_n O.mo dX4_addAll_3 1 rfl ?_
    refine J_getF O.co (kd0 := 5) (k5_0 h1) (l5_0 h1) (C := RX4) (T := TX4) (N := 2) rfl (by decide) rfl in_X4 1 (by decide) (v := .inl (.int (kV κ f1 i1 c1 1))) rfl mw47 rfl dX4_addAll_4 ?_
    refine J_icmp_ge O.mo (tgt := 26) dX4_addAll_7 (by decide) (fun hc1 => ?_) (fun hc1 => ?_)
    · replace h := (if_pos hc1).symm.trans h
      cases h
      exact hE _ _ dX4_addAll_26
    · replace h := (if_neg hc1).symm.trans h
      refine J_aload_n O.mo dX4_addAll_10 0 rfl ?_
      refine J_aload_n O.mo dX4_addAll_11 1 rfl ?_
      refine J_getF O.co (kd0 := 5) (k5_0 h1) (l5_0 h1) (C := RX4) (T := TX4) (N := 2) rfl (by decide) rfl in_X4 0 (by decide) (v := .inr (some (f1, i1, c1 + 1))) rfl mw48 rfl dX4_addAll_12 ?_
      refine J_iload_n O.mo dX4_addAll_15 2 rfl ?_
      obtain ⟨hg2, h⟩ := gd_some h
      refine J_iald O.co (g := (kV κ f1 i1 (c1 + 1))) (fun ad => ct_21 (l5_1 h1) (k5_1 h1) ad) hg2 dX4_addAll_16 ?_
      obtain ⟨κ3, r5, hq4, h⟩ := bd_some h
      refine J_callV O hKP (as := [.inl (.int ((kV κ f1 i1 (c1 + 1)) x2.toNatClampNeg))]) (rest := []) (r := none) (c_X4_add hfl h0 hq4) rfl (kd0 := 5) (k5_0 h0) (l5_0 h0) (T := TX4) (N := 2) rfl (by decide) mw53 mw54 mw55 mw56 mw57 pd_X4_add rfl (by decide) rfl (Nat.le_of_ble_eq_true rfl) (sl_p (s5_0 h0) (sl_p (s5_0 h1) (sl_v sl_0))) st_0 dX4_addAll_17 ?_
      show J X B (E, κ3) 20 [(0, .inr (some (f0, i0, c0))), (1, .inr (some (f1, i1, c1))), (2, .inl (.int x2))] []
      refine J_iinc O.mo (v := x2 + 1) (lv' := [(0, .inr (some (f0, i0, c0))), (1, .inr (some (f1, i1, c1)))]) dX4_addAll_20 (by rw [hmL]; decide) 2 rfl (by rw [show Int32.ofInt (1) = (1 : Int32) from by decide]) rfl rfl ?_
      refine nm_some (P := fun z => J X B (E, κ3) 23 [(2, .inl (.int z)), (0, .inr (some (f0, i0, c0))), (1, .inr (some (f1, i1, c1)))] []) h (fun y6 h => ?_)
      refine J_goto O.mo (tgt := 2) dX4_addAll_23 (by decide) ?_
      refine J_sub [1, 2, 0] rfl ?_
      exact ih _ _ h
set_option maxHeartbeats 4000000 in
set_option maxRecDepth 100000 in
theorem w_X4_addAll {l0 : Launch} (hfl : l0.stackTraces = false) {X : MX} {B : BX (EE × K)} {g : GP} {E : EE} {κ' : K} {rr : Unit} {f0 : Nat} {i0 : Nat} {c0 : Nat} {f1 : Nat} {i1 : Nat} {c1 : Nat} (O : CK l0 X B g cX4_addAll RX4 4 143) (hKP : KPok B E) (hmL : B.2.2.2.1 = 3) (hE : ∀ (pc : Nat) (lv : List (Nat × AV)), decode cX4_addAll pc = .ok (.return_, 1) → J X B (E, κ') pc lv []) (h0 : PC 5 E f0 i0 c0) (h1 : PC 5 E f1 i1 c1) : ∀ (κ : K), f_X4_addAll E κ f0 i0 c0 f1 i1 c1 = some (κ', rr) → J X B (E, κ) 0 [(0, .inr (some (f0, i0, c0))), (1, .inr (some (f1, i1, c1)))] [] := by
  intro κ h
  unfold f_X4_addAll at h
  refine J_iconst O.mo (v := 0) dX4_addAll_0 (by decide) ?_
  refine J_istore_n O.mo (lv' := [(0, .inr (some (f0, i0, c0))), (1, .inr (some (f1, i1, c1)))]) dX4_addAll_1 (by rw [hmL]; decide) rfl rfl ?_
  refine J_sub [1, 2, 0] rfl ?_
  exact w_X4_addAll_b2 hfl O hKP hmL hE h0 h1 FU _ _ h
theorem c_X4_addAll {l : Launch} (hfl : l.stackTraces = false) {E : EE} {κ κ' : K} {f0 : Nat} {i0 : Nat} {c0 : Nat} {f1 : Nat} {i1 : Nat} {c1 : Nat} (h0 : PC 5 E f0 i0 c0) (h1 : PC 5 E f1 i1 c1) {rr : Unit} (h : f_X4_addAll E κ f0 i0 c0 f1 i1 c1 = some (κ', rr)) : Con l yX4_addAll cX4_addAll 3 none 4 143 [.inr (some (f0, i0, c0)), .inr (some (f1, i1, c1))] (E, κ) (E, κ') none := by
  exact Con_of hfl (by decide +kernel) (Nat.le_of_ble_eq_true rfl) rfl rfl (fun X B g O hKP hmL hE => w_X4_addAll hfl O hKP hmL hE h0 h1 _ h)
def f_X4_takeFirst (E : EE) (κ : K) (f0 : Nat) (i0 : Nat) (c0 : Nat) : Option (K × Int32) := if kV κ f0 i0 c0 1 = 0 then some (κ, 0) else gd (¬ ((0 : Int32) < 0 ∨ kN κ f0 i0 (c0 + 1) ≤ (0 : Int32).toNatClampNeg)) (nm ((kV κ f0 i0 (c0 + 1)) (0 : Int32).toNatClampNeg) fun y3 => nm (setV κ f0 i0 c0 1 ((kV κ f0 i0 c0 1) - 1)) fun κ4 => gd (¬ (1 : Int32) < 0 ∧ ¬ (0 : Int32) < 0 ∧ ¬ (kV κ4 f0 i0 c0 1) < 0 ∧ (1 : Int32).toNatClampNeg + (kV κ4 f0 i0 c0 1).toNatClampNeg ≤ kN κ4 f0 i0 (c0 + 1) ∧ (0 : Int32).toNatClampNeg + (kV κ4 f0 i0 c0 1).toNatClampNeg ≤ kN κ4 f0 i0 (c0 + 1)) (nm (setA κ4 f0 i0 (c0 + 1) (va_cpy (kV κ4 f0 i0 (c0 + 1)) (kV κ4 f0 i0 (c0 + 1)) (1 : Int32).toNatClampNeg (0 : Int32).toNatClampNeg (kV κ4 f0 i0 c0 1).toNatClampNeg)) fun κ5 => some (κ5, y3)))
set_option maxHeartbeats 4000000 in
set_option maxRecDepth 100000 in
theorem w_X4_takeFirst {l0 : Launch} (hfl : l0.stackTraces = false) {X : MX} {B : BX (EE × K)} {g : GP} {E : EE} {κ' : K} {rr : Int32} {f0 : Nat} {i0 : Nat} {c0 : Nat} (O : CK l0 X B g cX4_takeFirst RX4 2 100) (hKP : KPok B E) (hmL : B.2.2.2.1 = 2) (hE : ∀ (pc : Nat) (lv : List (Nat × AV)), decode cX4_takeFirst pc = .ok (.ireturn, 1) → J X B (E, κ') pc lv [.inl (.int rr)]) (h0 : PC 5 E f0 i0 c0) : ∀ (κ : K), f_X4_takeFirst E κ f0 i0 c0 = some (κ', rr) → J X B (E, κ) 0 [(0, .inr (some (f0, i0, c0)))] [] := by
  intro κ h
  unfold f_X4_takeFirst at h
  refine J_aload_n O.mo dX4_takeFirst_0 0 rfl ?_
  refine J_getF O.co (kd0 := 5) (k5_0 h0) (l5_0 h0) (C := RX4) (T := TX4) (N := 2) rfl (by decide) rfl in_X4 1 (by decide) (v := .inl (.int (kV κ f0 i0 c0 1))) rfl mw47 rfl dX4_takeFirst_1 ?_
  refine J_if_ne O.mo (tgt := 9) dX4_takeFirst_4 (by decide) (fun hc1 => ?_) (fun hc1 => ?_)
  · replace h := (if_neg hc1).symm.trans h
    refine J_aload_n O.mo dX4_takeFirst_9 0 rfl ?_
    refine J_getF O.co (kd0 := 5) (k5_0 h0) (l5_0 h0) (C := RX4) (T := TX4) (N := 2) rfl (by decide) rfl in_X4 0 (by decide) (v := .inr (some (f0, i0, c0 + 1))) rfl mw48 rfl dX4_takeFirst_10 ?_
    refine J_iconst O.mo (v := 0) dX4_takeFirst_13 (by decide) ?_
    obtain ⟨hg2, h⟩ := gd_some h
    refine J_iald O.co (g := (kV κ f0 i0 (c0 + 1))) (fun ad => ct_21 (l5_1 h0) (k5_1 h0) ad) hg2 dX4_takeFirst_14 ?_
    refine J_istore_n O.mo (lv' := [(0, .inr (some (f0, i0, c0)))]) dX4_takeFirst_15 (by rw [hmL]; decide) rfl rfl ?_
    refine nm_some (P := fun z => J X B (E, κ) 16 [(1, .inl (.int z)), (0, .inr (some (f0, i0, c0)))] []) h (fun y3 h => ?_)
    refine J_aload_n O.mo dX4_takeFirst_16 1 rfl ?_
    refine J_dup O.mo dX4_takeFirst_17 rfl ?_
    refine J_getF O.co (kd0 := 5) (k5_0 h0) (l5_0 h0) (C := RX4) (T := TX4) (N := 2) rfl (by decide) rfl in_X4 1 (by decide) (v := .inl (.int (kV κ f0 i0 c0 1))) rfl mw47 rfl dX4_takeFirst_18 ?_
    refine J_iconst O.mo (v := 1) dX4_takeFirst_21 (by decide) ?_
    refine J_isub O.mo dX4_takeFirst_22 ?_
    refine J_putI O.co (kd0 := 5) (k5_0 h0) (l5_0 h0) (C := RX4) (T := TX4) (N := 2) rfl (by decide) rfl in_X4 tyX4 tyX4_ok nmX4 1 (by decide) rfl rfl (x := ((kV κ f0 i0 c0 1) - 1)) (Or.inl rfl) mw47 dX4_takeFirst_23 ?_
    refine nm_some (P := fun z => J X B (E, z) 26 [(1, .inl (.int y3)), (0, .inr (some (f0, i0, c0)))] []) h (fun κ4 h => ?_)
    refine J_aload_n O.mo dX4_takeFirst_26 1 rfl ?_
    refine J_getF O.co (kd0 := 5) (k5_0 h0) (l5_0 h0) (C := RX4) (T := TX4) (N := 2) rfl (by decide) rfl in_X4 0 (by decide) (v := .inr (some (f0, i0, c0 + 1))) rfl mw48 rfl dX4_takeFirst_27 ?_
    refine J_iconst O.mo (v := 1) dX4_takeFirst_30 (by decide) ?_
    refine J_aload_n O.mo dX4_takeFirst_31 1 rfl ?_
    refine J_getF O.co (kd0 := 5) (k5_0 h0) (l5_0 h0) (C := RX4) (T := TX4) (N := 2) rfl (by decide) rfl in_X4 0 (by decide) (v := .inr (some (f0, i0, c0 + 1))) rfl mw48 rfl dX4_takeFirst_32 ?_
    refine J_iconst O.mo (v := 0) dX4_takeFirst_35 (by decide) ?_
    refine J_aload_n O.mo dX4_takeFirst_36 1 rfl ?_
    refine J_getF O.co (kd0 := 5) (k5_0 h0) (l5_0 h0) (C := RX4) (T := TX4) (N := 2) rfl (by decide) rfl in_X4 1 (by decide) (v := .inl (.int (kV κ4 f0 i0 c0 1))) rfl mw47 rfl dX4_takeFirst_37 ?_
    refine J_sub [0] rfl ?_
    obtain ⟨hg6, h⟩ := gd_some h
    refine J_acopy O (f0 := (kV κ4 f0 i0 (c0 + 1))) (fun ad => ct_21 (l5_1 h0) (k5_1 h0) ad) (fun κ2 ad => if hz : kN κ2 f0 i0 (c0 + 1) = kN κ4 f0 i0 (c0 + 1) then Or.inl (by rw [← hz]; exact ct_21 (l5_1 h0) (k5_1 h0) ad) else Or.inr hz) rfl hg6.1 hg6.2.1 hg6.2.2.1 hg6.2.2.2.1 hg6.2.2.2.2 mw58 mw29 mw30 mw31 (by decide) (Nat.le_of_ble_eq_true rfl) rfl dX4_takeFirst_40 ?_
    refine nm_some (P := fun z => J X B (E, z) 43 [(1, .inl (.int y3))] []) h (fun κ5 h => ?_)
    refine J_iload_n O.mo dX4_takeFirst_43 0 rfl ?_
    cases h
    exact hE _ _ dX4_takeFirst_44
  · replace h := (if_pos hc1).symm.trans h
    refine J_iconst O.mo (v := 0) dX4_takeFirst_7 (by decide) ?_
    cases h
    exact hE _ _ dX4_takeFirst_8
theorem c_X4_takeFirst {l : Launch} (hfl : l.stackTraces = false) {E : EE} {κ κ' : K} {f0 : Nat} {i0 : Nat} {c0 : Nat} (h0 : PC 5 E f0 i0 c0) {rr : Int32} (h : f_X4_takeFirst E κ f0 i0 c0 = some (κ', rr)) : Con l yX4_takeFirst cX4_takeFirst 2 (some .int) 2 100 [.inr (some (f0, i0, c0))] (E, κ) (E, κ') (some (.inl (.int rr))) := by
  exact Con_of hfl (by decide +kernel) (Nat.le_of_ble_eq_true rfl) rfl ⟨_, rfl, rfl⟩ (fun X B g O hKP hmL hE => w_X4_takeFirst hfl O hKP hmL hE h0 _ h)
def f_X4_copyFrom_b23 (E : EE) (f0 : Nat) (i0 : Nat) (c0 : Nat) (f1 : Nat) (i1 : Nat) (c1 : Nat) (κ : K) : Option (K × Unit) := gd (¬ (0 : Int32) < 0 ∧ ¬ (0 : Int32) < 0 ∧ ¬ (kV κ f1 i1 c1 1) < 0 ∧ (0 : Int32).toNatClampNeg + (kV κ f1 i1 c1 1).toNatClampNeg ≤ kN κ f1 i1 (c1 + 1) ∧ (0 : Int32).toNatClampNeg + (kV κ f1 i1 c1 1).toNatClampNeg ≤ kN κ f0 i0 (c0 + 1)) (nm (setA κ f0 i0 (c0 + 1) (va_cpy (kV κ f1 i1 (c1 + 1)) (kV κ f0 i0 (c0 + 1)) (0 : Int32).toNatClampNeg (0 : Int32).toNatClampNeg (kV κ f1 i1 c1 1).toNatClampNeg)) fun κ2 => nm (setV κ2 f0 i0 c0 1 (kV κ2 f1 i1 c1 1)) fun κ4 => some (κ4, ()))
def f_X4_copyFrom (E : EE) (κ : K) (f0 : Nat) (i0 : Nat) (c0 : Nat) (f1 : Nat) (i1 : Nat) (c1 : Nat) : Option (K × Unit) := if kV κ f1 i1 c1 1 ≤ nI (kN κ f0 i0 (c0 + 1)) then f_X4_copyFrom_b23 E f0 i0 c0 f1 i1 c1 κ else gd (¬ nI (kN κ f1 i1 (c1 + 1)) < 0 ∧ (nI (kN κ f1 i1 (c1 + 1))).toNatClampNeg ≤ 100000000) (nm (addC (setT κ (some ((nI (kN κ f1 i1 (c1 + 1))).toNatClampNeg, fun _ => 0))) 1 (nI (kN κ f1 i1 (c1 + 1))).toNatClampNeg) fun κ6 => tmpG (kT κ6) fun n8 ar9 => nm (setRow κ6 f0 i0 c0 n8 ar9) fun κ7 => f_X4_copyFrom_b23 E f0 i0 c0 f1 i1 c1 κ7)
set_option maxHeartbeats 4000000 in
set_option maxRecDepth 100000 in
theorem w_X4_copyFrom_b23 {l0 : Launch} (hfl : l0.stackTraces = false) {X : MX} {B : BX (EE × K)} {g : GP} {E : EE} {κ' : K} {rr : Unit} {f0 : Nat} {i0 : Nat} {c0 : Nat} {f1 : Nat} {i1 : Nat} {c1 : Nat} (O : CK l0 X B g cX4_copyFrom RX4 2 100) (hKP : KPok B E) (hmL : B.2.2.2.1 = 2) (hE : ∀ (pc : Nat) (lv : List (Nat × AV)), decode cX4_copyFrom pc = .ok (.return_, 1) → J X B (E, κ') pc lv []) (h0 : PC 5 E f0 i0 c0) (h1 : PC 5 E f1 i1 c1) : ∀ (κ : K), f_X4_copyFrom_b23 E f0 i0 c0 f1 i1 c1 κ = some (κ', rr) → J X B (E, κ) 23 [(0, .inr (some (f0, i0, c0))), (1, .inr (some (f1, i1, c1)))] [] := by
  intro κ h
  unfold f_X4_copyFrom_b23 at h
  refine J_aload_n O.mo dX4_copyFrom_23 1 rfl ?_
  refine J_getF O.co (kd0 := 5) (k5_0 h1) (l5_0 h1) (C := RX4) (T := TX4) (N := 2) rfl (by decide) rfl in_X4 0 (by decide) (v := .inr (some (f1, i1, c1 + 1))) rfl mw48 rfl dX4_copyFrom_24 ?_
  refine J_iconst O.mo (v := 0) dX4_copyFrom_27 (by decide) ?_
  refine J_aload_n O.mo dX4_copyFrom_28 0 rfl ?_
  refine J_getF O.co (kd0 := 5) (k5_0 h0) (l5_0 h0) (C := RX4) (T := TX4) (N := 2) rfl (by decide) rfl in_X4 0 (by decide) (v := .inr (some (f0, i0, c0 + 1))) rfl mw48 rfl dX4_copyFrom_29 ?_
  refine J_iconst O.mo (v := 0) dX4_copyFrom_32 (by decide) ?_
  refine J_aload_n O.mo dX4_copyFrom_33 1 rfl ?_
  refine J_getF O.co (kd0 := 5) (k5_0 h1) (l5_0 h1) (C := RX4) (T := TX4) (N := 2) rfl (by decide) rfl in_X4 1 (by decide) (v := .inl (.int (kV κ f1 i1 c1 1))) rfl mw47 rfl dX4_copyFrom_34 ?_
  obtain ⟨hg3, h⟩ := gd_some h
  refine J_acopy O (f0 := (kV κ f1 i1 (c1 + 1))) (fun ad => ct_21 (l5_1 h1) (k5_1 h1) ad) (fun κ2 ad => if hz : kN κ2 f0 i0 (c0 + 1) = kN κ f0 i0 (c0 + 1) then Or.inl (by rw [← hz]; exact ct_21 (l5_1 h0) (k5_1 h0) ad) else Or.inr hz) rfl hg3.1 hg3.2.1 hg3.2.2.1 hg3.2.2.2.1 hg3.2.2.2.2 mw58 mw29 mw30 mw31 (by decide) (Nat.le_of_ble_eq_true rfl) rfl dX4_copyFrom_37 ?_
  refine nm_some (P := fun z => J X B (E, z) 40 [(0, .inr (some (f0, i0, c0))), (1, .inr (some (f1, i1, c1)))] []) h (fun κ2 h => ?_)
  refine J_aload_n O.mo dX4_copyFrom_40 0 rfl ?_
  refine J_aload_n O.mo dX4_copyFrom_41 1 rfl ?_
  refine J_getF O.co (kd0 := 5) (k5_0 h1) (l5_0 h1) (C := RX4) (T := TX4) (N := 2) rfl (by decide) rfl in_X4 1 (by decide) (v := .inl (.int (kV κ2 f1 i1 c1 1))) rfl mw47 rfl dX4_copyFrom_42 ?_
  refine J_putI O.co (kd0 := 5) (k5_0 h0) (l5_0 h0) (C := RX4) (T := TX4) (N := 2) rfl (by decide) rfl in_X4 tyX4 tyX4_ok nmX4 1 (by decide) rfl rfl (x := (kV κ2 f1 i1 c1 1)) (Or.inl rfl) mw47 dX4_copyFrom_45 ?_
  refine nm_some (P := fun z => J X B (E, z) 48 [(0, .inr (some (f0, i0, c0))), (1, .inr (some (f1, i1, c1)))] []) h (fun κ4 h => ?_)
  cases h
  exact hE _ _ dX4_copyFrom_48
set_option maxHeartbeats 4000000 in
set_option maxRecDepth 100000 in
theorem w_X4_copyFrom {l0 : Launch} (hfl : l0.stackTraces = false) {X : MX} {B : BX (EE × K)} {g : GP} {E : EE} {κ' : K} {rr : Unit} {f0 : Nat} {i0 : Nat} {c0 : Nat} {f1 : Nat} {i1 : Nat} {c1 : Nat} (O : CK l0 X B g cX4_copyFrom RX4 2 100) (hKP : KPok B E) (hmL : B.2.2.2.1 = 2) (hE : ∀ (pc : Nat) (lv : List (Nat × AV)), decode cX4_copyFrom pc = .ok (.return_, 1) → J X B (E, κ') pc lv []) (h0 : PC 5 E f0 i0 c0) (h1 : PC 5 E f1 i1 c1) : ∀ (κ : K), f_X4_copyFrom E κ f0 i0 c0 f1 i1 c1 = some (κ', rr) → J X B (E, κ) 0 [(0, .inr (some (f0, i0, c0))), (1, .inr (some (f1, i1, c1)))] [] := by
  intro κ h
  unfold f_X4_copyFrom at h
  refine J_aload_n O.mo dX4_copyFrom_0 0 rfl ?_
  refine J_getF O.co (kd0 := 5) (k5_0 h0) (l5_0 h0) (C := RX4) (T := TX4) (N := 2) rfl (by decide) rfl in_X4 0 (by decide) (v := .inr (some (f0, i0, c0 + 1))) rfl mw48 rfl dX4_copyFrom_1 ?_
  refine J_alen O.co (g := (kV κ f0 i0 (c0 + 1))) (fun ad => ct_21 (l5_1 h0) (k5_1 h0) ad) dX4_copyFrom_4 ?_
  refine J_aload_n O.mo dX4_copyFrom_5 1 rfl ?_
  refine J_getF O.co (kd0 := 5) (k5_0 h1) (l5_0 h1) (C := RX4) (T := TX4) (N := 2) rfl (by decide) rfl in_X4 1 (by decide) (v := .inl (.int (kV κ f1 i1 c1 1))) rfl mw47 rfl dX4_copyFrom_6 ?_
  refine J_icmp_ge O.mo (tgt := 23) dX4_copyFrom_9 (by decide) (fun hc1 => ?_) (fun hc1 => ?_)
  · replace h := (if_pos hc1).symm.trans h
    exact w_X4_copyFrom_b23 hfl O hKP hmL hE h0 h1 _ h
  · replace h := (if_neg hc1).symm.trans h
    refine J_aload_n O.mo dX4_copyFrom_12 0 rfl ?_
    refine J_aload_n O.mo dX4_copyFrom_13 1 rfl ?_
    refine J_getF O.co (kd0 := 5) (k5_0 h1) (l5_0 h1) (C := RX4) (T := TX4) (N := 2) rfl (by decide) rfl in_X4 0 (by decide) (v := .inr (some (f1, i1, c1 + 1))) rfl mw48 rfl dX4_copyFrom_14 ?_
    refine J_alen O.co (g := (kV κ f1 i1 (c1 + 1))) (fun ad => ct_21 (l5_1 h1) (k5_1 h1) ad) dX4_copyFrom_17 ?_
    obtain ⟨hg5, h⟩ := gd_some h
    refine J_newarr7 O hKP (n := (nI (kN κ f1 i1 (c1 + 1)))) mw_arrI hg5.1 hg5.2 (u7_p (l5_0 h0) (u7_p (l5_0 h1) u7_0)) (t7_p (l5_0 h0) t7_0) dX4_copyFrom_18 ?_
    refine nm_some (P := fun z => J X B (E, z) 20 [(0, .inr (some (f0, i0, c0))), (1, .inr (some (f1, i1, c1)))] [.inr (some (7, 0, 0)), .inr (some (f0, i0, c0))]) h (fun κ6 h => ?_)
    obtain ⟨n8, ar9, ht10, h⟩ := tmpG_some h
    refine J_putRow O hKP (k5_0 h0) (k5_1 h0) (l5_0 h0) (l5_1 h0) in_X4 mw48 ht10 (sl_p (s5_0 h0) (sl_p (s5_0 h1) sl_0)) st_0 dX4_copyFrom_20 ?_
    refine nm_some (P := fun z => J X B (E, z) 23 [(0, .inr (some (f0, i0, c0))), (1, .inr (some (f1, i1, c1)))] []) h (fun κ7 h => ?_)
    exact w_X4_copyFrom_b23 hfl O hKP hmL hE h0 h1 _ h
theorem c_X4_copyFrom {l : Launch} (hfl : l.stackTraces = false) {E : EE} {κ κ' : K} {f0 : Nat} {i0 : Nat} {c0 : Nat} {f1 : Nat} {i1 : Nat} {c1 : Nat} (h0 : PC 5 E f0 i0 c0) (h1 : PC 5 E f1 i1 c1) {rr : Unit} (h : f_X4_copyFrom E κ f0 i0 c0 f1 i1 c1 = some (κ', rr)) : Con l yX4_copyFrom cX4_copyFrom 2 none 2 100 [.inr (some (f0, i0, c0)), .inr (some (f1, i1, c1))] (E, κ) (E, κ') none := by
  exact Con_of hfl (by decide +kernel) (Nat.le_of_ble_eq_true rfl) rfl rfl (fun X B g O hKP hmL hE => w_X4_copyFrom hfl O hKP hmL hE h0 h1 _ h)
def f_X5_append (E : EE) (κ : K) (a0 : Nat) (a1 : Int32) (a2 : Int32) (a3 : Int32) : Option (K × Int32) := if kV κ 0 a0 1 3 < 24 then gd (¬ ((kV κ 0 a0 1 3) < 0 ∨ 24 ≤ (kV κ 0 a0 1 3).toNatClampNeg)) (nm (setV κ 0 a0 2 (kV κ 0 a0 1 3).toNatClampNeg a1) fun κ3 => gd (¬ ((kV κ3 0 a0 1 3) < 0 ∨ 24 ≤ (kV κ3 0 a0 1 3).toNatClampNeg)) (nm (setV κ3 0 a0 3 (kV κ3 0 a0 1 3).toNatClampNeg a2) fun κ5 => gd (¬ ((kV κ5 0 a0 1 3) < 0 ∨ 24 ≤ (kV κ5 0 a0 1 3).toNatClampNeg)) (nm (setV κ5 0 a0 4 (kV κ5 0 a0 1 3).toNatClampNeg a3) fun κ7 => nm (setV κ7 0 a0 1 3 ((kV κ7 0 a0 1 3) + 1)) fun κ8 => some (κ8, (kV κ8 0 a0 1 3) - 1)))) else some (κ, (-1))
set_option maxHeartbeats 4000000 in
set_option maxRecDepth 100000 in
theorem w_X5_append {l0 : Launch} (hfl : l0.stackTraces = false) {X : MX} {B : BX (EE × K)} {g : GP} {E : EE} {κ' : K} {rr : Int32} {a0 : Nat} (O : CK l0 X B g cX5_append RX5 1 0) (hKP : KPok B E) (hmL : B.2.2.2.1 = 4) (hE : ∀ (pc : Nat) (lv : List (Nat × AV)), decode cX5_append pc = .ok (.ireturn, 1) → J X B (E, κ') pc lv [.inl (.int rr)]) (h0 : PC 6 E 0 a0 1) : ∀ (κ : K) (a1 : Int32) (a2 : Int32) (a3 : Int32), f_X5_append E κ a0 a1 a2 a3 = some (κ', rr) → J X B (E, κ) 0 [(0, .inr (some (0, a0, 1))), (1, .inl (.int a1)), (2, .inl (.int a2)), (3, .inl (.int a3))] [] := by
  intro κ a1 a2 a3 h
  unfold f_X5_append at h
  refine J_aload_n O.mo dX5_append_0 0 rfl ?_
  refine J_getF O.co (kd0 := 6) (k6_0 h0) (l6_0 h0) (C := RX5) (T := TX5) (N := 4) rfl (by decide) rfl in_X5 3 (by decide) (v := .inl (.int (kV κ 0 a0 1 3))) rfl mw59 rfl dX5_append_1 ?_
  refine J_bipush O.mo (v := 24) dX5_append_4 (by decide) ?_
  refine J_icmp_lt O.mo (tgt := 11) dX5_append_6 (by decide) (fun hc1 => ?_) (fun hc1 => ?_)
  · replace h := (if_pos hc1).symm.trans h
    refine J_aload_n O.mo dX5_append_11 0 rfl ?_
    refine J_getF O.co (kd0 := 6) (k6_0 h0) (l6_0 h0) (C := RX5) (T := TX5) (N := 4) rfl (by decide) rfl in_X5 0 (by decide) (v := .inr (some (0, a0, 2))) rfl mw60 rfl dX5_append_12 ?_
    refine J_aload_n O.mo dX5_append_15 0 rfl ?_
    refine J_getF O.co (kd0 := 6) (k6_0 h0) (l6_0 h0) (C := RX5) (T := TX5) (N := 4) rfl (by decide) rfl in_X5 3 (by decide) (v := .inl (.int (kV κ 0 a0 1 3))) rfl mw59 rfl dX5_append_16 ?_
    refine J_iload_n O.mo dX5_append_19 1 rfl ?_
    obtain ⟨hg2, h⟩ := gd_some h
    refine row_20 O (l6_1 h0) (k6_1 h0) (n6_1 h0) hg2 (x := a1) dX5_append_20 ?_
    refine nm_some (P := fun z => J X B (E, z) 21 [(0, .inr (some (0, a0, 1))), (1, .inl (.int a1)), (2, .inl (.int a2)), (3, .inl (.int a3))] []) h (fun κ3 h => ?_)
    refine J_aload_n O.mo dX5_append_21 0 rfl ?_
    refine J_getF O.co (kd0 := 6) (k6_0 h0) (l6_0 h0) (C := RX5) (T := TX5) (N := 4) rfl (by decide) rfl in_X5 1 (by decide) (v := .inr (some (0, a0, 3))) rfl mw61 rfl dX5_append_22 ?_
    refine J_aload_n O.mo dX5_append_25 0 rfl ?_
    refine J_getF O.co (kd0 := 6) (k6_0 h0) (l6_0 h0) (C := RX5) (T := TX5) (N := 4) rfl (by decide) rfl in_X5 3 (by decide) (v := .inl (.int (kV κ3 0 a0 1 3))) rfl mw59 rfl dX5_append_26 ?_
    refine J_iload_n O.mo dX5_append_29 2 rfl ?_
    obtain ⟨hg4, h⟩ := gd_some h
    refine row_20 O (l6_2 h0) (k6_2 h0) (n6_2 h0) hg4 (x := a2) dX5_append_30 ?_
    refine nm_some (P := fun z => J X B (E, z) 31 [(0, .inr (some (0, a0, 1))), (1, .inl (.int a1)), (2, .inl (.int a2)), (3, .inl (.int a3))] []) h (fun κ5 h => ?_)
    refine J_aload_n O.mo dX5_append_31 0 rfl ?_
    refine J_getF O.co (kd0 := 6) (k6_0 h0) (l6_0 h0) (C := RX5) (T := TX5) (N := 4) rfl (by decide) rfl in_X5 2 (by decide) (v := .inr (some (0, a0, 4))) rfl mw62 rfl dX5_append_32 ?_
    refine J_aload_n O.mo dX5_append_35 0 rfl ?_
    refine J_getF O.co (kd0 := 6) (k6_0 h0) (l6_0 h0) (C := RX5) (T := TX5) (N := 4) rfl (by decide) rfl in_X5 3 (by decide) (v := .inl (.int (kV κ5 0 a0 1 3))) rfl mw59 rfl dX5_append_36 ?_
    refine J_iload_n O.mo dX5_append_39 3 rfl ?_
    obtain ⟨hg6, h⟩ := gd_some h
    refine row_20 O (l6_3 h0) (k6_3 h0) (n6_3 h0) hg6 (x := a3) dX5_append_40 ?_
    refine nm_some (P := fun z => J X B (E, z) 41 [(0, .inr (some (0, a0, 1))), (1, .inl (.int a1)), (2, .inl (.int a2)), (3, .inl (.int a3))] []) h (fun κ7 h => ?_)
    refine J_aload_n O.mo dX5_append_41 0 rfl ?_
    refine J_dup O.mo dX5_append_42 rfl ?_
    refine J_getF O.co (kd0 := 6) (k6_0 h0) (l6_0 h0) (C := RX5) (T := TX5) (N := 4) rfl (by decide) rfl in_X5 3 (by decide) (v := .inl (.int (kV κ7 0 a0 1 3))) rfl mw59 rfl dX5_append_43 ?_
    refine J_iconst O.mo (v := 1) dX5_append_46 (by decide) ?_
    refine J_iadd O.mo dX5_append_47 ?_
    refine J_putI O.co (kd0 := 6) (k6_0 h0) (l6_0 h0) (C := RX5) (T := TX5) (N := 4) rfl (by decide) rfl in_X5 tyX5 tyX5_ok nmX5 3 (by decide) rfl rfl (x := ((kV κ7 0 a0 1 3) + 1)) (Or.inl rfl) mw59 dX5_append_48 ?_
    refine nm_some (P := fun z => J X B (E, z) 51 [(0, .inr (some (0, a0, 1))), (1, .inl (.int a1)), (2, .inl (.int a2)), (3, .inl (.int a3))] []) h (fun κ8 h => ?_)
    refine J_aload_n O.mo dX5_append_51 0 rfl ?_
    refine J_getF O.co (kd0 := 6) (k6_0 h0) (l6_0 h0) (C := RX5) (T := TX5) (N := 4) rfl (by decide) rfl in_X5 3 (by decide) (v := .inl (.int (kV κ8 0 a0 1 3))) rfl mw59 rfl dX5_append_52 ?_
    refine J_iconst O.mo (v := 1) dX5_append_55 (by decide) ?_
    refine J_isub O.mo dX5_append_56 ?_
    cases h
    exact hE _ _ dX5_append_57
  · replace h := (if_neg hc1).symm.trans h
    refine J_iconst O.mo (v := (-1)) dX5_append_9 (by decide) ?_
    cases h
    exact hE _ _ dX5_append_10
theorem c_X5_append {l : Launch} (hfl : l.stackTraces = false) {E : EE} {κ κ' : K} {a0 : Nat} {a1 : Int32} {a2 : Int32} {a3 : Int32} (h0 : PC 6 E 0 a0 1) {rr : Int32} (h : f_X5_append E κ a0 a1 a2 a3 = some (κ', rr)) : Con l yX5_append cX5_append 4 (some .int) 1 0 [.inr (some (0, a0, 1)), .inl (.int a1), .inl (.int a2), .inl (.int a3)] (E, κ) (E, κ') (some (.inl (.int rr))) := by
  exact Con_of hfl (by decide +kernel) (Nat.le_of_ble_eq_true rfl) rfl ⟨_, rfl, rfl⟩ (fun X B g O hKP hmL hE => w_X5_append hfl O hKP hmL hE h0 _ _ _ _ h)
