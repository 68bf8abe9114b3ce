theorem k7_1 {E : EE} {f i c : Nat} (h : PC 7 E f i c) : kd f (c + 1) = 4 := PC_kd h 1 (by decide)
theorem l7_1 {E : EE} {f i c : Nat} (h : PC 7 E f i c) : liveC E f i (c + 1) = true := PC_lv h 1 (by decide) (by decide)
theorem s7_1 {E : EE} {f i c : Nat} (h : PC 7 E f i c) : Stab E (.inr (some (f, i, c + 1))) := PC_st h 1 (by decide) (by decide) (by decide)
theorem k9_12 {E : EE} {f i c : Nat} (h : PC 9 E f i c) : kd f (c + 12) = 21 := PC_kd h 12 (by decide)
theorem l9_12 {E : EE} {f i c : Nat} (h : PC 9 E f i c) : liveC E f i (c + 12) = true := PC_lv h 12 (by decide) (by decide)
theorem sub_7_1_4 {E : EE} {f i c : Nat} (h : PC 7 E f i c) : PC 4 E f i (c + 1) := PC_sub h 4 1 (by decide +kernel)
set_option maxRecDepth 100000 in
theorem mw314 : Cond.fieldLink RX6 26 "GuestHall$State" "steps" "I" ∈ gwl := gwl_tb 365 rfl rfl
set_option maxRecDepth 100000 in
theorem mw315 : Cond.fieldLink RX6 36 "GuestHall$State" "interrupts" "LGuestHall$Numbers;" ∈ gwl := gwl_tb 364 rfl rfl
set_option maxRecDepth 100000 in
theorem mw316 : Cond.fieldLink RX6 12 "GuestHall$Replay" "machine" "LGuestHall$Machine;" ∈ gwl := gwl_tb 1152 rfl rfl
set_option maxRecDepth 100000 in
theorem mw317 : Cond.fieldLink RX6 69 "GuestHall$State" "machine" "LGuestHall$Machine;" ∈ gwl := gwl_tb 352 rfl rfl
set_option maxRecDepth 100000 in
theorem mw318 : Cond.methodLinkNest RX3 113 yX10_areRowsAlike "GuestHall" ∈ nwl := nwl_tb 1179 rfl rfl
set_option maxRecDepth 100000 in
theorem mw319 : Cond.static yX10_areRowsAlike ∈ gwl := gwl_tb 1180 rfl rfl
set_option maxRecDepth 100000 in
theorem mw320 : Cond.initialized RX10 ∈ gwl := gwl_tb 1 rfl rfl
set_option maxRecDepth 100000 in
theorem mw321 : Cond.code yX10_areRowsAlike cX10_areRowsAlike 3 (some .boolean) ∈ gwl := gwl_tb 1181 rfl rfl
set_option maxRecDepth 100000 in
theorem mw322 : Cond.methodLink RX3 117 yX3_hasEnded ∈ gwl := gwl_tb 1182 rfl rfl
set_option maxRecDepth 100000 in
theorem mw323 : Cond.instanceMethod yX3_hasEnded ∈ gwl := gwl_tb 654 rfl rfl
set_option maxRecDepth 100000 in
theorem mw324 : Cond.selects RX3 yX3_hasEnded yX3_hasEnded ∈ gwl := gwl_tb 655 rfl rfl
set_option maxRecDepth 100000 in
theorem mw325 : Cond.code yX3_hasEnded cX3_hasEnded 1 (some .boolean) ∈ gwl := gwl_tb 656 rfl rfl
set_option maxRecDepth 100000 in
theorem mw326 : Cond.methodLink RX6 70 yX3_isAs ∈ gwl := gwl_tb 1175 rfl rfl
set_option maxRecDepth 100000 in
theorem mw327 : Cond.instanceMethod yX3_isAs ∈ gwl := gwl_tb 1176 rfl rfl
set_option maxRecDepth 100000 in
theorem mw328 : Cond.selects RX3 yX3_isAs yX3_isAs ∈ gwl := gwl_tb 1177 rfl rfl
set_option maxRecDepth 100000 in
theorem mw329 : Cond.code yX3_isAs cX3_isAs 2 (some .boolean) ∈ gwl := gwl_tb 1178 rfl rfl
set_option maxRecDepth 100000 in
theorem mw330 : Cond.methodLink RX6 32 yX3_hasEnded ∈ gwl := gwl_tb 1172 rfl rfl
set_option maxRecDepth 100000 in
theorem mw331 : Cond.methodLink RX6 53 yX3_doNext ∈ gwl := gwl_tb 1174 rfl rfl
set_option maxRecDepth 100000 in
theorem mw332 : Cond.methodLink RX6 49 yX3_enterHandler ∈ gwl := gwl_tb 1173 rfl rfl
theorem pd_X10_areRowsAlike : (yX10_areRowsAlike).cls ≠ "java/lang/invoke/MethodHandle" ∧ (yX10_areRowsAlike).cls ≠ "java/lang/invoke/VarHandle" ∧ (parseMethodDescriptor (yX10_areRowsAlike).desc).map (fun d => d.parameters.length) = some 2 := ⟨by decide +kernel, by decide +kernel, by decide +kernel⟩
theorem pd_X3_hasEnded : (yX3_hasEnded).cls ≠ "java/lang/invoke/MethodHandle" ∧ (yX3_hasEnded).cls ≠ "java/lang/invoke/VarHandle" ∧ (parseMethodDescriptor (yX3_hasEnded).desc).map (fun d => d.parameters.length) = some 0 := ⟨by decide +kernel, by decide +kernel, by decide +kernel⟩
theorem pd_X3_isAs : (yX3_isAs).cls ≠ "java/lang/invoke/MethodHandle" ∧ (yX3_isAs).cls ≠ "java/lang/invoke/VarHandle" ∧ (parseMethodDescriptor (yX3_isAs).desc).map (fun d => d.parameters.length) = some 1 := ⟨by decide +kernel, by decide +kernel, by decide +kernel⟩
def f_X10_areRowsAlike_b11 (E : EE) (a0 : Pl) (a1 : Pl) : Nat → K → Int32 → Option (K × Int32)
  | 0, _, _ => none
  | n + 1, κ, x2 => tmpG (kA E κ a0) fun n8 ar9 => if nI n8 ≤ x2 then some (κ, 1) else tmpG (kA E κ a0) fun n13 ar14 => gd (¬ (x2 < 0 ∨ n13 ≤ x2.toNatClampNeg)) (tmpG (kA E κ a1) fun n17 ar18 => gd (¬ (x2 < 0 ∨ n17 ≤ x2.toNatClampNeg)) (if ar14 x2.toNatClampNeg = ar18 x2.toNatClampNeg then nm (x2 + 1) fun y21 => f_X10_areRowsAlike_b11 E a0 a1 n κ y21 else some (κ, 0)))
def f_X10_areRowsAlike_e (E : EE) (κ : K) (a0 : Pl) (a1 : Pl) : Option (K × Int32) := tmpG (kA E κ a0) fun n1 ar2 => tmpG (kA E κ a1) fun n4 ar5 => if nI n1 = nI n4 then f_X10_areRowsAlike_b11 E a0 a1 FU κ 0 else some (κ, 0)
def f_X10_areRowsAlike (E : EE) (κ : K) (a0 : Pl) (a1 : Pl) : Option (K × Int32) := bd (f_X10_areRowsAlike_e E κ a0 a1) fun κ x => gd (x = 0 ∨ x = 1) (some (κ, x))
set_option maxHeartbeats 4000000 in
set_option maxRecDepth 100000 in
theorem w_X10_areRowsAlike_b11 {l0 : Launch} (hfl : l0.stackTraces = false) {X : MX} {B : BX (EE × K)} {g : GP} {E : EE} {κ' : K} {rr : Int32} {a0 : Pl} {a1 : Pl} (O : CK l0 X B g cX10_areRowsAlike RX10 1 0) (hKP : KPok B E) (hmL : B.2.2.2.1 = 3) (hE : ∀ (pc : Nat) (lv : List (Nat × AV)), decode cX10_areRowsAlike pc = .ok (.ireturn, 1) → J X B (E, κ') pc lv [.inl (.int rr)]) : ∀ (n : Nat) (κ : K) (x2 : Int32), f_X10_areRowsAlike_b11 E a0 a1 n κ x2 = some (κ', rr) → J X B (E, κ) 11 [(0, .inr (some a0)), (1, .inr (some a1)), (2, .inl (.int x2))] [] := by
  intro n
  induction n with
  | zero => intro κ x2 h; cases h
  | succ n ih =>
    intro κ x2 h
    rw [f_X10_areRowsAlike_b11] at h
    refine J_iload_n O.mo dX10_areRowsAlike_11 2 rfl ?_
    refine J_aload_n O.mo dX10_areRowsAlike_12 0 rfl ?_
    obtain ⟨n8, ar9, hA10, h⟩ := tmpG_some h
    refine J_alen O.co (g := ar9) (ct_A hA10) dX10_areRowsAlike_13 ?_
    refine J_icmp_ge O.mo (tgt := 34) dX10_areRowsAlike_14 (by decide) (fun hc11 => ?_) (fun hc11 => ?_)
    · replace h := (if_pos hc11).symm.trans h
      refine J_iconst O.mo (v := 1) dX10_areRowsAlike_34 (by decide) ?_
      cases h
      exact hE _ _ dX10_areRowsAlike_35
    · replace h := (if_neg hc11).symm.trans h
      refine J_aload_n O.mo dX10_areRowsAlike_17 0 rfl ?_
      refine J_iload_n O.mo dX10_areRowsAlike_18 2 rfl ?_
      obtain ⟨n13, ar14, hA15, h⟩ := tmpG_some h
      obtain ⟨hg12, h⟩ := gd_some h
      refine J_iald O.co (g := ar14) (ct_A hA15) hg12 dX10_areRowsAlike_19 ?_
      refine J_aload_n O.mo dX10_areRowsAlike_20 1 rfl ?_
      refine J_iload_n O.mo dX10_areRowsAlike_21 2 rfl ?_
      obtain ⟨n17, ar18, hA19, h⟩ := tmpG_some h
      obtain ⟨hg16, h⟩ := gd_some h
      refine J_iald O.co (g := ar18) (ct_A hA19) hg16 dX10_areRowsAlike_22 ?_
      refine J_icmp_eq O.mo (tgt := 28) dX10_areRowsAlike_23 (by decide) (fun hc20 => ?_) (fun hc20 => ?_)
      · replace h := (if_pos hc20).symm.trans h
        refine J_iinc O.mo (v := x2 + 1) (lv' := [(0, .inr (some a0)), (1, .inr (some a1))]) dX10_areRowsAlike_28 (by rw [hmL]; decide) 2 rfl (by rw [show Int32.ofInt (1) = (1 : Int32) from by decide]) rfl rfl ?_
        refine nm_some (P := fun z => J X B (E, κ) 31 [(2, .inl (.int z)), (0, .inr (some a0)), (1, .inr (some a1))] []) h (fun y21 h => ?_)
        refine J_goto O.mo (tgt := 11) dX10_areRowsAlike_31 (by decide) ?_
        refine J_sub [1, 2, 0] rfl ?_
        exact ih _ _ h
      · replace h := (if_neg hc20).symm.trans h
        refine J_iconst O.mo (v := 0) dX10_areRowsAlike_26 (by decide) ?_
        cases h
        exact hE _ _ dX10_areRowsAlike_27
set_option maxHeartbeats 4000000 in
set_option maxRecDepth 100000 in
theorem w_X10_areRowsAlike_e {l0 : Launch} (hfl : l0.stackTraces = false) {X : MX} {B : BX (EE × K)} {g : GP} {E : EE} {κ' : K} {rr : Int32} {a0 : Pl} {a1 : Pl} (O : CK l0 X B g cX10_areRowsAlike RX10 1 0) (hKP : KPok B E) (hmL : B.2.2.2.1 = 3) (hE : ∀ (pc : Nat) (lv : List (Nat × AV)), decode cX10_areRowsAlike pc = .ok (.ireturn, 1) → J X B (E, κ') pc lv [.inl (.int rr)]) : ∀ (κ : K), f_X10_areRowsAlike_e E κ a0 a1 = some (κ', rr) → J X B (E, κ) 0 [(0, .inr (some a0)), (1, .inr (some a1))] [] := by
  intro κ h
  unfold f_X10_areRowsAlike_e at h
  refine J_aload_n O.mo dX10_areRowsAlike_0 0 rfl ?_
  obtain ⟨n1, ar2, hA3, h⟩ := tmpG_some h
  refine J_alen O.co (g := ar2) (ct_A hA3) dX10_areRowsAlike_1 ?_
  refine J_aload_n O.mo dX10_areRowsAlike_2 1 rfl ?_
  obtain ⟨n4, ar5, hA6, h⟩ := tmpG_some h
  refine J_alen O.co (g := ar5) (ct_A hA6) dX10_areRowsAlike_3 ?_
  refine J_icmp_eq O.mo (tgt := 9) dX10_areRowsAlike_4 (by decide) (fun hc7 => ?_) (fun hc7 => ?_)
  · replace h := (if_pos hc7).symm.trans h
    refine J_iconst O.mo (v := 0) dX10_areRowsAlike_9 (by decide) ?_
    refine J_istore_n O.mo (lv' := [(0, .inr (some a0)), (1, .inr (some a1))]) dX10_areRowsAlike_10 (by rw [hmL]; decide) rfl rfl ?_
    refine J_sub [1, 2, 0] rfl ?_
    exact w_X10_areRowsAlike_b11 hfl O hKP hmL hE FU _ _ h
  · replace h := (if_neg hc7).symm.trans h
    refine J_iconst O.mo (v := 0) dX10_areRowsAlike_7 (by decide) ?_
    cases h
    exact hE _ _ dX10_areRowsAlike_8
theorem c_X10_areRowsAlike {l : Launch} (hfl : l.stackTraces = false) {E : EE} {κ κ' : K} {a0 : Pl} {a1 : Pl} {rr : Int32} (h : f_X10_areRowsAlike E κ a0 a1 = some (κ', rr)) : Con l yX10_areRowsAlike cX10_areRowsAlike 3 (some .boolean) 1 0 [.inr (some a0), .inr (some a1)] (E, κ) (E, κ') (some (.inl (.int rr))) := by
  unfold f_X10_areRowsAlike at h
  obtain ⟨κ1, x1, q1, q2⟩ := bd_some h
  obtain ⟨hb, q3⟩ := gd_some q2
  cases q3
  exact Con_of hfl (by decide +kernel) (Nat.le_of_ble_eq_true rfl) rfl ⟨_, rfl, nar_b hb⟩ (fun X B g O hKP hmL hE => w_X10_areRowsAlike_e hfl O hKP hmL hE _ q1)
def f_X3_hasEnded_b16 (E : EE) (f0 : Nat) (i0 : Nat) (c0 : Nat) (κ : K) : Option (K × Int32) := some (κ, 1)
def f_X3_hasEnded_e (E : EE) (κ : K) (f0 : Nat) (i0 : Nat) (c0 : Nat) : Option (K × Int32) := if kV κ f0 i0 c0 8 = 2 then f_X3_hasEnded_b16 E f0 i0 c0 κ else if kV κ f0 i0 c0 8 = 3 then f_X3_hasEnded_b16 E f0 i0 c0 κ else some (κ, 0)
def f_X3_hasEnded (E : EE) (κ : K) (f0 : Nat) (i0 : Nat) (c0 : Nat) : Option (K × Int32) := bd (f_X3_hasEnded_e E κ f0 i0 c0) fun κ x => gd (x = 0 ∨ x = 1) (some (κ, x))
set_option maxHeartbeats 4000000 in
set_option maxRecDepth 100000 in
theorem w_X3_hasEnded_b16 {l0 : Launch} (hfl : l0.stackTraces = false) {X : MX} {B : BX (EE × K)} {g : GP} {E : EE} {κ' : K} {rr : Int32} {f0 : Nat} {i0 : Nat} {c0 : Nat} (O : CK l0 X B g cX3_hasEnded RX3 1 0) (hKP : KPok B E) (hmL : B.2.2.2.1 = 1) (hE : ∀ (pc : Nat) (lv : List (Nat × AV)), decode cX3_hasEnded pc = .ok (.ireturn, 1) → J X B (E, κ') pc lv [.inl (.int rr)]) (h0 : PC 4 E f0 i0 c0) : ∀ (κ : K), f_X3_hasEnded_b16 E f0 i0 c0 κ = some (κ', rr) → J X B (E, κ) 16 [] [] := by
  intro κ h
  unfold f_X3_hasEnded_b16 at h
  refine J_iconst O.mo (v := 1) dX3_hasEnded_16 (by decide) ?_
  refine J_goto O.mo (tgt := 21) dX3_hasEnded_17 (by decide) ?_
  cases h
  exact hE _ _ dX3_hasEnded_21
set_option maxHeartbeats 4000000 in
set_option maxRecDepth 100000 in
theorem w_X3_hasEnded_e {l0 : Launch} (hfl : l0.stackTraces = false) {X : MX} {B : BX (EE × K)} {g : GP} {E : EE} {κ' : K} {rr : Int32} {f0 : Nat} {i0 : Nat} {c0 : Nat} (O : CK l0 X B g cX3_hasEnded RX3 1 0) (hKP : KPok B E) (hmL : B.2.2.2.1 = 1) (hE : ∀ (pc : Nat) (lv : List (Nat × AV)), decode cX3_hasEnded pc = .ok (.ireturn, 1) → J X B (E, κ') pc lv [.inl (.int rr)]) (h0 : PC 4 E f0 i0 c0) : ∀ (κ : K), f_X3_hasEnded_e E κ f0 i0 c0 = some (κ', rr) → J X B (E, κ) 0 [(0, .inr (some (f0, i0, c0)))] [] := by
  intro κ h
  unfold f_X3_hasEnded_e at h
  refine J_aload_n O.mo dX3_hasEnded_0 0 rfl ?_
  refine J_getF O.co (kd0 := 4) (k4_0 h0) (l4_0 h0) (C := RX3) (T := TX3) (N := 9) rfl (by decide) rfl in_X3 8 (by decide) (v := .inl (.int (kV κ f0 i0 c0 8))) rfl mw127 rfl dX3_hasEnded_1 ?_
  refine J_iconst O.mo (v := 2) dX3_hasEnded_4 (by decide) ?_
  refine J_icmp_eq O.mo (tgt := 16) dX3_hasEnded_5 (by decide) (fun hc1 => ?_) (fun hc1 => ?_)
  · replace h := (if_pos hc1).symm.trans h
    refine J_sub [] rfl ?_
    exact w_X3_hasEnded_b16 hfl O hKP hmL hE h0 _ h
  · replace h := (if_neg hc1).symm.trans h
    refine J_aload_n O.mo dX3_hasEnded_8 0 rfl ?_
    refine J_getF O.co (kd0 := 4) (k4_0 h0) (l4_0 h0) (C := RX3) (T := TX3) (N := 9) rfl (by decide) rfl in_X3 8 (by decide) (v := .inl (.int (kV κ f0 i0 c0 8))) rfl mw127 rfl dX3_hasEnded_9 ?_
    refine J_iconst O.mo (v := 3) dX3_hasEnded_12 (by decide) ?_
    refine J_icmp_ne O.mo (tgt := 20) dX3_hasEnded_13 (by decide) (fun hc2 => ?_) (fun hc2 => ?_)
    · replace h := (if_neg hc2).symm.trans h
      refine J_iconst O.mo (v := 0) dX3_hasEnded_20 (by decide) ?_
      cases h
      exact hE _ _ dX3_hasEnded_21
    · replace h := (if_pos hc2).symm.trans h
      refine J_sub [] rfl ?_
      exact w_X3_hasEnded_b16 hfl O hKP hmL hE h0 _ h
theorem c_X3_hasEnded {l : Launch} (hfl : l.stackTraces = false) {E : EE} {κ κ' : K} {f0 : Nat} {i0 : Nat} {c0 : Nat} (h0 : PC 4 E f0 i0 c0) {rr : Int32} (h : f_X3_hasEnded E κ f0 i0 c0 = some (κ', rr)) : Con l yX3_hasEnded cX3_hasEnded 1 (some .boolean) 1 0 [.inr (some (f0, i0, c0))] (E, κ) (E, κ') (some (.inl (.int rr))) := by
  unfold f_X3_hasEnded at h
  obtain ⟨κ1, x1, q1, q2⟩ := bd_some h
  obtain ⟨hb, q3⟩ := gd_some q2
  cases q3
  exact Con_of hfl (by decide +kernel) (Nat.le_of_ble_eq_true rfl) rfl ⟨_, rfl, nar_b hb⟩ (fun X B g O hKP hmL hE => w_X3_hasEnded_e hfl O hKP hmL hE h0 _ q1)
def f_X3_isAs_b122 (E : EE) (f0 : Nat) (i0 : Nat) (c0 : Nat) (f1 : Nat) (i1 : Nat) (c1 : Nat) (κ : K) : Option (K × Int32) := some (κ, 1)
def f_X3_isAs_e (E : EE) (κ : K) (f0 : Nat) (i0 : Nat) (c0 : Nat) (f1 : Nat) (i1 : Nat) (c1 : Nat) : Option (K × Int32) := bd (f_X10_areRowsAlike E κ (f0, i0, c0 + 1) (f1, i1, c1 + 1)) fun κ1 r3 => if r3 = 0 then some (κ1, 0) else bd (f_X10_areRowsAlike E κ1 (f0, i0, c0 + 2) (f1, i1, c1 + 2)) fun κ5 r7 => if r7 = 0 then some (κ5, 0) else bd (f_X10_areRowsAlike E κ5 (f0, i0, c0 + 3) (f1, i1, c1 + 3)) fun κ9 r11 => if r11 = 0 then some (κ9, 0) else if kV κ9 f0 i0 c0 3 = kV κ9 f1 i1 c1 3 then if kV κ9 f0 i0 c0 4 = kV κ9 f1 i1 c1 4 then if kV κ9 f0 i0 c0 5 = kV κ9 f1 i1 c1 5 then if kV κ9 f0 i0 c0 6 = kV κ9 f1 i1 c1 6 then if kV κ9 f0 i0 c0 7 = kV κ9 f1 i1 c1 7 then if kV κ9 f0 i0 c0 8 = kV κ9 f1 i1 c1 8 then f_X3_isAs_b122 E f0 i0 c0 f1 i1 c1 κ9 else bd (f_X3_hasEnded E κ9 f0 i0 c0) fun κ19 r21 => if r21 = 0 then bd (f_X3_hasEnded E κ19 f1 i1 c1) fun κ23 r25 => if r25 = 0 then f_X3_isAs_b122 E f0 i0 c0 f1 i1 c1 κ23 else some (κ23, 0) else some (κ19, 0) else some (κ9, 0) else some (κ9, 0) else some (κ9, 0) else some (κ9, 0) else some (κ9, 0)
def f_X3_isAs (E : EE) (κ : K) (f0 : Nat) (i0 : Nat) (c0 : Nat) (f1 : Nat) (i1 : Nat) (c1 : Nat) : Option (K × Int32) := bd (f_X3_isAs_e E κ f0 i0 c0 f1 i1 c1) fun κ x => gd (x = 0 ∨ x = 1) (some (κ, x))
set_option maxHeartbeats 4000000 in
set_option maxRecDepth 100000 in
theorem w_X3_isAs_b122 {l0 : Launch} (hfl : l0.stackTraces = false) {X : MX} {B : BX (EE × K)} {g : GP} {E : EE} {κ' : K} {rr : Int32} {f0 : Nat} {i0 : Nat} {c0 : Nat} {f1 : Nat} {i1 : Nat} {c1 : Nat} (O : CK l0 X B g cX3_isAs RX3 2 22) (hKP : KPok B E) (hmL : B.2.2.2.1 = 2) (hE : ∀ (pc : Nat) (lv : List (Nat × AV)), decode cX3_isAs pc = .ok (.ireturn, 1) → J X B (E, κ') pc lv [.inl (.int rr)]) (h0 : PC 4 E f0 i0 c0) (h1 : PC 4 E f1 i1 c1) : ∀ (κ : K), f_X3_isAs_b122 E f0 i0 c0 f1 i1 c1 κ = some (κ', rr) → J X B (E, κ) 122 [] [] := by
  intro κ h
  unfold f_X3_isAs_b122 at h
  refine J_iconst O.mo (v := 1) dX3_isAs_122 (by decide) ?_
  refine J_goto O.mo (tgt := 127) dX3_isAs_123 (by decide) ?_
  cases h
  exact hE _ _ dX3_isAs_127
set_option maxHeartbeats 4000000 in
set_option maxRecDepth 100000 in
theorem w_X3_isAs_e {l0 : Launch} (hfl : l0.stackTraces = false) {X : MX} {B : BX (EE × K)} {g : GP} {E : EE} {κ' : K} {rr : Int32} {f0 : Nat} {i0 : Nat} {c0 : Nat} {f1 : Nat} {i1 : Nat} {c1 : Nat} (O : CK l0 X B g cX3_isAs RX3 2 22) (hKP : KPok B E) (hmL : B.2.2.2.1 = 2) (hE : ∀ (pc : Nat) (lv : List (Nat × AV)), decode cX3_isAs pc = .ok (.ireturn, 1) → J X B (E, κ') pc lv [.inl (.int rr)]) (h0 : PC 4 E f0 i0 c0) (h1 : PC 4 E f1 i1 c1) : ∀ (κ : K), f_X3_isAs_e E κ f0 i0 c0 f1 i1 c1 = some (κ', rr) → J X B (E, κ) 0 [(0, .inr (some (f0, i0, c0))), (1, .inr (some (f1, i1, c1)))] [] := by
  intro κ h
  unfold f_X3_isAs_e at h
  refine J_aload_n O.mo dX3_isAs_0 0 rfl ?_
  refine J_getF O.co (kd0 := 4) (k4_0 h0) (l4_0 h0) (C := RX3) (T := TX3) (N := 9) rfl (by decide) rfl in_X3 0 (by decide) (v := .inr (some (f0, i0, c0 + 1))) rfl mw132 rfl dX3_isAs_1 ?_
  refine J_aload_n O.mo dX3_isAs_4 1 rfl ?_
  refine J_getF O.co (kd0 := 4) (k4_0 h1) (l4_0 h1) (C := RX3) (T := TX3) (N := 9) rfl (by decide) rfl in_X3 0 (by decide) (v := .inr (some (f1, i1, c1 + 1))) rfl mw132 rfl dX3_isAs_5 ?_
  obtain ⟨κ1, r3, hq2, h⟩ := bd_some h
  refine J_callSN O hKP (as := [.inr (some (f0, i0, c0 + 1)), .inr (some (f1, i1, c1 + 1))]) (rest := []) (r := (some (.inl (.int r3)))) (c_X10_areRowsAlike hfl hq2) rfl mw318 mw319 mw320 mw321 pd_X10_areRowsAlike rfl (by decide) rfl (Nat.le_of_ble_eq_true rfl) (sl_p (s4_0 h0) (sl_p (s4_0 h1) sl_0)) st_0 dX3_isAs_8 ?_
  show J X B (E, κ1) 11 [(0, .inr (some (f0, i0, c0))), (1, .inr (some (f1, i1, c1)))] [.inl (.int r3)]
  refine J_if_eq O.mo (tgt := 126) dX3_isAs_11 (by decide) (fun hc4 => ?_) (fun hc4 => ?_)
  · replace h := (if_pos hc4).symm.trans h
    refine J_iconst O.mo (v := 0) dX3_isAs_126 (by decide) ?_
    cases h
    exact hE _ _ dX3_isAs_127
  · replace h := (if_neg hc4).symm.trans h
    refine J_aload_n O.mo dX3_isAs_14 0 rfl ?_
    refine J_getF O.co (kd0 := 4) (k4_0 h0) (l4_0 h0) (C := RX3) (T := TX3) (N := 9) rfl (by decide) rfl in_X3 1 (by decide) (v := .inr (some (f0, i0, c0 + 2))) rfl mw133 rfl dX3_isAs_15 ?_
    refine J_aload_n O.mo dX3_isAs_18 1 rfl ?_
    refine J_getF O.co (kd0 := 4) (k4_0 h1) (l4_0 h1) (C := RX3) (T := TX3) (N := 9) rfl (by decide) rfl in_X3 1 (by decide) (v := .inr (some (f1, i1, c1 + 2))) rfl mw133 rfl dX3_isAs_19 ?_
    obtain ⟨κ5, r7, hq6, h⟩ := bd_some h
    refine J_callSN O hKP (as := [.inr (some (f0, i0, c0 + 2)), .inr (some (f1, i1, c1 + 2))]) (rest := []) (r := (some (.inl (.int r7)))) (c_X10_areRowsAlike hfl hq6) rfl mw318 mw319 mw320 mw321 pd_X10_areRowsAlike rfl (by decide) rfl (Nat.le_of_ble_eq_true rfl) (sl_p (s4_0 h0) (sl_p (s4_0 h1) sl_0)) st_0 dX3_isAs_22 ?_
    show J X B (E, κ5) 25 [(0, .inr (some (f0, i0, c0))), (1, .inr (some (f1, i1, c1)))] [.inl (.int r7)]
    refine J_if_eq O.mo (tgt := 126) dX3_isAs_25 (by decide) (fun hc8 => ?_) (fun hc8 => ?_)
    · replace h := (if_pos hc8).symm.trans h
      refine J_iconst O.mo (v := 0) dX3_isAs_126 (by decide) ?_
      cases h
      exact hE _ _ dX3_isAs_127
    · replace h := (if_neg hc8).symm.trans h
      refine J_aload_n O.mo dX3_isAs_28 0 rfl ?_
      refine J_getF O.co (kd0 := 4) (k4_0 h0) (l4_0 h0) (C := RX3) (T := TX3) (N := 9) rfl (by decide) rfl in_X3 2 (by decide) (v := .inr (some (f0, i0, c0 + 3))) rfl mw145 rfl dX3_isAs_29 ?_
      refine J_aload_n O.mo dX3_isAs_32 1 rfl ?_
      refine J_getF O.co (kd0 := 4) (k4_0 h1) (l4_0 h1) (C := RX3) (T := TX3) (N := 9) rfl (by decide) rfl in_X3 2 (by decide) (v := .inr (some (f1, i1, c1 + 3))) rfl mw145 rfl dX3_isAs_33 ?_
      obtain ⟨κ9, r11, hq10, h⟩ := bd_some h
      refine J_callSN O hKP (as := [.inr (some (f0, i0, c0 + 3)), .inr (some (f1, i1, c1 + 3))]) (rest := []) (r := (some (.inl (.int r11)))) (c_X10_areRowsAlike hfl hq10) rfl mw318 mw319 mw320 mw321 pd_X10_areRowsAlike rfl (by decide) rfl (Nat.le_of_ble_eq_true rfl) (sl_p (s4_0 h0) (sl_p (s4_0 h1) sl_0)) st_0 dX3_isAs_36 ?_
      show J X B (E, κ9) 39 [(0, .inr (some (f0, i0, c0))), (1, .inr (some (f1, i1, c1)))] [.inl (.int r11)]
      refine J_if_eq O.mo (tgt := 126) dX3_isAs_39 (by decide) (fun hc12 => ?_) (fun hc12 => ?_)
      · replace h := (if_pos hc12).symm.trans h
        refine J_iconst O.mo (v := 0) dX3_isAs_126 (by decide) ?_
        cases h
        exact hE _ _ dX3_isAs_127
      · replace h := (if_neg hc12).symm.trans h
        refine J_aload_n O.mo dX3_isAs_42 0 rfl ?_
        refine J_getF O.co (kd0 := 4) (k4_0 h0) (l4_0 h0) (C := RX3) (T := TX3) (N := 9) rfl (by decide) rfl in_X3 3 (by decide) (v := .inl (.int (kV κ9 f0 i0 c0 3))) rfl mw126 rfl dX3_isAs_43 ?_
        refine J_aload_n O.mo dX3_isAs_46 1 rfl ?_
        refine J_getF O.co (kd0 := 4) (k4_0 h1) (l4_0 h1) (C := RX3) (T := TX3) (N := 9) rfl (by decide) rfl in_X3 3 (by decide) (v := .inl (.int (kV κ9 f1 i1 c1 3))) rfl mw126 rfl dX3_isAs_47 ?_
        refine J_icmp_ne O.mo (tgt := 126) dX3_isAs_50 (by decide) (fun hc13 => ?_) (fun hc13 => ?_)
        · replace h := (if_neg hc13).symm.trans h
          refine J_iconst O.mo (v := 0) dX3_isAs_126 (by decide) ?_
          cases h
          exact hE _ _ dX3_isAs_127
        · replace h := (if_pos hc13).symm.trans h
          refine J_aload_n O.mo dX3_isAs_53 0 rfl ?_
          refine J_getF O.co (kd0 := 4) (k4_0 h0) (l4_0 h0) (C := RX3) (T := TX3) (N := 9) rfl (by decide) rfl in_X3 4 (by decide) (v := .inl (.int (kV κ9 f0 i0 c0 4))) rfl mw146 rfl dX3_isAs_54 ?_
          refine J_aload_n O.mo dX3_isAs_57 1 rfl ?_
          refine J_getF O.co (kd0 := 4) (k4_0 h1) (l4_0 h1) (C := RX3) (T := TX3) (N := 9) rfl (by decide) rfl in_X3 4 (by decide) (v := .inl (.int (kV κ9 f1 i1 c1 4))) rfl mw146 rfl dX3_isAs_58 ?_
          refine J_icmp_ne O.mo (tgt := 126) dX3_isAs_61 (by decide) (fun hc14 => ?_) (fun hc14 => ?_)
          · replace h := (if_neg hc14).symm.trans h
            refine J_iconst O.mo (v := 0) dX3_isAs_126 (by decide) ?_
            cases h
            exact hE _ _ dX3_isAs_127
          · replace h := (if_pos hc14).symm.trans h
            refine J_aload_n O.mo dX3_isAs_64 0 rfl ?_
            refine J_getF O.co (kd0 := 4) (k4_0 h0) (l4_0 h0) (C := RX3) (T := TX3) (N := 9) rfl (by decide) rfl in_X3 5 (by decide) (v := .inl (.int (kV κ9 f0 i0 c0 5))) rfl mw148 rfl dX3_isAs_65 ?_
            refine J_aload_n O.mo dX3_isAs_68 1 rfl ?_
            refine J_getF O.co (kd0 := 4) (k4_0 h1) (l4_0 h1) (C := RX3) (T := TX3) (N := 9) rfl (by decide) rfl in_X3 5 (by decide) (v := .inl (.int (kV κ9 f1 i1 c1 5))) rfl mw148 rfl dX3_isAs_69 ?_
            refine J_icmp_ne O.mo (tgt := 126) dX3_isAs_72 (by decide) (fun hc15 => ?_) (fun hc15 => ?_)
            · replace h := (if_neg hc15).symm.trans h
              refine J_iconst O.mo (v := 0) dX3_isAs_126 (by decide) ?_
              cases h
              exact hE _ _ dX3_isAs_127
            · replace h := (if_pos hc15).symm.trans h
              refine J_aload_n O.mo dX3_isAs_75 0 rfl ?_
              refine J_getF O.co (kd0 := 4) (k4_0 h0) (l4_0 h0) (C := RX3) (T := TX3) (N := 9) rfl (by decide) rfl in_X3 6 (by decide) (v := .inl (.int (kV κ9 f0 i0 c0 6))) rfl mw149 rfl dX3_isAs_76 ?_
              refine J_aload_n O.mo dX3_isAs_79 1 rfl ?_
              refine J_getF O.co (kd0 := 4) (k4_0 h1) (l4_0 h1) (C := RX3) (T := TX3) (N := 9) rfl (by decide) rfl in_X3 6 (by decide) (v := .inl (.int (kV κ9 f1 i1 c1 6))) rfl mw149 rfl dX3_isAs_80 ?_
              refine J_icmp_ne O.mo (tgt := 126) dX3_isAs_83 (by decide) (fun hc16 => ?_) (fun hc16 => ?_)
              · replace h := (if_neg hc16).symm.trans h
                refine J_iconst O.mo (v := 0) dX3_isAs_126 (by decide) ?_
                cases h
                exact hE _ _ dX3_isAs_127
              · replace h := (if_pos hc16).symm.trans h
                refine J_aload_n O.mo dX3_isAs_86 0 rfl ?_
                refine J_getF O.co (kd0 := 4) (k4_0 h0) (l4_0 h0) (C := RX3) (T := TX3) (N := 9) rfl (by decide) rfl in_X3 7 (by decide) (v := .inl (.int (kV κ9 f0 i0 c0 7))) rfl mw147 rfl dX3_isAs_87 ?_
                refine J_aload_n O.mo dX3_isAs_90 1 rfl ?_
                refine J_getF O.co (kd0 := 4) (k4_0 h1) (l4_0 h1) (C := RX3) (T := TX3) (N := 9) rfl (by decide) rfl in_X3 7 (by decide) (v := .inl (.int (kV κ9 f1 i1 c1 7))) rfl mw147 rfl dX3_isAs_91 ?_
                refine J_icmp_ne O.mo (tgt := 126) dX3_isAs_94 (by decide) (fun hc17 => ?_) (fun hc17 => ?_)
                · replace h := (if_neg hc17).symm.trans h
                  refine J_iconst O.mo (v := 0) dX3_isAs_126 (by decide) ?_
                  cases h
                  exact hE _ _ dX3_isAs_127
                · replace h := (if_pos hc17).symm.trans h
                  refine J_aload_n O.mo dX3_isAs_97 0 rfl ?_
                  refine J_getF O.co (kd0 := 4) (k4_0 h0) (l4_0 h0) (C := RX3) (T := TX3) (N := 9) rfl (by decide) rfl in_X3 8 (by decide) (v := .inl (.int (kV κ9 f0 i0 c0 8))) rfl mw127 rfl dX3_isAs_98 ?_
                  refine J_aload_n O.mo dX3_isAs_101 1 rfl ?_
                  refine J_getF O.co (kd0 := 4) (k4_0 h1) (l4_0 h1) (C := RX3) (T := TX3) (N := 9) rfl (by decide) rfl in_X3 8 (by decide) (v := .inl (.int (kV κ9 f1 i1 c1 8))) rfl mw127 rfl dX3_isAs_102 ?_
                  refine J_icmp_eq O.mo (tgt := 122) dX3_isAs_105 (by decide) (fun hc18 => ?_) (fun hc18 => ?_)
                  · replace h := (if_pos hc18).symm.trans h
                    refine J_sub [] rfl ?_
                    exact w_X3_isAs_b122 hfl O hKP hmL hE h0 h1 _ h
                  · replace h := (if_neg hc18).symm.trans h
                    refine J_aload_n O.mo dX3_isAs_108 0 rfl ?_
                    refine J_sub [1] rfl ?_
                    obtain ⟨κ19, r21, hq20, h⟩ := bd_some h
                    refine J_callV O hKP (as := []) (rest := []) (r := (some (.inl (.int r21)))) (c_X3_hasEnded hfl h0 hq20) rfl (kd0 := 4) (k4_0 h0) (l4_0 h0) (T := TX3) (N := 9) rfl (by decide) mw322 mw323 mw324 mw137 mw325 pd_X3_hasEnded rfl (by decide) rfl (Nat.le_of_ble_eq_true rfl) (sl_p (s4_0 h1) sl_0) st_0 dX3_isAs_109 ?_
                    show J X B (E, κ19) 112 [(1, .inr (some (f1, i1, c1)))] [.inl (.int r21)]
                    refine J_if_ne O.mo (tgt := 126) dX3_isAs_112 (by decide) (fun hc22 => ?_) (fun hc22 => ?_)
                    · replace h := (if_neg hc22).symm.trans h
                      refine J_iconst O.mo (v := 0) dX3_isAs_126 (by decide) ?_
                      cases h
                      exact hE _ _ dX3_isAs_127
                    · replace h := (if_pos hc22).symm.trans h
                      refine J_aload_n O.mo dX3_isAs_115 0 rfl ?_
                      refine J_sub [] rfl ?_
                      obtain ⟨κ23, r25, hq24, h⟩ := bd_some h
                      refine J_callV O hKP (as := []) (rest := []) (r := (some (.inl (.int r25)))) (c_X3_hasEnded hfl h1 hq24) rfl (kd0 := 4) (k4_0 h1) (l4_0 h1) (T := TX3) (N := 9) rfl (by decide) mw322 mw323 mw324 mw137 mw325 pd_X3_hasEnded rfl (by decide) rfl (Nat.le_of_ble_eq_true rfl) sl_0 st_0 dX3_isAs_116 ?_
                      show J X B (E, κ23) 119 [] [.inl (.int r25)]
                      refine J_if_ne O.mo (tgt := 126) dX3_isAs_119 (by decide) (fun hc26 => ?_) (fun hc26 => ?_)
                      · replace h := (if_neg hc26).symm.trans h
                        refine J_iconst O.mo (v := 0) dX3_isAs_126 (by decide) ?_
                        cases h
                        exact hE _ _ dX3_isAs_127
                      · replace h := (if_pos hc26).symm.trans h
                        exact w_X3_isAs_b122 hfl O hKP hmL hE h0 h1 _ h
theorem c_X3_isAs {l : Launch} (hfl : l.stackTraces = false) {E : EE} {κ κ' : K} {f0 : Nat} {i0 : Nat} {c0 : Nat} {f1 : Nat} {i1 : Nat} {c1 : Nat} (h0 : PC 4 E f0 i0 c0) (h1 : PC 4 E f1 i1 c1) {rr : Int32} (h : f_X3_isAs E κ f0 i0 c0 f1 i1 c1 = some (κ', rr)) : Con l yX3_isAs cX3_isAs 2 (some .boolean) 2 22 [.inr (some (f0, i0, c0)), .inr (some (f1, i1, c1))] (E, κ) (E, κ') (some (.inl (.int rr))) := by
  unfold f_X3_isAs at h
  obtain ⟨κ1, x1, q1, q2⟩ := bd_some h
  obtain ⟨hb, q3⟩ := gd_some q2
  cases q3
  exact Con_of hfl (by decide +kernel) (Nat.le_of_ble_eq_true rfl) rfl ⟨_, rfl, nar_b hb⟩ (fun X B g O hKP hmL hE => w_X3_isAs_e hfl O hKP hmL hE h0 h1 _ q1)
def f_X6_agrees_b98 (E : EE) (a0 : Nat) (a1 : Nat) (κ : K) (x2 : Int32) : Option (K × Int32) := if kV κ 3 a0 0 4 = 0 then some (κ, 0) else optG (kP κ 3 a0 0 1) (cntE E 0) (none) (fun j6 => if x2 = kV κ 0 j6 16 1 then optG (kP κ 3 a0 0 1) (cntE E 0) (none) (fun j10 => if kV κ 3 a0 0 2 = kV κ 0 j10 12 1 then optG (kP κ 3 a0 0 1) (cntE E 0) (none) (fun j14 => if kV κ 3 a0 0 3 = kV κ 0 j14 14 1 then optG (kP κ 3 a0 0 1) (cntE E 0) (none) (fun j18 => bd (f_X3_isAs E κ 3 a0 1 0 j18 6) fun κ21 r23 => if r23 = 0 then some (κ21, 0) else some (κ21, 1)) else some (κ, 0)) else some (κ, 0)) else some (κ, 0))
def f_X6_agrees_b83 (E : EE) (a0 : Nat) (a1 : Nat) (k4 : K → Int32 → Int32 → Option (K × Int32)) (κ : K) (x2 : Int32) (x3 : Int32) : Option (K × Int32) := bd (f_X3_doNext_R E κ 3 a0 1 a1 a0) fun κ33 _ => nm (x3 + 1) fun y36 => k4 κ33 x2 y36
def f_X6_agrees_b4 (E : EE) (a0 : Nat) (a1 : Nat) : Nat → K → Int32 → Int32 → Option (K × Int32)
  | 0, _, _, _ => none
  | n + 1, κ, x2, x3 => optG (kP κ 3 a0 0 1) (cntE E 0) (none) (fun j1 => if kV κ 0 j1 5 5 ≤ x3 then f_X6_agrees_b98 E a0 a1 κ x2 else bd (f_X3_hasEnded E κ 3 a0 1) fun κ25 r27 => if r27 = 0 then optG (kP κ25 3 a0 0 1) (cntE E 0) (none) (fun j29 => if kV κ25 0 j29 16 1 ≤ x2 then f_X6_agrees_b83 E a0 a1 (f_X6_agrees_b4 E a0 a1 n) κ25 x2 x3 else optG (kP κ25 3 a0 0 1) (cntE E 0) (none) (fun j37 => gd (¬ (x2 < 0 ∨ kN κ25 0 j37 17 ≤ x2.toNatClampNeg)) (if ((kV κ25 0 j37 17) x2.toNatClampNeg) / 4 = x3 then optG (kP κ25 3 a0 0 1) (cntE E 0) (none) (fun j42 => gd (¬ (x2 < 0 ∨ kN κ25 0 j42 17 ≤ x2.toNatClampNeg)) (bd (f_X3_enterHandler E κ25 3 a0 1 (((kV κ25 0 j42 17) x2.toNatClampNeg) - ((kV κ25 0 j42 17) x2.toNatClampNeg) / 4 * 4)) fun κ46 _ => nm (x2 + 1) fun y49 => f_X6_agrees_b83 E a0 a1 (f_X6_agrees_b4 E a0 a1 n) κ46 y49 x3)) else f_X6_agrees_b83 E a0 a1 (f_X6_agrees_b4 E a0 a1 n) κ25 x2 x3))) else some (κ25, 0))
def f_X6_agrees_e (E : EE) (κ : K) (a0 : Nat) (a1 : Nat) : Option (K × Int32) := f_X6_agrees_b4 E a0 a1 FU κ 0 0
def f_X6_agrees (E : EE) (κ : K) (a0 : Nat) (a1 : Nat) : Option (K × Int32) := bd (f_X6_agrees_e E κ a0 a1) fun κ x => gd (x = 0 ∨ x = 1) (some (κ, x))
set_option maxHeartbeats 4000000 in
set_option maxRecDepth 100000 in
theorem w_X6_agrees_b98 {l0 : Launch} (hfl : l0.stackTraces = false) {X : MX} {B : BX (EE × K)} {g : GP} {E : EE} {κ' : K} {rr : Int32} {a0 : Nat} {a1 : Nat} (O : CK l0 X B g cX6_agrees RX6 5 90) (hKP : KPok B E) (hmL : B.2.2.2.1 = 4) (hE : ∀ (pc : Nat) (lv : List (Nat × AV)), decode cX6_agrees pc = .ok (.ireturn, 1) → J X B (E, κ') pc lv [.inl (.int rr)]) (h0 : PC 7 E 3 a0 0) (h1 : PC 6 E 0 a1 1) : ∀ (κ : K) (x2 : Int32), f_X6_agrees_b98 E a0 a1 κ x2 = some (κ', rr) → J X B (E, κ) 98 [(0, .inr (some (3, a0, 0))), (2, .inl (.int x2))] [] := by
  intro κ x2 h
  unfold f_X6_agrees_b98 at h
  refine J_aload_n O.mo dX6_agrees_98 0 rfl ?_
  refine J_getF O.co (kd0 := 7) (k7_0 h0) (l7_0 h0) (C := RX6) (T := TX6) (N := 5) rfl (by decide) rfl in_X6 4 (by decide) (v := .inl (.int (kV κ 3 a0 0 4))) rfl mw218 rfl dX6_agrees_99 ?_
  refine J_if_eq O.mo (tgt := 174) dX6_agrees_102 (by decide) (fun hc5 => ?_) (fun hc5 => ?_)
  · replace h := (if_pos hc5).symm.trans h
    refine J_iconst O.mo (v := 0) dX6_agrees_174 (by decide) ?_
    cases h
    exact hE _ _ dX6_agrees_175
  · replace h := (if_neg hc5).symm.trans h
    refine J_iload_n O.mo dX6_agrees_105 1 rfl ?_
    refine J_aload_n O.mo dX6_agrees_106 0 rfl ?_
    replace h := optG_some h
    rcases h with ⟨ho8, h⟩ | ⟨j6, ho8, hj7, h⟩
    · cases h
    · refine J_getF O.co (kd0 := 7) (k7_0 h0) (l7_0 h0) (C := RX6) (T := TX6) (N := 5) rfl (by decide) rfl in_X6 1 (by decide) (v := .inr (some (0, j6, 5))) (by rw [ho8]; rfl) mw214 rfl dX6_agrees_107 ?_
      refine J_getF O.co (kd0 := 9) (k9_0 (⟨hj7, rfl⟩ : PC 9 E 0 j6 5)) (l9_0 (⟨hj7, rfl⟩ : PC 9 E 0 j6 5)) (C := RX8) (T := TX8) (N := 10) rfl (by decide) rfl in_X8 4 (by decide) (v := .inr (some (0, j6, 16))) rfl mw315 rfl dX6_agrees_110 ?_
      refine J_getF O.co (kd0 := 5) (k9_11 (⟨hj7, rfl⟩ : PC 9 E 0 j6 5)) (l9_11 (⟨hj7, rfl⟩ : PC 9 E 0 j6 5)) (C := RX4) (T := TX4) (N := 2) rfl (by decide) rfl in_X4 1 (by decide) (v := .inl (.int (kV κ 0 j6 16 1))) rfl mw216 rfl dX6_agrees_113 ?_
      refine J_icmp_ne O.mo (tgt := 174) dX6_agrees_116 (by decide) (fun hc9 => ?_) (fun hc9 => ?_)
      · replace h := (if_neg hc9).symm.trans h
        refine J_iconst O.mo (v := 0) dX6_agrees_174 (by decide) ?_
        cases h
        exact hE _ _ dX6_agrees_175
      · replace h := (if_pos hc9).symm.trans h
        refine J_aload_n O.mo dX6_agrees_119 0 rfl ?_
        refine J_getF O.co (kd0 := 7) (k7_0 h0) (l7_0 h0) (C := RX6) (T := TX6) (N := 5) rfl (by decide) rfl in_X6 2 (by decide) (v := .inl (.int (kV κ 3 a0 0 2))) rfl mw213 rfl dX6_agrees_120 ?_
        refine J_aload_n O.mo dX6_agrees_123 0 rfl ?_
        replace h := optG_some h
        rcases h with ⟨ho12, h⟩ | ⟨j10, ho12, hj11, h⟩
        · cases h
        · refine J_getF O.co (kd0 := 7) (k7_0 h0) (l7_0 h0) (C := RX6) (T := TX6) (N := 5) rfl (by decide) rfl in_X6 1 (by decide) (v := .inr (some (0, j10, 5))) (by rw [ho12]; rfl) mw214 rfl dX6_agrees_124 ?_
          refine J_getF O.co (kd0 := 9) (k9_0 (⟨hj11, rfl⟩ : PC 9 E 0 j10 5)) (l9_0 (⟨hj11, rfl⟩ : PC 9 E 0 j10 5)) (C := RX8) (T := TX8) (N := 10) rfl (by decide) rfl in_X8 2 (by decide) (v := .inr (some (0, j10, 12))) rfl mw215 rfl dX6_agrees_127 ?_
          refine J_getF O.co (kd0 := 5) (k9_7 (⟨hj11, rfl⟩ : PC 9 E 0 j10 5)) (l9_7 (⟨hj11, rfl⟩ : PC 9 E 0 j10 5)) (C := RX4) (T := TX4) (N := 2) rfl (by decide) rfl in_X4 1 (by decide) (v := .inl (.int (kV κ 0 j10 12 1))) rfl mw216 rfl dX6_agrees_130 ?_
          refine J_icmp_ne O.mo (tgt := 174) dX6_agrees_133 (by decide) (fun hc13 => ?_) (fun hc13 => ?_)
          · replace h := (if_neg hc13).symm.trans h
            refine J_iconst O.mo (v := 0) dX6_agrees_174 (by decide) ?_
            cases h
            exact hE _ _ dX6_agrees_175
          · replace h := (if_pos hc13).symm.trans h
            refine J_aload_n O.mo dX6_agrees_136 0 rfl ?_
            refine J_getF O.co (kd0 := 7) (k7_0 h0) (l7_0 h0) (C := RX6) (T := TX6) (N := 5) rfl (by decide) rfl in_X6 3 (by decide) (v := .inl (.int (kV κ 3 a0 0 3))) rfl mw222 rfl dX6_agrees_137 ?_
            refine J_aload_n O.mo dX6_agrees_140 0 rfl ?_
            replace h := optG_some h
            rcases h with ⟨ho16, h⟩ | ⟨j14, ho16, hj15, h⟩
            · cases h
            · refine J_getF O.co (kd0 := 7) (k7_0 h0) (l7_0 h0) (C := RX6) (T := TX6) (N := 5) rfl (by decide) rfl in_X6 1 (by decide) (v := .inr (some (0, j14, 5))) (by rw [ho16]; rfl) mw214 rfl dX6_agrees_141 ?_
              refine J_getF O.co (kd0 := 9) (k9_0 (⟨hj15, rfl⟩ : PC 9 E 0 j14 5)) (l9_0 (⟨hj15, rfl⟩ : PC 9 E 0 j14 5)) (C := RX8) (T := TX8) (N := 10) rfl (by decide) rfl in_X8 3 (by decide) (v := .inr (some (0, j14, 14))) rfl mw223 rfl dX6_agrees_144 ?_
              refine J_getF O.co (kd0 := 5) (k9_9 (⟨hj15, rfl⟩ : PC 9 E 0 j14 5)) (l9_9 (⟨hj15, rfl⟩ : PC 9 E 0 j14 5)) (C := RX4) (T := TX4) (N := 2) rfl (by decide) rfl in_X4 1 (by decide) (v := .inl (.int (kV κ 0 j14 14 1))) rfl mw216 rfl dX6_agrees_147 ?_
              refine J_icmp_ne O.mo (tgt := 174) dX6_agrees_150 (by decide) (fun hc17 => ?_) (fun hc17 => ?_)
              · replace h := (if_neg hc17).symm.trans h
                refine J_iconst O.mo (v := 0) dX6_agrees_174 (by decide) ?_
                cases h
                exact hE _ _ dX6_agrees_175
              · replace h := (if_pos hc17).symm.trans h
                refine J_aload_n O.mo dX6_agrees_153 0 rfl ?_
                refine J_getF O.co (kd0 := 7) (k7_0 h0) (l7_0 h0) (C := RX6) (T := TX6) (N := 5) rfl (by decide) rfl in_X6 0 (by decide) (v := .inr (some (3, a0, 1))) rfl mw316 rfl dX6_agrees_154 ?_
                refine J_aload_n O.mo dX6_agrees_157 0 rfl ?_
                replace h := optG_some h
                rcases h with ⟨ho20, h⟩ | ⟨j18, ho20, hj19, h⟩
                · cases h
                · refine J_getF O.co (kd0 := 7) (k7_0 h0) (l7_0 h0) (C := RX6) (T := TX6) (N := 5) rfl (by decide) rfl in_X6 1 (by decide) (v := .inr (some (0, j18, 5))) (by rw [ho20]; rfl) mw214 rfl dX6_agrees_158 ?_
                  refine J_getF O.co (kd0 := 9) (k9_0 (⟨hj19, rfl⟩ : PC 9 E 0 j18 5)) (l9_0 (⟨hj19, rfl⟩ : PC 9 E 0 j18 5)) (C := RX8) (T := TX8) (N := 10) rfl (by decide) rfl in_X8 0 (by decide) (v := .inr (some (0, j18, 6))) rfl mw317 rfl dX6_agrees_161 ?_
                  refine J_sub [] rfl ?_
                  obtain ⟨κ21, r23, hq22, h⟩ := bd_some h
                  refine J_callV O hKP (as := [.inr (some (0, j18, 6))]) (rest := []) (r := (some (.inl (.int r23)))) (c_X3_isAs hfl (sub_7_1_4 h0) (sub_9_1_4 (⟨hj19, rfl⟩ : PC 9 E 0 j18 5)) hq22) rfl (kd0 := 4) (k7_1 h0) (l7_1 h0) (T := TX3) (N := 9) rfl (by decide) mw326 mw327 mw328 mw137 mw329 pd_X3_isAs rfl (by decide) rfl (Nat.le_of_ble_eq_true rfl) sl_0 st_0 dX6_agrees_164 ?_
                  show J X B (E, κ21) 167 [] [.inl (.int r23)]
                  refine J_if_eq O.mo (tgt := 174) dX6_agrees_167 (by decide) (fun hc24 => ?_) (fun hc24 => ?_)
                  · replace h := (if_pos hc24).symm.trans h
                    refine J_iconst O.mo (v := 0) dX6_agrees_174 (by decide) ?_
                    cases h
                    exact hE _ _ dX6_agrees_175
                  · replace h := (if_neg hc24).symm.trans h
                    refine J_iconst O.mo (v := 1) dX6_agrees_170 (by decide) ?_
                    refine J_goto O.mo (tgt := 175) dX6_agrees_171 (by decide) ?_
                    cases h
                    exact hE _ _ dX6_agrees_175
set_option maxHeartbeats 4000000 in
set_option maxRecDepth 100000 in
theorem w_X6_agrees_b83 {l0 : Launch} (hfl : l0.stackTraces = false) {X : MX} {B : BX (EE × K)} {g : GP} {E : EE} {κ' : K} {rr : Int32} {a0 : Nat} {a1 : Nat} (O : CK l0 X B g cX6_agrees RX6 5 90) (hKP : KPok B E) (hmL : B.2.2.2.1 = 4) (hE : ∀ (pc : Nat) (lv : List (Nat × AV)), decode cX6_agrees pc = .ok (.ireturn, 1) → J X B (E, κ') pc lv [.inl (.int rr)]) (h0 : PC 7 E 3 a0 0) (h1 : PC 6 E 0 a1 1) {k4 : K → Int32 → Int32 → Option (K × Int32)} (hk4 : ∀ (κ : K) (x2 : Int32) (x3 : Int32), k4 κ x2 x3 = some (κ', rr) → J X B (E, κ) 4 [(0, .inr (some (3, a0, 0))), (1, .inr (some (0, a1, 1))), (2, .inl (.int x2)), (3, .inl (.int x3))] []) : ∀ (κ : K) (x2 : Int32) (x3 : Int32), f_X6_agrees_b83 E a0 a1 k4 κ x2 x3 = some (κ', rr) → J X B (E, κ) 83 [(0, .inr (some (3, a0, 0))), (1, .inr (some (0, a1, 1))), (2, .inl (.int x2)), (3, .inl (.int x3))] [] := by
  intro κ x2 x3 h
  unfold f_X6_agrees_b83 at h
  refine J_aload_n O.mo dX6_agrees_83 0 rfl ?_
  refine J_getF O.co (kd0 := 7) (k7_0 h0) (l7_0 h0) (C := RX6) (T := TX6) (N := 5) rfl (by decide) rfl in_X6 0 (by decide) (v := .inr (some (3, a0, 1))) rfl mw316 rfl dX6_agrees_84 ?_
  refine J_aload_n O.mo dX6_agrees_87 1 rfl ?_
  refine J_aload_n O.mo dX6_agrees_88 0 rfl ?_
  obtain ⟨κ33, r35, hq34, h⟩ := bd_some h
  refine J_callV O hKP (as := [.inr (some (0, a1, 1)), .inr (some (3, a0, 0))]) (rest := []) (r := none) (c_X3_doNext_R hfl (sub_7_1_4 h0) h1 h0 hq34) rfl (kd0 := 4) (k7_1 h0) (l7_1 h0) (T := TX3) (N := 9) rfl (by decide) mw331 mw247 mw248 mw137 mw249 pd_X3_doNext rfl (by decide) rfl (Nat.le_of_ble_eq_true rfl) (sl_p (s7_0 h0) (sl_p (s6_0 h1) (sl_v (sl_v sl_0)))) st_0 dX6_agrees_89 ?_
  show J X B (E, κ33) 92 [(0, .inr (some (3, a0, 0))), (1, .inr (some (0, a1, 1))), (2, .inl (.int x2)), (3, .inl (.int x3))] []
  refine J_iinc O.mo (v := x3 + 1) (lv' := [(0, .inr (some (3, a0, 0))), (1, .inr (some (0, a1, 1))), (2, .inl (.int x2))]) dX6_agrees_92 (by rw [hmL]; decide) 3 rfl (by rw [show Int32.ofInt (1) = (1 : Int32) from by decide]) rfl rfl ?_
  refine nm_some (P := fun z => J X B (E, κ33) 95 [(3, .inl (.int z)), (0, .inr (some (3, a0, 0))), (1, .inr (some (0, a1, 1))), (2, .inl (.int x2))] []) h (fun y36 h => ?_)
  refine J_goto O.mo (tgt := 4) dX6_agrees_95 (by decide) ?_
  refine J_sub [1, 2, 3, 0] rfl ?_
  exact hk4 _ _ _ h
set_option maxHeartbeats 4000000 in
set_option maxRecDepth 100000 in
theorem w_X6_agrees_b4 {l0 : Launch} (hfl : l0.stackTraces = false) {X : MX} {B : BX (EE × K)} {g : GP} {E : EE} {κ' : K} {rr : Int32} {a0 : Nat} {a1 : Nat} (O : CK l0 X B g cX6_agrees RX6 5 90) (hKP : KPok B E) (hmL : B.2.2.2.1 = 4) (hE : ∀ (pc : Nat) (lv : List (Nat × AV)), decode cX6_agrees pc = .ok (.ireturn, 1) → J X B (E, κ') pc lv [.inl (.int rr)]) (h0 : PC 7 E 3 a0 0) (h1 : PC 6 E 0 a1 1) : ∀ (n : Nat) (κ : K) (x2 : Int32) (x3 : Int32), f_X6_agrees_b4 E a0 a1 n κ x2 x3 = some (κ', rr) → J X B (E, κ) 4 [(0, .inr (some (3, a0, 0))), (1, .inr (some (0, a1, 1))), (2, .inl (.int x2)), (3, .inl (.int x3))] [] := by
  intro n
  induction n with
  | zero => intro κ x2 x3 h; cases h
  | succ n ih =>
    intro κ x2 x3 h
    rw [f_X6_agrees_b4] at h
    refine J_iload_n O.mo dX6_agrees_4 3 rfl ?_
    refine J_aload_n O.mo dX6_agrees_5 0 rfl ?_
    replace h := optG_some h
    rcases h with ⟨ho3, h⟩ | ⟨j1, ho3, hj2, h⟩
    · cases h
    · refine J_getF O.co (kd0 := 7) (k7_0 h0) (l7_0 h0) (C := RX6) (T := TX6) (N := 5) rfl (by decide) rfl in_X6 1 (by decide) (v := .inr (some (0, j1, 5))) (by rw [ho3]; rfl) mw214 rfl dX6_agrees_6 ?_
      refine J_getF O.co (kd0 := 9) (k9_0 (⟨hj2, rfl⟩ : PC 9 E 0 j1 5)) (l9_0 (⟨hj2, rfl⟩ : PC 9 E 0 j1 5)) (C := RX8) (T := TX8) (N := 10) rfl (by decide) rfl in_X8 5 (by decide) (v := .inl (.int (kV κ 0 j1 5 5))) rfl mw314 rfl dX6_agrees_9 ?_
      refine J_icmp_ge O.mo (tgt := 98) dX6_agrees_12 (by decide) (fun hc4 => ?_) (fun hc4 => ?_)
      · replace h := (if_pos hc4).symm.trans h
        refine J_sub [0, 2] rfl ?_
        exact w_X6_agrees_b98 hfl O hKP hmL hE h0 h1 _ _ h
      · replace h := (if_neg hc4).symm.trans h
        refine J_aload_n O.mo dX6_agrees_15 0 rfl ?_
        refine J_getF O.co (kd0 := 7) (k7_0 h0) (l7_0 h0) (C := RX6) (T := TX6) (N := 5) rfl (by decide) rfl in_X6 0 (by decide) (v := .inr (some (3, a0, 1))) rfl mw316 rfl dX6_agrees_16 ?_
        obtain ⟨κ25, r27, hq26, h⟩ := bd_some h
        refine J_callV O hKP (as := []) (rest := []) (r := (some (.inl (.int r27)))) (c_X3_hasEnded hfl (sub_7_1_4 h0) hq26) rfl (kd0 := 4) (k7_1 h0) (l7_1 h0) (T := TX3) (N := 9) rfl (by decide) mw330 mw323 mw324 mw137 mw325 pd_X3_hasEnded rfl (by decide) rfl (Nat.le_of_ble_eq_true rfl) (sl_p (s7_0 h0) (sl_p (s6_0 h1) (sl_v (sl_v sl_0)))) st_0 dX6_agrees_19 ?_
        show J X B (E, κ25) 22 [(0, .inr (some (3, a0, 0))), (1, .inr (some (0, a1, 1))), (2, .inl (.int x2)), (3, .inl (.int x3))] [.inl (.int r27)]
        refine J_if_eq O.mo (tgt := 27) dX6_agrees_22 (by decide) (fun hc28 => ?_) (fun hc28 => ?_)
        · replace h := (if_pos hc28).symm.trans h
          refine J_iload_n O.mo dX6_agrees_27 2 rfl ?_
          refine J_aload_n O.mo dX6_agrees_28 0 rfl ?_
          replace h := optG_some h
          rcases h with ⟨ho31, h⟩ | ⟨j29, ho31, hj30, h⟩
          · cases h
          · refine J_getF O.co (kd0 := 7) (k7_0 h0) (l7_0 h0) (C := RX6) (T := TX6) (N := 5) rfl (by decide) rfl in_X6 1 (by decide) (v := .inr (some (0, j29, 5))) (by rw [ho31]; rfl) mw214 rfl dX6_agrees_29 ?_
            refine J_getF O.co (kd0 := 9) (k9_0 (⟨hj30, rfl⟩ : PC 9 E 0 j29 5)) (l9_0 (⟨hj30, rfl⟩ : PC 9 E 0 j29 5)) (C := RX8) (T := TX8) (N := 10) rfl (by decide) rfl in_X8 4 (by decide) (v := .inr (some (0, j29, 16))) rfl mw315 rfl dX6_agrees_32 ?_
            refine J_getF O.co (kd0 := 5) (k9_11 (⟨hj30, rfl⟩ : PC 9 E 0 j29 5)) (l9_11 (⟨hj30, rfl⟩ : PC 9 E 0 j29 5)) (C := RX4) (T := TX4) (N := 2) rfl (by decide) rfl in_X4 1 (by decide) (v := .inl (.int (kV κ25 0 j29 16 1))) rfl mw216 rfl dX6_agrees_35 ?_
            refine J_icmp_ge O.mo (tgt := 83) dX6_agrees_38 (by decide) (fun hc32 => ?_) (fun hc32 => ?_)
            · replace h := (if_pos hc32).symm.trans h
              exact w_X6_agrees_b83 hfl O hKP hmL hE h0 h1 ih _ _ _ h
            · replace h := (if_neg hc32).symm.trans h
              refine J_aload_n O.mo dX6_agrees_41 0 rfl ?_
              replace h := optG_some h
              rcases h with ⟨ho39, h⟩ | ⟨j37, ho39, hj38, h⟩
              · cases h
              · refine J_getF O.co (kd0 := 7) (k7_0 h0) (l7_0 h0) (C := RX6) (T := TX6) (N := 5) rfl (by decide) rfl in_X6 1 (by decide) (v := .inr (some (0, j37, 5))) (by rw [ho39]; rfl) mw214 rfl dX6_agrees_42 ?_
                refine J_getF O.co (kd0 := 9) (k9_0 (⟨hj38, rfl⟩ : PC 9 E 0 j37 5)) (l9_0 (⟨hj38, rfl⟩ : PC 9 E 0 j37 5)) (C := RX8) (T := TX8) (N := 10) rfl (by decide) rfl in_X8 4 (by decide) (v := .inr (some (0, j37, 16))) rfl mw315 rfl dX6_agrees_45 ?_
                refine J_getF O.co (kd0 := 5) (k9_11 (⟨hj38, rfl⟩ : PC 9 E 0 j37 5)) (l9_11 (⟨hj38, rfl⟩ : PC 9 E 0 j37 5)) (C := RX4) (T := TX4) (N := 2) rfl (by decide) rfl in_X4 0 (by decide) (v := .inr (some (0, j37, 17))) rfl mw217 rfl dX6_agrees_48 ?_
                refine J_iload_n O.mo dX6_agrees_51 2 rfl ?_
                obtain ⟨hg40, h⟩ := gd_some h
                refine J_iald O.co (g := (kV κ25 0 j37 17)) (fun ad => ct_21 (l9_12 (⟨hj38, rfl⟩ : PC 9 E 0 j37 5)) (k9_12 (⟨hj38, rfl⟩ : PC 9 E 0 j37 5)) ad) hg40 dX6_agrees_52 ?_
                refine J_iconst O.mo (v := 4) dX6_agrees_53 (by decide) ?_
                refine J_idiv O.mo dX6_agrees_54 (by decide) ?_
                refine J_iload_n O.mo dX6_agrees_55 3 rfl ?_
                refine J_icmp_ne O.mo (tgt := 83) dX6_agrees_56 (by decide) (fun hc41 => ?_) (fun hc41 => ?_)
                · replace h := (if_neg hc41).symm.trans h
                  exact w_X6_agrees_b83 hfl O hKP hmL hE h0 h1 ih _ _ _ h
                · replace h := (if_pos hc41).symm.trans h
                  refine J_aload_n O.mo dX6_agrees_59 0 rfl ?_
                  refine J_getF O.co (kd0 := 7) (k7_0 h0) (l7_0 h0) (C := RX6) (T := TX6) (N := 5) rfl (by decide) rfl in_X6 0 (by decide) (v := .inr (some (3, a0, 1))) rfl mw316 rfl dX6_agrees_60 ?_
                  refine J_aload_n O.mo dX6_agrees_63 0 rfl ?_
                  replace h := optG_some h
                  rcases h with ⟨ho44, h⟩ | ⟨j42, ho44, hj43, h⟩
                  · cases h
                  · refine J_getF O.co (kd0 := 7) (k7_0 h0) (l7_0 h0) (C := RX6) (T := TX6) (N := 5) rfl (by decide) rfl in_X6 1 (by decide) (v := .inr (some (0, j42, 5))) (by rw [ho44]; rfl) mw214 rfl dX6_agrees_64 ?_
                    refine J_getF O.co (kd0 := 9) (k9_0 (⟨hj43, rfl⟩ : PC 9 E 0 j42 5)) (l9_0 (⟨hj43, rfl⟩ : PC 9 E 0 j42 5)) (C := RX8) (T := TX8) (N := 10) rfl (by decide) rfl in_X8 4 (by decide) (v := .inr (some (0, j42, 16))) rfl mw315 rfl dX6_agrees_67 ?_
                    refine J_getF O.co (kd0 := 5) (k9_11 (⟨hj43, rfl⟩ : PC 9 E 0 j42 5)) (l9_11 (⟨hj43, rfl⟩ : PC 9 E 0 j42 5)) (C := RX4) (T := TX4) (N := 2) rfl (by decide) rfl in_X4 0 (by decide) (v := .inr (some (0, j42, 17))) rfl mw217 rfl dX6_agrees_70 ?_
                    refine J_iload_n O.mo dX6_agrees_73 2 rfl ?_
                    obtain ⟨hg45, h⟩ := gd_some h
                    refine J_iald O.co (g := (kV κ25 0 j42 17)) (fun ad => ct_21 (l9_12 (⟨hj43, rfl⟩ : PC 9 E 0 j42 5)) (k9_12 (⟨hj43, rfl⟩ : PC 9 E 0 j42 5)) ad) hg45 dX6_agrees_74 ?_
                    refine J_iconst O.mo (v := 4) dX6_agrees_75 (by decide) ?_
                    refine J_irem O.mo dX6_agrees_76 (by decide) ?_
                    obtain ⟨κ46, r48, hq47, h⟩ := bd_some h
                    refine J_callV O hKP (as := [.inl (.int (((kV κ25 0 j42 17) x2.toNatClampNeg) - ((kV κ25 0 j42 17) x2.toNatClampNeg) / 4 * 4))]) (rest := []) (r := none) (c_X3_enterHandler hfl (sub_7_1_4 h0) hq47) rfl (kd0 := 4) (k7_1 h0) (l7_1 h0) (T := TX3) (N := 9) rfl (by decide) mw332 mw151 mw152 mw137 mw153 pd_X3_enterHandler rfl (by decide) rfl (Nat.le_of_ble_eq_true rfl) (sl_p (s7_0 h0) (sl_p (s6_0 h1) (sl_v (sl_v sl_0)))) st_0 dX6_agrees_77 ?_
                    show J X B (E, κ46) 80 [(0, .inr (some (3, a0, 0))), (1, .inr (some (0, a1, 1))), (2, .inl (.int x2)), (3, .inl (.int x3))] []
                    refine J_iinc O.mo (v := x2 + 1) (lv' := [(0, .inr (some (3, a0, 0))), (1, .inr (some (0, a1, 1))), (3, .inl (.int x3))]) dX6_agrees_80 (by rw [hmL]; decide) 2 rfl (by rw [show Int32.ofInt (1) = (1 : Int32) from by decide]) rfl rfl ?_
                    refine nm_some (P := fun z => J X B (E, κ46) 83 [(2, .inl (.int z)), (0, .inr (some (3, a0, 0))), (1, .inr (some (0, a1, 1))), (3, .inl (.int x3))] []) h (fun y49 h => ?_)
                    refine J_sub [1, 2, 0, 3] rfl ?_
                    exact w_X6_agrees_b83 hfl O hKP hmL hE h0 h1 ih _ _ _ h
        · replace h := (if_neg hc28).symm.trans h
          refine J_iconst O.mo (v := 0) dX6_agrees_25 (by decide) ?_
          cases h
          exact hE _ _ dX6_agrees_26
set_option maxHeartbeats 4000000 in
set_option maxRecDepth 100000 in
theorem w_X6_agrees_e {l0 : Launch} (hfl : l0.stackTraces = false) {X : MX} {B : BX (EE × K)} {g : GP} {E : EE} {κ' : K} {rr : Int32} {a0 : Nat} {a1 : Nat} (O : CK l0 X B g cX6_agrees RX6 5 90) (hKP : KPok B E) (hmL : B.2.2.2.1 = 4) (hE : ∀ (pc : Nat) (lv : List (Nat × AV)), decode cX6_agrees pc = .ok (.ireturn, 1) → J X B (E, κ') pc lv [.inl (.int rr)]) (h0 : PC 7 E 3 a0 0) (h1 : PC 6 E 0 a1 1) : ∀ (κ : K), f_X6_agrees_e E κ a0 a1 = some (κ', rr) → J X B (E, κ) 0 [(0, .inr (some (3, a0, 0))), (1, .inr (some (0, a1, 1)))] [] := by
  intro κ h
  unfold f_X6_agrees_e at h
  refine J_iconst O.mo (v := 0) dX6_agrees_0 (by decide) ?_
  refine J_istore_n O.mo (lv' := [(0, .inr (some (3, a0, 0))), (1, .inr (some (0, a1, 1)))]) dX6_agrees_1 (by rw [hmL]; decide) rfl rfl ?_
  refine J_iconst O.mo (v := 0) dX6_agrees_2 (by decide) ?_
  refine J_istore_n O.mo (lv' := [(2, .inl (.int 0)), (0, .inr (some (3, a0, 0))), (1, .inr (some (0, a1, 1)))]) dX6_agrees_3 (by rw [hmL]; decide) rfl rfl ?_
  refine J_sub [2, 3, 1, 0] rfl ?_
  exact w_X6_agrees_b4 hfl O hKP hmL hE h0 h1 FU _ _ _ h
theorem c_X6_agrees {l : Launch} (hfl : l.stackTraces = false) {E : EE} {κ κ' : K} {a0 : Nat} {a1 : Nat} (h0 : PC 7 E 3 a0 0) (h1 : PC 6 E 0 a1 1) {rr : Int32} (h : f_X6_agrees E κ a0 a1 = some (κ', rr)) : Con l yX6_agrees cX6_agrees 4 (some .boolean) 5 90 [.inr (some (3, a0, 0)), .inr (some (0, a1, 1))] (E, κ) (E, κ') (some (.inl (.int rr))) := by
  unfold f_X6_agrees at h
  obtain ⟨κ1, x1, q1, q2⟩ := bd_some h
  obtain ⟨hb, q3⟩ := gd_some q2
  cases q3
  exact Con_of hfl (by decide +kernel) (Nat.le_of_ble_eq_true rfl) rfl ⟨_, rfl, nar_b hb⟩ (fun X B g O hKP hmL hE => w_X6_agrees_e hfl O hKP hmL hE h0 h1 _ q1)
