set_option maxRecDepth 100000 in
theorem mw618 : Cond.instantiable RX1 19 ∈ gwl := gwl_tb 247 rfl rfl
set_option maxRecDepth 100000 in
theorem mw619 : Cond.methodLink RX10 54 yX1_init ∈ gwl := gwl_tb 248 rfl rfl
set_option maxRecDepth 100000 in
theorem mw620 : Cond.instanceMethod yX1_init ∈ gwl := gwl_tb 249 rfl rfl
set_option maxRecDepth 100000 in
theorem mw621 : Cond.code yX1_init cX1_init 5 none ∈ gwl := gwl_tb 250 rfl rfl
set_option maxRecDepth 100000 in
theorem mw622 : Cond.castable RX1 "java/lang/Object" ∈ nwl := nwl_tb 1206 rfl rfl
set_option maxRecDepth 100000 in
theorem mw623 : Cond.methodLink RX10 57 yJx4a65c_add_9ea2d ∈ gwl := gwl_tb 506 rfl rfl
set_option maxRecDepth 100000 in
theorem mw624 : Cond.instanceMethod yJx4a65c_add_9ea2d ∈ gwl := gwl_tb 507 rfl rfl
set_option maxRecDepth 100000 in
theorem mw625 : Cond.selects RJx4a65c yJx4a65c_add_9ea2d yJx4a65c_add_9ea2d ∈ gwl := gwl_tb 508 rfl rfl
set_option maxRecDepth 100000 in
theorem mw626 : Cond.code yJx4a65c_add_9ea2d cJx4a65c_add_9ea2d 2 (some .boolean) ∈ gwl := gwl_tb 509 rfl rfl
set_option maxRecDepth 100000 in
theorem mw627 : Cond.instantiable RX7 3 ∈ gwl := gwl_tb 928 rfl rfl
set_option maxRecDepth 100000 in
theorem mw628 : Cond.initialized RX7 ∈ gwl := gwl_tb 26 rfl rfl
set_option maxRecDepth 100000 in
theorem mw629 : Cond.methodLink RX10 227 yX7_init ∈ gwl := gwl_tb 929 rfl rfl
set_option maxRecDepth 100000 in
theorem mw630 : Cond.instanceMethod yX7_init ∈ gwl := gwl_tb 930 rfl rfl
set_option maxRecDepth 100000 in
theorem mw631 : Cond.code yX7_init cX7_init 3 none ∈ gwl := gwl_tb 931 rfl rfl
set_option maxRecDepth 100000 in
theorem mw632 : Cond.castable RX7 "java/lang/Object" ∈ nwl := nwl_tb 1212 rfl rfl
set_option maxRecDepth 100000 in
theorem mw633 : Cond.classLink RX10 338 RX6 ∈ gwl := gwl_tb 1144 rfl rfl
set_option maxRecDepth 100000 in
theorem mw634 : Cond.instantiable RX6 5 ∈ gwl := gwl_tb 1145 rfl rfl
set_option maxRecDepth 100000 in
theorem mw635 : Cond.methodLink RX10 340 yX6_init ∈ gwl := gwl_tb 1146 rfl rfl
set_option maxRecDepth 100000 in
theorem mw636 : Cond.instanceMethod yX6_init ∈ gwl := gwl_tb 1147 rfl rfl
set_option maxRecDepth 100000 in
theorem mw637 : Cond.code yX6_init cX6_init 2 none ∈ gwl := gwl_tb 1148 rfl rfl
set_option maxRecDepth 100000 in
theorem mw638 : Cond.methodLink RX10 343 yX6_agrees ∈ gwl := gwl_tb 1168 rfl rfl
set_option maxRecDepth 100000 in
theorem mw639 : Cond.instanceMethod yX6_agrees ∈ gwl := gwl_tb 1169 rfl rfl
set_option maxRecDepth 100000 in
theorem mw640 : Cond.selects RX6 yX6_agrees yX6_agrees ∈ gwl := gwl_tb 1170 rfl rfl
set_option maxRecDepth 100000 in
theorem mw641 : Cond.code yX6_agrees cX6_agrees 4 (some .boolean) ∈ gwl := gwl_tb 1171 rfl rfl
set_option maxRecDepth 100000 in
theorem mw642 : Cond.fieldLink RX10 335 "GuestHall$Guest" "diedWithHost" "Z" ∈ gwl := gwl_tb 466 rfl rfl
theorem pd_X1_init : (yX1_init).cls ≠ "java/lang/invoke/MethodHandle" ∧ (yX1_init).cls ≠ "java/lang/invoke/VarHandle" ∧ (parseMethodDescriptor (yX1_init).desc).map (fun d => d.parameters.length) = some 4 := ⟨by decide +kernel, by decide +kernel, by decide +kernel⟩
theorem pd_Jx4a65c_add_9ea2d : (yJx4a65c_add_9ea2d).cls ≠ "java/lang/invoke/MethodHandle" ∧ (yJx4a65c_add_9ea2d).cls ≠ "java/lang/invoke/VarHandle" ∧ (parseMethodDescriptor (yJx4a65c_add_9ea2d).desc).map (fun d => d.parameters.length) = some 1 := ⟨by decide +kernel, by decide +kernel, by decide +kernel⟩
theorem pd_X7_init : (yX7_init).cls ≠ "java/lang/invoke/MethodHandle" ∧ (yX7_init).cls ≠ "java/lang/invoke/VarHandle" ∧ (parseMethodDescriptor (yX7_init).desc).map (fun d => d.parameters.length) = some 1 := ⟨by decide +kernel, by decide +kernel, by decide +kernel⟩
theorem pd_X6_init : (yX6_init).cls ≠ "java/lang/invoke/MethodHandle" ∧ (yX6_init).cls ≠ "java/lang/invoke/VarHandle" ∧ (parseMethodDescriptor (yX6_init).desc).map (fun d => d.parameters.length) = some 1 := ⟨by decide +kernel, by decide +kernel, by decide +kernel⟩
theorem pd_X6_agrees : (yX6_agrees).cls ≠ "java/lang/invoke/MethodHandle" ∧ (yX6_agrees).cls ≠ "java/lang/invoke/VarHandle" ∧ (parseMethodDescriptor (yX6_agrees).desc).map (fun d => d.parameters.length) = some 1 := ⟨by decide +kernel, by decide +kernel, by decide +kernel⟩
noncomputable def gdp {α : Type} (p : Prop) (a : Option α) : Option α := @ite _ p (Classical.propDecidable p) a none
theorem gdp_some {α : Type} {p : Prop} {a : Option α} {r : α} (h : gdp p a = some r) : p ∧ a = some r := by
  unfold gdp at h
  split at h
  · exact ⟨by assumption, h⟩
  · cases h
theorem gdp_t {α : Type} {p : Prop} {a : Option α} (h : p) : gdp p a = a := by unfold gdp; exact if_pos h
/-- a call's answer, where what exists may grow behind it -/
def bxE {α β : Type} (E : EE) (o : Option (K × (α ⊕ Nat))) (f : K → α → Option ((EE × K) × (β ⊕ Nat))) : Option ((EE × K) × (β ⊕ Nat)) := match o with
  | none => none
  | some (κ, .inl x) => f κ x
  | some (κ, .inr e) => some ((E, κ), .inr e)
theorem bxE_some {α β : Type} {E : EE} {o : Option (K × (α ⊕ Nat))} {f : K → α → Option ((EE × K) × (β ⊕ Nat))} {x' : EE × K} {r : β ⊕ Nat} (h : bxE E o f = some (x', r)) : (∃ (κ : K) (x : α), o = some (κ, .inl x) ∧ f κ x = some (x', r)) ∨ ∃ κ e, o = some (κ, .inr e) ∧ x' = (E, κ) ∧ r = .inr e := by
  match o, h with
  | some (κ, .inl x), h => exact Or.inl ⟨κ, x, rfl, h⟩
  | some (κ, .inr e), h => cases h; exact Or.inr ⟨κ, e, rfl, rfl, rfl⟩
theorem adK_P {κ : K} {nw : NW} {cells : List RC} {f i c k : Nat} (h : nw f i c = none) : kP (adK κ nw cells) f i c k = kP κ f i c k := by
  unfold adK kP; simp only [h]
theorem adK_V {κ : K} {nw : NW} {cells : List RC} {f i c k : Nat} (h : nw f i c = none) : kV (adK κ nw cells) f i c k = kV κ f i c k := by
  unfold adK kV; simp only [h]
theorem adK_N {κ : K} {nw : NW} {cells : List RC} {f i c : Nat} (h : nw f i c = none) : kN (adK κ nw cells) f i c = kN κ f i c := by
  unfold adK kN; simp only [h]
theorem DGF_up0 {E : EE} {κ : K} {fam i : Nat} {l : List RC} (h : DGF E κ fam i) : DGF (upR E l) κ fam i :=
  ⟨fun f i c k co hl h8 hs => h.1 f i c k co (by rw [← liveC_upR (l := l) h8]; exact hl) h8 hs, fun i c k hl h24 hc => h.2 i c k (by rw [← liveC_upR (l := l) (by decide)]; exact hl) h24 hc⟩
/-- a list is empty and has no array yet, or has room -/
def lsOK (E : EE) (κ : K) (c : Nat) : Prop := (cnt4 E c = 0 ∧ kP κ 4 0 c 1 = none ∧ kV κ 4 0 c 2 = 0) ∨ (¬ cnt4 E c = 0 ∧ kP κ 4 0 c 1 = some 0 ∧ vp_in (kV κ 4 0 c 2) 10)
/-- a new member is added to its list -/
def addL (x : EE × K) (c e : Nat) : EE × K := if cnt4 x.1 c = 0 then (flagE x.1 c, adE x.2 c e) else (x.1, adN x.2 c e)
theorem addL_0 {E : EE} {κ : K} {c e : Nat} (h : cnt4 E c = 0) : addL (E, κ) c e = (flagE E c, adE κ c e) := if_pos h
theorem addL_n {E : EE} {κ : K} {c e : Nat} (h : ¬ cnt4 E c = 0) : addL (E, κ) c e = (E, adN κ c e) := if_neg h
theorem DGF_up {E : EE} {κ : K} {fam i : Nat} {l : List RC} (a b : Nat) (h : DGF E κ fam i) : DGF (upR E l) (addC κ a b) fam i :=
  ⟨fun f i c k co hl h8 hs => h.1 f i c k co (by rw [← liveC_upR (l := l) h8]; exact hl) h8 hs, fun i c k hl h24 hc => h.2 i c k (by rw [← liveC_upR (l := l) (by decide)]; exact hl) h24 hc⟩
def eG (E : EE) : EE := bmp E 0 (eR E)
def kG (E : EE) (κ : K) (h : Nat) (a2 a3 : Int32) : K := adK (addC κ 39 341) (nwF 0 (cntE E 0) 39 fun c => c) (cX1 (eR E).length (kV κ 4 0 1 2) h a2 a3)
def xG (E : EE) (κ : K) (h : Nat) (a2 a3 : Int32) : EE × K := addL (eG E, kG E κ h a2 a3) 1 (cntE E 0)
theorem KPok.flagc {B : BX (EE × K)} {E : EE} {c : Nat} (h : KPok B E) : KPok B (flagE E c) := by
  intro ad ad' h1 h2
  refine h ad ad' h1 fun f i c2 hl hk => ?_
  by_cases h4 : f = 4
  · subst h4
    refine h2 4 i c2 ?_ hk
    unfold liveC at hl ⊢
    rw [cntE_flag]
    simp only [Bool.and_eq_true, Bool.or_eq_true, decide_eq_true_eq] at hl ⊢
    refine ⟨hl.1, hl.2.imp id fun z => ?_⟩
    rw [cnt4_flag]
    split
    · exact Nat.lt_succ_self 0
    · exact z
  · exact h2 f i c2 (live_flag hl h4) hk
set_option maxHeartbeats 4000000 in
set_option maxRecDepth 100000 in
theorem w_guestT {l0 : Launch} (hfl : l0.stackTraces = false) {X : MX} {B : BX (EE × K)} {g : GP} {E : EE} (O : CK l0 X B g cX10_guest RX10 8 141) (hKP : KPok B E) (hmL : B.2.2.2.1 = 5) (h0 : PC 10 E 4 0 0) {h : Nat} (hh : PC 3 E 2 h 0) {κ : K} {a2 a3 : Int32} (hb3 : a3 = 0 ∨ a3 = 1) (hDG : DGF E κ 0 (cntE E 0)) (hH : E.2.2.2.1 = 1) (hRN : rawN E) (hLs : lsOK E κ 1) (hE : ∀ (pc : Nat) (lv : List (Nat × AV)), decode cX10_guest pc = .ok (.ireturn, 1) → J X B (xG E κ h a2 a3) pc lv [.inl (.int (kV (xG E κ h a2 a3).2 4 0 1 2 - 1))]) : J X B (E, κ) 56 [(4, .inr (some (2, h, 0))), (0, .inr (some (4, 0, 0))), (2, .inl (.int a2)), (3, .inl (.int a3))] [] := by
  refine J_aload_n O.mo dX10_guest_56 1 rfl ?_
  refine J_getF O.co (kd0 := 10) (k10_0 h0) (l10_0 h0) (C := RX10) (T := TX10) (N := 4) rfl (by decide) rfl in_X10 0 (by decide) (v := .inr (some (4, 0, 1))) rfl mw333 rfl dX10_guest_57 ?_
  refine J_newO O hKP (rawOK_of_N hRN) (kd0 := 2) (C := RX1) (T := TX1) (N := 19) rfl rfl in_X1 tyX1 tyX1_ok mw342 mw618 mw74 (sl_p (s3_0 hh) (sl_p (s10_0 h0) (sl_v (sl_v sl_0)))) (st_p (ls_st (c := 1) (by decide) h0) st_0) dX10_guest_60 (fun hR => ?_)
  have h01 : PC 10 (upR E (eR E ++ [.inl (2, fun j => dv (tyX1 j))])) 4 0 0 := PC_up (by decide) h0
  have hh1 : PC 3 (upR E (eR E ++ [.inl (2, fun j => dv (tyX1 j))])) 2 h 0 := PC_up (by decide) hh
  have hKP1 : KPok B (upR E (eR E ++ [.inl (2, fun j => dv (tyX1 j))])) := KPok.raw hKP (by simp)
  have hraw1 : Stab (upR E (eR E ++ [.inl (2, fun j => dv (tyX1 j))])) (.inr (some (8, (eR E).length, 0))) := st_8 (by show (eR E).length < (eR E ++ [Sum.inl (2, fun j => dv (tyX1 j))] : List RC).length; simp)
  refine J_dup O.mo dX10_guest_63 rfl ?_
  refine J_aload_n O.mo dX10_guest_64 1 rfl ?_
  refine J_getF O.co (kd0 := 10) (k10_0 h01) (l10_0 h01) (C := RX10) (T := TX10) (N := 4) rfl (by decide) rfl in_X10 0 (by decide) (v := .inr (some (4, 0, 1))) rfl mw333 rfl dX10_guest_65 ?_
  refine J_callV O hKP1 (as := []) (rest := [.inr (some (8, (eR E).length, 0)), .inr (some (8, (eR E).length, 0)), .inr (some (4, 0, 1))]) (r := some (.inl (.int (kV κ 4 0 1 2)))) (c_Jx4a65c_size_8abf5_L1 hfl h01 rfl) rfl (kd0 := 0) (ls_kd (c := 1) (by decide)) (ls_lv (by decide) h01) (T := TJx4a65c) (N := 3) rfl (by decide) mw334 mw335 mw336 mw45 mw337 pd_Jx4a65c_size_8abf5 rfl (by decide) rfl (Nat.le_of_ble_eq_true rfl) (sl_p (s3_0 hh1) (sl_p (s10_0 h01) (sl_v (sl_v sl_0)))) (st_p hraw1 (st_p hraw1 (st_p (ls_st (c := 1) (by decide) h01) st_0))) dX10_guest_68 ?_
  refine J_aload O.mo dX10_guest_71 0 rfl ?_
  refine J_iload_n O.mo dX10_guest_73 2 rfl ?_
  refine J_iload_n O.mo dX10_guest_74 3 rfl ?_
  refine J_sub [1] rfl ?_
  refine J_callI O hKP1 (as := [.inl (.int (kV κ 4 0 1 2)), .inr (some (2, h, 0)), .inl (.int a2), .inl (.int a3)]) (rest := [.inr (some (8, (eR E).length, 0)), .inr (some (4, 0, 1))]) (ci_X1 hfl (kV κ 4 0 1 2) h a2 a3 hh hb3 hR) rfl rfl (Or.inl mw619) mw620 mw74 mw621 pd_X1_init rfl (by decide) rfl (Nat.le_of_ble_eq_true rfl) (sl_p (s10_0 h01) sl_0) (st_p hraw1 (st_p (ls_st (c := 1) (by decide) h01) st_0)) dX10_guest_75 ?_
  change J X B (upR E (eR E ++ cX1 (eR E).length (kV κ 4 0 1 2) h a2 a3), addC κ 39 341) 78 [(0, .inr (some (4, 0, 0)))] [.inr (some (8, (eR E).length, 0)), .inr (some (4, 0, 1))]
  refine J_bmp (E0 := E) (i0 := cntE E 0) (sz := 39) (pm := fun c => c) (l := eR E) (cells := cX1 (eR E).length (kV κ 4 0 1 2) h a2 a3) O hKP (fam := 0) rfl rfl rfl (fun i hi => hi) (fun c _ c2 _ h => h) rfl ad_G (fun r hr => rcF_N (hRN r hr)) (DGF_up _ _ hDG) (lv' := [(0, .inr (some (4, 0, 0)))]) (st' := [.inr (some (0, cntE E 0, 0)), .inr (some (4, 0, 1))]) ?_ ?_ ?_
  · simp only [List.map_cons, List.map_nil, rnA_n (nwF_f (f := 4) (fam := 0) (by decide))]
  · simp only [List.map_cons, List.map_nil, rnA_n (nwF_f (f := 4) (fam := 0) (by decide)), rnA_s (nwF_s (fam := 0) (c := 0) (sz := 39) (by decide)), Nat.add_zero]
  change J X B (eG E, kG E κ h a2 a3) 78 [(0, .inr (some (4, 0, 0)))] [.inr (some (0, cntE E 0, 0)), .inr (some (4, 0, 1))]
  have hPC : PC 10 (eG E) 4 0 0 := PC_bmp (by decide) h0 rfl
  have hKP2 : KPok B (eG E) := KPok.bmp (fam := 0) (l := eR E) hKP rfl (Nat.le_refl _)
  have hPCe : PC 2 (eG E) 0 (cntE E 0) 0 := ⟨by rw [show cntE (eG E) 0 = cntE E 0 + 1 from cntE_bmp_s (fam := 0) rfl]; exact Nat.lt_succ_self _, rfl⟩
  have hRN2 : rawN (eG E) := hRN
  replace hLs : lsOK (eG E) (kG E κ h a2 a3) 1 := by
    have e1 : kP (kG E κ h a2 a3) 4 0 1 1 = kP κ 4 0 1 1 := adK_P (nwF_f (by decide))
    have e2 : kV (kG E κ h a2 a3) 4 0 1 2 = kV κ 4 0 1 2 := adK_V (nwF_f (by decide))
    unfold lsOK; rw [e1, e2]; exact hLs
  rcases hLs with ⟨hf, h1, h2⟩ | ⟨hf, h1, h2⟩
  · have hx : xG E κ h a2 a3 = (flagE (eG E) 1, adE (kG E κ h a2 a3) 1 (cntE E 0)) := addL_0 hf
    rw [hx] at hE
    refine J_callV O hKP2 (as := [.inr (some (0, (cntE E 0), 0))]) (rest := []) (r := some (.inl (.int 1))) (c_addE hfl (c := 1) (by decide) hPC hH h1 hf hRN2 (e := (cntE E 0)) (kd1 := 2) (r := (RX1, TX1, 19)) (l2_0 hPCe) rfl (by decide) rfl mw622 h2) rfl (kd0 := 0) (ls_kd (c := 1) (by decide)) (ls_lv (by decide) hPC) (T := TJx4a65c) (N := 3) rfl (by decide) mw623 mw624 mw625 mw45 mw626 pd_Jx4a65c_add_9ea2d rfl (by decide) rfl (Nat.le_of_ble_eq_true rfl) (sl_p (s10_0 hPC) sl_0) st_0 dX10_guest_78 ?_
    show J X B (flagE (eG E) 1, adE (kG E κ h a2 a3) 1 (cntE E 0)) 81 [(0, .inr (some (4, 0, 0)))] [.inl (.int 1)]
    refine J_pop O.mo dX10_guest_81 rfl ?_
    refine J_aload_n O.mo dX10_guest_82 0 rfl ?_
    refine J_getF O.co (kd0 := 10) (k10_0 (PC_flag (c := 1) hPC)) (l10_0 (PC_flag (c := 1) hPC)) (C := RX10) (T := TX10) (N := 4) rfl (by decide) rfl in_X10 0 (by decide) (v := .inr (some (4, 0, 1))) rfl mw333 rfl dX10_guest_83 ?_
    refine J_callV O (KPok.flagc hKP2) (as := []) (rest := []) (r := some (.inl (.int (kV (adE (kG E κ h a2 a3) 1 (cntE E 0)) 4 0 1 2)))) (c_Jx4a65c_size_8abf5_L1 hfl (PC_flag (c := 1) hPC) rfl) rfl (kd0 := 0) (ls_kd (c := 1) (by decide)) (ls_lv (by decide) (PC_flag (c := 1) hPC)) (T := TJx4a65c) (N := 3) rfl (by decide) mw334 mw335 mw336 mw45 mw337 pd_Jx4a65c_size_8abf5 rfl (by decide) rfl (Nat.le_of_ble_eq_true rfl) (sl_p (s10_0 (PC_flag (c := 1) hPC)) sl_0) st_0 dX10_guest_86 ?_
    refine J_iconst O.mo (v := 1) dX10_guest_89 (by decide) ?_
    refine J_isub O.mo dX10_guest_90 ?_
    exact hE _ _ dX10_guest_91
  · have hx : xG E κ h a2 a3 = ((eG E), adN (kG E κ h a2 a3) 1 (cntE E 0)) := addL_n hf
    rw [hx] at hE
    refine J_callV O hKP2 (as := [.inr (some (0, (cntE E 0), 0))]) (rest := []) (r := some (.inl (.int 1))) (c_addN hfl (c := 1) (by decide) hPC h1 hf (e := (cntE E 0)) (kd1 := 2) (r := (RX1, TX1, 19)) (l2_0 hPCe) rfl (by decide) rfl mw622 h2) rfl (kd0 := 0) (ls_kd (c := 1) (by decide)) (ls_lv (by decide) hPC) (T := TJx4a65c) (N := 3) rfl (by decide) mw623 mw624 mw625 mw45 mw626 pd_Jx4a65c_add_9ea2d rfl (by decide) rfl (Nat.le_of_ble_eq_true rfl) (sl_p (s10_0 hPC) sl_0) st_0 dX10_guest_78 ?_
    show J X B ((eG E), adN (kG E κ h a2 a3) 1 (cntE E 0)) 81 [(0, .inr (some (4, 0, 0)))] [.inl (.int 1)]
    refine J_pop O.mo dX10_guest_81 rfl ?_
    refine J_aload_n O.mo dX10_guest_82 0 rfl ?_
    refine J_getF O.co (kd0 := 10) (k10_0 (hPC)) (l10_0 (hPC)) (C := RX10) (T := TX10) (N := 4) rfl (by decide) rfl in_X10 0 (by decide) (v := .inr (some (4, 0, 1))) rfl mw333 rfl dX10_guest_83 ?_
    refine J_callV O hKP2 (as := []) (rest := []) (r := some (.inl (.int (kV (adN (kG E κ h a2 a3) 1 (cntE E 0)) 4 0 1 2)))) (c_Jx4a65c_size_8abf5_L1 hfl (hPC) rfl) rfl (kd0 := 0) (ls_kd (c := 1) (by decide)) (ls_lv (by decide) (hPC)) (T := TJx4a65c) (N := 3) rfl (by decide) mw334 mw335 mw336 mw45 mw337 pd_Jx4a65c_size_8abf5 rfl (by decide) rfl (Nat.le_of_ble_eq_true rfl) (sl_p (s10_0 (hPC)) sl_0) st_0 dX10_guest_86 ?_
    refine J_iconst O.mo (v := 1) dX10_guest_89 (by decide) ?_
    refine J_isub O.mo dX10_guest_90 ?_
    exact hE _ _ dX10_guest_91
noncomputable def f_X10_guest (E : EE) (κ : K) (a1 a2 a3 : Int32) : Option ((EE × K) × (Int32 ⊕ Nat)) := bxE E (f_X10_hostAt E κ a1) fun κ1 h => gd (h < cntE E 2) (if a2 < 1 then some ((E, addC κ1 1 6), .inr 2) else if a2 ≤ 4 then (if 5 ≤ kV κ1 4 0 1 2 then some ((E, addC κ1 1 6), .inr 3) else if kV κ1 2 h 0 4 = 0 then gdp (DGF E κ1 0 (cntE E 0) ∧ lsOK E κ1 1) (some (xG E κ1 h a2 a3, .inl (kV (xG E κ1 h a2 a3).2 4 0 1 2 - 1))) else some ((E, addC κ1 1 6), .inr 3)) else some ((E, addC κ1 1 6), .inr 2))
set_option maxHeartbeats 4000000 in
set_option maxRecDepth 100000 in
theorem w_X10_guest {l0 : Launch} (hfl : l0.stackTraces = false) {X : MX} {B : BX (EE × K)} {g : GP} {E : EE} {x' : EE × K} {rs : Int32 ⊕ Nat} (O : CK l0 X B g cX10_guest RX10 8 141) (hKP : KPok B E) (hmL : B.2.2.2.1 = 5) (hE : ∀ rr : Int32, rs = .inl rr → ∀ (pc : Nat) (lv : List (Nat × AV)), decode cX10_guest pc = .ok (.ireturn, 1) → J X B x' pc lv [.inl (.int rr)]) (hX : ∀ e, rs = .inr e → QXH X B g x' (.inr (exN e))) (h0 : PC 10 E 4 0 0) (hH : E.2.2.2.1 = 1) (hRN : rawN E) {a1 a2 a3 : Int32} (hb3 : a3 = 0 ∨ a3 = 1) {κ : K} (h : f_X10_guest E κ a1 a2 a3 = some (x', rs)) : J X B (E, κ) 0 [(0, .inr (some (4, 0, 0))), (1, .inl (.int a1)), (2, .inl (.int a2)), (3, .inl (.int a3))] [] := by
  unfold f_X10_guest at h
  refine J_aload_n O.mo dX10_guest_0 0 rfl ?_
  refine J_iload_n O.mo dX10_guest_1 1 rfl ?_
  refine J_sub [0, 2, 3] rfl ?_
  rcases bxE_some h with ⟨κ1, h6, hq, h⟩ | ⟨κ1, e, hq, rfl, rfl⟩
  · obtain ⟨hj, h⟩ := gd_some h
    refine J_callVX O hKP (as := [.inl (.int a1)]) (rest := []) (r := .inl (some (.inr (some (2, h6, 0))))) (c_X10_hostAt hfl h0 hq) rfl (kd0 := 10) (k10_0 h0) (l10_0 h0) (T := TX10) (N := 4) rfl (by decide) mw446 mw447 mw448 mw320 mw449 pd_X10_hostAt rfl (by decide) rfl (Nat.le_of_ble_eq_true rfl) (sl_p (s10_0 h0) (sl_v (sl_v sl_0))) st_0 dX10_guest_2 (fun s hs => by cases hs) (fun v hv => ?_)
    cases hv
    show J X B (E, κ1) 5 [(0, .inr (some (4, 0, 0))), (2, .inl (.int a2)), (3, .inl (.int a3))] [.inr (some (2, h6, 0))]
    refine J_astore O.mo (lv' := [(0, .inr (some (4, 0, 0))), (2, .inl (.int a2)), (3, .inl (.int a3))]) dX10_guest_5 (by rw [hmL]; decide) rfl rfl ?_
    refine J_iload_n O.mo dX10_guest_7 2 rfl ?_
    refine J_iconst O.mo (v := 1) dX10_guest_8 (by decide) ?_
    refine J_icmp_lt O.mo (tgt := 17) dX10_guest_9 (by decide) (fun hc => ?_) (fun hc => ?_)
    · replace h := (if_pos hc).symm.trans h
      refine J_sub [] rfl ?_
      cases h
      exact J_throw O (cls := "java/lang/IllegalArgumentException") (hX _ rfl) (text := "weight") (by decide +kernel) mw388 mw389 (by decide) hat_36 (by decide) (Nat.le_of_ble_eq_true rfl) rfl dX10_guest_17 dX10_guest_20 dX10_guest_21 dX10_guest_23 dX10_guest_26
    · replace h := (if_neg hc).symm.trans h
      refine J_iload_n O.mo dX10_guest_12 2 rfl ?_
      refine J_iconst O.mo (v := 4) dX10_guest_13 (by decide) ?_
      refine J_icmp_le O.mo (tgt := 27) dX10_guest_14 (by decide) (fun hc2 => ?_) (fun hc2 => ?_)
      · replace h := (if_pos hc2).symm.trans h
        refine J_aload_n O.mo dX10_guest_27 1 rfl ?_
        refine J_getF O.co (kd0 := 10) (k10_0 h0) (l10_0 h0) (C := RX10) (T := TX10) (N := 4) rfl (by decide) rfl in_X10 0 (by decide) (v := .inr (some (4, 0, 1))) rfl mw333 rfl dX10_guest_28 ?_
        refine J_callV O hKP (as := []) (rest := []) (r := some (.inl (.int (kV κ1 4 0 1 2)))) (c_Jx4a65c_size_8abf5_L1 hfl h0 rfl) rfl (kd0 := 0) (ls_kd (c := 1) (by decide)) (ls_lv (by decide) h0) (T := TJx4a65c) (N := 3) rfl (by decide) mw334 mw335 mw336 mw45 mw337 pd_Jx4a65c_size_8abf5 rfl (by decide) rfl (Nat.le_of_ble_eq_true rfl) (sl_p (s3_0 (⟨hj, rfl⟩ : PC 3 E 2 h6 0)) (sl_p (s10_0 h0) (sl_v (sl_v sl_0)))) st_0 dX10_guest_31 ?_
        refine J_iconst O.mo (v := 5) dX10_guest_34 (by decide) ?_
        refine J_icmp_ge O.mo (tgt := 46) dX10_guest_35 (by decide) (fun hc3 => ?_) (fun hc3 => ?_)
        · replace h := (if_pos hc3).symm.trans h
          refine J_sub [] rfl ?_
          cases h
          exact J_throw O (cls := "java/lang/IllegalStateException") (hX _ rfl) (text := "no room, or a host that failed") (by decide +kernel) mw397 mw398 (by decide) hat_51 (by decide) (Nat.le_of_ble_eq_true rfl) rfl dX10_guest_46 dX10_guest_49 dX10_guest_50 dX10_guest_52 dX10_guest_55
        · replace h := (if_neg hc3).symm.trans h
          refine J_aload O.mo dX10_guest_38 0 rfl ?_
          refine J_getF O.co (kd0 := 3) (k3_0 (⟨hj, rfl⟩ : PC 3 E 2 h6 0)) (l3_0 (⟨hj, rfl⟩ : PC 3 E 2 h6 0)) (C := RX2) (T := TX2) (N := 8) rfl (by decide) rfl in_X2 4 (by decide) (v := .inl (.int (kV κ1 2 h6 0 4))) rfl mw366 rfl dX10_guest_40 ?_
          refine J_if_eq O.mo (tgt := 56) dX10_guest_43 (by decide) (fun hc4 => ?_) (fun hc4 => ?_)
          · replace h := (if_pos hc4).symm.trans h
            obtain ⟨⟨hDG, hLs⟩, h⟩ := gdp_some h
            cases h
            exact w_guestT hfl O hKP hmL h0 (⟨hj, rfl⟩ : PC 3 E 2 h6 0) hb3 hDG hH hRN hLs (hE _ rfl)
          · replace h := (if_neg hc4).symm.trans h
            refine J_sub [] rfl ?_
            cases h
            exact J_throw O (cls := "java/lang/IllegalStateException") (hX _ rfl) (text := "no room, or a host that failed") (by decide +kernel) mw397 mw398 (by decide) hat_51 (by decide) (Nat.le_of_ble_eq_true rfl) rfl dX10_guest_46 dX10_guest_49 dX10_guest_50 dX10_guest_52 dX10_guest_55
      · replace h := (if_neg hc2).symm.trans h
        refine J_sub [] rfl ?_
        cases h
        exact J_throw O (cls := "java/lang/IllegalArgumentException") (hX _ rfl) (text := "weight") (by decide +kernel) mw388 mw389 (by decide) hat_36 (by decide) (Nat.le_of_ble_eq_true rfl) rfl dX10_guest_17 dX10_guest_20 dX10_guest_21 dX10_guest_23 dX10_guest_26
  · exact J_callVX O hKP (as := [.inl (.int a1)]) (rest := []) (r := .inr (exN e)) (c_X10_hostAt hfl h0 hq) rfl (kd0 := 10) (k10_0 h0) (l10_0 h0) (T := TX10) (N := 4) rfl (by decide) mw446 mw447 mw448 mw320 mw449 pd_X10_hostAt rfl (by decide) rfl (Nat.le_of_ble_eq_true rfl) (sl_p (s10_0 h0) (sl_v (sl_v sl_0))) st_0 dX10_guest_2 (fun s hs => by cases hs; exact hX _ rfl) (fun v hs => by cases hs)
theorem c_X10_guest {l : Launch} (hfl : l.stackTraces = false) {E : EE} {κ : K} {x' : EE × K} {a1 a2 a3 : Int32} (h0 : PC 10 E 4 0 0) (hH : E.2.2.2.1 = 1) (hRN : rawN E) (hb3 : a3 = 0 ∨ a3 = 1) {rs : Int32 ⊕ Nat} (h : f_X10_guest E κ a1 a2 a3 = some (x', rs)) : ConX l yX10_guest cX10_guest 5 (some .int) 8 141 [.inr (some (4, 0, 0)), .inl (.int a1), .inl (.int a2), .inl (.int a3)] (E, κ) x' (mapX (fun rr => (some (.inl (.int rr)))) rs) := by
  cases rs with
  | inl rr => exact ConX_of hfl (by decide +kernel) (Nat.le_of_ble_eq_true rfl) rfl ⟨_, rfl, rfl⟩ (fun X B g O hKP hmL hX hE => w_X10_guest hfl O hKP hmL (fun rr hr => by cases hr; exact hE) (fun e hr => by cases hr) h0 hH hRN hb3 h)
  | inr e => exact ConX_of hfl (by decide +kernel) (Nat.le_of_ble_eq_true rfl) rfl trivial (fun X B g O hKP hmL hX hE => w_X10_guest hfl O hKP hmL (fun rr hr => by cases hr) (fun e hr => by cases hr; exact hX) h0 hH hRN hb3 h)
def eS2 (E : EE) : EE := bmp (bmp E 9 (eR E)) 1 (eR E)
def kS2 (E : EE) (κ3 : K) (p g : Nat) (r : Int32) : K := adK κ3 (nwF 1 (cntE E 1) 1 fun c => c) [.inl (8, fS2 p g r)]
def xS (E : EE) (κ3 : K) (g : Nat) (r : Int32) : EE × K := addL (eS2 E, setP (kS2 E κ3 (cntE E 9) g r) 0 g 0 9 (some (cntE E 1))) 2 (cntE E 1)
theorem ad_s1 {n s p g : Nat} {r : Int32} : ∀ c : Nat, c < 1 → kd 1 c < 90 → ∃ q, ([.inl (8, fS2 p g r)] : List RC)[(fun c => c) c]? = some q ∧ cOK (nwF 1 s 1 (fun c => c)) n 1 s c q := by
  exact (tb_s tb_0 (fun _ => ⟨_, rfl, ckO rfl (by decide) (by change ∀ j : Nat, j < 3 → _; exact (tb_s (tb_s (tb_s tb_0 (fk2 (j := g) rfl rfl (by decide) (nwF_f (by decide)))) (fk2 (j := p) rfl rfl (by decide) (nwF_f (by decide)))) (fk0 rfl rfl)))⟩))
set_option maxHeartbeats 4000000 in
set_option maxRecDepth 100000 in
theorem w_snapT {l0 : Launch} (hfl : l0.stackTraces = false) {X : MX} {B : BX (EE × K)} {g : GP} {E : EE} (O : CK l0 X B g cX10_snapshot RX10 8 165) (hKP : KPok B E) (hmL : B.2.2.2.1 = 4) (h0 : PC 10 E 4 0 0) {g1 : Nat} (hg : PC 2 E 0 g1 0) {κ κ3 : K} {r : Int32} (hs : f_snapC E (addC κ 1 3) g1 = some (κ3, r)) (hD9 : DGF E (addC κ 1 3) 9 (cntE E 9)) (hD1 : DGF (bmp E 9 (eR E)) κ3 1 (cntE E 1)) (hH : E.2.2.2.1 = 1) (hRN : rawN E) (hLs : lsOK E κ3 2) (hE : ∀ (pc : Nat) (lv : List (Nat × AV)), decode cX10_snapshot pc = .ok (.ireturn, 1) → J X B (xS E κ3 g1 r) pc lv [.inl (.int (kV (xS E κ3 g1 r).2 4 0 2 2 - 1))]) : J X B (E, κ) 35 [(2, .inr (some (0, g1, 0))), (0, .inr (some (4, 0, 0)))] [] := by
  refine J_newO O hKP (rawOK_of_N hRN) (kd0 := 8) (C := RX7) (T := TX7) (N := 3) rfl rfl in_X7 tyX7 tyX7_ok mw470 mw627 mw628 (sl_p (s2_0 hg) (sl_p (s10_0 h0) sl_0)) st_0 dX10_snapshot_35 (fun hR => ?_)
  change J X B ((upR E (eR E ++ [.inl (8, fS0)])), addC κ 1 3) 38 [(2, .inr (some (0, g1, 0))), (0, .inr (some (4, 0, 0)))] [.inr (some (8, (eR E).length, 0))]
  have h01 : PC 10 (upR E (eR E ++ [.inl (8, fS0)])) 4 0 0 := PC_up (by decide) h0
  have hg1 : PC 2 (upR E (eR E ++ [.inl (8, fS0)])) 0 g1 0 := PC_up (by decide) hg
  have hKP1 : KPok B (upR E (eR E ++ [.inl (8, fS0)])) := KPok.raw hKP (by simp)
  have hraw1 : Stab (upR E (eR E ++ [.inl (8, fS0)])) (.inr (some (8, (eR E).length, 0))) := st_8 (by show (eR E).length < (eR E ++ [Sum.inl (8, fS0)] : List RC).length; simp)
  refine J_dup O.mo dX10_snapshot_38 rfl ?_
  refine J_aload_n O.mo dX10_snapshot_39 0 rfl ?_
  refine J_callI O hKP1 (as := [.inr (some (0, g1, 0))]) (rest := [.inr (some (8, (eR E).length, 0))]) (c_snapC hfl hg hRN hD9 hs) rfl rfl (Or.inl mw629) mw630 mw628 mw631 pd_X7_init rfl (by decide) rfl (Nat.le_of_ble_eq_true rfl) (sl_p (s2_0 hg1) (sl_p (s10_0 h01) sl_0)) (st_p hraw1 st_0) dX10_snapshot_40 ?_
  refine J_astore_n O.mo (lv' := [(2, .inr (some (0, g1, 0))), (0, .inr (some (4, 0, 0)))]) dX10_snapshot_43 (by rw [hmL]; decide) rfl rfl ?_
  have hKP9 : KPok B (bmp E 9 (eR E)) := KPok.bmp (fam := 9) (l := eR E) hKP rfl (Nat.le_refl _)
  refine J_bmp (E0 := bmp E 9 (eR E)) (i0 := cntE E 1) (sz := 1) (pm := fun c => c) (l := eR E) (cells := [.inl (8, fS2 (cntE E 9) g1 r)]) O hKP9 (fam := 1) rfl rfl rfl (fun i hi => hi) (fun c _ c2 _ h => h) rfl ad_s1 (fun r hr => rcF_N (hRN r hr)) (DGF_up0 hD1) (lv' := [(3, .inr (some (1, cntE E 1, 0))), (2, .inr (some (0, g1, 0))), (0, .inr (some (4, 0, 0)))]) (st' := []) ?_ ?_ ?_
  · simp only [List.map_cons, List.map_nil, rnA_n (nwF_f (f := 4) (fam := 1) (by decide)), rnA_n (nwF_f (f := 0) (fam := 1) (by decide)), rnA_s (nwF_s (fam := 1) (c := 0) (sz := 1) (by decide)), Nat.add_zero]; rfl
  · rfl
  change J X B (eS2 E, kS2 E κ3 (cntE E 9) g1 r) 44 [(3, .inr (some (1, cntE E 1, 0))), (2, .inr (some (0, g1, 0))), (0, .inr (some (4, 0, 0)))] []
  have hg2 : PC 2 (eS2 E) 0 g1 0 := PC_bmp (by decide) (PC_bmp (by decide) hg rfl) rfl
  have hPC : PC 10 (eS2 E) 4 0 0 := PC_bmp (by decide) (PC_bmp (by decide) h0 rfl) rfl
  have hKP2 : KPok B (eS2 E) := KPok.bmp (fam := 1) (l := eR E) hKP9 rfl (Nat.le_refl _)
  have hPCe : PC 8 (eS2 E) 1 (cntE E 1) 0 := ⟨by rw [show cntE (eS2 E) 1 = cntE E 1 + 1 from cntE_bmp_s (E := bmp E 9 (eR E)) (fam := 1) rfl]; exact Nat.lt_succ_self _, rfl⟩
  have hRN2 : rawN (eS2 E) := hRN
  refine J_aload_n O.mo dX10_snapshot_44 1 rfl ?_
  refine J_aload_n O.mo dX10_snapshot_45 0 rfl ?_
  refine J_putP O.co (kd0 := 2) (k2_0 hg2) (l2_0 hg2) (C := RX1) (T := TX1) (N := 19) rfl (by decide) rfl in_X1 tyX1 tyX1_ok nmX1 9 (by decide) rfl rfl (o := some (cntE E 1)) (v := .inr (some (1, cntE E 1, 0))) rfl rfl mw472 dX10_snapshot_46 ?_
  refine J_aload_n O.mo dX10_snapshot_49 2 rfl ?_
  refine J_getF O.co (kd0 := 10) (k10_0 hPC) (l10_0 hPC) (C := RX10) (T := TX10) (N := 4) rfl (by decide) rfl in_X10 1 (by decide) (v := .inr (some (4, 0, 2))) rfl mw469 rfl dX10_snapshot_50 ?_
  refine J_aload_n O.mo dX10_snapshot_53 0 rfl ?_
  refine J_sub [2] rfl ?_
  replace hLs : lsOK (eS2 E) (setP (kS2 E κ3 (cntE E 9) g1 r) 0 g1 0 9 (some (cntE E 1))) 2 := by
    have e1 : kP (setP (kS2 E κ3 (cntE E 9) g1 r) 0 g1 0 9 (some (cntE E 1))) 4 0 2 1 = kP κ3 4 0 2 1 := (congrFun (setP_ne (f := 0) (i := g1) (c := 0) (f' := 4) (i' := 0) (c' := 2) (fun z => absurd (show (4 : Nat) = 0 from congrArg Prod.fst z) (by decide))) 1).trans (adK_P (κ := κ3) (nw := nwF 1 (cntE E 1) 1 fun c => c) (nwF_f (by decide)))
    have e2 : kV (setP (kS2 E κ3 (cntE E 9) g1 r) 0 g1 0 9 (some (cntE E 1))) 4 0 2 2 = kV κ3 4 0 2 2 := (show kV (kS2 E κ3 (cntE E 9) g1 r) 4 0 2 2 = kV κ3 4 0 2 2 from adK_V (κ := κ3) (nw := nwF 1 (cntE E 1) 1 fun c => c) (cells := [.inl (8, fS2 (cntE E 9) g1 r)]) (f := 4) (i := 0) (c := 2) (k := 2) (nwF_f (f := 4) (by decide)))
    unfold lsOK; rw [e1, e2]; exact hLs
  rcases hLs with ⟨hf, h1, h2⟩ | ⟨hf, h1, h2⟩
  · have hx : xS E κ3 g1 r = (flagE (eS2 E) 2, adE (setP (kS2 E κ3 (cntE E 9) g1 r) 0 g1 0 9 (some (cntE E 1))) 2 (cntE E 1)) := addL_0 hf
    rw [hx] at hE
    refine J_callV O hKP2 (as := [.inr (some (1, (cntE E 1), 0))]) (rest := []) (r := some (.inl (.int 1))) (c_addE hfl (c := 2) (by decide) hPC hH h1 hf hRN2 (e := (cntE E 1)) (kd1 := 8) (r := (RX7, TX7, 3)) (l8_0 hPCe) rfl (by decide) rfl mw632 h2) rfl (kd0 := 0) (ls_kd (c := 2) (by decide)) (ls_lv (by decide) hPC) (T := TJx4a65c) (N := 3) rfl (by decide) mw623 mw624 mw625 mw45 mw626 pd_Jx4a65c_add_9ea2d rfl (by decide) rfl (Nat.le_of_ble_eq_true rfl) (sl_p (s10_0 hPC) sl_0) st_0 dX10_snapshot_54 ?_
    show J X B (flagE (eS2 E) 2, adE (setP (kS2 E κ3 (cntE E 9) g1 r) 0 g1 0 9 (some (cntE E 1))) 2 (cntE E 1)) 57 [(0, .inr (some (4, 0, 0)))] [.inl (.int 1)]
    refine J_pop O.mo dX10_snapshot_57 rfl ?_
    refine J_aload_n O.mo dX10_snapshot_58 0 rfl ?_
    refine J_getF O.co (kd0 := 10) (k10_0 (PC_flag (c := 2) hPC)) (l10_0 (PC_flag (c := 2) hPC)) (C := RX10) (T := TX10) (N := 4) rfl (by decide) rfl in_X10 1 (by decide) (v := .inr (some (4, 0, 2))) rfl mw469 rfl dX10_snapshot_59 ?_
    refine J_callV O (KPok.flagc hKP2) (as := []) (rest := []) (r := some (.inl (.int (kV (adE (setP (kS2 E κ3 (cntE E 9) g1 r) 0 g1 0 9 (some (cntE E 1))) 2 (cntE E 1)) 4 0 2 2)))) (c_Jx4a65c_size_8abf5_L2 hfl (PC_flag (c := 2) hPC) rfl) rfl (kd0 := 0) (ls_kd (c := 2) (by decide)) (ls_lv (by decide) (PC_flag (c := 2) hPC)) (T := TJx4a65c) (N := 3) rfl (by decide) mw334 mw335 mw336 mw45 mw337 pd_Jx4a65c_size_8abf5 rfl (by decide) rfl (Nat.le_of_ble_eq_true rfl) (sl_p (s10_0 (PC_flag (c := 2) hPC)) sl_0) st_0 dX10_snapshot_62 ?_
    refine J_iconst O.mo (v := 1) dX10_snapshot_65 (by decide) ?_
    refine J_isub O.mo dX10_snapshot_66 ?_
    exact hE _ _ dX10_snapshot_67
  · have hx : xS E κ3 g1 r = ((eS2 E), adN (setP (kS2 E κ3 (cntE E 9) g1 r) 0 g1 0 9 (some (cntE E 1))) 2 (cntE E 1)) := addL_n hf
    rw [hx] at hE
    refine J_callV O hKP2 (as := [.inr (some (1, (cntE E 1), 0))]) (rest := []) (r := some (.inl (.int 1))) (c_addN hfl (c := 2) (by decide) hPC h1 hf (e := (cntE E 1)) (kd1 := 8) (r := (RX7, TX7, 3)) (l8_0 hPCe) rfl (by decide) rfl mw632 h2) rfl (kd0 := 0) (ls_kd (c := 2) (by decide)) (ls_lv (by decide) hPC) (T := TJx4a65c) (N := 3) rfl (by decide) mw623 mw624 mw625 mw45 mw626 pd_Jx4a65c_add_9ea2d rfl (by decide) rfl (Nat.le_of_ble_eq_true rfl) (sl_p (s10_0 hPC) sl_0) st_0 dX10_snapshot_54 ?_
    show J X B ((eS2 E), adN (setP (kS2 E κ3 (cntE E 9) g1 r) 0 g1 0 9 (some (cntE E 1))) 2 (cntE E 1)) 57 [(0, .inr (some (4, 0, 0)))] [.inl (.int 1)]
    refine J_pop O.mo dX10_snapshot_57 rfl ?_
    refine J_aload_n O.mo dX10_snapshot_58 0 rfl ?_
    refine J_getF O.co (kd0 := 10) (k10_0 (hPC)) (l10_0 (hPC)) (C := RX10) (T := TX10) (N := 4) rfl (by decide) rfl in_X10 1 (by decide) (v := .inr (some (4, 0, 2))) rfl mw469 rfl dX10_snapshot_59 ?_
    refine J_callV O hKP2 (as := []) (rest := []) (r := some (.inl (.int (kV (adN (setP (kS2 E κ3 (cntE E 9) g1 r) 0 g1 0 9 (some (cntE E 1))) 2 (cntE E 1)) 4 0 2 2)))) (c_Jx4a65c_size_8abf5_L2 hfl (hPC) rfl) rfl (kd0 := 0) (ls_kd (c := 2) (by decide)) (ls_lv (by decide) (hPC)) (T := TJx4a65c) (N := 3) rfl (by decide) mw334 mw335 mw336 mw45 mw337 pd_Jx4a65c_size_8abf5 rfl (by decide) rfl (Nat.le_of_ble_eq_true rfl) (sl_p (s10_0 (hPC)) sl_0) st_0 dX10_snapshot_62 ?_
    refine J_iconst O.mo (v := 1) dX10_snapshot_65 (by decide) ?_
    refine J_isub O.mo dX10_snapshot_66 ?_
    exact hE _ _ dX10_snapshot_67
noncomputable def f_X10_snapshot (E : EE) (κ : K) (a1 : Int32) : Option ((EE × K) × (Int32 ⊕ Nat)) := bxE E (f_X10_guestAt E κ a1) fun κ1 g1 => gd (g1 < cntE E 0) (match f_X1_isDead E κ1 g1 with
  | none => none
  | some (κ2, d) => if d = 0 then (if kV κ2 4 0 2 2 < 10 then (match f_snapC E (addC κ2 1 3) g1 with
      | none => none
      | some (κ3, r) => gdp (DGF E (addC κ2 1 3) 9 (cntE E 9) ∧ DGF (bmp E 9 (eR E)) κ3 1 (cntE E 1) ∧ lsOK E κ3 2) (some (xS E κ3 g1 r, .inl (kV (xS E κ3 g1 r).2 4 0 2 2 - 1)))) else some ((E, addC κ2 1 6), .inr 3)) else some ((E, addC κ2 1 6), .inr 3))
set_option maxHeartbeats 4000000 in
set_option maxRecDepth 100000 in
theorem w_X10_snapshot {l0 : Launch} (hfl : l0.stackTraces = false) {X : MX} {B : BX (EE × K)} {g : GP} {E : EE} {x' : EE × K} {rs : Int32 ⊕ Nat} (O : CK l0 X B g cX10_snapshot RX10 8 165) (hKP : KPok B E) (hmL : B.2.2.2.1 = 4) (hE : ∀ rr : Int32, rs = .inl rr → ∀ (pc : Nat) (lv : List (Nat × AV)), decode cX10_snapshot pc = .ok (.ireturn, 1) → J X B x' pc lv [.inl (.int rr)]) (hX : ∀ e, rs = .inr e → QXH X B g x' (.inr (exN e))) (h0 : PC 10 E 4 0 0) (hH : E.2.2.2.1 = 1) (hRN : rawN E) {a1 : Int32} {κ : K} (h : f_X10_snapshot E κ a1 = some (x', rs)) : J X B (E, κ) 0 [(0, .inr (some (4, 0, 0))), (1, .inl (.int a1))] [] := by
  unfold f_X10_snapshot at h
  refine J_aload_n O.mo dX10_snapshot_0 0 rfl ?_
  refine J_iload_n O.mo dX10_snapshot_1 1 rfl ?_
  refine J_sub [0] rfl ?_
  rcases bxE_some h with ⟨κ1, g1, hq, h⟩ | ⟨κ1, e, hq, rfl, rfl⟩
  · obtain ⟨hj, h⟩ := gd_some h
    have hg : PC 2 E 0 g1 0 := ⟨hj, rfl⟩
    refine J_callVX O hKP (as := [.inl (.int a1)]) (rest := []) (r := .inl (some (.inr (some (0, g1, 0))))) (c_X10_guestAt hfl h0 hq) rfl (kd0 := 10) (k10_0 h0) (l10_0 h0) (T := TX10) (N := 4) rfl (by decide) mw406 mw407 mw408 mw320 mw409 pd_X10_guestAt rfl (by decide) rfl (Nat.le_of_ble_eq_true rfl) (sl_p (s10_0 h0) sl_0) st_0 dX10_snapshot_2 (fun s hs => by cases hs) (fun v hv => ?_)
    cases hv
    show J X B (E, κ1) 5 [(0, .inr (some (4, 0, 0)))] [.inr (some (0, g1, 0))]
    refine J_astore_n O.mo (lv' := [(0, .inr (some (4, 0, 0)))]) dX10_snapshot_5 (by rw [hmL]; decide) rfl rfl ?_
    refine J_aload_n O.mo dX10_snapshot_6 0 rfl ?_
    cases hq2 : f_X1_isDead E κ1 g1 with
    | none => rw [hq2] at h; cases h
    | some q =>
      obtain ⟨κ2, dd⟩ := q
      rw [hq2] at h
      replace h : (if dd = 0 then _ else _) = _ := h
      refine J_callV O hKP (as := []) (rest := []) (r := some (.inl (.int dd))) (c_X1_isDead hfl hg hq2) rfl (kd0 := 2) (k2_0 hg) (l2_0 hg) (T := TX1) (N := 19) rfl (by decide) mw451 mw452 mw453 mw74 mw454 pd_X1_isDead rfl (by decide) rfl (Nat.le_of_ble_eq_true rfl) (sl_p (s2_0 hg) (sl_p (s10_0 h0) sl_0)) st_0 dX10_snapshot_7 ?_
      refine J_if_ne O.mo (tgt := 25) dX10_snapshot_10 (by decide) (fun hc => ?_) (fun hc => ?_)
      · replace h := (if_neg hc).symm.trans h
        refine J_sub [] rfl ?_
        cases h
        exact J_throw O (cls := "java/lang/IllegalStateException") (hX _ rfl) (text := "dead, or too many snapshots") (by decide +kernel) mw397 mw398 (by decide) hat_51 (by decide) (Nat.le_of_ble_eq_true rfl) rfl dX10_snapshot_25 dX10_snapshot_28 dX10_snapshot_29 dX10_snapshot_31 dX10_snapshot_34
      · replace h := (if_pos hc).symm.trans h
        refine J_aload_n O.mo dX10_snapshot_13 1 rfl ?_
        refine J_getF O.co (kd0 := 10) (k10_0 h0) (l10_0 h0) (C := RX10) (T := TX10) (N := 4) rfl (by decide) rfl in_X10 1 (by decide) (v := .inr (some (4, 0, 2))) rfl mw469 rfl dX10_snapshot_14 ?_
        refine J_callV O hKP (as := []) (rest := []) (r := some (.inl (.int (kV κ2 4 0 2 2)))) (c_Jx4a65c_size_8abf5_L2 hfl h0 rfl) rfl (kd0 := 0) (ls_kd (c := 2) (by decide)) (ls_lv (by decide) h0) (T := TJx4a65c) (N := 3) rfl (by decide) mw334 mw335 mw336 mw45 mw337 pd_Jx4a65c_size_8abf5 rfl (by decide) rfl (Nat.le_of_ble_eq_true rfl) (sl_p (s2_0 hg) (sl_p (s10_0 h0) sl_0)) st_0 dX10_snapshot_17 ?_
        refine J_bipush O.mo (v := 10) dX10_snapshot_20 (by decide) ?_
        refine J_icmp_lt O.mo (tgt := 35) dX10_snapshot_22 (by decide) (fun hc2 => ?_) (fun hc2 => ?_)
        · replace h := (if_pos hc2).symm.trans h
          cases hq3 : f_snapC E (addC κ2 1 3) g1 with
          | none => rw [hq3] at h; cases h
          | some q =>
            obtain ⟨κ3, r⟩ := q
            rw [hq3] at h
            obtain ⟨⟨hD9, hD1, hLs⟩, h⟩ := gdp_some h
            cases h
            exact w_snapT hfl O hKP hmL h0 hg hq3 hD9 hD1 hH hRN hLs (hE _ rfl)
        · replace h := (if_neg hc2).symm.trans h
          refine J_sub [] rfl ?_
          cases h
          exact J_throw O (cls := "java/lang/IllegalStateException") (hX _ rfl) (text := "dead, or too many snapshots") (by decide +kernel) mw397 mw398 (by decide) hat_51 (by decide) (Nat.le_of_ble_eq_true rfl) rfl dX10_snapshot_25 dX10_snapshot_28 dX10_snapshot_29 dX10_snapshot_31 dX10_snapshot_34
  · exact J_callVX O hKP (as := [.inl (.int a1)]) (rest := []) (r := .inr (exN e)) (c_X10_guestAt hfl h0 hq) rfl (kd0 := 10) (k10_0 h0) (l10_0 h0) (T := TX10) (N := 4) rfl (by decide) mw406 mw407 mw408 mw320 mw409 pd_X10_guestAt rfl (by decide) rfl (Nat.le_of_ble_eq_true rfl) (sl_p (s10_0 h0) sl_0) st_0 dX10_snapshot_2 (fun s hs => by cases hs; exact hX _ rfl) (fun v hs => by cases hs)
theorem c_X10_snapshot {l : Launch} (hfl : l.stackTraces = false) {E : EE} {κ : K} {x' : EE × K} {a1 : Int32} (h0 : PC 10 E 4 0 0) (hH : E.2.2.2.1 = 1) (hRN : rawN E) {rs : Int32 ⊕ Nat} (h : f_X10_snapshot E κ a1 = some (x', rs)) : ConX l yX10_snapshot cX10_snapshot 4 (some .int) 8 165 [.inr (some (4, 0, 0)), .inl (.int a1)] (E, κ) x' (mapX (fun rr => (some (.inl (.int rr)))) rs) := by
  cases rs with
  | inl rr => exact ConX_of hfl (by decide +kernel) (Nat.le_of_ble_eq_true rfl) rfl ⟨_, rfl, rfl⟩ (fun X B g O hKP hmL hX hE => w_X10_snapshot hfl O hKP hmL (fun rr hr => by cases hr; exact hE) (fun e hr => by cases hr) h0 hH hRN h)
  | inr e => exact ConX_of hfl (by decide +kernel) (Nat.le_of_ble_eq_true rfl) rfl trivial (fun X B g O hKP hmL hX hE => w_X10_snapshot hfl O hKP hmL (fun rr hr => by cases hr) (fun e hr => by cases hr; exact hX) h0 hH hRN h)
def eP (E : EE) : EE := bmp E 3 (eR E)
def kR (E : EE) (κ : K) (g1 : Nat) : K := adK (addC κ 5 58) (nwF 3 (cntE E 3) 5 fun c => c) (cX6 (eR E).length g1)
noncomputable def f_X10_isAsPlain (E : EE) (κ : K) (a1 : Int32) : Option ((EE × K) × (Int32 ⊕ Nat)) := bxE E (f_X10_guestAt E κ a1) fun κ1 g1 => gd (g1 < cntE E 0) (if kV κ1 0 g1 0 18 = 0 then gdp (DGF E κ1 3 (cntE E 3)) (match f_X6_agrees (eP E) (kR E κ1 g1) (cntE E 3) g1 with
  | none => none
  | some (κ2, r) => some ((eP E, κ2), .inl (if r = 0 then 0 else 1))) else some ((E, κ1), .inl 1))
set_option maxHeartbeats 4000000 in
set_option maxRecDepth 100000 in
theorem w_plainT {l0 : Launch} (hfl : l0.stackTraces = false) {X : MX} {B : BX (EE × K)} {g : GP} {E : EE} (O : CK l0 X B g cX10_isAsPlain RX10 8 124) (hKP : KPok B E) (hmL : B.2.2.2.1 = 3) (h0 : PC 10 E 4 0 0) {g1 : Nat} (hg : PC 2 E 0 g1 0) {κ κ2 : K} {r : Int32} (hs : f_X6_agrees (eP E) (kR E κ g1) (cntE E 3) g1 = some (κ2, r)) (hDG : DGF E κ 3 (cntE E 3)) (hRN : rawN E) (hE : ∀ (pc : Nat) (lv : List (Nat × AV)), decode cX10_isAsPlain pc = .ok (.ireturn, 1) → J X B (eP E, κ2) pc lv [.inl (.int (if r = 0 then 0 else 1))]) : J X B (E, κ) 13 [(2, .inr (some (0, g1, 0)))] [] := by
  refine J_newO O hKP (rawOK_of_N hRN) (kd0 := 7) (C := RX6) (T := TX6) (N := 5) rfl rfl in_X6 tyX6 tyX6_ok mw633 mw634 mw208 (sl_p (s2_0 hg) sl_0) st_0 dX10_isAsPlain_13 (fun hR => ?_)
  have hg1 : PC 2 (upR E (eR E ++ [.inl (7, fun j => dv (tyX6 j))])) 0 g1 0 := PC_up (by decide) hg
  have hKP1 : KPok B (upR E (eR E ++ [.inl (7, fun j => dv (tyX6 j))])) := KPok.raw hKP (by simp)
  have hraw1 : Stab (upR E (eR E ++ [.inl (7, fun j => dv (tyX6 j))])) (.inr (some (8, (eR E).length, 0))) := st_8 (by show (eR E).length < (eR E ++ [Sum.inl (7, fun j => dv (tyX6 j))] : List RC).length; simp)
  refine J_dup O.mo dX10_isAsPlain_16 rfl ?_
  refine J_aload_n O.mo dX10_isAsPlain_17 0 rfl ?_
  refine J_getF O.co (kd0 := 2) (k2_0 hg1) (l2_0 hg1) (C := RX1) (T := TX1) (N := 19) rfl (by decide) rfl in_X1 4 (by decide) (v := .inr (some (0, g1, 5))) rfl mw343 rfl dX10_isAsPlain_18 ?_
  refine J_callI O hKP1 (as := [.inr (some (0, g1, 5))]) (rest := [.inr (some (8, (eR E).length, 0))]) (ci_X6 hfl g1 (sub_2_5_9 hg) hR) rfl rfl (Or.inl mw635) mw636 mw208 mw637 pd_X6_init rfl (by decide) rfl (Nat.le_of_ble_eq_true rfl) (sl_p (s2_0 hg1) sl_0) (st_p hraw1 st_0) dX10_isAsPlain_21 ?_
  change J X B (upR E (eR E ++ cX6 (eR E).length g1), addC κ 5 58) 24 [(2, .inr (some (0, g1, 0)))] [.inr (some (8, (eR E).length, 0))]
  refine J_bmp (E0 := E) (i0 := cntE E 3) (sz := 5) (pm := fun c => c) (l := eR E) (cells := cX6 (eR E).length g1) O hKP (fam := 3) rfl rfl rfl (fun i hi => hi) (fun c _ c2 _ h => h) rfl ad_R (fun r hr => rcF_N (hRN r hr)) (DGF_up _ _ hDG) (lv' := [(2, .inr (some (0, g1, 0)))]) (st' := [.inr (some (3, cntE E 3, 0))]) ?_ ?_ ?_
  · simp only [List.map_cons, List.map_nil, rnA_n (nwF_f (f := 0) (fam := 3) (by decide))]
  · simp only [List.map_cons, List.map_nil, rnA_s (nwF_s (fam := 3) (c := 0) (sz := 5) (by decide)), Nat.add_zero]
  change J X B (eP E, kR E κ g1) 24 [(2, .inr (some (0, g1, 0)))] [.inr (some (3, cntE E 3, 0))]
  have hg2 : PC 2 (eP E) 0 g1 0 := PC_bmp (by decide) hg rfl
  have hKP2 : KPok B (eP E) := KPok.bmp (fam := 3) (l := eR E) hKP rfl (Nat.le_refl _)
  have hPCe : PC 7 (eP E) 3 (cntE E 3) 0 := ⟨by rw [show cntE (eP E) 3 = cntE E 3 + 1 from cntE_bmp_s (fam := 3) rfl]; exact Nat.lt_succ_self _, rfl⟩
  refine J_aload_n O.mo dX10_isAsPlain_24 0 rfl ?_
  refine J_getF O.co (kd0 := 2) (k2_0 hg2) (l2_0 hg2) (C := RX1) (T := TX1) (N := 19) rfl (by decide) rfl in_X1 3 (by decide) (v := .inr (some (0, g1, 1))) rfl mw395 rfl dX10_isAsPlain_25 ?_
  refine J_callV O hKP2 (as := [.inr (some (0, g1, 1))]) (rest := []) (r := some (.inl (.int r))) (c_X6_agrees hfl hPCe (sub_2_1_6 hg2) hs) rfl (kd0 := 7) (k7_0 hPCe) (l7_0 hPCe) (T := TX6) (N := 5) rfl (by decide) mw638 mw639 mw640 mw208 mw641 pd_X6_agrees rfl (by decide) rfl (Nat.le_of_ble_eq_true rfl) (sl_p (s2_0 hg2) sl_0) st_0 dX10_isAsPlain_28 ?_
  refine J_if_eq O.mo (tgt := 38) dX10_isAsPlain_31 (by decide) (fun hc => ?_) (fun hc => ?_)
  · rw [if_pos hc] at hE
    refine J_iconst O.mo (v := 0) dX10_isAsPlain_38 (by decide) ?_
    exact hE _ _ dX10_isAsPlain_39
  · rw [if_neg hc] at hE
    refine J_iconst O.mo (v := 1) dX10_isAsPlain_34 (by decide) ?_
    refine J_goto O.mo (tgt := 39) dX10_isAsPlain_35 (by decide) ?_
    exact hE _ _ dX10_isAsPlain_39
set_option maxHeartbeats 4000000 in
set_option maxRecDepth 100000 in
theorem w_X10_isAsPlain {l0 : Launch} (hfl : l0.stackTraces = false) {X : MX} {B : BX (EE × K)} {g : GP} {E : EE} {x' : EE × K} {rs : Int32 ⊕ Nat} (O : CK l0 X B g cX10_isAsPlain RX10 8 124) (hKP : KPok B E) (hmL : B.2.2.2.1 = 3) (hE : ∀ rr : Int32, rs = .inl rr → ∀ (pc : Nat) (lv : List (Nat × AV)), decode cX10_isAsPlain pc = .ok (.ireturn, 1) → J X B x' pc lv [.inl (.int rr)]) (hX : ∀ e, rs = .inr e → QXH X B g x' (.inr (exN e))) (h0 : PC 10 E 4 0 0) (hH : E.2.2.2.1 = 1) (hRN : rawN E) {a1 : Int32} {κ : K} (h : f_X10_isAsPlain E κ a1 = some (x', rs)) : J X B (E, κ) 0 [(0, .inr (some (4, 0, 0))), (1, .inl (.int a1))] [] := by
  unfold f_X10_isAsPlain at h
  refine J_aload_n O.mo dX10_isAsPlain_0 0 rfl ?_
  refine J_iload_n O.mo dX10_isAsPlain_1 1 rfl ?_
  refine J_sub [] rfl ?_
  rcases bxE_some h with ⟨κ1, g1, hq, h⟩ | ⟨κ1, e, hq, rfl, rfl⟩
  · obtain ⟨hj, h⟩ := gd_some h
    have hg : PC 2 E 0 g1 0 := ⟨hj, rfl⟩
    refine J_callVX O hKP (as := [.inl (.int a1)]) (rest := []) (r := .inl (some (.inr (some (0, g1, 0))))) (c_X10_guestAt hfl h0 hq) rfl (kd0 := 10) (k10_0 h0) (l10_0 h0) (T := TX10) (N := 4) rfl (by decide) mw406 mw407 mw408 mw320 mw409 pd_X10_guestAt rfl (by decide) rfl (Nat.le_of_ble_eq_true rfl) sl_0 st_0 dX10_isAsPlain_2 (fun s hs => by cases hs) (fun v hv => ?_)
    cases hv
    show J X B (E, κ1) 5 [] [.inr (some (0, g1, 0))]
    refine J_astore_n O.mo (lv' := []) dX10_isAsPlain_5 (by rw [hmL]; decide) rfl rfl ?_
    refine J_aload_n O.mo dX10_isAsPlain_6 0 rfl ?_
    refine J_getF O.co (kd0 := 2) (k2_0 hg) (l2_0 hg) (C := RX1) (T := TX1) (N := 19) rfl (by decide) rfl in_X1 18 (by decide) (v := .inl (.int (kV κ1 0 g1 0 18))) rfl mw642 rfl dX10_isAsPlain_7 ?_
    refine J_if_ne O.mo (tgt := 34) dX10_isAsPlain_10 (by decide) (fun hc => ?_) (fun hc => ?_)
    · replace h := (if_neg hc).symm.trans h
      cases h
      refine J_iconst O.mo (v := 1) dX10_isAsPlain_34 (by decide) ?_
      refine J_goto O.mo (tgt := 39) dX10_isAsPlain_35 (by decide) ?_
      exact hE _ rfl _ _ dX10_isAsPlain_39
    · replace h := (if_pos hc).symm.trans h
      obtain ⟨hDG, h⟩ := gdp_some h
      cases hq2 : f_X6_agrees (eP E) (kR E κ1 g1) (cntE E 3) g1 with
      | none => rw [hq2] at h; cases h
      | some q =>
        obtain ⟨κ2, r⟩ := q
        rw [hq2] at h
        cases h
        exact w_plainT hfl O hKP hmL h0 hg hq2 hDG hRN (hE _ rfl)
  · exact J_callVX O hKP (as := [.inl (.int a1)]) (rest := []) (r := .inr (exN e)) (c_X10_guestAt hfl h0 hq) rfl (kd0 := 10) (k10_0 h0) (l10_0 h0) (T := TX10) (N := 4) rfl (by decide) mw406 mw407 mw408 mw320 mw409 pd_X10_guestAt rfl (by decide) rfl (Nat.le_of_ble_eq_true rfl) sl_0 st_0 dX10_isAsPlain_2 (fun s hs => by cases hs; exact hX _ rfl) (fun v hs => by cases hs)
theorem plain_01 {E : EE} {κ : K} {a1 : Int32} {x' : EE × K} {rr : Int32} (h : f_X10_isAsPlain E κ a1 = some (x', .inl rr)) : rr = 0 ∨ rr = 1 := by
  unfold f_X10_isAsPlain at h
  rcases bxE_some h with ⟨κ1, g1, hq, h⟩ | ⟨κ1, e, hq, rfl, hr⟩
  · obtain ⟨hj, h⟩ := gd_some h
    split at h
    · obtain ⟨hDG, h⟩ := gdp_some h
      split at h
      · cases h
      · cases h
        split
        · exact Or.inl rfl
        · exact Or.inr rfl
    · cases h; exact Or.inr rfl
  · cases hr
theorem c_X10_isAsPlain {l : Launch} (hfl : l.stackTraces = false) {E : EE} {κ : K} {x' : EE × K} {a1 : Int32} (h0 : PC 10 E 4 0 0) (hH : E.2.2.2.1 = 1) (hRN : rawN E) {rs : Int32 ⊕ Nat} (h : f_X10_isAsPlain E κ a1 = some (x', rs)) : ConX l yX10_isAsPlain cX10_isAsPlain 3 (some .boolean) 8 124 [.inr (some (4, 0, 0)), .inl (.int a1)] (E, κ) x' (mapX (fun rr => (some (.inl (.int rr)))) rs) := by
  cases rs with
  | inl rr => exact ConX_of hfl (by decide +kernel) (Nat.le_of_ble_eq_true rfl) rfl ⟨_, rfl, by rcases plain_01 h with rfl | rfl <;> rfl⟩ (fun X B g O hKP hmL hX hE => w_X10_isAsPlain hfl O hKP hmL (fun rr hr => by cases hr; exact hE) (fun e hr => by cases hr) h0 hH hRN h)
  | inr e => exact ConX_of hfl (by decide +kernel) (Nat.le_of_ble_eq_true rfl) rfl trivial (fun X B g O hKP hmL hX hE => w_X10_isAsPlain hfl O hKP hmL (fun rr hr => by cases hr) (fun e hr => by cases hr; exact hX) h0 hH hRN h)
