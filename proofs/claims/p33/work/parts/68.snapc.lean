set_option maxRecDepth 100000 in
theorem mw605 : Cond.fieldLink RX7 10 "GuestHall$Snapshot" "state" "LGuestHall$State;" ∈ gwl := gwl_tb 955 rfl rfl
set_option maxRecDepth 100000 in
theorem mw606 : Cond.fieldLink RX7 16 "GuestHall$Snapshot" "owner" "LGuestHall$Guest;" ∈ gwl := gwl_tb 953 rfl rfl
set_option maxRecDepth 100000 in
theorem mw607 : Cond.fieldLink RX7 35 "GuestHall$Snapshot" "storedPages" "I" ∈ gwl := gwl_tb 957 rfl rfl
set_option maxRecDepth 100000 in
theorem mw608 : Cond.fieldLink RX7 20 "GuestHall$Guest" "state" "LGuestHall$State;" ∈ gwl := gwl_tb 438 rfl rfl
set_option maxRecDepth 100000 in
theorem mw609 : Cond.fieldLink RX7 27 "GuestHall$Guest" "lastSnapshot" "LGuestHall$Snapshot;" ∈ gwl := gwl_tb 448 rfl rfl
set_option maxRecDepth 100000 in
theorem mw610 : Cond.methodLink RX7 31 yX8_countPagesUnlike ∈ gwl := gwl_tb 948 rfl rfl
set_option maxRecDepth 100000 in
theorem mw611 : Cond.instanceMethod yX8_countPagesUnlike ∈ gwl := gwl_tb 949 rfl rfl
set_option maxRecDepth 100000 in
theorem mw612 : Cond.selects RX8 yX8_countPagesUnlike yX8_countPagesUnlike ∈ gwl := gwl_tb 950 rfl rfl
set_option maxRecDepth 100000 in
theorem mw613 : Cond.code yX8_countPagesUnlike cX8_countPagesUnlike 6 (some .int) ∈ gwl := gwl_tb 951 rfl rfl
set_option maxRecDepth 100000 in
theorem mw614 : Cond.methodLink RX7 1 Lib.objectInit ∈ gwl := gwl_tb 932 rfl rfl
set_option maxRecDepth 100000 in
theorem mw615 : Cond.classLink RX7 7 RX8 ∈ gwl := gwl_tb 933 rfl rfl
set_option maxRecDepth 100000 in
theorem mw616 : Cond.methodLinkNest RX7 9 yX8_init "GuestHall" ∈ nwl := nwl_tb 934 rfl rfl
set_option maxRecDepth 100000 in
theorem mw617 : Cond.methodLink RX7 23 yX8_copyFrom ∈ gwl := gwl_tb 935 rfl rfl
theorem pd_X8_countPagesUnlike : (yX8_countPagesUnlike).cls ≠ "java/lang/invoke/MethodHandle" ∧ (yX8_countPagesUnlike).cls ≠ "java/lang/invoke/VarHandle" ∧ (parseMethodDescriptor (yX8_countPagesUnlike).desc).map (fun d => d.parameters.length) = some 1 := ⟨by decide +kernel, by decide +kernel, by decide +kernel⟩
theorem nmN_dv {nw : NW} {n : Nat} (t : FieldType) : nmN nw n (dv t) := by cases t <;> exact trivial
theorem rnA_n {nw : NW} {n f i c : Nat} (h : nw f i c = none) : rnA (rhoN nw n) (.inr (some (f, i, c))) = .inr (some (f, i, c)) := by
  show (.inr (some (rhoN nw n (f, i, c))) : AV) = _
  rw [rhoN_none h]
theorem rnA_s {nw : NW} {n f i c m : Nat} (h : nw f i c = some m) : rnA (rhoN nw n) (.inr (some (f, i, c))) = .inr (some (8, n + m, 0)) := by
  show (.inr (some (rhoN nw n (f, i, c))) : AV) = _
  rw [rhoN_some h]
def fS0 : Nat → AV := fun j => dv (tyX7 j)
def fS1 (p g : Nat) : Nat → AV := updf (updf fS0 1 (.inr (some (9, p, 0)))) 0 (.inr (some (0, g, 0)))
def fS2 (p g : Nat) (r : Int32) : Nat → AV := updf (fS1 p g) 2 (.inl (.int r))
def eS (E : EE) (f : Nat → AV) : EE := bmp E 9 (eR E ++ [.inl (8, f)])
def kS (E : EE) (κ : K) : K := adK (addC κ 13 103) (nwF 9 (cntE E 9) 13 fun c => c) (cX8 ((eR E).length + 1))
def f_snapC (E : EE) (κ : K) (g : Nat) : Option (K × Int32) :=
  nm (eS E (fS1 (cntE E 9) g)) fun E9 => bd (f_X8_copyFrom E9 (kS E κ) 9 (cntE E 9) 0 0 g 5) fun κ2 _ => optG (kP κ2 0 g 0 9) (cntE E9 1) (f_X8_countPagesUnlike_N E9 κ2 9 (cntE E 9) 0) fun j => optG (kP κ2 1 j 0 1) (cntE E9 9) none fun q => f_X8_countPagesUnlike E9 κ2 9 (cntE E 9) 0 9 q 0
theorem rawOK_S {E : EE} {l : List RC} {f : Nat → AV} (h : ∀ r ∈ l, rcN r = true) (hf : ∀ j, clA (l.length + 1) (f j)) : rawOK (upR E (l ++ [.inl (8, f)])) := by
  intro r hr
  have hl : (eR (upR E (l ++ [.inl (8, f)]))).length = l.length + 1 := by show (l ++ [Sum.inl (8, f)] : List RC).length = _; simp
  rw [hl]
  rcases List.mem_append.mp (show r ∈ l ++ [.inl (8, f)] from hr) with h1 | h1
  · exact rcOK_of_N (h r h1)
  · rw [List.mem_singleton.mp h1]; exact hf
set_option maxHeartbeats 4000000 in
set_option maxRecDepth 100000 in
theorem w_snapC {l0 : Launch} (hfl : l0.stackTraces = false) {X : MX} {B : BX (EE × K)} {g0 : GP} {E : EE} {κ2 κ3 : K} {g : Nat} {r : Int32} (O : CK l0 X B g0 cX7_init RX7 4 143) (hname : B.2.2.2.2.2.2.2.2 X → MXn X = "<init>") (hKP : KPok B (cst (bmp E 9 (eR E)) (eR E) 8 fS0 [])) (hmL : B.2.2.2.1 = 3) (h1 : PC 2 E 0 g 0) (hRN : rawN E) (hE : ∀ (pc : Nat) (lv : List (Nat × AV)), decode cX7_init pc = .ok (.return_, 1) → J X B (eS E (fS2 (cntE E 9) g r), κ3) pc lv []) (v : AV) (hv : v = .inr none ∨ ∃ q, v = .inr (some (9, q, 0)) ∧ PC 9 (eS E (fS1 (cntE E 9) g)) 9 q 0)
    (h : match v with | .inr none => f_X8_countPagesUnlike_N (eS E (fS1 (cntE E 9) g)) κ2 9 (cntE E 9) 0 = some (κ3, r) | .inr (some (_, q, _)) => f_X8_countPagesUnlike (eS E (fS1 (cntE E 9) g)) κ2 9 (cntE E 9) 0 9 q 0 = some (κ3, r) | _ => False) {w : AV} (hw : ∀ ad : Pl → Nat, True) (hws : Stab (eS E (fS1 (cntE E 9) g)) w) : J X B (cst (bmp E 9 (eR E)) (eR E) 8 (fS1 (cntE E 9) g) [], κ2) 53 [(2, w), (0, .inr (some (8, (eR E).length, 0))), (1, .inr (some (0, g, 0)))] [v, .inr (some (9, cntE E 9, 0)), .inr (some (8, (eR E).length, 0))] := by
  have hPC9 : PC 9 (eS E (fS1 (cntE E 9) g)) 9 (cntE E 9) 0 := ⟨by rw [show cntE (eS E (fS1 (cntE E 9) g)) 9 = cntE E 9 + 1 from cntE_bmp_s (fam := 9) rfl]; exact Nat.lt_succ_self _, rfl⟩
  have hR1 : rawOK (cst (bmp E 9 (eR E)) (eR E) 8 (fS1 (cntE E 9) g) []) := rawOK_S (E := bmp E 9 (eR E)) hRN (updf_ok (updf_ok (fun j => dv_cl _ _) (fun z => absurd (show (9 : Nat) = 8 from z) (by decide))) (fun z => absurd (show (0 : Nat) = 8 from z) (by decide)))
  have h1b : PC 2 (bmp E 9 (eR E)) 0 g 0 := PC_bmp (by decide) h1 rfl
  have hlv : ∀ q ∈ ([(2, w), (0, .inr (some (8, (eR E).length, 0))), (1, .inr (some (0, g, 0)))] : List (Nat × AV)), Stab (cst (bmp E 9 (eR E)) (eR E) 8 (fS1 (cntE E 9) g) []) q.2 := sl_p hws (sl_p (stL2 (t := 0) rfl (by omega)) (sl_p (stU (by decide) (s2_0 h1b)) sl_0))
  have hfin : ∀ κ9 : K, κ9 = κ3 → J X B (cst (bmp E 9 (eR E)) (eR E) 8 (fS1 (cntE E 9) g) [], κ9) 56 [(2, w), (0, .inr (some (8, (eR E).length, 0))), (1, .inr (some (0, g, 0)))] [.inl (.int r), .inr (some (8, (eR E).length, 0))] := by
    intro κ9 hk9
    subst hk9
    refine J_cPut O hname hR1 (C := RX7) (Tt := TX7) (N := 3) rfl rfl in_X7 tyX7 tyX7_ok nmX7 2 (by decide) (v := .inl (.int r)) (v' := .inl (.int r)) trivial rfl (fun _ => ⟨rfl, rfl⟩) (Or.inr rfl) mw607 rfl dX7_init_56 (fun _ => ?_)
    exact hE _ _ dX7_init_59
  rcases hv with rfl | ⟨q, rfl, hq⟩
  · refine J_callV O (KPc hKP) (as := [.inr none]) (rest := [.inr (some (8, (eR E).length, 0))]) (r := some (.inl (.int r))) (c_X8_countPagesUnlike_N hfl (E := cst (bmp E 9 (eR E)) (eR E) 8 (fS1 (cntE E 9) g) []) hPC9 hR1 h) rfl (kd0 := 9) (k9_0 hPC9) (l9_0 hPC9) (T := TX8) (N := 10) rfl (by decide) mw610 mw611 mw612 mw124 mw613 pd_X8_countPagesUnlike rfl (by decide) rfl (Nat.le_of_ble_eq_true rfl) hlv (st_p (stL2 (t := 0) rfl (by omega)) st_0) dX7_init_53 ?_
    exact hfin _ rfl
  · refine J_callV O (KPc hKP) (as := [.inr (some (9, q, 0))]) (rest := [.inr (some (8, (eR E).length, 0))]) (r := some (.inl (.int r))) (c_X8_countPagesUnlike hfl (E := cst (bmp E 9 (eR E)) (eR E) 8 (fS1 (cntE E 9) g) []) hPC9 hq hR1 h) rfl (kd0 := 9) (k9_0 hPC9) (l9_0 hPC9) (T := TX8) (N := 10) rfl (by decide) mw610 mw611 mw612 mw124 mw613 pd_X8_countPagesUnlike rfl (by decide) rfl (Nat.le_of_ble_eq_true rfl) hlv (st_p (stL2 (t := 0) rfl (by omega)) st_0) dX7_init_53 ?_
    exact hfin _ rfl
set_option maxHeartbeats 4000000 in
set_option maxRecDepth 100000 in
theorem c_snapC {l : Launch} (hfl : l.stackTraces = false) {E : EE} {κ κ3 : K} {g : Nat} {r : Int32} (h1 : PC 2 E 0 g 0) (hRN : rawN E) (hDG : DGF E κ 9 (cntE E 9)) (h : f_snapC E κ g = some (κ3, r)) : Con l yX7_init cX7_init 3 none 4 143 [.inr (some (8, (eR E).length, 0)), .inr (some (0, g, 0))] (upR E (eR E ++ [.inl (8, fS0)]), κ) (eS E (fS2 (cntE E 9) g r), κ3) none := by
  refine Con_ofI hfl (by decide +kernel) (Nat.le_of_ble_eq_true rfl) rfl rfl (fun X B g0 O hKP hmL hname hE => ?_)
  replace hname : B.2.2.2.2.2.2.2.2 X → MXn X = "<init>" := hname
  change KPok B (cst E (eR E) 8 fS0 []) at hKP
  have hR0 : rawOK (cst E (eR E) 8 fS0 []) := rawOK_S hRN (fun j => dv_cl _ _)
  show J X B (cst E (eR E) 8 fS0 [], κ) 0 [(0, .inr (some (8, (eR E).length, 0))), (1, .inr (some (0, g, 0)))] []
  refine J_aload_n O.mo dX7_init_0 0 rfl ?_
  refine J_objInit O mw614 mw515 mw516 (by decide) (Nat.le_of_ble_eq_true rfl) rfl dX7_init_1 ?_
  refine J_aload_n O.mo dX7_init_4 0 rfl ?_
  refine J_cNew O hKP hR0 (d := 1) rfl (kd1 := 9) (C := RX8) (Tt := TX8) (N := 10) rfl rfl in_X8 tyX8 tyX8_ok mw615 mw533 mw124 (sl_p (stL2 (t := 0) rfl (by omega)) (sl_p (stU (by decide) (s2_0 h1)) sl_0)) (st_p (stL2 (t := 0) rfl (by omega)) st_0) dX7_init_5 (fun hR => ?_)
  refine J_dup O.mo dX7_init_8 rfl ?_
  refine J_cCall O (KPc hKP) hR (d := 1) rfl (cY := cX8) (len := 13) (fun _ => rfl) (by decide) (fun n => ok_X8 n) (as := []) (fun L2 hR2 => ci_X8 hfl hR2) rfl rfl (Or.inr mw616) mw535 mw124 mw536 pd_X8_init rfl (by decide) rfl (Nat.le_of_ble_eq_true rfl) (sl_p (stL2 (t := 1) rfl (by omega)) (sl_p (stU (by decide) (s2_0 h1)) sl_0)) (st_p (stL2 (t := 1) rfl (by omega)) (st_p (stL2 (t := 1) rfl (by omega)) st_0)) dX7_init_9 (fun hR => ?_)
  change J X B (cst E (eR E) 8 fS0 ([] ++ cX8 ((eR E).length + 1)), addC κ 13 103) 12 [(0, .inr (some (8, (eR E).length, 0))), (1, .inr (some (0, g, 0)))] [.inr (some (8, (eR E).length + 1, 0)), .inr (some (8, (eR E).length, 0))]
  have hlen : (eR E ++ [Sum.inl (8, fS0)] : List RC).length = (eR E).length + 1 := by simp
  have hDG2 : DGF (cst E (eR E) 8 fS0 ([] ++ cX8 ((eR E).length + 1))) (addC κ 13 103) 9 (cntE E 9) := ⟨fun f i c k co hl h8 hs => hDG.1 f i c k co (by rw [← liveC_upR (l := eR E ++ (.inl (8, fS0) :: ([] ++ cX8 ((eR E).length + 1)))) h8]; exact hl) h8 hs, fun i c k hl h24 hc => hDG.2 i c k (by rw [← liveC_upR (l := eR E ++ (.inl (8, fS0) :: ([] ++ cX8 ((eR E).length + 1)))) (by decide)]; exact hl) h24 hc⟩
  refine J_bmp (i0 := cntE E 9) (sz := 13) (pm := fun c => c) (l := eR E ++ [.inl (8, fS0)]) (cells := cX8 ((eR E).length + 1)) O hKP (fam := 9) rfl rfl rfl (fun i hi => hi) (fun c _ c2 _ h => h) (by show eR E ++ (.inl (8, fS0) :: ([] ++ cX8 ((eR E).length + 1))) = _; simp) (by rw [hlen]; exact ad_S) (fun r hr => ?_) hDG2 (lv' := [(0, .inr (some (8, (eR E).length, 0))), (1, .inr (some (0, g, 0)))]) (st' := [.inr (some (9, cntE E 9, 0)), .inr (some (8, (eR E).length, 0))]) ?_ ?_ ?_
  · rcases List.mem_append.mp hr with h2 | h2
    · exact rcF_N (hRN r h2)
    · rw [List.mem_singleton.mp h2]; exact fun j => nmN_dv _
  · simp only [List.map_cons, List.map_nil, rnA_n (nwF_f (f := 8) (fam := 9) (by decide)), rnA_n (nwF_f (f := 0) (fam := 9) (by decide))]
  · simp only [List.map_cons, List.map_nil, rnA_n (nwF_f (f := 8) (fam := 9) (by decide)), rnA_s (nwF_s (fam := 9) (c := 0) (sz := 13) (by decide)), hlen, Nat.add_zero]
  change J X B (cst (bmp E 9 (eR E)) (eR E) 8 fS0 [], kS E κ) 12 [(0, .inr (some (8, (eR E).length, 0))), (1, .inr (some (0, g, 0)))] [.inr (some (9, cntE E 9, 0)), .inr (some (8, (eR E).length, 0))]
  have hPC9 : PC 9 (eS E (fS1 (cntE E 9) g)) 9 (cntE E 9) 0 := ⟨by rw [show cntE (eS E (fS1 (cntE E 9) g)) 9 = cntE E 9 + 1 from cntE_bmp_s (fam := 9) rfl]; exact Nat.lt_succ_self _, rfl⟩
  have h1b : PC 2 (bmp E 9 (eR E)) 0 g 0 := PC_bmp (by decide) h1 rfl
  have h1c : PC 2 (eS E (fS1 (cntE E 9) g)) 0 g 0 := PC_bmp (by decide) h1 rfl
  have hKP2 : KPok B (cst (bmp E 9 (eR E)) (eR E) 8 fS0 []) := by
    have h2 := KPok.bmp (fam := 9) (l := eR E ++ [.inl (8, fS0)]) hKP rfl (by show (eR E ++ [Sum.inl (8, fS0)] : List RC).length ≤ _; exact Nat.le_refl _)
    exact h2
  have hR9 : rawOK (cst (bmp E 9 (eR E)) (eR E) 8 fS0 []) := rawOK_S (E := bmp E 9 (eR E)) hRN (fun j => dv_cl _ _)
  refine J_cPut O hname hR9 (C := RX7) (Tt := TX7) (N := 3) rfl rfl in_X7 tyX7 tyX7_ok nmX7 1 (by decide) (v := .inr (some (9, cntE E 9, 0))) (v' := .inr (some (9, cntE E 9, 0))) (fun z => absurd (show (9 : Nat) = 8 from z) (by decide)) rfl (fun _ => ⟨rfl, rfl⟩) (Or.inr rfl) mw605 rfl dX7_init_12 (fun hR => ?_)
  refine J_aload_n O.mo dX7_init_15 0 rfl ?_
  refine J_aload_n O.mo dX7_init_16 1 rfl ?_
  refine J_cPut O hname hR (C := RX7) (Tt := TX7) (N := 3) rfl rfl in_X7 tyX7 tyX7_ok nmX7 0 (by decide) (v := .inr (some (0, g, 0))) (v' := .inr (some (0, g, 0))) (fun z => absurd (show (0 : Nat) = 8 from z) (by decide)) rfl (fun _ => ⟨rfl, rfl⟩) (Or.inr rfl) mw606 rfl dX7_init_17 (fun hR => ?_)
  change J X B (cst (bmp E 9 (eR E)) (eR E) 8 (fS1 (cntE E 9) g) [], kS E κ) 20 [(0, .inr (some (8, (eR E).length, 0))), (1, .inr (some (0, g, 0)))] []
  refine J_aload_n O.mo dX7_init_20 0 rfl ?_
  refine J_cGet O (C := RX7) (Tt := TX7) (N := 3) rfl rfl in_X7 1 (by decide) (v := .inr (some (9, cntE E 9, 0))) (fun _ => rfl) mw605 rfl dX7_init_21 ?_
  refine J_aload_n O.mo dX7_init_24 1 rfl ?_
  refine J_getF O.co (kd0 := 2) (k2_0 h1c) (l2_0 h1c) (C := RX1) (T := TX1) (N := 19) rfl (by decide) rfl in_X1 4 (by decide) (v := .inr (some (0, g, 5))) rfl mw608 rfl dX7_init_25 ?_
  unfold f_snapC at h
  replace h : (bd (f_X8_copyFrom (eS E (fS1 (cntE E 9) g)) (kS E κ) 9 (cntE E 9) 0 0 g 5) fun κ2 _ => optG (kP κ2 0 g 0 9) (cntE (eS E (fS1 (cntE E 9) g)) 1) (f_X8_countPagesUnlike_N (eS E (fS1 (cntE E 9) g)) κ2 9 (cntE E 9) 0) fun j => optG (kP κ2 1 j 0 1) (cntE (eS E (fS1 (cntE E 9) g)) 9) none fun q => f_X8_countPagesUnlike (eS E (fS1 (cntE E 9) g)) κ2 9 (cntE E 9) 0 9 q 0) = some (κ3, r) := h
  obtain ⟨κ2, _, hq1, h⟩ := bd_some h
  refine J_callV O (KPc hKP2) (as := [.inr (some (0, g, 5))]) (rest := []) (r := none) (c_X8_copyFrom hfl (E := cst (bmp E 9 (eR E)) (eR E) 8 (fS1 (cntE E 9) g) []) hPC9 (sub_2_5_9 h1c) hq1) rfl (kd0 := 9) (k9_0 hPC9) (l9_0 hPC9) (T := TX8) (N := 10) rfl (by decide) mw617 mw273 mw274 mw124 mw275 pd_X8_copyFrom rfl (by decide) rfl (Nat.le_of_ble_eq_true rfl) (sl_p (stL2 (t := 0) rfl (by omega)) (sl_p (stU (by decide) (s2_0 h1b)) sl_0)) st_0 dX7_init_28 ?_
  show J X B (cst (bmp E 9 (eR E)) (eR E) 8 (fS1 (cntE E 9) g) [], κ2) 31 [(0, .inr (some (8, (eR E).length, 0))), (1, .inr (some (0, g, 0)))] []
  refine J_aload_n O.mo dX7_init_31 1 rfl ?_
  replace h := optG_some h
  rcases h with ⟨ho, h⟩ | ⟨j, ho, hj, h⟩
  · refine J_getF O.co (kd0 := 2) (k2_0 h1c) (l2_0 h1c) (C := RX1) (T := TX1) (N := 19) rfl (by decide) rfl in_X1 9 (by decide) (v := .inr none) (by rw [ho]; rfl) mw609 rfl dX7_init_32 ?_
    refine J_astore_n O.mo (lv' := [(0, .inr (some (8, (eR E).length, 0))), (1, .inr (some (0, g, 0)))]) dX7_init_35 (by rw [hmL]; decide) rfl rfl ?_
    refine J_aload_n O.mo dX7_init_36 1 rfl ?_
    refine J_aload_n O.mo dX7_init_37 1 rfl ?_
    refine J_cGet O (C := RX7) (Tt := TX7) (N := 3) rfl rfl in_X7 1 (by decide) (v := .inr (some (9, cntE E 9, 0))) (fun _ => rfl) mw605 rfl dX7_init_38 ?_
    refine J_aload_n O.mo dX7_init_41 0 rfl ?_
    refine J_ifnonnullN O.mo dX7_init_42 ?_
    refine J_null O.mo dX7_init_45 ?_
    refine J_goto O.mo (tgt := 53) dX7_init_46 (by decide) ?_
    exact w_snapC hfl O hname hKP2 hmL h1 hRN hE (.inr none) (Or.inl rfl) h (w := .inr none) (fun _ => trivial) trivial
  · have hj1 : PC 8 (eS E (fS1 (cntE E 9) g)) 1 j 0 := ⟨hj, rfl⟩
    refine J_getF O.co (kd0 := 2) (k2_0 h1c) (l2_0 h1c) (C := RX1) (T := TX1) (N := 19) rfl (by decide) rfl in_X1 9 (by decide) (v := .inr (some (1, j, 0))) (by rw [ho]; rfl) mw609 rfl dX7_init_32 ?_
    refine J_astore_n O.mo (lv' := [(0, .inr (some (8, (eR E).length, 0))), (1, .inr (some (0, g, 0)))]) dX7_init_35 (by rw [hmL]; decide) rfl rfl ?_
    refine J_aload_n O.mo dX7_init_36 1 rfl ?_
    refine J_aload_n O.mo dX7_init_37 1 rfl ?_
    refine J_cGet O (C := RX7) (Tt := TX7) (N := 3) rfl rfl in_X7 1 (by decide) (v := .inr (some (9, cntE E 9, 0))) (fun _ => rfl) mw605 rfl dX7_init_38 ?_
    refine J_aload_n O.mo dX7_init_41 0 rfl ?_
    refine J_ifnonnull O.mo (tgt := 49) dX7_init_42 (by decide) ?_
    refine J_aload_n O.mo dX7_init_49 0 rfl ?_
    replace h := optG_some h
    rcases h with ⟨ho2, h⟩ | ⟨q, ho2, hq, h⟩
    · cases h
    · refine J_getF O.co (kd0 := 8) (k8_0 hj1) (l8_0 hj1) (C := RX7) (T := TX7) (N := 3) rfl (by decide) rfl in_X7 1 (by decide) (v := .inr (some (9, q, 0))) (by rw [ho2]; rfl) mw605 rfl dX7_init_50 ?_
      exact w_snapC hfl O hname hKP2 hmL h1 hRN hE (.inr (some (9, q, 0))) (Or.inr ⟨q, rfl, ⟨hq, rfl⟩⟩) h (w := .inr (some (1, j, 0))) (fun _ => trivial) (s8_0 hj1)
