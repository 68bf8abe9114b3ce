theorem k2_7 {E : EE} {f i c : Nat} (h : PC 2 E f i c) : kd f (c + 7) = 20 := PC_kd h 7 (by decide)
theorem l2_7 {E : EE} {f i c : Nat} (h : PC 2 E f i c) : liveC E f i (c + 7) = true := PC_lv h 7 (by decide) (by decide)
theorem s2_7 {E : EE} {f i c : Nat} (h : PC 2 E f i c) : Stab E (.inr (some (f, i, c + 7))) := PC_st h 7 (by decide) (by decide) (by decide)
theorem n2_7 {E : EE} {f i c : Nat} (h : PC 2 E f i c) : sl f (c + 7) = 4 := PC_sl h 7 (by decide)
theorem k2_37 {E : EE} {f i c : Nat} (h : PC 2 E f i c) : kd f (c + 37) = 21 := PC_kd h 37 (by decide)
theorem l2_37 {E : EE} {f i c : Nat} (h : PC 2 E f i c) : liveC E f i (c + 37) = true := PC_lv h 37 (by decide) (by decide)
set_option maxRecDepth 100000 in
theorem mw492 : Cond.fieldLink RX10 273 "GuestHall$Machine" "how" "I" ∈ gwl := gwl_tb 311 rfl rfl
set_option maxRecDepth 100000 in
theorem mw493 : Cond.fieldLink RX10 276 "GuestHall$Host" "number" "I" ∈ gwl := gwl_tb 73 rfl rfl
set_option maxRecDepth 100000 in
theorem mw494 : Cond.fieldLink RX10 279 "GuestHall$Machine" "next" "I" ∈ gwl := gwl_tb 299 rfl rfl
set_option maxRecDepth 100000 in
theorem mw495 : Cond.fieldLink RX10 282 "GuestHall$Machine" "cause" "I" ∈ gwl := gwl_tb 304 rfl rfl
set_option maxRecDepth 100000 in
theorem mw496 : Cond.fieldLink RX10 285 "GuestHall$Machine" "isMasked" "Z" ∈ gwl := gwl_tb 307 rfl rfl
set_option maxRecDepth 100000 in
theorem mw497 : Cond.fieldLink RX10 288 "GuestHall$State" "clock" "I" ∈ gwl := gwl_tb 375 rfl rfl
set_option maxRecDepth 100000 in
theorem mw498 : Cond.fieldLink RX10 302 "GuestHall$Machine" "registers" "[I" ∈ gwl := gwl_tb 292 rfl rfl
set_option maxRecDepth 100000 in
theorem mw499 : Cond.methodLink RX10 308 yX1_isBare ∈ gwl := gwl_tb 1078 rfl rfl
set_option maxRecDepth 100000 in
theorem mw500 : Cond.methodLink RX10 312 yX1_frameFor ∈ gwl := gwl_tb 1079 rfl rfl
set_option maxRecDepth 100000 in
theorem mw501 : Cond.instanceMethod yX1_frameFor ∈ gwl := gwl_tb 1080 rfl rfl
set_option maxRecDepth 100000 in
theorem mw502 : Cond.selects RX1 yX1_frameFor yX1_frameFor ∈ gwl := gwl_tb 1081 rfl rfl
set_option maxRecDepth 100000 in
theorem mw503 : Cond.code yX1_frameFor cX1_frameFor 2 (some .int) ∈ gwl := gwl_tb 1082 rfl rfl
set_option maxRecDepth 100000 in
theorem mw504 : Cond.methodLink RX10 315 yX2_countUsed ∈ gwl := gwl_tb 1097 rfl rfl
set_option maxRecDepth 100000 in
theorem mw505 : Cond.instanceMethod yX2_countUsed ∈ gwl := gwl_tb 1098 rfl rfl
set_option maxRecDepth 100000 in
theorem mw506 : Cond.selects RX2 yX2_countUsed yX2_countUsed ∈ gwl := gwl_tb 1099 rfl rfl
set_option maxRecDepth 100000 in
theorem mw507 : Cond.code yX2_countUsed cX2_countUsed 3 (some .int) ∈ gwl := gwl_tb 1100 rfl rfl
set_option maxRecDepth 100000 in
theorem mw508 : Cond.fieldLink RX10 320 "GuestHall$Guest" "exits" "[I" ∈ gwl := gwl_tb 445 rfl rfl
set_option maxRecDepth 100000 in
theorem mw509 : Cond.fieldLink RX10 323 "GuestHall$Guest" "wentOut" "LGuestHall$Numbers;" ∈ gwl := gwl_tb 443 rfl rfl
set_option maxRecDepth 100000 in
theorem mw510 : Cond.fieldLink RX10 326 "GuestHall$Numbers" "row" "[I" ∈ gwl := gwl_tb 339 rfl rfl
set_option maxRecDepth 100000 in
theorem mw511 : Cond.fieldLink RX10 329 "GuestHall$Following" "held" "LGuestHall$Numbers;" ∈ gwl := gwl_tb 417 rfl rfl
set_option maxRecDepth 100000 in
theorem mw512 : Cond.fieldLink RX10 332 "GuestHall$Snapshot" "storedPages" "I" ∈ gwl := gwl_tb 958 rfl rfl
theorem pd_X1_frameFor : (yX1_frameFor).cls ≠ "java/lang/invoke/MethodHandle" ∧ (yX1_frameFor).cls ≠ "java/lang/invoke/VarHandle" ∧ (parseMethodDescriptor (yX1_frameFor).desc).map (fun d => d.parameters.length) = some 1 := ⟨by decide +kernel, by decide +kernel, by decide +kernel⟩
theorem pd_X2_countUsed : (yX2_countUsed).cls ≠ "java/lang/invoke/MethodHandle" ∧ (yX2_countUsed).cls ≠ "java/lang/invoke/VarHandle" ∧ (parseMethodDescriptor (yX2_countUsed).desc).map (fun d => d.parameters.length) = some 0 := ⟨by decide +kernel, by decide +kernel, by decide +kernel⟩
def f_X10_time (E : EE) (κ : K) : Option (K × Int32) := some (κ, kV κ 4 0 0 3)
set_option maxHeartbeats 4000000 in
set_option maxRecDepth 100000 in
theorem w_X10_time {l0 : Launch} (hfl : l0.stackTraces = false) {X : MX} {B : BX (EE × K)} {g : GP} {E : EE} {κ' : K} {rr : Int32} (O : CK l0 X B g cX10_time RX10 1 0) (hKP : KPok B E) (hmL : B.2.2.2.1 = 1) (hE : ∀ (pc : Nat) (lv : List (Nat × AV)), decode cX10_time pc = .ok (.ireturn, 1) → J X B (E, κ') pc lv [.inl (.int rr)]) (h0 : PC 10 E 4 0 0) : ∀ (κ : K), f_X10_time E κ = some (κ', rr) → J X B (E, κ) 0 [(0, .inr (some (4, 0, 0)))] [] := by
  intro κ h
  unfold f_X10_time at h
  refine J_aload_n O.mo dX10_time_0 0 rfl ?_
  refine J_getF O.co (kd0 := 10) (k10_0 h0) (l10_0 h0) (C := RX10) (T := TX10) (N := 4) rfl (by decide) rfl in_X10 3 (by decide) (v := .inl (.int (kV κ 4 0 0 3))) rfl mw353 rfl dX10_time_1 ?_
  cases h
  exact hE _ _ dX10_time_4
theorem c_X10_time {l : Launch} (hfl : l.stackTraces = false) {E : EE} {κ κ' : K} (h0 : PC 10 E 4 0 0) {rr : Int32} (h : f_X10_time E κ = some (κ', rr)) : Con l yX10_time cX10_time 1 (some .int) 1 0 [.inr (some (4, 0, 0))] (E, κ) (E, κ') (some (.inl (.int rr))) := by
  exact Con_of hfl (by decide +kernel) (Nat.le_of_ble_eq_true rfl) rfl ⟨_, rfl, rfl⟩ (fun X B g O hKP hmL hE => w_X10_time hfl O hKP hmL hE h0 _ h)
def f_X10_of (E : EE) (κ : K) (a1 : Int32) (a2 : Int32) : Option (K × (Int32 ⊕ Nat)) := bx (f_X10_guestAt E κ a1) fun κ1 r3 => gd (r3 < cntE E 0) (if a2 = 0 then some (κ1, .inl (kV κ1 0 r3 6 8)) else if a2 = 1 then optG (kP κ1 0 r3 0 8) (cntE E 2) (none) (fun j9 => some (κ1, .inl (kV κ1 2 j9 0 0))) else if a2 = 2 then some (κ1, .inl (kV κ1 0 r3 6 3)) else if a2 = 3 then some (κ1, .inl (kV κ1 0 r3 6 6)) else if a2 = 4 then if kV κ1 0 r3 6 7 = 0 then some (κ1, .inl 0) else some (κ1, .inl 1) else if a2 = 5 then some (κ1, .inl (kV κ1 0 r3 5 9)) else if a2 = 6 then some (κ1, .inl (kV κ1 0 r3 0 11)) else if a2 = 7 then some (κ1, .inl (kV κ1 0 r3 0 12)) else if a2 = 8 then some (κ1, .inl (kV κ1 0 r3 10 1)) else if a2 = 9 then bd (f_X1_isMoving E κ1 r3) fun κ21 r23 => if r23 = 0 then some (κ21, .inl ((-1))) else bd (f_J6_bitCount_0f7a4 E κ21 (kV κ21 0 r3 0 15)) fun κ25 r27 => some (κ25, .inl r27) else if a2 = 10 then some (κ1, .inl (kV κ1 0 r3 0 13)) else some (addC κ1 1 6, .inr 2))
set_option maxHeartbeats 4000000 in
set_option maxRecDepth 100000 in
theorem w_X10_of {l0 : Launch} (hfl : l0.stackTraces = false) {X : MX} {B : BX (EE × K)} {g : GP} {E : EE} {κ' : K} {rs : (Int32 ⊕ Nat)} (O : CK l0 X B g cX10_of RX10 8 124) (hKP : KPok B E) (hmL : B.2.2.2.1 = 5) (hE : ∀ rr : Int32, rs = .inl rr → ∀ (pc : Nat) (lv : List (Nat × AV)), decode cX10_of pc = .ok (.ireturn, 1) → J X B (E, κ') pc lv [.inl (.int rr)]) (hX : ∀ e, rs = .inr e → QXH X B g (E, κ') (.inr (exN e))) (h0 : PC 10 E 4 0 0) : ∀ (κ : K) (a1 : Int32) (a2 : Int32), f_X10_of E κ a1 a2 = some (κ', rs) → J X B (E, κ) 0 [(0, .inr (some (4, 0, 0))), (1, .inl (.int a1)), (2, .inl (.int a2))] [] := by
  intro κ a1 a2 h
  unfold f_X10_of at h
  refine J_aload_n O.mo dX10_of_0 0 rfl ?_
  refine J_iload_n O.mo dX10_of_1 1 rfl ?_
  refine J_sub [2] rfl ?_
  rcases bx_some h with ⟨κ1, r3, hq2, h⟩ | ⟨e4, hq2, rfl⟩
  · obtain ⟨hj6, h⟩ := gd_some h
    refine J_callVX O hKP (as := [.inl (.int a1)]) (rest := []) (r := .inl (some (.inr (some (0, r3, 0))))) (c_X10_guestAt hfl h0 hq2) rfl (kd0 := 10) (k10_0 h0) (l10_0 h0) (T := TX10) (N := 4) rfl (by decide) mw406 mw407 mw408 mw320 mw409 pd_X10_guestAt rfl (by decide) rfl (Nat.le_of_ble_eq_true rfl) (sl_v sl_0) st_0 dX10_of_2 (fun s hs => by cases hs) (fun v hv5 => ?_)
    cases hv5
    show J X B (E, κ1) 5 [(2, .inl (.int a2))] [.inr (some (0, r3, 0))]
    refine J_astore_n O.mo (lv' := [(2, .inl (.int a2))]) dX10_of_5 (by rw [hmL]; decide) rfl rfl ?_
    refine J_aload_n O.mo dX10_of_6 0 rfl ?_
    refine J_getF O.co (kd0 := 2) (k2_0 (⟨hj6, rfl⟩ : PC 2 E 0 r3 0)) (l2_0 (⟨hj6, rfl⟩ : PC 2 E 0 r3 0)) (C := RX1) (T := TX1) (N := 19) rfl (by decide) rfl in_X1 4 (by decide) (v := .inr (some (0, r3, 5))) rfl mw343 rfl dX10_of_7 ?_
    refine J_getF O.co (kd0 := 9) (k2_5 (⟨hj6, rfl⟩ : PC 2 E 0 r3 0)) (l2_5 (⟨hj6, rfl⟩ : PC 2 E 0 r3 0)) (C := RX8) (T := TX8) (N := 10) rfl (by decide) rfl in_X8 0 (by decide) (v := .inr (some (0, r3, 6))) rfl mw378 rfl dX10_of_10 ?_
    refine J_astore O.mo (lv' := [(3, .inr (some (0, r3, 0))), (2, .inl (.int a2))]) dX10_of_13 (by rw [hmL]; decide) rfl rfl ?_
    refine J_iload_n O.mo dX10_of_15 2 rfl ?_
    by_cases hc7 : a2 = 0
    · replace h := (if_pos hc7).symm.trans h
      refine J_tabIn O.mo (tgt := 76) 0 hc7 dX10_of_16 (by decide) (by decide) rfl (by decide) ?_
      refine J_aload O.mo dX10_of_76 0 rfl ?_
      refine J_getF O.co (kd0 := 4) (k2_6 (⟨hj6, rfl⟩ : PC 2 E 0 r3 0)) (l2_6 (⟨hj6, rfl⟩ : PC 2 E 0 r3 0)) (C := RX3) (T := TX3) (N := 9) rfl (by decide) rfl in_X3 8 (by decide) (v := .inl (.int (kV κ1 0 r3 6 8))) rfl mw492 rfl dX10_of_78 ?_
      cases h
      exact hE _ rfl _ _ dX10_of_81
    · replace h := (if_neg hc7).symm.trans h
      by_cases hc8 : a2 = 1
      · replace h := (if_pos hc8).symm.trans h
        refine J_tabIn O.mo (tgt := 82) 1 hc8 dX10_of_16 (by decide) (by decide) rfl (by decide) ?_
        refine J_aload_n O.mo dX10_of_82 1 rfl ?_
        replace h := optG_some h
        rcases h with ⟨ho11, h⟩ | ⟨j9, ho11, hj10, h⟩
        · cases h
        · refine J_getF O.co (kd0 := 2) (k2_0 (⟨hj6, rfl⟩ : PC 2 E 0 r3 0)) (l2_0 (⟨hj6, rfl⟩ : PC 2 E 0 r3 0)) (C := RX1) (T := TX1) (N := 19) rfl (by decide) rfl in_X1 8 (by decide) (v := .inr (some (2, j9, 0))) (by rw [ho11]; rfl) mw455 rfl dX10_of_83 ?_
          refine J_getF O.co (kd0 := 3) (k3_0 (⟨hj10, rfl⟩ : PC 3 E 2 j9 0)) (l3_0 (⟨hj10, rfl⟩ : PC 3 E 2 j9 0)) (C := RX2) (T := TX2) (N := 8) rfl (by decide) rfl in_X2 0 (by decide) (v := .inl (.int (kV κ1 2 j9 0 0))) rfl mw493 rfl dX10_of_86 ?_
          cases h
          exact hE _ rfl _ _ dX10_of_89
      · replace h := (if_neg hc8).symm.trans h
        by_cases hc12 : a2 = 2
        · replace h := (if_pos hc12).symm.trans h
          refine J_tabIn O.mo (tgt := 90) 2 hc12 dX10_of_16 (by decide) (by decide) rfl (by decide) ?_
          refine J_aload O.mo dX10_of_90 0 rfl ?_
          refine J_getF O.co (kd0 := 4) (k2_6 (⟨hj6, rfl⟩ : PC 2 E 0 r3 0)) (l2_6 (⟨hj6, rfl⟩ : PC 2 E 0 r3 0)) (C := RX3) (T := TX3) (N := 9) rfl (by decide) rfl in_X3 3 (by decide) (v := .inl (.int (kV κ1 0 r3 6 3))) rfl mw494 rfl dX10_of_92 ?_
          cases h
          exact hE _ rfl _ _ dX10_of_95
        · replace h := (if_neg hc12).symm.trans h
          by_cases hc13 : a2 = 3
          · replace h := (if_pos hc13).symm.trans h
            refine J_tabIn O.mo (tgt := 96) 3 hc13 dX10_of_16 (by decide) (by decide) rfl (by decide) ?_
            refine J_aload O.mo dX10_of_96 0 rfl ?_
            refine J_getF O.co (kd0 := 4) (k2_6 (⟨hj6, rfl⟩ : PC 2 E 0 r3 0)) (l2_6 (⟨hj6, rfl⟩ : PC 2 E 0 r3 0)) (C := RX3) (T := TX3) (N := 9) rfl (by decide) rfl in_X3 6 (by decide) (v := .inl (.int (kV κ1 0 r3 6 6))) rfl mw495 rfl dX10_of_98 ?_
            cases h
            exact hE _ rfl _ _ dX10_of_101
          · replace h := (if_neg hc13).symm.trans h
            by_cases hc14 : a2 = 4
            · replace h := (if_pos hc14).symm.trans h
              refine J_tabIn O.mo (tgt := 102) 4 hc14 dX10_of_16 (by decide) (by decide) rfl (by decide) ?_
              refine J_aload O.mo dX10_of_102 0 rfl ?_
              refine J_getF O.co (kd0 := 4) (k2_6 (⟨hj6, rfl⟩ : PC 2 E 0 r3 0)) (l2_6 (⟨hj6, rfl⟩ : PC 2 E 0 r3 0)) (C := RX3) (T := TX3) (N := 9) rfl (by decide) rfl in_X3 7 (by decide) (v := .inl (.int (kV κ1 0 r3 6 7))) rfl mw496 rfl dX10_of_104 ?_
              refine J_if_eq O.mo (tgt := 114) dX10_of_107 (by decide) (fun hc15 => ?_) (fun hc15 => ?_)
              · replace h := (if_pos hc15).symm.trans h
                refine J_iconst O.mo (v := 0) dX10_of_114 (by decide) ?_
                cases h
                exact hE _ rfl _ _ dX10_of_115
              · replace h := (if_neg hc15).symm.trans h
                refine J_iconst O.mo (v := 1) dX10_of_110 (by decide) ?_
                refine J_goto O.mo (tgt := 115) dX10_of_111 (by decide) ?_
                cases h
                exact hE _ rfl _ _ dX10_of_115
            · replace h := (if_neg hc14).symm.trans h
              by_cases hc16 : a2 = 5
              · replace h := (if_pos hc16).symm.trans h
                refine J_tabIn O.mo (tgt := 116) 5 hc16 dX10_of_16 (by decide) (by decide) rfl (by decide) ?_
                refine J_aload_n O.mo dX10_of_116 1 rfl ?_
                refine J_getF O.co (kd0 := 2) (k2_0 (⟨hj6, rfl⟩ : PC 2 E 0 r3 0)) (l2_0 (⟨hj6, rfl⟩ : PC 2 E 0 r3 0)) (C := RX1) (T := TX1) (N := 19) rfl (by decide) rfl in_X1 4 (by decide) (v := .inr (some (0, r3, 5))) rfl mw343 rfl dX10_of_117 ?_
                refine J_getF O.co (kd0 := 9) (k2_5 (⟨hj6, rfl⟩ : PC 2 E 0 r3 0)) (l2_5 (⟨hj6, rfl⟩ : PC 2 E 0 r3 0)) (C := RX8) (T := TX8) (N := 10) rfl (by decide) rfl in_X8 9 (by decide) (v := .inl (.int (kV κ1 0 r3 5 9))) rfl mw497 rfl dX10_of_120 ?_
                cases h
                exact hE _ rfl _ _ dX10_of_123
              · replace h := (if_neg hc16).symm.trans h
                by_cases hc17 : a2 = 6
                · replace h := (if_pos hc17).symm.trans h
                  refine J_tabIn O.mo (tgt := 124) 6 hc17 dX10_of_16 (by decide) (by decide) rfl (by decide) ?_
                  refine J_aload_n O.mo dX10_of_124 1 rfl ?_
                  refine J_getF O.co (kd0 := 2) (k2_0 (⟨hj6, rfl⟩ : PC 2 E 0 r3 0)) (l2_0 (⟨hj6, rfl⟩ : PC 2 E 0 r3 0)) (C := RX1) (T := TX1) (N := 19) rfl (by decide) rfl in_X1 11 (by decide) (v := .inl (.int (kV κ1 0 r3 0 11))) rfl mw372 rfl dX10_of_125 ?_
                  cases h
                  exact hE _ rfl _ _ dX10_of_128
                · replace h := (if_neg hc17).symm.trans h
                  by_cases hc18 : a2 = 7
                  · replace h := (if_pos hc18).symm.trans h
                    refine J_tabIn O.mo (tgt := 129) 7 hc18 dX10_of_16 (by decide) (by decide) rfl (by decide) ?_
                    refine J_aload_n O.mo dX10_of_129 1 rfl ?_
                    refine J_getF O.co (kd0 := 2) (k2_0 (⟨hj6, rfl⟩ : PC 2 E 0 r3 0)) (l2_0 (⟨hj6, rfl⟩ : PC 2 E 0 r3 0)) (C := RX1) (T := TX1) (N := 19) rfl (by decide) rfl in_X1 12 (by decide) (v := .inl (.int (kV κ1 0 r3 0 12))) rfl mw399 rfl dX10_of_130 ?_
                    cases h
                    exact hE _ rfl _ _ dX10_of_133
                  · replace h := (if_neg hc18).symm.trans h
                    by_cases hc19 : a2 = 8
                    · replace h := (if_pos hc19).symm.trans h
                      refine J_tabIn O.mo (tgt := 134) 8 hc19 dX10_of_16 (by decide) (by decide) rfl (by decide) ?_
                      refine J_aload_n O.mo dX10_of_134 1 rfl ?_
                      refine J_getF O.co (kd0 := 2) (k2_0 (⟨hj6, rfl⟩ : PC 2 E 0 r3 0)) (l2_0 (⟨hj6, rfl⟩ : PC 2 E 0 r3 0)) (C := RX1) (T := TX1) (N := 19) rfl (by decide) rfl in_X1 4 (by decide) (v := .inr (some (0, r3, 5))) rfl mw343 rfl dX10_of_135 ?_
                      refine J_getF O.co (kd0 := 9) (k2_5 (⟨hj6, rfl⟩ : PC 2 E 0 r3 0)) (l2_5 (⟨hj6, rfl⟩ : PC 2 E 0 r3 0)) (C := RX8) (T := TX8) (N := 10) rfl (by decide) rfl in_X8 1 (by decide) (v := .inr (some (0, r3, 10))) rfl mw412 rfl dX10_of_138 ?_
                      refine J_getF O.co (kd0 := 5) (k2_10 (⟨hj6, rfl⟩ : PC 2 E 0 r3 0)) (l2_10 (⟨hj6, rfl⟩ : PC 2 E 0 r3 0)) (C := RX4) (T := TX4) (N := 2) rfl (by decide) rfl in_X4 1 (by decide) (v := .inl (.int (kV κ1 0 r3 10 1))) rfl mw413 rfl dX10_of_141 ?_
                      cases h
                      exact hE _ rfl _ _ dX10_of_144
                    · replace h := (if_neg hc19).symm.trans h
                      by_cases hc20 : a2 = 9
                      · replace h := (if_pos hc20).symm.trans h
                        refine J_tabIn O.mo (tgt := 145) 9 hc20 dX10_of_16 (by decide) (by decide) rfl (by decide) ?_
                        refine J_aload_n O.mo dX10_of_145 1 rfl ?_
                        refine J_sub [1] rfl ?_
                        obtain ⟨κ21, r23, hq22, h⟩ := bd_some h
                        refine J_callV O hKP (as := []) (rest := []) (r := (some (.inl (.int r23)))) (c_X1_isMoving hfl (⟨hj6, rfl⟩ : PC 2 E 0 r3 0) hq22) rfl (kd0 := 2) (k2_0 (⟨hj6, rfl⟩ : PC 2 E 0 r3 0)) (l2_0 (⟨hj6, rfl⟩ : PC 2 E 0 r3 0)) (T := TX1) (N := 19) rfl (by decide) mw450 mw79 mw80 mw74 mw81 pd_X1_isMoving rfl (by decide) rfl (Nat.le_of_ble_eq_true rfl) (sl_p (s2_0 (⟨hj6, rfl⟩ : PC 2 E 0 r3 0)) sl_0) st_0 dX10_of_146 ?_
                        show J X B (E, κ21) 149 [(3, .inr (some (0, r3, 0)))] [.inl (.int r23)]
                        refine J_if_eq O.mo (tgt := 162) dX10_of_149 (by decide) (fun hc24 => ?_) (fun hc24 => ?_)
                        · replace h := (if_pos hc24).symm.trans h
                          refine J_iconst O.mo (v := (-1)) dX10_of_162 (by decide) ?_
                          cases h
                          exact hE _ rfl _ _ dX10_of_163
                        · replace h := (if_neg hc24).symm.trans h
                          refine J_aload_n O.mo dX10_of_152 0 rfl ?_
                          refine J_getF O.co (kd0 := 2) (k2_0 (⟨hj6, rfl⟩ : PC 2 E 0 r3 0)) (l2_0 (⟨hj6, rfl⟩ : PC 2 E 0 r3 0)) (C := RX1) (T := TX1) (N := 19) rfl (by decide) rfl in_X1 15 (by decide) (v := .inl (.int (kV κ21 0 r3 0 15))) rfl mw461 rfl dX10_of_153 ?_
                          refine J_sub [] rfl ?_
                          obtain ⟨κ25, r27, hq26, h⟩ := bd_some h
                          refine J_callS O hKP (as := [.inl (.int (kV κ21 0 r3 0 15))]) (rest := []) (r := (some (.inl (.int r27)))) (c_J6_bitCount_0f7a4 hfl hq26) rfl mw462 mw279 mw280 mw281 pd_J6_bitCount_0f7a4 rfl (by decide) rfl (Nat.le_of_ble_eq_true rfl) sl_0 st_0 dX10_of_156 ?_
                          show J X B (E, κ25) 159 [] [.inl (.int r27)]
                          refine J_goto O.mo (tgt := 163) dX10_of_159 (by decide) ?_
                          cases h
                          exact hE _ rfl _ _ dX10_of_163
                      · replace h := (if_neg hc20).symm.trans h
                        by_cases hc28 : a2 = 10
                        · replace h := (if_pos hc28).symm.trans h
                          refine J_tabIn O.mo (tgt := 164) 10 hc28 dX10_of_16 (by decide) (by decide) rfl (by decide) ?_
                          refine J_aload_n O.mo dX10_of_164 1 rfl ?_
                          refine J_getF O.co (kd0 := 2) (k2_0 (⟨hj6, rfl⟩ : PC 2 E 0 r3 0)) (l2_0 (⟨hj6, rfl⟩ : PC 2 E 0 r3 0)) (C := RX1) (T := TX1) (N := 19) rfl (by decide) rfl in_X1 13 (by decide) (v := .inl (.int (kV κ1 0 r3 0 13))) rfl mw467 rfl dX10_of_165 ?_
                          cases h
                          exact hE _ rfl _ _ dX10_of_168
                        · replace h := (if_neg hc28).symm.trans h
                          refine J_tabOut O.mo (tgt := 169) 11 (by decide) (by decide) (tb_s (tb_s (tb_s (tb_s (tb_s (tb_s (tb_s (tb_s (tb_s (tb_s (tb_s tb_0 (fun z => hc7 (z.trans (by decide)))) (fun z => hc8 (z.trans (by decide)))) (fun z => hc12 (z.trans (by decide)))) (fun z => hc13 (z.trans (by decide)))) (fun z => hc14 (z.trans (by decide)))) (fun z => hc16 (z.trans (by decide)))) (fun z => hc17 (z.trans (by decide)))) (fun z => hc18 (z.trans (by decide)))) (fun z => hc19 (z.trans (by decide)))) (fun z => hc20 (z.trans (by decide)))) (fun z => hc28 (z.trans (by decide)))) dX10_of_16 (by decide) ?_
                          cases h
                          exact J_throwW O (cls := "java/lang/IllegalArgumentException") (hX _ rfl) (text := "what") (by decide +kernel) mw388 mw389 (by decide) hat_36 (by decide) (Nat.le_of_ble_eq_true rfl) rfl dX10_of_169 dX10_of_172 dX10_of_173 dX10_of_176 dX10_of_179
  · exact J_callVX O hKP (as := [.inl (.int a1)]) (rest := []) (r := .inr (exN e4)) (c_X10_guestAt hfl h0 hq2) rfl (kd0 := 10) (k10_0 h0) (l10_0 h0) (T := TX10) (N := 4) rfl (by decide) mw406 mw407 mw408 mw320 mw409 pd_X10_guestAt rfl (by decide) rfl (Nat.le_of_ble_eq_true rfl) (sl_v sl_0) st_0 dX10_of_2 (fun s hs => by cases hs; exact hX _ rfl) (fun v hs => by cases hs)
theorem c_X10_of {l : Launch} (hfl : l.stackTraces = false) {E : EE} {κ κ' : K} {a1 : Int32} {a2 : Int32} (h0 : PC 10 E 4 0 0) {rs : (Int32 ⊕ Nat)} (h : f_X10_of E κ a1 a2 = some (κ', rs)) : ConX l yX10_of cX10_of 5 (some .int) 8 124 [.inr (some (4, 0, 0)), .inl (.int a1), .inl (.int a2)] (E, κ) (E, κ') (mapX (fun rr => (some (.inl (.int rr)))) rs) := by
  cases rs with
  | inl rr => exact ConX_of hfl (by decide +kernel) (Nat.le_of_ble_eq_true rfl) rfl ⟨_, rfl, rfl⟩ (fun X B g O hKP hmL hX hE => w_X10_of hfl O hKP hmL (fun rr hr => by cases hr; exact hE) (fun e hr => by cases hr) h0 _ _ _ h)
  | inr e => exact ConX_of hfl (by decide +kernel) (Nat.le_of_ble_eq_true rfl) rfl trivial (fun X B g O hKP hmL hX hE => w_X10_of hfl O hKP hmL (fun rr hr => by cases hr) (fun e hr => by cases hr; exact hX) h0 _ _ _ h)
def f_X10_register (E : EE) (κ : K) (a1 : Int32) (a2 : Int32) : Option (K × (Int32 ⊕ Nat)) := bx (f_X10_guestAt E κ a1) fun κ1 r3 => gd (r3 < cntE E 0) (bx (f_X10_checkPlace E κ1 a2 4) fun κ7 _ => if kV κ7 0 r3 0 2 = 0 then gd (¬ (a2 < 0 ∨ 4 ≤ a2.toNatClampNeg)) (some (κ7, .inl ((kV κ7 0 r3 7) a2.toNatClampNeg))) else some (κ7, .inl ((-1))))
set_option maxHeartbeats 4000000 in
set_option maxRecDepth 100000 in
theorem w_X10_register {l0 : Launch} (hfl : l0.stackTraces = false) {X : MX} {B : BX (EE × K)} {g : GP} {E : EE} {κ' : K} {rs : (Int32 ⊕ Nat)} (O : CK l0 X B g cX10_register RX10 8 124) (hKP : KPok B E) (hmL : B.2.2.2.1 = 4) (hE : ∀ rr : Int32, rs = .inl rr → ∀ (pc : Nat) (lv : List (Nat × AV)), decode cX10_register pc = .ok (.ireturn, 1) → J X B (E, κ') pc lv [.inl (.int rr)]) (hX : ∀ e, rs = .inr e → QXH X B g (E, κ') (.inr (exN e))) (h0 : PC 10 E 4 0 0) : ∀ (κ : K) (a1 : Int32) (a2 : Int32), f_X10_register E κ a1 a2 = some (κ', rs) → J X B (E, κ) 0 [(0, .inr (some (4, 0, 0))), (1, .inl (.int a1)), (2, .inl (.int a2))] [] := by
  intro κ a1 a2 h
  unfold f_X10_register at h
  refine J_aload_n O.mo dX10_register_0 0 rfl ?_
  refine J_iload_n O.mo dX10_register_1 1 rfl ?_
  refine J_sub [2] rfl ?_
  rcases bx_some h with ⟨κ1, r3, hq2, h⟩ | ⟨e4, hq2, rfl⟩
  · obtain ⟨hj6, h⟩ := gd_some h
    refine J_callVX O hKP (as := [.inl (.int a1)]) (rest := []) (r := .inl (some (.inr (some (0, r3, 0))))) (c_X10_guestAt hfl h0 hq2) rfl (kd0 := 10) (k10_0 h0) (l10_0 h0) (T := TX10) (N := 4) rfl (by decide) mw406 mw407 mw408 mw320 mw409 pd_X10_guestAt rfl (by decide) rfl (Nat.le_of_ble_eq_true rfl) (sl_v sl_0) st_0 dX10_register_2 (fun s hs => by cases hs) (fun v hv5 => ?_)
    cases hv5
    show J X B (E, κ1) 5 [(2, .inl (.int a2))] [.inr (some (0, r3, 0))]
    refine J_astore_n O.mo (lv' := [(2, .inl (.int a2))]) dX10_register_5 (by rw [hmL]; decide) rfl rfl ?_
    refine J_iload_n O.mo dX10_register_6 1 rfl ?_
    refine J_iconst O.mo (v := 4) dX10_register_7 (by decide) ?_
    rcases bx_some h with ⟨κ7, r9, hq8, h⟩ | ⟨e10, hq8, rfl⟩
    · refine J_callSX O hKP (as := [.inl (.int a2), .inl (.int 4)]) (rest := []) (r := .inl none) (c_X10_checkPlace hfl hq8) rfl mw385 mw386 mw320 mw387 pd_X10_checkPlace rfl (by decide) rfl (Nat.le_of_ble_eq_true rfl) (sl_p (s2_0 (⟨hj6, rfl⟩ : PC 2 E 0 r3 0)) (sl_v sl_0)) st_0 dX10_register_8 (fun s hs => by cases hs) (fun v hv11 => ?_)
      cases hv11
      show J X B (E, κ7) 11 [(3, .inr (some (0, r3, 0))), (2, .inl (.int a2))] []
      refine J_aload_n O.mo dX10_register_11 0 rfl ?_
      refine J_getF O.co (kd0 := 2) (k2_0 (⟨hj6, rfl⟩ : PC 2 E 0 r3 0)) (l2_0 (⟨hj6, rfl⟩ : PC 2 E 0 r3 0)) (C := RX1) (T := TX1) (N := 19) rfl (by decide) rfl in_X1 2 (by decide) (v := .inl (.int (kV κ7 0 r3 0 2))) rfl mw377 rfl dX10_register_12 ?_
      refine J_if_eq O.mo (tgt := 22) dX10_register_15 (by decide) (fun hc12 => ?_) (fun hc12 => ?_)
      · replace h := (if_pos hc12).symm.trans h
        refine J_aload_n O.mo dX10_register_22 0 rfl ?_
        refine J_getF O.co (kd0 := 2) (k2_0 (⟨hj6, rfl⟩ : PC 2 E 0 r3 0)) (l2_0 (⟨hj6, rfl⟩ : PC 2 E 0 r3 0)) (C := RX1) (T := TX1) (N := 19) rfl (by decide) rfl in_X1 4 (by decide) (v := .inr (some (0, r3, 5))) rfl mw343 rfl dX10_register_23 ?_
        refine J_getF O.co (kd0 := 9) (k2_5 (⟨hj6, rfl⟩ : PC 2 E 0 r3 0)) (l2_5 (⟨hj6, rfl⟩ : PC 2 E 0 r3 0)) (C := RX8) (T := TX8) (N := 10) rfl (by decide) rfl in_X8 0 (by decide) (v := .inr (some (0, r3, 6))) rfl mw378 rfl dX10_register_26 ?_
        refine J_getF O.co (kd0 := 4) (k2_6 (⟨hj6, rfl⟩ : PC 2 E 0 r3 0)) (l2_6 (⟨hj6, rfl⟩ : PC 2 E 0 r3 0)) (C := RX3) (T := TX3) (N := 9) rfl (by decide) rfl in_X3 0 (by decide) (v := .inr (some (0, r3, 7))) rfl mw498 rfl dX10_register_29 ?_
        refine J_iload_n O.mo dX10_register_32 1 rfl ?_
        obtain ⟨hg13, h⟩ := gd_some h
        refine J_iald O.co (g := (kV κ7 0 r3 7)) (ct_20n (l2_7 (⟨hj6, rfl⟩ : PC 2 E 0 r3 0)) (k2_7 (⟨hj6, rfl⟩ : PC 2 E 0 r3 0)) (n2_7 (⟨hj6, rfl⟩ : PC 2 E 0 r3 0))) hg13 dX10_register_33 ?_
        cases h
        exact hE _ rfl _ _ dX10_register_34
      · replace h := (if_neg hc12).symm.trans h
        refine J_iconst O.mo (v := (-1)) dX10_register_18 (by decide) ?_
        refine J_goto O.mo (tgt := 34) dX10_register_19 (by decide) ?_
        cases h
        exact hE _ rfl _ _ dX10_register_34
    · exact J_callSX O hKP (as := [.inl (.int a2), .inl (.int 4)]) (rest := []) (r := .inr (exN e10)) (c_X10_checkPlace hfl hq8) rfl mw385 mw386 mw320 mw387 pd_X10_checkPlace rfl (by decide) rfl (Nat.le_of_ble_eq_true rfl) (sl_p (s2_0 (⟨hj6, rfl⟩ : PC 2 E 0 r3 0)) (sl_v sl_0)) st_0 dX10_register_8 (fun s hs => by cases hs; exact hX _ rfl) (fun v hs => by cases hs)
  · exact J_callVX O hKP (as := [.inl (.int a1)]) (rest := []) (r := .inr (exN e4)) (c_X10_guestAt hfl h0 hq2) rfl (kd0 := 10) (k10_0 h0) (l10_0 h0) (T := TX10) (N := 4) rfl (by decide) mw406 mw407 mw408 mw320 mw409 pd_X10_guestAt rfl (by decide) rfl (Nat.le_of_ble_eq_true rfl) (sl_v sl_0) st_0 dX10_register_2 (fun s hs => by cases hs; exact hX _ rfl) (fun v hs => by cases hs)
theorem c_X10_register {l : Launch} (hfl : l.stackTraces = false) {E : EE} {κ κ' : K} {a1 : Int32} {a2 : Int32} (h0 : PC 10 E 4 0 0) {rs : (Int32 ⊕ Nat)} (h : f_X10_register E κ a1 a2 = some (κ', rs)) : ConX l yX10_register cX10_register 4 (some .int) 8 124 [.inr (some (4, 0, 0)), .inl (.int a1), .inl (.int a2)] (E, κ) (E, κ') (mapX (fun rr => (some (.inl (.int rr)))) rs) := by
  cases rs with
  | inl rr => exact ConX_of hfl (by decide +kernel) (Nat.le_of_ble_eq_true rfl) rfl ⟨_, rfl, rfl⟩ (fun X B g O hKP hmL hX hE => w_X10_register hfl O hKP hmL (fun rr hr => by cases hr; exact hE) (fun e hr => by cases hr) h0 _ _ _ h)
  | inr e => exact ConX_of hfl (by decide +kernel) (Nat.le_of_ble_eq_true rfl) rfl trivial (fun X B g O hKP hmL hX hE => w_X10_register hfl O hKP hmL (fun rr hr => by cases hr) (fun e hr => by cases hr; exact hX) h0 _ _ _ h)
def f_X10_word (E : EE) (κ : K) (a1 : Int32) (a2 : Int32) (a3 : Int32) : Option (K × (Int32 ⊕ Nat)) := bx (f_X10_guestAt E κ a1) fun κ1 r3 => gd (r3 < cntE E 0) (bx (f_X10_checkPlace E κ1 a2 8) fun κ7 _ => bx (f_X10_checkPlace E κ7 a3 4) fun κ12 _ => if kV κ12 0 r3 0 2 = 0 then gd (¬ (((a2 * 4) + a3) < 0 ∨ 32 ≤ ((a2 * 4) + a3).toNatClampNeg)) (some (κ12, .inl ((kV κ12 0 r3 9) ((a2 * 4) + a3).toNatClampNeg))) else some (κ12, .inl ((-1))))
set_option maxHeartbeats 4000000 in
set_option maxRecDepth 100000 in
theorem w_X10_word {l0 : Launch} (hfl : l0.stackTraces = false) {X : MX} {B : BX (EE × K)} {g : GP} {E : EE} {κ' : K} {rs : (Int32 ⊕ Nat)} (O : CK l0 X B g cX10_word RX10 8 124) (hKP : KPok B E) (hmL : B.2.2.2.1 = 5) (hE : ∀ rr : Int32, rs = .inl rr → ∀ (pc : Nat) (lv : List (Nat × AV)), decode cX10_word pc = .ok (.ireturn, 1) → J X B (E, κ') pc lv [.inl (.int rr)]) (hX : ∀ e, rs = .inr e → QXH X B g (E, κ') (.inr (exN e))) (h0 : PC 10 E 4 0 0) : ∀ (κ : K) (a1 : Int32) (a2 : Int32) (a3 : Int32), f_X10_word E κ a1 a2 a3 = some (κ', rs) → J X B (E, κ) 0 [(0, .inr (some (4, 0, 0))), (1, .inl (.int a1)), (2, .inl (.int a2)), (3, .inl (.int a3))] [] := by
  intro κ a1 a2 a3 h
  unfold f_X10_word at h
  refine J_aload_n O.mo dX10_word_0 0 rfl ?_
  refine J_iload_n O.mo dX10_word_1 1 rfl ?_
  refine J_sub [2, 3] rfl ?_
  rcases bx_some h with ⟨κ1, r3, hq2, h⟩ | ⟨e4, hq2, rfl⟩
  · obtain ⟨hj6, h⟩ := gd_some h
    refine J_callVX O hKP (as := [.inl (.int a1)]) (rest := []) (r := .inl (some (.inr (some (0, r3, 0))))) (c_X10_guestAt hfl h0 hq2) rfl (kd0 := 10) (k10_0 h0) (l10_0 h0) (T := TX10) (N := 4) rfl (by decide) mw406 mw407 mw408 mw320 mw409 pd_X10_guestAt rfl (by decide) rfl (Nat.le_of_ble_eq_true rfl) (sl_v (sl_v sl_0)) st_0 dX10_word_2 (fun s hs => by cases hs) (fun v hv5 => ?_)
    cases hv5
    show J X B (E, κ1) 5 [(2, .inl (.int a2)), (3, .inl (.int a3))] [.inr (some (0, r3, 0))]
    refine J_astore O.mo (lv' := [(2, .inl (.int a2)), (3, .inl (.int a3))]) dX10_word_5 (by rw [hmL]; decide) rfl rfl ?_
    refine J_iload_n O.mo dX10_word_7 1 rfl ?_
    refine J_bipush O.mo (v := 8) dX10_word_8 (by decide) ?_
    rcases bx_some h with ⟨κ7, r9, hq8, h⟩ | ⟨e10, hq8, rfl⟩
    · refine J_callSX O hKP (as := [.inl (.int a2), .inl (.int 8)]) (rest := []) (r := .inl none) (c_X10_checkPlace hfl hq8) rfl mw385 mw386 mw320 mw387 pd_X10_checkPlace rfl (by decide) rfl (Nat.le_of_ble_eq_true rfl) (sl_p (s2_0 (⟨hj6, rfl⟩ : PC 2 E 0 r3 0)) (sl_v (sl_v sl_0))) st_0 dX10_word_10 (fun s hs => by cases hs) (fun v hv11 => ?_)
      cases hv11
      show J X B (E, κ7) 13 [(4, .inr (some (0, r3, 0))), (2, .inl (.int a2)), (3, .inl (.int a3))] []
      refine J_iload_n O.mo dX10_word_13 2 rfl ?_
      refine J_iconst O.mo (v := 4) dX10_word_14 (by decide) ?_
      rcases bx_some h with ⟨κ12, r14, hq13, h⟩ | ⟨e15, hq13, rfl⟩
      · refine J_callSX O hKP (as := [.inl (.int a3), .inl (.int 4)]) (rest := []) (r := .inl none) (c_X10_checkPlace hfl hq13) rfl mw385 mw386 mw320 mw387 pd_X10_checkPlace rfl (by decide) rfl (Nat.le_of_ble_eq_true rfl) (sl_p (s2_0 (⟨hj6, rfl⟩ : PC 2 E 0 r3 0)) (sl_v (sl_v sl_0))) st_0 dX10_word_15 (fun s hs => by cases hs) (fun v hv16 => ?_)
        cases hv16
        show J X B (E, κ12) 18 [(4, .inr (some (0, r3, 0))), (2, .inl (.int a2)), (3, .inl (.int a3))] []
        refine J_aload O.mo dX10_word_18 0 rfl ?_
        refine J_getF O.co (kd0 := 2) (k2_0 (⟨hj6, rfl⟩ : PC 2 E 0 r3 0)) (l2_0 (⟨hj6, rfl⟩ : PC 2 E 0 r3 0)) (C := RX1) (T := TX1) (N := 19) rfl (by decide) rfl in_X1 2 (by decide) (v := .inl (.int (kV κ12 0 r3 0 2))) rfl mw377 rfl dX10_word_20 ?_
        refine J_if_eq O.mo (tgt := 30) dX10_word_23 (by decide) (fun hc17 => ?_) (fun hc17 => ?_)
        · replace h := (if_pos hc17).symm.trans h
          refine J_aload O.mo dX10_word_30 0 rfl ?_
          refine J_getF O.co (kd0 := 2) (k2_0 (⟨hj6, rfl⟩ : PC 2 E 0 r3 0)) (l2_0 (⟨hj6, rfl⟩ : PC 2 E 0 r3 0)) (C := RX1) (T := TX1) (N := 19) rfl (by decide) rfl in_X1 4 (by decide) (v := .inr (some (0, r3, 5))) rfl mw343 rfl dX10_word_32 ?_
          refine J_getF O.co (kd0 := 9) (k2_5 (⟨hj6, rfl⟩ : PC 2 E 0 r3 0)) (l2_5 (⟨hj6, rfl⟩ : PC 2 E 0 r3 0)) (C := RX8) (T := TX8) (N := 10) rfl (by decide) rfl in_X8 0 (by decide) (v := .inr (some (0, r3, 6))) rfl mw378 rfl dX10_word_35 ?_
          refine J_getF O.co (kd0 := 4) (k2_6 (⟨hj6, rfl⟩ : PC 2 E 0 r3 0)) (l2_6 (⟨hj6, rfl⟩ : PC 2 E 0 r3 0)) (C := RX3) (T := TX3) (N := 9) rfl (by decide) rfl in_X3 2 (by decide) (v := .inr (some (0, r3, 9))) rfl mw379 rfl dX10_word_38 ?_
          refine J_iload_n O.mo dX10_word_41 1 rfl ?_
          refine J_iconst O.mo (v := 4) dX10_word_42 (by decide) ?_
          refine J_imul O.mo dX10_word_43 ?_
          refine J_iload_n O.mo dX10_word_44 2 rfl ?_
          refine J_iadd O.mo dX10_word_45 ?_
          obtain ⟨hg18, h⟩ := gd_some h
          refine J_iald O.co (g := (kV κ12 0 r3 9)) (ct_20n (l2_9 (⟨hj6, rfl⟩ : PC 2 E 0 r3 0)) (k2_9 (⟨hj6, rfl⟩ : PC 2 E 0 r3 0)) (n2_9 (⟨hj6, rfl⟩ : PC 2 E 0 r3 0))) hg18 dX10_word_46 ?_
          cases h
          exact hE _ rfl _ _ dX10_word_47
        · replace h := (if_neg hc17).symm.trans h
          refine J_iconst O.mo (v := (-1)) dX10_word_26 (by decide) ?_
          refine J_goto O.mo (tgt := 47) dX10_word_27 (by decide) ?_
          cases h
          exact hE _ rfl _ _ dX10_word_47
      · exact J_callSX O hKP (as := [.inl (.int a3), .inl (.int 4)]) (rest := []) (r := .inr (exN e15)) (c_X10_checkPlace hfl hq13) rfl mw385 mw386 mw320 mw387 pd_X10_checkPlace rfl (by decide) rfl (Nat.le_of_ble_eq_true rfl) (sl_p (s2_0 (⟨hj6, rfl⟩ : PC 2 E 0 r3 0)) (sl_v (sl_v sl_0))) st_0 dX10_word_15 (fun s hs => by cases hs; exact hX _ rfl) (fun v hs => by cases hs)
    · exact J_callSX O hKP (as := [.inl (.int a2), .inl (.int 8)]) (rest := []) (r := .inr (exN e10)) (c_X10_checkPlace hfl hq8) rfl mw385 mw386 mw320 mw387 pd_X10_checkPlace rfl (by decide) rfl (Nat.le_of_ble_eq_true rfl) (sl_p (s2_0 (⟨hj6, rfl⟩ : PC 2 E 0 r3 0)) (sl_v (sl_v sl_0))) st_0 dX10_word_10 (fun s hs => by cases hs; exact hX _ rfl) (fun v hs => by cases hs)
  · exact J_callVX O hKP (as := [.inl (.int a1)]) (rest := []) (r := .inr (exN e4)) (c_X10_guestAt hfl h0 hq2) rfl (kd0 := 10) (k10_0 h0) (l10_0 h0) (T := TX10) (N := 4) rfl (by decide) mw406 mw407 mw408 mw320 mw409 pd_X10_guestAt rfl (by decide) rfl (Nat.le_of_ble_eq_true rfl) (sl_v (sl_v sl_0)) st_0 dX10_word_2 (fun s hs => by cases hs; exact hX _ rfl) (fun v hs => by cases hs)
theorem c_X10_word {l : Launch} (hfl : l.stackTraces = false) {E : EE} {κ κ' : K} {a1 : Int32} {a2 : Int32} {a3 : Int32} (h0 : PC 10 E 4 0 0) {rs : (Int32 ⊕ Nat)} (h : f_X10_word E κ a1 a2 a3 = some (κ', rs)) : ConX l yX10_word cX10_word 5 (some .int) 8 124 [.inr (some (4, 0, 0)), .inl (.int a1), .inl (.int a2), .inl (.int a3)] (E, κ) (E, κ') (mapX (fun rr => (some (.inl (.int rr)))) rs) := by
  cases rs with
  | inl rr => exact ConX_of hfl (by decide +kernel) (Nat.le_of_ble_eq_true rfl) rfl ⟨_, rfl, rfl⟩ (fun X B g O hKP hmL hX hE => w_X10_word hfl O hKP hmL (fun rr hr => by cases hr; exact hE) (fun e hr => by cases hr) h0 _ _ _ _ h)
  | inr e => exact ConX_of hfl (by decide +kernel) (Nat.le_of_ble_eq_true rfl) rfl trivial (fun X B g O hKP hmL hX hE => w_X10_word hfl O hKP hmL (fun rr hr => by cases hr) (fun e hr => by cases hr; exact hX) h0 _ _ _ _ h)
def f_X10_pageOf (E : EE) (κ : K) (a1 : Int32) (a2 : Int32) : Option (K × (Int32 ⊕ Nat)) := bx (f_X10_guestAt E κ a1) fun κ1 r3 => gd (r3 < cntE E 0) (bx (f_X10_checkPlace E κ1 a2 8) fun κ7 _ => bd (f_X1_isBare E κ7 r3 a2) fun κ12 r14 => if r14 = 0 then bd (f_X1_frameFor E κ12 r3 a2) fun κ16 r18 => if r18 = (-1) then some (κ16, .inl 2) else some (κ16, .inl 1) else some (κ12, .inl 0))
set_option maxHeartbeats 4000000 in
set_option maxRecDepth 100000 in
theorem w_X10_pageOf {l0 : Launch} (hfl : l0.stackTraces = false) {X : MX} {B : BX (EE × K)} {g : GP} {E : EE} {κ' : K} {rs : (Int32 ⊕ Nat)} (O : CK l0 X B g cX10_pageOf RX10 8 124) (hKP : KPok B E) (hmL : B.2.2.2.1 = 4) (hE : ∀ rr : Int32, rs = .inl rr → ∀ (pc : Nat) (lv : List (Nat × AV)), decode cX10_pageOf pc = .ok (.ireturn, 1) → J X B (E, κ') pc lv [.inl (.int rr)]) (hX : ∀ e, rs = .inr e → QXH X B g (E, κ') (.inr (exN e))) (h0 : PC 10 E 4 0 0) : ∀ (κ : K) (a1 : Int32) (a2 : Int32), f_X10_pageOf E κ a1 a2 = some (κ', rs) → J X B (E, κ) 0 [(0, .inr (some (4, 0, 0))), (1, .inl (.int a1)), (2, .inl (.int a2))] [] := by
  intro κ a1 a2 h
  unfold f_X10_pageOf at h
  refine J_aload_n O.mo dX10_pageOf_0 0 rfl ?_
  refine J_iload_n O.mo dX10_pageOf_1 1 rfl ?_
  refine J_sub [2] rfl ?_
  rcases bx_some h with ⟨κ1, r3, hq2, h⟩ | ⟨e4, hq2, rfl⟩
  · obtain ⟨hj6, h⟩ := gd_some h
    refine J_callVX O hKP (as := [.inl (.int a1)]) (rest := []) (r := .inl (some (.inr (some (0, r3, 0))))) (c_X10_guestAt hfl h0 hq2) rfl (kd0 := 10) (k10_0 h0) (l10_0 h0) (T := TX10) (N := 4) rfl (by decide) mw406 mw407 mw408 mw320 mw409 pd_X10_guestAt rfl (by decide) rfl (Nat.le_of_ble_eq_true rfl) (sl_v sl_0) st_0 dX10_pageOf_2 (fun s hs => by cases hs) (fun v hv5 => ?_)
    cases hv5
    show J X B (E, κ1) 5 [(2, .inl (.int a2))] [.inr (some (0, r3, 0))]
    refine J_astore_n O.mo (lv' := [(2, .inl (.int a2))]) dX10_pageOf_5 (by rw [hmL]; decide) rfl rfl ?_
    refine J_iload_n O.mo dX10_pageOf_6 1 rfl ?_
    refine J_bipush O.mo (v := 8) dX10_pageOf_7 (by decide) ?_
    rcases bx_some h with ⟨κ7, r9, hq8, h⟩ | ⟨e10, hq8, rfl⟩
    · refine J_callSX O hKP (as := [.inl (.int a2), .inl (.int 8)]) (rest := []) (r := .inl none) (c_X10_checkPlace hfl hq8) rfl mw385 mw386 mw320 mw387 pd_X10_checkPlace rfl (by decide) rfl (Nat.le_of_ble_eq_true rfl) (sl_p (s2_0 (⟨hj6, rfl⟩ : PC 2 E 0 r3 0)) (sl_v sl_0)) st_0 dX10_pageOf_9 (fun s hs => by cases hs) (fun v hv11 => ?_)
      cases hv11
      show J X B (E, κ7) 12 [(3, .inr (some (0, r3, 0))), (2, .inl (.int a2))] []
      refine J_aload_n O.mo dX10_pageOf_12 0 rfl ?_
      refine J_iload_n O.mo dX10_pageOf_13 1 rfl ?_
      obtain ⟨κ12, r14, hq13, h⟩ := bd_some h
      refine J_callV O hKP (as := [.inl (.int a2)]) (rest := []) (r := (some (.inl (.int r14)))) (c_X1_isBare hfl (⟨hj6, rfl⟩ : PC 2 E 0 r3 0) hq13) rfl (kd0 := 2) (k2_0 (⟨hj6, rfl⟩ : PC 2 E 0 r3 0)) (l2_0 (⟨hj6, rfl⟩ : PC 2 E 0 r3 0)) (T := TX1) (N := 19) rfl (by decide) mw499 mw102 mw103 mw74 mw104 pd_X1_isBare rfl (by decide) rfl (Nat.le_of_ble_eq_true rfl) (sl_p (s2_0 (⟨hj6, rfl⟩ : PC 2 E 0 r3 0)) (sl_v sl_0)) st_0 dX10_pageOf_14 ?_
      show J X B (E, κ12) 17 [(3, .inr (some (0, r3, 0))), (2, .inl (.int a2))] [.inl (.int r14)]
      refine J_if_eq O.mo (tgt := 22) dX10_pageOf_17 (by decide) (fun hc15 => ?_) (fun hc15 => ?_)
      · replace h := (if_pos hc15).symm.trans h
        refine J_aload_n O.mo dX10_pageOf_22 0 rfl ?_
        refine J_iload_n O.mo dX10_pageOf_23 1 rfl ?_
        refine J_sub [] rfl ?_
        obtain ⟨κ16, r18, hq17, h⟩ := bd_some h
        refine J_callV O hKP (as := [.inl (.int a2)]) (rest := []) (r := (some (.inl (.int r18)))) (c_X1_frameFor hfl (⟨hj6, rfl⟩ : PC 2 E 0 r3 0) hq17) rfl (kd0 := 2) (k2_0 (⟨hj6, rfl⟩ : PC 2 E 0 r3 0)) (l2_0 (⟨hj6, rfl⟩ : PC 2 E 0 r3 0)) (T := TX1) (N := 19) rfl (by decide) mw500 mw501 mw502 mw74 mw503 pd_X1_frameFor rfl (by decide) rfl (Nat.le_of_ble_eq_true rfl) sl_0 st_0 dX10_pageOf_24 ?_
        show J X B (E, κ16) 27 [] [.inl (.int r18)]
        refine J_iconst O.mo (v := (-1)) dX10_pageOf_27 (by decide) ?_
        refine J_icmp_ne O.mo (tgt := 35) dX10_pageOf_28 (by decide) (fun hc19 => ?_) (fun hc19 => ?_)
        · replace h := (if_neg hc19).symm.trans h
          refine J_iconst O.mo (v := 1) dX10_pageOf_35 (by decide) ?_
          cases h
          exact hE _ rfl _ _ dX10_pageOf_36
        · replace h := (if_pos hc19).symm.trans h
          refine J_iconst O.mo (v := 2) dX10_pageOf_31 (by decide) ?_
          refine J_goto O.mo (tgt := 36) dX10_pageOf_32 (by decide) ?_
          cases h
          exact hE _ rfl _ _ dX10_pageOf_36
      · replace h := (if_neg hc15).symm.trans h
        refine J_iconst O.mo (v := 0) dX10_pageOf_20 (by decide) ?_
        cases h
        exact hE _ rfl _ _ dX10_pageOf_21
    · exact J_callSX O hKP (as := [.inl (.int a2), .inl (.int 8)]) (rest := []) (r := .inr (exN e10)) (c_X10_checkPlace hfl hq8) rfl mw385 mw386 mw320 mw387 pd_X10_checkPlace rfl (by decide) rfl (Nat.le_of_ble_eq_true rfl) (sl_p (s2_0 (⟨hj6, rfl⟩ : PC 2 E 0 r3 0)) (sl_v sl_0)) st_0 dX10_pageOf_9 (fun s hs => by cases hs; exact hX _ rfl) (fun v hs => by cases hs)
  · exact J_callVX O hKP (as := [.inl (.int a1)]) (rest := []) (r := .inr (exN e4)) (c_X10_guestAt hfl h0 hq2) rfl (kd0 := 10) (k10_0 h0) (l10_0 h0) (T := TX10) (N := 4) rfl (by decide) mw406 mw407 mw408 mw320 mw409 pd_X10_guestAt rfl (by decide) rfl (Nat.le_of_ble_eq_true rfl) (sl_v sl_0) st_0 dX10_pageOf_2 (fun s hs => by cases hs; exact hX _ rfl) (fun v hs => by cases hs)
theorem c_X10_pageOf {l : Launch} (hfl : l.stackTraces = false) {E : EE} {κ κ' : K} {a1 : Int32} {a2 : Int32} (h0 : PC 10 E 4 0 0) {rs : (Int32 ⊕ Nat)} (h : f_X10_pageOf E κ a1 a2 = some (κ', rs)) : ConX l yX10_pageOf cX10_pageOf 4 (some .int) 8 124 [.inr (some (4, 0, 0)), .inl (.int a1), .inl (.int a2)] (E, κ) (E, κ') (mapX (fun rr => (some (.inl (.int rr)))) rs) := by
  cases rs with
  | inl rr => exact ConX_of hfl (by decide +kernel) (Nat.le_of_ble_eq_true rfl) rfl ⟨_, rfl, rfl⟩ (fun X B g O hKP hmL hX hE => w_X10_pageOf hfl O hKP hmL (fun rr hr => by cases hr; exact hE) (fun e hr => by cases hr) h0 _ _ _ h)
  | inr e => exact ConX_of hfl (by decide +kernel) (Nat.le_of_ble_eq_true rfl) rfl trivial (fun X B g O hKP hmL hX hE => w_X10_pageOf hfl O hKP hmL (fun rr hr => by cases hr) (fun e hr => by cases hr; exact hX) h0 _ _ _ h)
def f_X10_frameOf (E : EE) (κ : K) (a1 : Int32) (a2 : Int32) : Option (K × (Int32 ⊕ Nat)) := bx (f_X10_guestAt E κ a1) fun κ1 r3 => gd (r3 < cntE E 0) (bx (f_X10_checkPlace E κ1 a2 8) fun κ7 _ => bd (f_X1_frameFor E κ7 r3 a2) fun κ12 r14 => some (κ12, .inl r14))
set_option maxHeartbeats 4000000 in
set_option maxRecDepth 100000 in
theorem w_X10_frameOf {l0 : Launch} (hfl : l0.stackTraces = false) {X : MX} {B : BX (EE × K)} {g : GP} {E : EE} {κ' : K} {rs : (Int32 ⊕ Nat)} (O : CK l0 X B g cX10_frameOf RX10 8 124) (hKP : KPok B E) (hmL : B.2.2.2.1 = 4) (hE : ∀ rr : Int32, rs = .inl rr → ∀ (pc : Nat) (lv : List (Nat × AV)), decode cX10_frameOf pc = .ok (.ireturn, 1) → J X B (E, κ') pc lv [.inl (.int rr)]) (hX : ∀ e, rs = .inr e → QXH X B g (E, κ') (.inr (exN e))) (h0 : PC 10 E 4 0 0) : ∀ (κ : K) (a1 : Int32) (a2 : Int32), f_X10_frameOf E κ a1 a2 = some (κ', rs) → J X B (E, κ) 0 [(0, .inr (some (4, 0, 0))), (1, .inl (.int a1)), (2, .inl (.int a2))] [] := by
  intro κ a1 a2 h
  unfold f_X10_frameOf at h
  refine J_aload_n O.mo dX10_frameOf_0 0 rfl ?_
  refine J_iload_n O.mo dX10_frameOf_1 1 rfl ?_
  refine J_sub [2] rfl ?_
  rcases bx_some h with ⟨κ1, r3, hq2, h⟩ | ⟨e4, hq2, rfl⟩
  · obtain ⟨hj6, h⟩ := gd_some h
    refine J_callVX O hKP (as := [.inl (.int a1)]) (rest := []) (r := .inl (some (.inr (some (0, r3, 0))))) (c_X10_guestAt hfl h0 hq2) rfl (kd0 := 10) (k10_0 h0) (l10_0 h0) (T := TX10) (N := 4) rfl (by decide) mw406 mw407 mw408 mw320 mw409 pd_X10_guestAt rfl (by decide) rfl (Nat.le_of_ble_eq_true rfl) (sl_v sl_0) st_0 dX10_frameOf_2 (fun s hs => by cases hs) (fun v hv5 => ?_)
    cases hv5
    show J X B (E, κ1) 5 [(2, .inl (.int a2))] [.inr (some (0, r3, 0))]
    refine J_astore_n O.mo (lv' := [(2, .inl (.int a2))]) dX10_frameOf_5 (by rw [hmL]; decide) rfl rfl ?_
    refine J_iload_n O.mo dX10_frameOf_6 1 rfl ?_
    refine J_bipush O.mo (v := 8) dX10_frameOf_7 (by decide) ?_
    rcases bx_some h with ⟨κ7, r9, hq8, h⟩ | ⟨e10, hq8, rfl⟩
    · refine J_callSX O hKP (as := [.inl (.int a2), .inl (.int 8)]) (rest := []) (r := .inl none) (c_X10_checkPlace hfl hq8) rfl mw385 mw386 mw320 mw387 pd_X10_checkPlace rfl (by decide) rfl (Nat.le_of_ble_eq_true rfl) (sl_p (s2_0 (⟨hj6, rfl⟩ : PC 2 E 0 r3 0)) (sl_v sl_0)) st_0 dX10_frameOf_9 (fun s hs => by cases hs) (fun v hv11 => ?_)
      cases hv11
      show J X B (E, κ7) 12 [(3, .inr (some (0, r3, 0))), (2, .inl (.int a2))] []
      refine J_aload_n O.mo dX10_frameOf_12 0 rfl ?_
      refine J_iload_n O.mo dX10_frameOf_13 1 rfl ?_
      refine J_sub [] rfl ?_
      obtain ⟨κ12, r14, hq13, h⟩ := bd_some h
      refine J_callV O hKP (as := [.inl (.int a2)]) (rest := []) (r := (some (.inl (.int r14)))) (c_X1_frameFor hfl (⟨hj6, rfl⟩ : PC 2 E 0 r3 0) hq13) rfl (kd0 := 2) (k2_0 (⟨hj6, rfl⟩ : PC 2 E 0 r3 0)) (l2_0 (⟨hj6, rfl⟩ : PC 2 E 0 r3 0)) (T := TX1) (N := 19) rfl (by decide) mw500 mw501 mw502 mw74 mw503 pd_X1_frameFor rfl (by decide) rfl (Nat.le_of_ble_eq_true rfl) sl_0 st_0 dX10_frameOf_14 ?_
      show J X B (E, κ12) 17 [] [.inl (.int r14)]
      cases h
      exact hE _ rfl _ _ dX10_frameOf_17
    · exact J_callSX O hKP (as := [.inl (.int a2), .inl (.int 8)]) (rest := []) (r := .inr (exN e10)) (c_X10_checkPlace hfl hq8) rfl mw385 mw386 mw320 mw387 pd_X10_checkPlace rfl (by decide) rfl (Nat.le_of_ble_eq_true rfl) (sl_p (s2_0 (⟨hj6, rfl⟩ : PC 2 E 0 r3 0)) (sl_v sl_0)) st_0 dX10_frameOf_9 (fun s hs => by cases hs; exact hX _ rfl) (fun v hs => by cases hs)
  · exact J_callVX O hKP (as := [.inl (.int a1)]) (rest := []) (r := .inr (exN e4)) (c_X10_guestAt hfl h0 hq2) rfl (kd0 := 10) (k10_0 h0) (l10_0 h0) (T := TX10) (N := 4) rfl (by decide) mw406 mw407 mw408 mw320 mw409 pd_X10_guestAt rfl (by decide) rfl (Nat.le_of_ble_eq_true rfl) (sl_v sl_0) st_0 dX10_frameOf_2 (fun s hs => by cases hs; exact hX _ rfl) (fun v hs => by cases hs)
theorem c_X10_frameOf {l : Launch} (hfl : l.stackTraces = false) {E : EE} {κ κ' : K} {a1 : Int32} {a2 : Int32} (h0 : PC 10 E 4 0 0) {rs : (Int32 ⊕ Nat)} (h : f_X10_frameOf E κ a1 a2 = some (κ', rs)) : ConX l yX10_frameOf cX10_frameOf 4 (some .int) 8 124 [.inr (some (4, 0, 0)), .inl (.int a1), .inl (.int a2)] (E, κ) (E, κ') (mapX (fun rr => (some (.inl (.int rr)))) rs) := by
  cases rs with
  | inl rr => exact ConX_of hfl (by decide +kernel) (Nat.le_of_ble_eq_true rfl) rfl ⟨_, rfl, rfl⟩ (fun X B g O hKP hmL hX hE => w_X10_frameOf hfl O hKP hmL (fun rr hr => by cases hr; exact hE) (fun e hr => by cases hr) h0 _ _ _ h)
  | inr e => exact ConX_of hfl (by decide +kernel) (Nat.le_of_ble_eq_true rfl) rfl trivial (fun X B g O hKP hmL hX hE => w_X10_frameOf hfl O hKP hmL (fun rr hr => by cases hr) (fun e hr => by cases hr; exact hX) h0 _ _ _ h)
def f_X10_used (E : EE) (κ : K) (a1 : Int32) : Option (K × (Int32 ⊕ Nat)) := bx (f_X10_hostAt E κ a1) fun κ1 r3 => gd (r3 < cntE E 2) (bd (f_X2_countUsed E κ1 r3) fun κ7 r9 => some (κ7, .inl r9))
set_option maxHeartbeats 4000000 in
set_option maxRecDepth 100000 in
theorem w_X10_used {l0 : Launch} (hfl : l0.stackTraces = false) {X : MX} {B : BX (EE × K)} {g : GP} {E : EE} {κ' : K} {rs : (Int32 ⊕ Nat)} (O : CK l0 X B g cX10_used RX10 8 124) (hKP : KPok B E) (hmL : B.2.2.2.1 = 2) (hE : ∀ rr : Int32, rs = .inl rr → ∀ (pc : Nat) (lv : List (Nat × AV)), decode cX10_used pc = .ok (.ireturn, 1) → J X B (E, κ') pc lv [.inl (.int rr)]) (hX : ∀ e, rs = .inr e → QXH X B g (E, κ') (.inr (exN e))) (h0 : PC 10 E 4 0 0) : ∀ (κ : K) (a1 : Int32), f_X10_used E κ a1 = some (κ', rs) → J X B (E, κ) 0 [(0, .inr (some (4, 0, 0))), (1, .inl (.int a1))] [] := by
  intro κ a1 h
  unfold f_X10_used at h
  refine J_aload_n O.mo dX10_used_0 0 rfl ?_
  refine J_iload_n O.mo dX10_used_1 1 rfl ?_
  refine J_sub [] rfl ?_
  rcases bx_some h with ⟨κ1, r3, hq2, h⟩ | ⟨e4, hq2, rfl⟩
  · obtain ⟨hj6, h⟩ := gd_some h
    refine J_callVX O hKP (as := [.inl (.int a1)]) (rest := []) (r := .inl (some (.inr (some (2, r3, 0))))) (c_X10_hostAt hfl h0 hq2) rfl (kd0 := 10) (k10_0 h0) (l10_0 h0) (T := TX10) (N := 4) rfl (by decide) mw446 mw447 mw448 mw320 mw449 pd_X10_hostAt rfl (by decide) rfl (Nat.le_of_ble_eq_true rfl) sl_0 st_0 dX10_used_2 (fun s hs => by cases hs) (fun v hv5 => ?_)
    cases hv5
    show J X B (E, κ1) 5 [] [.inr (some (2, r3, 0))]
    obtain ⟨κ7, r9, hq8, h⟩ := bd_some h
    refine J_callV O hKP (as := []) (rest := []) (r := (some (.inl (.int r9)))) (c_X2_countUsed hfl (⟨hj6, rfl⟩ : PC 3 E 2 r3 0) hq8) rfl (kd0 := 3) (k3_0 (⟨hj6, rfl⟩ : PC 3 E 2 r3 0)) (l3_0 (⟨hj6, rfl⟩ : PC 3 E 2 r3 0)) (T := TX2) (N := 8) rfl (by decide) mw504 mw505 mw506 mw10 mw507 pd_X2_countUsed rfl (by decide) rfl (Nat.le_of_ble_eq_true rfl) sl_0 st_0 dX10_used_5 ?_
    show J X B (E, κ7) 8 [] [.inl (.int r9)]
    cases h
    exact hE _ rfl _ _ dX10_used_8
  · exact J_callVX O hKP (as := [.inl (.int a1)]) (rest := []) (r := .inr (exN e4)) (c_X10_hostAt hfl h0 hq2) rfl (kd0 := 10) (k10_0 h0) (l10_0 h0) (T := TX10) (N := 4) rfl (by decide) mw446 mw447 mw448 mw320 mw449 pd_X10_hostAt rfl (by decide) rfl (Nat.le_of_ble_eq_true rfl) sl_0 st_0 dX10_used_2 (fun s hs => by cases hs; exact hX _ rfl) (fun v hs => by cases hs)
theorem c_X10_used {l : Launch} (hfl : l.stackTraces = false) {E : EE} {κ κ' : K} {a1 : Int32} (h0 : PC 10 E 4 0 0) {rs : (Int32 ⊕ Nat)} (h : f_X10_used E κ a1 = some (κ', rs)) : ConX l yX10_used cX10_used 2 (some .int) 8 124 [.inr (some (4, 0, 0)), .inl (.int a1)] (E, κ) (E, κ') (mapX (fun rr => (some (.inl (.int rr)))) rs) := by
  cases rs with
  | inl rr => exact ConX_of hfl (by decide +kernel) (Nat.le_of_ble_eq_true rfl) rfl ⟨_, rfl, rfl⟩ (fun X B g O hKP hmL hX hE => w_X10_used hfl O hKP hmL (fun rr hr => by cases hr; exact hE) (fun e hr => by cases hr) h0 _ _ h)
  | inr e => exact ConX_of hfl (by decide +kernel) (Nat.le_of_ble_eq_true rfl) rfl trivial (fun X B g O hKP hmL hX hE => w_X10_used hfl O hKP hmL (fun rr hr => by cases hr) (fun e hr => by cases hr; exact hX) h0 _ _ h)
def f_X10_exits_b15 (E : EE) (κ : K) : Option (K × (Int32 ⊕ Nat)) := some (addC κ 1 6, .inr 2)
def f_X10_exits (E : EE) (κ : K) (a1 : Int32) (a2 : Int32) : Option (K × (Int32 ⊕ Nat)) := bx (f_X10_guestAt E κ a1) fun κ1 r3 => gd (r3 < cntE E 0) (if a2 < 0 then f_X10_exits_b15 E κ1 else if a2 ≤ 5 then gd (¬ (a2 < 0 ∨ 6 ≤ a2.toNatClampNeg)) (some (κ1, .inl ((kV κ1 0 r3 38) a2.toNatClampNeg))) else f_X10_exits_b15 E κ1)
set_option maxHeartbeats 4000000 in
set_option maxRecDepth 100000 in
theorem w_X10_exits_b15 {l0 : Launch} (hfl : l0.stackTraces = false) {X : MX} {B : BX (EE × K)} {g : GP} {E : EE} {κ' : K} {rs : (Int32 ⊕ Nat)} (O : CK l0 X B g cX10_exits RX10 8 124) (hKP : KPok B E) (hmL : B.2.2.2.1 = 4) (hE : ∀ rr : Int32, rs = .inl rr → ∀ (pc : Nat) (lv : List (Nat × AV)), decode cX10_exits pc = .ok (.ireturn, 1) → J X B (E, κ') pc lv [.inl (.int rr)]) (hX : ∀ e, rs = .inr e → QXH X B g (E, κ') (.inr (exN e))) (h0 : PC 10 E 4 0 0) : ∀ (κ : K), f_X10_exits_b15 E κ = some (κ', rs) → J X B (E, κ) 15 [] [] := by
  intro κ h
  unfold f_X10_exits_b15 at h
  cases h
  exact J_throwW O (cls := "java/lang/IllegalArgumentException") (hX _ rfl) (text := "kind") (by decide +kernel) mw388 mw389 (by decide) hat_36 (by decide) (Nat.le_of_ble_eq_true rfl) rfl dX10_exits_15 dX10_exits_18 dX10_exits_19 dX10_exits_22 dX10_exits_25
set_option maxHeartbeats 4000000 in
set_option maxRecDepth 100000 in
theorem w_X10_exits {l0 : Launch} (hfl : l0.stackTraces = false) {X : MX} {B : BX (EE × K)} {g : GP} {E : EE} {κ' : K} {rs : (Int32 ⊕ Nat)} (O : CK l0 X B g cX10_exits RX10 8 124) (hKP : KPok B E) (hmL : B.2.2.2.1 = 4) (hE : ∀ rr : Int32, rs = .inl rr → ∀ (pc : Nat) (lv : List (Nat × AV)), decode cX10_exits pc = .ok (.ireturn, 1) → J X B (E, κ') pc lv [.inl (.int rr)]) (hX : ∀ e, rs = .inr e → QXH X B g (E, κ') (.inr (exN e))) (h0 : PC 10 E 4 0 0) : ∀ (κ : K) (a1 : Int32) (a2 : Int32), f_X10_exits E κ a1 a2 = some (κ', rs) → J X B (E, κ) 0 [(0, .inr (some (4, 0, 0))), (1, .inl (.int a1)), (2, .inl (.int a2))] [] := by
  intro κ a1 a2 h
  unfold f_X10_exits at h
  refine J_aload_n O.mo dX10_exits_0 0 rfl ?_
  refine J_iload_n O.mo dX10_exits_1 1 rfl ?_
  refine J_sub [2] rfl ?_
  rcases bx_some h with ⟨κ1, r3, hq2, h⟩ | ⟨e4, hq2, rfl⟩
  · obtain ⟨hj6, h⟩ := gd_some h
    refine J_callVX O hKP (as := [.inl (.int a1)]) (rest := []) (r := .inl (some (.inr (some (0, r3, 0))))) (c_X10_guestAt hfl h0 hq2) rfl (kd0 := 10) (k10_0 h0) (l10_0 h0) (T := TX10) (N := 4) rfl (by decide) mw406 mw407 mw408 mw320 mw409 pd_X10_guestAt rfl (by decide) rfl (Nat.le_of_ble_eq_true rfl) (sl_v sl_0) st_0 dX10_exits_2 (fun s hs => by cases hs) (fun v hv5 => ?_)
    cases hv5
    show J X B (E, κ1) 5 [(2, .inl (.int a2))] [.inr (some (0, r3, 0))]
    refine J_astore_n O.mo (lv' := [(2, .inl (.int a2))]) dX10_exits_5 (by rw [hmL]; decide) rfl rfl ?_
    refine J_iload_n O.mo dX10_exits_6 1 rfl ?_
    refine J_if_lt O.mo (tgt := 15) dX10_exits_7 (by decide) (fun hc7 => ?_) (fun hc7 => ?_)
    · replace h := (if_pos hc7).symm.trans h
      refine J_sub [] rfl ?_
      exact w_X10_exits_b15 hfl O hKP hmL hE hX h0 _ h
    · replace h := (if_neg hc7).symm.trans h
      refine J_iload_n O.mo dX10_exits_10 1 rfl ?_
      refine J_iconst O.mo (v := 5) dX10_exits_11 (by decide) ?_
      refine J_icmp_le O.mo (tgt := 26) dX10_exits_12 (by decide) (fun hc8 => ?_) (fun hc8 => ?_)
      · replace h := (if_pos hc8).symm.trans h
        refine J_aload_n O.mo dX10_exits_26 0 rfl ?_
        refine J_getF O.co (kd0 := 2) (k2_0 (⟨hj6, rfl⟩ : PC 2 E 0 r3 0)) (l2_0 (⟨hj6, rfl⟩ : PC 2 E 0 r3 0)) (C := RX1) (T := TX1) (N := 19) rfl (by decide) rfl in_X1 7 (by decide) (v := .inr (some (0, r3, 38))) rfl mw508 rfl dX10_exits_27 ?_
        refine J_iload_n O.mo dX10_exits_30 1 rfl ?_
        obtain ⟨hg9, h⟩ := gd_some h
        refine J_iald O.co (g := (kV κ1 0 r3 38)) (ct_20n (l2_38 (⟨hj6, rfl⟩ : PC 2 E 0 r3 0)) (k2_38 (⟨hj6, rfl⟩ : PC 2 E 0 r3 0)) (n2_38 (⟨hj6, rfl⟩ : PC 2 E 0 r3 0))) hg9 dX10_exits_31 ?_
        cases h
        exact hE _ rfl _ _ dX10_exits_32
      · replace h := (if_neg hc8).symm.trans h
        refine J_sub [] rfl ?_
        exact w_X10_exits_b15 hfl O hKP hmL hE hX h0 _ h
  · exact J_callVX O hKP (as := [.inl (.int a1)]) (rest := []) (r := .inr (exN e4)) (c_X10_guestAt hfl h0 hq2) rfl (kd0 := 10) (k10_0 h0) (l10_0 h0) (T := TX10) (N := 4) rfl (by decide) mw406 mw407 mw408 mw320 mw409 pd_X10_guestAt rfl (by decide) rfl (Nat.le_of_ble_eq_true rfl) (sl_v sl_0) st_0 dX10_exits_2 (fun s hs => by cases hs; exact hX _ rfl) (fun v hs => by cases hs)
theorem c_X10_exits {l : Launch} (hfl : l.stackTraces = false) {E : EE} {κ κ' : K} {a1 : Int32} {a2 : Int32} (h0 : PC 10 E 4 0 0) {rs : (Int32 ⊕ Nat)} (h : f_X10_exits E κ a1 a2 = some (κ', rs)) : ConX l yX10_exits cX10_exits 4 (some .int) 8 124 [.inr (some (4, 0, 0)), .inl (.int a1), .inl (.int a2)] (E, κ) (E, κ') (mapX (fun rr => (some (.inl (.int rr)))) rs) := by
  cases rs with
  | inl rr => exact ConX_of hfl (by decide +kernel) (Nat.le_of_ble_eq_true rfl) rfl ⟨_, rfl, rfl⟩ (fun X B g O hKP hmL hX hE => w_X10_exits hfl O hKP hmL (fun rr hr => by cases hr; exact hE) (fun e hr => by cases hr) h0 _ _ _ h)
  | inr e => exact ConX_of hfl (by decide +kernel) (Nat.le_of_ble_eq_true rfl) rfl trivial (fun X B g O hKP hmL hX hE => w_X10_exits hfl O hKP hmL (fun rr hr => by cases hr) (fun e hr => by cases hr; exact hX) h0 _ _ _ h)
def f_X10_out (E : EE) (κ : K) (a1 : Int32) : Option (K × (Int32 ⊕ Nat)) := bx (f_X10_guestAt E κ a1) fun κ1 r3 => gd (r3 < cntE E 0) (some (κ1, .inl (kV κ1 0 r3 36 1)))
set_option maxHeartbeats 4000000 in
set_option maxRecDepth 100000 in
theorem w_X10_out {l0 : Launch} (hfl : l0.stackTraces = false) {X : MX} {B : BX (EE × K)} {g : GP} {E : EE} {κ' : K} {rs : (Int32 ⊕ Nat)} (O : CK l0 X B g cX10_out RX10 8 124) (hKP : KPok B E) (hmL : B.2.2.2.1 = 2) (hE : ∀ rr : Int32, rs = .inl rr → ∀ (pc : Nat) (lv : List (Nat × AV)), decode cX10_out pc = .ok (.ireturn, 1) → J X B (E, κ') pc lv [.inl (.int rr)]) (hX : ∀ e, rs = .inr e → QXH X B g (E, κ') (.inr (exN e))) (h0 : PC 10 E 4 0 0) : ∀ (κ : K) (a1 : Int32), f_X10_out E κ a1 = some (κ', rs) → J X B (E, κ) 0 [(0, .inr (some (4, 0, 0))), (1, .inl (.int a1))] [] := by
  intro κ a1 h
  unfold f_X10_out at h
  refine J_aload_n O.mo dX10_out_0 0 rfl ?_
  refine J_iload_n O.mo dX10_out_1 1 rfl ?_
  refine J_sub [] rfl ?_
  rcases bx_some h with ⟨κ1, r3, hq2, h⟩ | ⟨e4, hq2, rfl⟩
  · obtain ⟨hj6, h⟩ := gd_some h
    refine J_callVX O hKP (as := [.inl (.int a1)]) (rest := []) (r := .inl (some (.inr (some (0, r3, 0))))) (c_X10_guestAt hfl h0 hq2) rfl (kd0 := 10) (k10_0 h0) (l10_0 h0) (T := TX10) (N := 4) rfl (by decide) mw406 mw407 mw408 mw320 mw409 pd_X10_guestAt rfl (by decide) rfl (Nat.le_of_ble_eq_true rfl) sl_0 st_0 dX10_out_2 (fun s hs => by cases hs) (fun v hv5 => ?_)
    cases hv5
    show J X B (E, κ1) 5 [] [.inr (some (0, r3, 0))]
    refine J_getF O.co (kd0 := 2) (k2_0 (⟨hj6, rfl⟩ : PC 2 E 0 r3 0)) (l2_0 (⟨hj6, rfl⟩ : PC 2 E 0 r3 0)) (C := RX1) (T := TX1) (N := 19) rfl (by decide) rfl in_X1 6 (by decide) (v := .inr (some (0, r3, 36))) rfl mw509 rfl dX10_out_5 ?_
    refine J_getF O.co (kd0 := 5) (k2_36 (⟨hj6, rfl⟩ : PC 2 E 0 r3 0)) (l2_36 (⟨hj6, rfl⟩ : PC 2 E 0 r3 0)) (C := RX4) (T := TX4) (N := 2) rfl (by decide) rfl in_X4 1 (by decide) (v := .inl (.int (kV κ1 0 r3 36 1))) rfl mw413 rfl dX10_out_8 ?_
    cases h
    exact hE _ rfl _ _ dX10_out_11
  · exact J_callVX O hKP (as := [.inl (.int a1)]) (rest := []) (r := .inr (exN e4)) (c_X10_guestAt hfl h0 hq2) rfl (kd0 := 10) (k10_0 h0) (l10_0 h0) (T := TX10) (N := 4) rfl (by decide) mw406 mw407 mw408 mw320 mw409 pd_X10_guestAt rfl (by decide) rfl (Nat.le_of_ble_eq_true rfl) sl_0 st_0 dX10_out_2 (fun s hs => by cases hs; exact hX _ rfl) (fun v hs => by cases hs)
theorem c_X10_out {l : Launch} (hfl : l.stackTraces = false) {E : EE} {κ κ' : K} {a1 : Int32} (h0 : PC 10 E 4 0 0) {rs : (Int32 ⊕ Nat)} (h : f_X10_out E κ a1 = some (κ', rs)) : ConX l yX10_out cX10_out 2 (some .int) 8 124 [.inr (some (4, 0, 0)), .inl (.int a1)] (E, κ) (E, κ') (mapX (fun rr => (some (.inl (.int rr)))) rs) := by
  cases rs with
  | inl rr => exact ConX_of hfl (by decide +kernel) (Nat.le_of_ble_eq_true rfl) rfl ⟨_, rfl, rfl⟩ (fun X B g O hKP hmL hX hE => w_X10_out hfl O hKP hmL (fun rr hr => by cases hr; exact hE) (fun e hr => by cases hr) h0 _ _ h)
  | inr e => exact ConX_of hfl (by decide +kernel) (Nat.le_of_ble_eq_true rfl) rfl trivial (fun X B g O hKP hmL hX hE => w_X10_out hfl O hKP hmL (fun rr hr => by cases hr) (fun e hr => by cases hr; exact hX) h0 _ _ h)
def f_X10_outAt (E : EE) (κ : K) (a1 : Int32) (a2 : Int32) : Option (K × (Int32 ⊕ Nat)) := bx (f_X10_guestAt E κ a1) fun κ1 r3 => gd (r3 < cntE E 0) (bx (f_X10_checkPlace E κ1 a2 (kV κ1 0 r3 36 1)) fun κ7 _ => gd (¬ (a2 < 0 ∨ kN κ7 0 r3 37 ≤ a2.toNatClampNeg)) (some (κ7, .inl ((kV κ7 0 r3 37) a2.toNatClampNeg))))
set_option maxHeartbeats 4000000 in
set_option maxRecDepth 100000 in
theorem w_X10_outAt {l0 : Launch} (hfl : l0.stackTraces = false) {X : MX} {B : BX (EE × K)} {g : GP} {E : EE} {κ' : K} {rs : (Int32 ⊕ Nat)} (O : CK l0 X B g cX10_outAt RX10 8 124) (hKP : KPok B E) (hmL : B.2.2.2.1 = 4) (hE : ∀ rr : Int32, rs = .inl rr → ∀ (pc : Nat) (lv : List (Nat × AV)), decode cX10_outAt pc = .ok (.ireturn, 1) → J X B (E, κ') pc lv [.inl (.int rr)]) (hX : ∀ e, rs = .inr e → QXH X B g (E, κ') (.inr (exN e))) (h0 : PC 10 E 4 0 0) : ∀ (κ : K) (a1 : Int32) (a2 : Int32), f_X10_outAt E κ a1 a2 = some (κ', rs) → J X B (E, κ) 0 [(0, .inr (some (4, 0, 0))), (1, .inl (.int a1)), (2, .inl (.int a2))] [] := by
  intro κ a1 a2 h
  unfold f_X10_outAt at h
  refine J_aload_n O.mo dX10_outAt_0 0 rfl ?_
  refine J_iload_n O.mo dX10_outAt_1 1 rfl ?_
  refine J_sub [2] rfl ?_
  rcases bx_some h with ⟨κ1, r3, hq2, h⟩ | ⟨e4, hq2, rfl⟩
  · obtain ⟨hj6, h⟩ := gd_some h
    refine J_callVX O hKP (as := [.inl (.int a1)]) (rest := []) (r := .inl (some (.inr (some (0, r3, 0))))) (c_X10_guestAt hfl h0 hq2) rfl (kd0 := 10) (k10_0 h0) (l10_0 h0) (T := TX10) (N := 4) rfl (by decide) mw406 mw407 mw408 mw320 mw409 pd_X10_guestAt rfl (by decide) rfl (Nat.le_of_ble_eq_true rfl) (sl_v sl_0) st_0 dX10_outAt_2 (fun s hs => by cases hs) (fun v hv5 => ?_)
    cases hv5
    show J X B (E, κ1) 5 [(2, .inl (.int a2))] [.inr (some (0, r3, 0))]
    refine J_astore_n O.mo (lv' := [(2, .inl (.int a2))]) dX10_outAt_5 (by rw [hmL]; decide) rfl rfl ?_
    refine J_iload_n O.mo dX10_outAt_6 1 rfl ?_
    refine J_aload_n O.mo dX10_outAt_7 0 rfl ?_
    refine J_getF O.co (kd0 := 2) (k2_0 (⟨hj6, rfl⟩ : PC 2 E 0 r3 0)) (l2_0 (⟨hj6, rfl⟩ : PC 2 E 0 r3 0)) (C := RX1) (T := TX1) (N := 19) rfl (by decide) rfl in_X1 6 (by decide) (v := .inr (some (0, r3, 36))) rfl mw509 rfl dX10_outAt_8 ?_
    refine J_getF O.co (kd0 := 5) (k2_36 (⟨hj6, rfl⟩ : PC 2 E 0 r3 0)) (l2_36 (⟨hj6, rfl⟩ : PC 2 E 0 r3 0)) (C := RX4) (T := TX4) (N := 2) rfl (by decide) rfl in_X4 1 (by decide) (v := .inl (.int (kV κ1 0 r3 36 1))) rfl mw413 rfl dX10_outAt_11 ?_
    rcases bx_some h with ⟨κ7, r9, hq8, h⟩ | ⟨e10, hq8, rfl⟩
    · refine J_callSX O hKP (as := [.inl (.int a2), .inl (.int (kV κ1 0 r3 36 1))]) (rest := []) (r := .inl none) (c_X10_checkPlace hfl hq8) rfl mw385 mw386 mw320 mw387 pd_X10_checkPlace rfl (by decide) rfl (Nat.le_of_ble_eq_true rfl) (sl_p (s2_0 (⟨hj6, rfl⟩ : PC 2 E 0 r3 0)) (sl_v sl_0)) st_0 dX10_outAt_14 (fun s hs => by cases hs) (fun v hv11 => ?_)
      cases hv11
      show J X B (E, κ7) 17 [(3, .inr (some (0, r3, 0))), (2, .inl (.int a2))] []
      refine J_aload_n O.mo dX10_outAt_17 0 rfl ?_
      refine J_getF O.co (kd0 := 2) (k2_0 (⟨hj6, rfl⟩ : PC 2 E 0 r3 0)) (l2_0 (⟨hj6, rfl⟩ : PC 2 E 0 r3 0)) (C := RX1) (T := TX1) (N := 19) rfl (by decide) rfl in_X1 6 (by decide) (v := .inr (some (0, r3, 36))) rfl mw509 rfl dX10_outAt_18 ?_
      refine J_getF O.co (kd0 := 5) (k2_36 (⟨hj6, rfl⟩ : PC 2 E 0 r3 0)) (l2_36 (⟨hj6, rfl⟩ : PC 2 E 0 r3 0)) (C := RX4) (T := TX4) (N := 2) rfl (by decide) rfl in_X4 0 (by decide) (v := .inr (some (0, r3, 37))) rfl mw510 rfl dX10_outAt_21 ?_
      refine J_iload_n O.mo dX10_outAt_24 1 rfl ?_
      obtain ⟨hg12, h⟩ := gd_some h
      refine J_iald O.co (g := (kV κ7 0 r3 37)) (fun ad => ct_21 (l2_37 (⟨hj6, rfl⟩ : PC 2 E 0 r3 0)) (k2_37 (⟨hj6, rfl⟩ : PC 2 E 0 r3 0)) ad) hg12 dX10_outAt_25 ?_
      cases h
      exact hE _ rfl _ _ dX10_outAt_26
    · exact J_callSX O hKP (as := [.inl (.int a2), .inl (.int (kV κ1 0 r3 36 1))]) (rest := []) (r := .inr (exN e10)) (c_X10_checkPlace hfl hq8) rfl mw385 mw386 mw320 mw387 pd_X10_checkPlace rfl (by decide) rfl (Nat.le_of_ble_eq_true rfl) (sl_p (s2_0 (⟨hj6, rfl⟩ : PC 2 E 0 r3 0)) (sl_v sl_0)) st_0 dX10_outAt_14 (fun s hs => by cases hs; exact hX _ rfl) (fun v hs => by cases hs)
  · exact J_callVX O hKP (as := [.inl (.int a1)]) (rest := []) (r := .inr (exN e4)) (c_X10_guestAt hfl h0 hq2) rfl (kd0 := 10) (k10_0 h0) (l10_0 h0) (T := TX10) (N := 4) rfl (by decide) mw406 mw407 mw408 mw320 mw409 pd_X10_guestAt rfl (by decide) rfl (Nat.le_of_ble_eq_true rfl) (sl_v sl_0) st_0 dX10_outAt_2 (fun s hs => by cases hs; exact hX _ rfl) (fun v hs => by cases hs)
theorem c_X10_outAt {l : Launch} (hfl : l.stackTraces = false) {E : EE} {κ κ' : K} {a1 : Int32} {a2 : Int32} (h0 : PC 10 E 4 0 0) {rs : (Int32 ⊕ Nat)} (h : f_X10_outAt E κ a1 a2 = some (κ', rs)) : ConX l yX10_outAt cX10_outAt 4 (some .int) 8 124 [.inr (some (4, 0, 0)), .inl (.int a1), .inl (.int a2)] (E, κ) (E, κ') (mapX (fun rr => (some (.inl (.int rr)))) rs) := by
  cases rs with
  | inl rr => exact ConX_of hfl (by decide +kernel) (Nat.le_of_ble_eq_true rfl) rfl ⟨_, rfl, rfl⟩ (fun X B g O hKP hmL hX hE => w_X10_outAt hfl O hKP hmL (fun rr hr => by cases hr; exact hE) (fun e hr => by cases hr) h0 _ _ _ h)
  | inr e => exact ConX_of hfl (by decide +kernel) (Nat.le_of_ble_eq_true rfl) rfl trivial (fun X B g O hKP hmL hX hE => w_X10_outAt hfl O hKP hmL (fun rr hr => by cases hr) (fun e hr => by cases hr; exact hX) h0 _ _ _ h)
def f_X10_held (E : EE) (κ : K) (a1 : Int32) : Option (K × (Int32 ⊕ Nat)) := bx (f_X10_guestAt E κ a1) fun κ1 r3 => gd (r3 < cntE E 0) (some (κ1, .inl (kV κ1 0 r3 34 1)))
set_option maxHeartbeats 4000000 in
set_option maxRecDepth 100000 in
theorem w_X10_held {l0 : Launch} (hfl : l0.stackTraces = false) {X : MX} {B : BX (EE × K)} {g : GP} {E : EE} {κ' : K} {rs : (Int32 ⊕ Nat)} (O : CK l0 X B g cX10_held RX10 8 124) (hKP : KPok B E) (hmL : B.2.2.2.1 = 2) (hE : ∀ rr : Int32, rs = .inl rr → ∀ (pc : Nat) (lv : List (Nat × AV)), decode cX10_held pc = .ok (.ireturn, 1) → J X B (E, κ') pc lv [.inl (.int rr)]) (hX : ∀ e, rs = .inr e → QXH X B g (E, κ') (.inr (exN e))) (h0 : PC 10 E 4 0 0) : ∀ (κ : K) (a1 : Int32), f_X10_held E κ a1 = some (κ', rs) → J X B (E, κ) 0 [(0, .inr (some (4, 0, 0))), (1, .inl (.int a1))] [] := by
  intro κ a1 h
  unfold f_X10_held at h
  refine J_aload_n O.mo dX10_held_0 0 rfl ?_
  refine J_iload_n O.mo dX10_held_1 1 rfl ?_
  refine J_sub [] rfl ?_
  rcases bx_some h with ⟨κ1, r3, hq2, h⟩ | ⟨e4, hq2, rfl⟩
  · obtain ⟨hj6, h⟩ := gd_some h
    refine J_callVX O hKP (as := [.inl (.int a1)]) (rest := []) (r := .inl (some (.inr (some (0, r3, 0))))) (c_X10_guestAt hfl h0 hq2) rfl (kd0 := 10) (k10_0 h0) (l10_0 h0) (T := TX10) (N := 4) rfl (by decide) mw406 mw407 mw408 mw320 mw409 pd_X10_guestAt rfl (by decide) rfl (Nat.le_of_ble_eq_true rfl) sl_0 st_0 dX10_held_2 (fun s hs => by cases hs) (fun v hv5 => ?_)
    cases hv5
    show J X B (E, κ1) 5 [] [.inr (some (0, r3, 0))]
    refine J_getF O.co (kd0 := 2) (k2_0 (⟨hj6, rfl⟩ : PC 2 E 0 r3 0)) (l2_0 (⟨hj6, rfl⟩ : PC 2 E 0 r3 0)) (C := RX1) (T := TX1) (N := 19) rfl (by decide) rfl in_X1 5 (by decide) (v := .inr (some (0, r3, 18))) rfl mw415 rfl dX10_held_5 ?_
    refine J_getF O.co (kd0 := 1) (k2_18 (⟨hj6, rfl⟩ : PC 2 E 0 r3 0)) (l2_18 (⟨hj6, rfl⟩ : PC 2 E 0 r3 0)) (C := RX0) (T := TX0) (N := 4) rfl (by decide) rfl in_X0 3 (by decide) (v := .inr (some (0, r3, 34))) rfl mw511 rfl dX10_held_8 ?_
    refine J_getF O.co (kd0 := 5) (k2_34 (⟨hj6, rfl⟩ : PC 2 E 0 r3 0)) (l2_34 (⟨hj6, rfl⟩ : PC 2 E 0 r3 0)) (C := RX4) (T := TX4) (N := 2) rfl (by decide) rfl in_X4 1 (by decide) (v := .inl (.int (kV κ1 0 r3 34 1))) rfl mw413 rfl dX10_held_11 ?_
    cases h
    exact hE _ rfl _ _ dX10_held_14
  · exact J_callVX O hKP (as := [.inl (.int a1)]) (rest := []) (r := .inr (exN e4)) (c_X10_guestAt hfl h0 hq2) rfl (kd0 := 10) (k10_0 h0) (l10_0 h0) (T := TX10) (N := 4) rfl (by decide) mw406 mw407 mw408 mw320 mw409 pd_X10_guestAt rfl (by decide) rfl (Nat.le_of_ble_eq_true rfl) sl_0 st_0 dX10_held_2 (fun s hs => by cases hs; exact hX _ rfl) (fun v hs => by cases hs)
theorem c_X10_held {l : Launch} (hfl : l.stackTraces = false) {E : EE} {κ κ' : K} {a1 : Int32} (h0 : PC 10 E 4 0 0) {rs : (Int32 ⊕ Nat)} (h : f_X10_held E κ a1 = some (κ', rs)) : ConX l yX10_held cX10_held 2 (some .int) 8 124 [.inr (some (4, 0, 0)), .inl (.int a1)] (E, κ) (E, κ') (mapX (fun rr => (some (.inl (.int rr)))) rs) := by
  cases rs with
  | inl rr => exact ConX_of hfl (by decide +kernel) (Nat.le_of_ble_eq_true rfl) rfl ⟨_, rfl, rfl⟩ (fun X B g O hKP hmL hX hE => w_X10_held hfl O hKP hmL (fun rr hr => by cases hr; exact hE) (fun e hr => by cases hr) h0 _ _ h)
  | inr e => exact ConX_of hfl (by decide +kernel) (Nat.le_of_ble_eq_true rfl) rfl trivial (fun X B g O hKP hmL hX hE => w_X10_held hfl O hKP hmL (fun rr hr => by cases hr) (fun e hr => by cases hr; exact hX) h0 _ _ h)
def f_X10_stored (E : EE) (κ : K) (a1 : Int32) : Option (K × (Int32 ⊕ Nat)) := bx (f_X10_snapshotAt E κ a1) fun κ1 r3 => gd (r3 < cntE E 1) (some (κ1, .inl (kV κ1 1 r3 0 2)))
set_option maxHeartbeats 4000000 in
set_option maxRecDepth 100000 in
theorem w_X10_stored {l0 : Launch} (hfl : l0.stackTraces = false) {X : MX} {B : BX (EE × K)} {g : GP} {E : EE} {κ' : K} {rs : (Int32 ⊕ Nat)} (O : CK l0 X B g cX10_stored RX10 8 124) (hKP : KPok B E) (hmL : B.2.2.2.1 = 2) (hE : ∀ rr : Int32, rs = .inl rr → ∀ (pc : Nat) (lv : List (Nat × AV)), decode cX10_stored pc = .ok (.ireturn, 1) → J X B (E, κ') pc lv [.inl (.int rr)]) (hX : ∀ e, rs = .inr e → QXH X B g (E, κ') (.inr (exN e))) (h0 : PC 10 E 4 0 0) : ∀ (κ : K) (a1 : Int32), f_X10_stored E κ a1 = some (κ', rs) → J X B (E, κ) 0 [(0, .inr (some (4, 0, 0))), (1, .inl (.int a1))] [] := by
  intro κ a1 h
  unfold f_X10_stored at h
  refine J_aload_n O.mo dX10_stored_0 0 rfl ?_
  refine J_iload_n O.mo dX10_stored_1 1 rfl ?_
  refine J_sub [] rfl ?_
  rcases bx_some h with ⟨κ1, r3, hq2, h⟩ | ⟨e4, hq2, rfl⟩
  · obtain ⟨hj6, h⟩ := gd_some h
    refine J_callVX O hKP (as := [.inl (.int a1)]) (rest := []) (r := .inl (some (.inr (some (1, r3, 0))))) (c_X10_snapshotAt hfl h0 hq2) rfl (kd0 := 10) (k10_0 h0) (l10_0 h0) (T := TX10) (N := 4) rfl (by decide) mw475 mw476 mw477 mw320 mw478 pd_X10_snapshotAt rfl (by decide) rfl (Nat.le_of_ble_eq_true rfl) sl_0 st_0 dX10_stored_2 (fun s hs => by cases hs) (fun v hv5 => ?_)
    cases hv5
    show J X B (E, κ1) 5 [] [.inr (some (1, r3, 0))]
    refine J_getF O.co (kd0 := 8) (k8_0 (⟨hj6, rfl⟩ : PC 8 E 1 r3 0)) (l8_0 (⟨hj6, rfl⟩ : PC 8 E 1 r3 0)) (C := RX7) (T := TX7) (N := 3) rfl (by decide) rfl in_X7 2 (by decide) (v := .inl (.int (kV κ1 1 r3 0 2))) rfl mw512 rfl dX10_stored_5 ?_
    cases h
    exact hE _ rfl _ _ dX10_stored_8
  · exact J_callVX O hKP (as := [.inl (.int a1)]) (rest := []) (r := .inr (exN e4)) (c_X10_snapshotAt hfl h0 hq2) rfl (kd0 := 10) (k10_0 h0) (l10_0 h0) (T := TX10) (N := 4) rfl (by decide) mw475 mw476 mw477 mw320 mw478 pd_X10_snapshotAt rfl (by decide) rfl (Nat.le_of_ble_eq_true rfl) sl_0 st_0 dX10_stored_2 (fun s hs => by cases hs; exact hX _ rfl) (fun v hs => by cases hs)
theorem c_X10_stored {l : Launch} (hfl : l.stackTraces = false) {E : EE} {κ κ' : K} {a1 : Int32} (h0 : PC 10 E 4 0 0) {rs : (Int32 ⊕ Nat)} (h : f_X10_stored E κ a1 = some (κ', rs)) : ConX l yX10_stored cX10_stored 2 (some .int) 8 124 [.inr (some (4, 0, 0)), .inl (.int a1)] (E, κ) (E, κ') (mapX (fun rr => (some (.inl (.int rr)))) rs) := by
  cases rs with
  | inl rr => exact ConX_of hfl (by decide +kernel) (Nat.le_of_ble_eq_true rfl) rfl ⟨_, rfl, rfl⟩ (fun X B g O hKP hmL hX hE => w_X10_stored hfl O hKP hmL (fun rr hr => by cases hr; exact hE) (fun e hr => by cases hr) h0 _ _ h)
  | inr e => exact ConX_of hfl (by decide +kernel) (Nat.le_of_ble_eq_true rfl) rfl trivial (fun X B g O hKP hmL hX hE => w_X10_stored hfl O hKP hmL (fun rr hr => by cases hr) (fun e hr => by cases hr; exact hX) h0 _ _ h)
