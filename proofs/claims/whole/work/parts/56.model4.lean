set_option maxRecDepth 100000 in
theorem mw683 : Cond.methodLink RX11 250 yX11_fine ∈ gwl := gwl_tb 1515 rfl rfl
set_option maxRecDepth 100000 in
theorem mw684 : Cond.instanceMethod yX11_fine ∈ gwl := gwl_tb 1517 rfl rfl
set_option maxRecDepth 100000 in
theorem mw685 : Cond.selects RX11 yX11_fine yX11_fine ∈ gwl := gwl_sl 53 rfl rfl
set_option maxRecDepth 100000 in
theorem mw686 : Cond.code yX11_fine cX11_fine 2 (some .int) ∈ gwl := gwl_tb 1518 rfl rfl
set_option maxRecDepth 100000 in
theorem mw687 : Cond.methodLink RX11 253 yX11_isPage ∈ gwl := gwl_tb 1531 rfl rfl
set_option maxRecDepth 100000 in
theorem mw688 : Cond.instanceMethod yX11_isPage ∈ gwl := gwl_tb 1533 rfl rfl
set_option maxRecDepth 100000 in
theorem mw689 : Cond.selects RX11 yX11_isPage yX11_isPage ∈ gwl := gwl_sl 54 rfl rfl
set_option maxRecDepth 100000 in
theorem mw690 : Cond.code yX11_isPage cX11_isPage 3 (some .boolean) ∈ gwl := gwl_tb 1534 rfl rfl
theorem pd_X11_fine : (yX11_fine).cls ≠ "java/lang/invoke/MethodHandle" ∧ (yX11_fine).cls ≠ "java/lang/invoke/VarHandle" ∧ (parseMethodDescriptor (yX11_fine).desc).map (fun d => d.parameters.length) = some 1 := ⟨by decide +kernel, by decide +kernel, by decide +kernel⟩
theorem pd_X11_isPage : (yX11_isPage).cls ≠ "java/lang/invoke/MethodHandle" ∧ (yX11_isPage).cls ≠ "java/lang/invoke/VarHandle" ∧ (parseMethodDescriptor (yX11_isPage).desc).map (fun d => d.parameters.length) = some 2 := ⟨by decide +kernel, by decide +kernel, by decide +kernel⟩
def f_X11_time (E : EE) (κ : K) : Option (K × Int32) := bd (f_X11_fine E κ (kV κ 5 0 0 41)) fun κ1 r3 => some (κ1, r3)
set_option maxHeartbeats 4000000 in
set_option maxRecDepth 100000 in
theorem w_X11_time {l0 : Launch} (hfl : l0.stackTraces = false) {X : MX} {B : BX (EE × K)} {g : GP} {E : EE} {κ' : K} {rr : Int32} (O : CK l0 X B g cX11_time RX11 2 21) (hKP : KPok B E) (hmL : B.2.2.2.1 = 1) (hE : ∀ (pc : Nat) (lv : List (Nat × AV)), decode cX11_time pc = .ok (.ireturn, 1) → J X B (E, κ') pc lv [.inl (.int rr)]) (h0 : PC 11 E 5 0 0) : ∀ (κ : K), f_X11_time E κ = some (κ', rr) → J X B (E, κ) 0 [(0, .inr (some (5, 0, 0)))] [] := by
  intro κ h
  unfold f_X11_time at h
  refine J_aload_n O.mo dX11_time_0 0 rfl ?_
  refine J_aload_n O.mo dX11_time_1 0 rfl ?_
  refine J_getF O.co (kd0 := 11) (k11_0 h0) (l11_0 h0) (C := RX11) (T := TX11) (N := 42) rfl (by decide) rfl in_X11 41 (by decide) (v := .inl (.int (kV κ 5 0 0 41))) rfl mw519 rfl dX11_time_2 ?_
  refine J_sub [] rfl ?_
  obtain ⟨κ1, r3, hq2, h⟩ := bd_some h
  refine J_callV O hKP (as := [.inl (.int (kV κ 5 0 0 41))]) (rest := []) (r := (some (.inl (.int r3)))) (c_X11_fine hfl h0 hq2) rfl (kd0 := 11) (k11_0 h0) (l11_0 h0) (T := TX11) (N := 42) rfl (by decide) mw683 mw684 mw685 mw517 mw686 pd_X11_fine rfl (by decide) rfl (Nat.le_of_ble_eq_true rfl) sl_0 st_0 dX11_time_5 ?_
  show J X B (E, κ1) 8 [] [.inl (.int r3)]
  cases h
  exact hE _ _ dX11_time_8
theorem c_X11_time {l : Launch} (hfl : l.stackTraces = false) {E : EE} {κ κ' : K} (h0 : PC 11 E 5 0 0) {rr : Int32} (h : f_X11_time E κ = some (κ', rr)) : Con l yX11_time cX11_time 1 (some .int) 2 21 [.inr (some (5, 0, 0))] (E, κ) (E, κ') (some (.inl (.int rr))) := by
  exact Con_of hfl (by decide +kernel) (Nat.le_of_ble_eq_true rfl) rfl ⟨_, rfl, rfl⟩ (fun X B g O hKP hmL hE => w_X11_time hfl O hKP hmL hE h0 _ h)
def f_X11_of_b28 (E : EE) (κ : K) (x1 : Int32) (x2 : Int32) (xs0 : Int32) : Option (K × Int32) := bd (f_X11_refused E κ xs0) fun κ9 r11 => if r11 = 0 then nm (55 * x1) fun y13 => if x2 = 0 then gd (¬ ((y13 + 49) < 0 ∨ 275 ≤ (y13 + 49).toNatClampNeg)) (some (κ9, (kV κ9 5 0 1) (y13 + 49).toNatClampNeg)) else if x2 = 1 then gd (¬ (x1 < 0 ∨ 5 ≤ x1.toNatClampNeg)) (some (κ9, (kV κ9 5 0 15) x1.toNatClampNeg)) else if x2 = 2 then gd (¬ ((y13 + 4) < 0 ∨ 275 ≤ (y13 + 4).toNatClampNeg)) (some (κ9, (kV κ9 5 0 1) (y13 + 4).toNatClampNeg)) else if x2 = 3 then gd (¬ ((y13 + 7) < 0 ∨ 275 ≤ (y13 + 7).toNatClampNeg)) (some (κ9, (kV κ9 5 0 1) (y13 + 7).toNatClampNeg)) else if x2 = 4 then gd (¬ ((y13 + 8) < 0 ∨ 275 ≤ (y13 + 8).toNatClampNeg)) (some (κ9, (kV κ9 5 0 1) (y13 + 8).toNatClampNeg)) else if x2 = 5 then bd (f_X11_clock E κ9 x1) fun κ25 r27 => some (κ25, r27) else if x2 = 6 then gd (¬ (x1 < 0 ∨ 5 ≤ x1.toNatClampNeg)) (some (κ9, (kV κ9 5 0 23) x1.toNatClampNeg)) else if x2 = 7 then gd (¬ (x1 < 0 ∨ 5 ≤ x1.toNatClampNeg)) (some (κ9, (kV κ9 5 0 24) x1.toNatClampNeg)) else if x2 = 8 then gd (¬ ((y13 + 54) < 0 ∨ 275 ≤ (y13 + 54).toNatClampNeg)) (some (κ9, (kV κ9 5 0 1) (y13 + 54).toNatClampNeg)) else if x2 = 9 then gd (¬ (x1 < 0 ∨ 5 ≤ x1.toNatClampNeg)) (if (kV κ9 5 0 30) x1.toNatClampNeg = 0 then some (κ9, (-1)) else gd (¬ (x1 < 0 ∨ 5 ≤ x1.toNatClampNeg)) (bd (f_X11_bits E κ9 ((kV κ9 5 0 31) x1.toNatClampNeg)) fun κ38 r40 => some (κ38, r40))) else gd (¬ (x1 < 0 ∨ 5 ≤ x1.toNatClampNeg)) (some (κ9, (kV κ9 5 0 32) x1.toNatClampNeg)) else some (κ9, 0)
def f_X11_of (E : EE) (κ : K) (a1 : Int32) (a2 : Int32) : Option (K × Int32) := bd (f_X11_isGuest E κ a1) fun κ1 r3 => if r3 = 0 then f_X11_of_b28 E κ1 a1 a2 1 else bd (f_X11_in E κ1 a2 0 10) fun κ5 r7 => if r7 = 0 then f_X11_of_b28 E κ5 a1 a2 2 else f_X11_of_b28 E κ5 a1 a2 0
set_option maxHeartbeats 4000000 in
set_option maxRecDepth 100000 in
theorem w_X11_of_b28 {l0 : Launch} (hfl : l0.stackTraces = false) {X : MX} {B : BX (EE × K)} {g : GP} {E : EE} {κ' : K} {rr : Int32} (O : CK l0 X B g cX11_of RX11 3 43) (hKP : KPok B E) (hmL : B.2.2.2.1 = 4) (hE : ∀ (pc : Nat) (lv : List (Nat × AV)), decode cX11_of pc = .ok (.ireturn, 1) → J X B (E, κ') pc lv [.inl (.int rr)]) (h0 : PC 11 E 5 0 0) : ∀ (κ : K) (x1 : Int32) (x2 : Int32) (xs0 : Int32), f_X11_of_b28 E κ x1 x2 xs0 = some (κ', rr) → J X B (E, κ) 28 [(0, .inr (some (5, 0, 0))), (1, .inl (.int x1)), (2, .inl (.int x2))] [.inl (.int xs0), .inr (some (5, 0, 0))] := by
  intro κ x1 x2 xs0 h
  unfold f_X11_of_b28 at h
  obtain ⟨κ9, r11, hq10, h⟩ := bd_some h
  refine J_callV O hKP (as := [.inl (.int xs0)]) (rest := []) (r := (some (.inl (.int r11)))) (c_X11_refused hfl h0 hq10) rfl (kd0 := 11) (k11_0 h0) (l11_0 h0) (T := TX11) (N := 42) rfl (by decide) mw605 mw606 mw607 mw517 mw608 pd_X11_refused rfl (by decide) rfl (Nat.le_of_ble_eq_true rfl) (sl_p (s11_0 h0) (sl_v (sl_v sl_0))) st_0 dX11_of_28 ?_
  show J X B (E, κ9) 31 [(0, .inr (some (5, 0, 0))), (1, .inl (.int x1)), (2, .inl (.int x2))] [.inl (.int r11)]
  refine J_if_eq O.mo (tgt := 36) dX11_of_31 (by decide) (fun hc12 => ?_) (fun hc12 => ?_)
  · replace h := (if_pos hc12).symm.trans h
    refine J_bipush O.mo (v := 55) dX11_of_36 (by decide) ?_
    refine J_iload_n O.mo dX11_of_38 1 rfl ?_
    refine J_imul O.mo dX11_of_39 ?_
    refine J_istore_n O.mo (lv' := [(0, .inr (some (5, 0, 0))), (1, .inl (.int x1)), (2, .inl (.int x2))]) dX11_of_40 (by rw [hmL]; decide) rfl rfl ?_
    refine nm_some (P := fun z => J X B (E, κ9) 41 [(3, .inl (.int z)), (0, .inr (some (5, 0, 0))), (1, .inl (.int x1)), (2, .inl (.int x2))] []) h (fun y13 h => ?_)
    refine J_iload_n O.mo dX11_of_41 3 rfl ?_
    by_cases hc14 : x2 = 0
    · replace h := (if_pos hc14).symm.trans h
      refine J_tabIn O.mo (tgt := 96) 0 hc14 dX11_of_42 (by decide) (by decide) rfl (by decide) ?_
      refine J_aload_n O.mo dX11_of_96 1 rfl ?_
      refine J_getF O.co (kd0 := 11) (k11_0 h0) (l11_0 h0) (C := RX11) (T := TX11) (N := 42) rfl (by decide) rfl in_X11 1 (by decide) (v := .inr (some (5, 0, 1))) rfl mw545 rfl dX11_of_97 ?_
      refine J_iload_n O.mo dX11_of_100 0 rfl ?_
      refine J_bipush O.mo (v := 49) dX11_of_101 (by decide) ?_
      refine J_iadd O.mo dX11_of_103 ?_
      obtain ⟨hg15, h⟩ := gd_some h
      refine J_iald O.co (g := (kV κ9 5 0 1)) (ct_20n (l11_1 h0) (k11_1 h0) (n11_1 h0)) hg15 dX11_of_104 ?_
      cases h
      exact hE _ _ dX11_of_105
    · replace h := (if_neg hc14).symm.trans h
      by_cases hc16 : x2 = 1
      · replace h := (if_pos hc16).symm.trans h
        refine J_tabIn O.mo (tgt := 106) 1 hc16 dX11_of_42 (by decide) (by decide) rfl (by decide) ?_
        refine J_aload_n O.mo dX11_of_106 1 rfl ?_
        refine J_getF O.co (kd0 := 11) (k11_0 h0) (l11_0 h0) (C := RX11) (T := TX11) (N := 42) rfl (by decide) rfl in_X11 15 (by decide) (v := .inr (some (5, 0, 15))) rfl mw526 rfl dX11_of_107 ?_
        refine J_iload_n O.mo dX11_of_110 2 rfl ?_
        obtain ⟨hg17, h⟩ := gd_some h
        refine J_iald O.co (g := (kV κ9 5 0 15)) (ct_20n (l11_15 h0) (k11_15 h0) (n11_15 h0)) hg17 dX11_of_111 ?_
        cases h
        exact hE _ _ dX11_of_112
      · replace h := (if_neg hc16).symm.trans h
        by_cases hc18 : x2 = 2
        · replace h := (if_pos hc18).symm.trans h
          refine J_tabIn O.mo (tgt := 113) 2 hc18 dX11_of_42 (by decide) (by decide) rfl (by decide) ?_
          refine J_aload_n O.mo dX11_of_113 1 rfl ?_
          refine J_getF O.co (kd0 := 11) (k11_0 h0) (l11_0 h0) (C := RX11) (T := TX11) (N := 42) rfl (by decide) rfl in_X11 1 (by decide) (v := .inr (some (5, 0, 1))) rfl mw545 rfl dX11_of_114 ?_
          refine J_iload_n O.mo dX11_of_117 0 rfl ?_
          refine J_iconst O.mo (v := 4) dX11_of_118 (by decide) ?_
          refine J_iadd O.mo dX11_of_119 ?_
          obtain ⟨hg19, h⟩ := gd_some h
          refine J_iald O.co (g := (kV κ9 5 0 1)) (ct_20n (l11_1 h0) (k11_1 h0) (n11_1 h0)) hg19 dX11_of_120 ?_
          cases h
          exact hE _ _ dX11_of_121
        · replace h := (if_neg hc18).symm.trans h
          by_cases hc20 : x2 = 3
          · replace h := (if_pos hc20).symm.trans h
            refine J_tabIn O.mo (tgt := 122) 3 hc20 dX11_of_42 (by decide) (by decide) rfl (by decide) ?_
            refine J_aload_n O.mo dX11_of_122 1 rfl ?_
            refine J_getF O.co (kd0 := 11) (k11_0 h0) (l11_0 h0) (C := RX11) (T := TX11) (N := 42) rfl (by decide) rfl in_X11 1 (by decide) (v := .inr (some (5, 0, 1))) rfl mw545 rfl dX11_of_123 ?_
            refine J_iload_n O.mo dX11_of_126 0 rfl ?_
            refine J_bipush O.mo (v := 7) dX11_of_127 (by decide) ?_
            refine J_iadd O.mo dX11_of_129 ?_
            obtain ⟨hg21, h⟩ := gd_some h
            refine J_iald O.co (g := (kV κ9 5 0 1)) (ct_20n (l11_1 h0) (k11_1 h0) (n11_1 h0)) hg21 dX11_of_130 ?_
            cases h
            exact hE _ _ dX11_of_131
          · replace h := (if_neg hc20).symm.trans h
            by_cases hc22 : x2 = 4
            · replace h := (if_pos hc22).symm.trans h
              refine J_tabIn O.mo (tgt := 132) 4 hc22 dX11_of_42 (by decide) (by decide) rfl (by decide) ?_
              refine J_aload_n O.mo dX11_of_132 1 rfl ?_
              refine J_getF O.co (kd0 := 11) (k11_0 h0) (l11_0 h0) (C := RX11) (T := TX11) (N := 42) rfl (by decide) rfl in_X11 1 (by decide) (v := .inr (some (5, 0, 1))) rfl mw545 rfl dX11_of_133 ?_
              refine J_iload_n O.mo dX11_of_136 0 rfl ?_
              refine J_bipush O.mo (v := 8) dX11_of_137 (by decide) ?_
              refine J_iadd O.mo dX11_of_139 ?_
              obtain ⟨hg23, h⟩ := gd_some h
              refine J_iald O.co (g := (kV κ9 5 0 1)) (ct_20n (l11_1 h0) (k11_1 h0) (n11_1 h0)) hg23 dX11_of_140 ?_
              cases h
              exact hE _ _ dX11_of_141
            · replace h := (if_neg hc22).symm.trans h
              by_cases hc24 : x2 = 5
              · replace h := (if_pos hc24).symm.trans h
                refine J_tabIn O.mo (tgt := 142) 5 hc24 dX11_of_42 (by decide) (by decide) rfl (by decide) ?_
                refine J_aload_n O.mo dX11_of_142 1 rfl ?_
                refine J_iload_n O.mo dX11_of_143 2 rfl ?_
                refine J_sub [] rfl ?_
                obtain ⟨κ25, r27, hq26, h⟩ := bd_some h
                refine J_callV O hKP (as := [.inl (.int x1)]) (rest := []) (r := (some (.inl (.int r27)))) (c_X11_clock hfl h0 hq26) rfl (kd0 := 11) (k11_0 h0) (l11_0 h0) (T := TX11) (N := 42) rfl (by decide) mw571 mw572 mw573 mw517 mw574 pd_X11_clock rfl (by decide) rfl (Nat.le_of_ble_eq_true rfl) sl_0 st_0 dX11_of_144 ?_
                show J X B (E, κ25) 147 [] [.inl (.int r27)]
                cases h
                exact hE _ _ dX11_of_147
              · replace h := (if_neg hc24).symm.trans h
                by_cases hc28 : x2 = 6
                · replace h := (if_pos hc28).symm.trans h
                  refine J_tabIn O.mo (tgt := 148) 6 hc28 dX11_of_42 (by decide) (by decide) rfl (by decide) ?_
                  refine J_aload_n O.mo dX11_of_148 1 rfl ?_
                  refine J_getF O.co (kd0 := 11) (k11_0 h0) (l11_0 h0) (C := RX11) (T := TX11) (N := 42) rfl (by decide) rfl in_X11 23 (by decide) (v := .inr (some (5, 0, 23))) rfl mw604 rfl dX11_of_149 ?_
                  refine J_iload_n O.mo dX11_of_152 2 rfl ?_
                  obtain ⟨hg29, h⟩ := gd_some h
                  refine J_iald O.co (g := (kV κ9 5 0 23)) (ct_20n (l11_23 h0) (k11_23 h0) (n11_23 h0)) hg29 dX11_of_153 ?_
                  cases h
                  exact hE _ _ dX11_of_154
                · replace h := (if_neg hc28).symm.trans h
                  by_cases hc30 : x2 = 7
                  · replace h := (if_pos hc30).symm.trans h
                    refine J_tabIn O.mo (tgt := 155) 7 hc30 dX11_of_42 (by decide) (by decide) rfl (by decide) ?_
                    refine J_aload_n O.mo dX11_of_155 1 rfl ?_
                    refine J_getF O.co (kd0 := 11) (k11_0 h0) (l11_0 h0) (C := RX11) (T := TX11) (N := 42) rfl (by decide) rfl in_X11 24 (by decide) (v := .inr (some (5, 0, 24))) rfl mw556 rfl dX11_of_156 ?_
                    refine J_iload_n O.mo dX11_of_159 2 rfl ?_
                    obtain ⟨hg31, h⟩ := gd_some h
                    refine J_iald O.co (g := (kV κ9 5 0 24)) (ct_20n (l11_24 h0) (k11_24 h0) (n11_24 h0)) hg31 dX11_of_160 ?_
                    cases h
                    exact hE _ _ dX11_of_161
                  · replace h := (if_neg hc30).symm.trans h
                    by_cases hc32 : x2 = 8
                    · replace h := (if_pos hc32).symm.trans h
                      refine J_tabIn O.mo (tgt := 162) 8 hc32 dX11_of_42 (by decide) (by decide) rfl (by decide) ?_
                      refine J_aload_n O.mo dX11_of_162 1 rfl ?_
                      refine J_getF O.co (kd0 := 11) (k11_0 h0) (l11_0 h0) (C := RX11) (T := TX11) (N := 42) rfl (by decide) rfl in_X11 1 (by decide) (v := .inr (some (5, 0, 1))) rfl mw545 rfl dX11_of_163 ?_
                      refine J_iload_n O.mo dX11_of_166 0 rfl ?_
                      refine J_bipush O.mo (v := 54) dX11_of_167 (by decide) ?_
                      refine J_iadd O.mo dX11_of_169 ?_
                      obtain ⟨hg33, h⟩ := gd_some h
                      refine J_iald O.co (g := (kV κ9 5 0 1)) (ct_20n (l11_1 h0) (k11_1 h0) (n11_1 h0)) hg33 dX11_of_170 ?_
                      cases h
                      exact hE _ _ dX11_of_171
                    · replace h := (if_neg hc32).symm.trans h
                      by_cases hc34 : x2 = 9
                      · replace h := (if_pos hc34).symm.trans h
                        refine J_tabIn O.mo (tgt := 172) 9 hc34 dX11_of_42 (by decide) (by decide) rfl (by decide) ?_
                        refine J_aload_n O.mo dX11_of_172 1 rfl ?_
                        refine J_getF O.co (kd0 := 11) (k11_0 h0) (l11_0 h0) (C := RX11) (T := TX11) (N := 42) rfl (by decide) rfl in_X11 30 (by decide) (v := .inr (some (5, 0, 30))) rfl mw535 rfl dX11_of_173 ?_
                        refine J_iload_n O.mo dX11_of_176 2 rfl ?_
                        obtain ⟨hg35, h⟩ := gd_some h
                        refine J_bald O.co (g := (kV κ9 5 0 30)) (ct_22n (l11_30 h0) (k11_30 h0) (n11_30 h0)) hg35 dX11_of_177 ?_
                        refine J_if_eq O.mo (tgt := 193) dX11_of_178 (by decide) (fun hc36 => ?_) (fun hc36 => ?_)
                        · replace h := (if_pos hc36).symm.trans h
                          refine J_iconst O.mo (v := (-1)) dX11_of_193 (by decide) ?_
                          cases h
                          exact hE _ _ dX11_of_194
                        · replace h := (if_neg hc36).symm.trans h
                          refine J_aload_n O.mo dX11_of_181 1 rfl ?_
                          refine J_getF O.co (kd0 := 11) (k11_0 h0) (l11_0 h0) (C := RX11) (T := TX11) (N := 42) rfl (by decide) rfl in_X11 31 (by decide) (v := .inr (some (5, 0, 31))) rfl mw534 rfl dX11_of_182 ?_
                          refine J_iload_n O.mo dX11_of_185 2 rfl ?_
                          obtain ⟨hg37, h⟩ := gd_some h
                          refine J_iald O.co (g := (kV κ9 5 0 31)) (ct_20n (l11_31 h0) (k11_31 h0) (n11_31 h0)) hg37 dX11_of_186 ?_
                          refine J_sub [] rfl ?_
                          obtain ⟨κ38, r40, hq39, h⟩ := bd_some h
                          refine J_callS O hKP (as := [.inl (.int ((kV κ9 5 0 31) x1.toNatClampNeg))]) (rest := []) (r := (some (.inl (.int r40)))) (c_X11_bits hfl hq39) rfl mw640 mw641 mw517 mw642 pd_X11_bits rfl (by decide) rfl (Nat.le_of_ble_eq_true rfl) sl_0 st_0 dX11_of_187 ?_
                          show J X B (E, κ38) 190 [] [.inl (.int r40)]
                          refine J_goto O.mo (tgt := 194) dX11_of_190 (by decide) ?_
                          cases h
                          exact hE _ _ dX11_of_194
                      · replace h := (if_neg hc34).symm.trans h
                        refine J_tabOut O.mo (tgt := 195) 10 (by decide) (by decide) (tb_s (tb_s (tb_s (tb_s (tb_s (tb_s (tb_s (tb_s (tb_s (tb_s tb_0 (fun z => hc14 (z.trans (by decide)))) (fun z => hc16 (z.trans (by decide)))) (fun z => hc18 (z.trans (by decide)))) (fun z => hc20 (z.trans (by decide)))) (fun z => hc22 (z.trans (by decide)))) (fun z => hc24 (z.trans (by decide)))) (fun z => hc28 (z.trans (by decide)))) (fun z => hc30 (z.trans (by decide)))) (fun z => hc32 (z.trans (by decide)))) (fun z => hc34 (z.trans (by decide)))) dX11_of_42 (by decide) ?_
                        refine J_aload_n O.mo dX11_of_195 1 rfl ?_
                        refine J_getF O.co (kd0 := 11) (k11_0 h0) (l11_0 h0) (C := RX11) (T := TX11) (N := 42) rfl (by decide) rfl in_X11 32 (by decide) (v := .inr (some (5, 0, 32))) rfl mw643 rfl dX11_of_196 ?_
                        refine J_iload_n O.mo dX11_of_199 2 rfl ?_
                        obtain ⟨hg41, h⟩ := gd_some h
                        refine J_iald O.co (g := (kV κ9 5 0 32)) (ct_20n (l11_32 h0) (k11_32 h0) (n11_32 h0)) hg41 dX11_of_200 ?_
                        cases h
                        exact hE _ _ dX11_of_201
  · replace h := (if_neg hc12).symm.trans h
    refine J_iconst O.mo (v := 0) dX11_of_34 (by decide) ?_
    cases h
    exact hE _ _ dX11_of_35
set_option maxHeartbeats 4000000 in
set_option maxRecDepth 100000 in
theorem w_X11_of {l0 : Launch} (hfl : l0.stackTraces = false) {X : MX} {B : BX (EE × K)} {g : GP} {E : EE} {κ' : K} {rr : Int32} (O : CK l0 X B g cX11_of RX11 3 43) (hKP : KPok B E) (hmL : B.2.2.2.1 = 4) (hE : ∀ (pc : Nat) (lv : List (Nat × AV)), decode cX11_of pc = .ok (.ireturn, 1) → J X B (E, κ') pc lv [.inl (.int rr)]) (h0 : PC 11 E 5 0 0) : ∀ (κ : K) (a1 : Int32) (a2 : Int32), f_X11_of E κ a1 a2 = some (κ', rr) → J X B (E, κ) 0 [(0, .inr (some (5, 0, 0))), (1, .inl (.int a1)), (2, .inl (.int a2))] [] := by
  intro κ a1 a2 h
  unfold f_X11_of at h
  refine J_aload_n O.mo dX11_of_0 0 rfl ?_
  refine J_aload_n O.mo dX11_of_1 0 rfl ?_
  refine J_iload_n O.mo dX11_of_2 1 rfl ?_
  obtain ⟨κ1, r3, hq2, h⟩ := bd_some h
  refine J_callV O hKP (as := [.inl (.int a1)]) (rest := [.inr (some (5, 0, 0))]) (r := (some (.inl (.int r3)))) (c_X11_isGuest hfl h0 hq2) rfl (kd0 := 11) (k11_0 h0) (l11_0 h0) (T := TX11) (N := 42) rfl (by decide) mw611 mw612 mw613 mw517 mw614 pd_X11_isGuest rfl (by decide) rfl (Nat.le_of_ble_eq_true rfl) (sl_p (s11_0 h0) (sl_v (sl_v sl_0))) (st_p (s11_0 h0) st_0) dX11_of_3 ?_
  show J X B (E, κ1) 6 [(0, .inr (some (5, 0, 0))), (1, .inl (.int a1)), (2, .inl (.int a2))] [.inl (.int r3), .inr (some (5, 0, 0))]
  refine J_if_ne O.mo (tgt := 13) dX11_of_6 (by decide) (fun hc4 => ?_) (fun hc4 => ?_)
  · replace h := (if_neg hc4).symm.trans h
    refine J_iload_n O.mo dX11_of_13 2 rfl ?_
    refine J_iconst O.mo (v := 0) dX11_of_14 (by decide) ?_
    refine J_bipush O.mo (v := 10) dX11_of_15 (by decide) ?_
    obtain ⟨κ5, r7, hq6, h⟩ := bd_some h
    refine J_callS O hKP (as := [.inl (.int a2), .inl (.int 0), .inl (.int 10)]) (rest := [.inr (some (5, 0, 0))]) (r := (some (.inl (.int r7)))) (c_X11_in hfl hq6) rfl mw515 mw516 mw517 mw518 pd_X11_in rfl (by decide) rfl (Nat.le_of_ble_eq_true rfl) (sl_p (s11_0 h0) (sl_v (sl_v sl_0))) (st_p (s11_0 h0) st_0) dX11_of_17 ?_
    show J X B (E, κ5) 20 [(0, .inr (some (5, 0, 0))), (1, .inl (.int a1)), (2, .inl (.int a2))] [.inl (.int r7), .inr (some (5, 0, 0))]
    refine J_if_ne O.mo (tgt := 27) dX11_of_20 (by decide) (fun hc8 => ?_) (fun hc8 => ?_)
    · replace h := (if_neg hc8).symm.trans h
      refine J_iconst O.mo (v := 0) dX11_of_27 (by decide) ?_
      exact w_X11_of_b28 hfl O hKP hmL hE h0 _ _ _ _ h
    · replace h := (if_pos hc8).symm.trans h
      refine J_iconst O.mo (v := 2) dX11_of_23 (by decide) ?_
      refine J_goto O.mo (tgt := 28) dX11_of_24 (by decide) ?_
      exact w_X11_of_b28 hfl O hKP hmL hE h0 _ _ _ _ h
  · replace h := (if_pos hc4).symm.trans h
    refine J_iconst O.mo (v := 1) dX11_of_9 (by decide) ?_
    refine J_goto O.mo (tgt := 28) dX11_of_10 (by decide) ?_
    exact w_X11_of_b28 hfl O hKP hmL hE h0 _ _ _ _ h
theorem c_X11_of {l : Launch} (hfl : l.stackTraces = false) {E : EE} {κ κ' : K} {a1 : Int32} {a2 : Int32} (h0 : PC 11 E 5 0 0) {rr : Int32} (h : f_X11_of E κ a1 a2 = some (κ', rr)) : Con l yX11_of cX11_of 4 (some .int) 3 43 [.inr (some (5, 0, 0)), .inl (.int a1), .inl (.int a2)] (E, κ) (E, κ') (some (.inl (.int rr))) := by
  exact Con_of hfl (by decide +kernel) (Nat.le_of_ble_eq_true rfl) rfl ⟨_, rfl, rfl⟩ (fun X B g O hKP hmL hE => w_X11_of hfl O hKP hmL hE h0 _ _ _ h)
def f_X11_register_b23 (E : EE) (κ : K) (x1 : Int32) (x2 : Int32) (xs0 : Int32) : Option (K × Int32) := bd (f_X11_refused E κ xs0) fun κ5 r7 => if r7 = 0 then gd (¬ (x1 < 0 ∨ 5 ≤ x1.toNatClampNeg)) (if (kV κ5 5 0 17) x1.toNatClampNeg = 0 then gd (¬ (((55 * x1) + x2) < 0 ∨ 275 ≤ ((55 * x1) + x2).toNatClampNeg)) (some (κ5, (kV κ5 5 0 1) ((55 * x1) + x2).toNatClampNeg)) else some (κ5, (-1))) else some (κ5, 0)
def f_X11_register_b22 (E : EE) (κ : K) (x1 : Int32) (x2 : Int32) : Option (K × Int32) := f_X11_register_b23 E κ x1 x2 1
def f_X11_register (E : EE) (κ : K) (a1 : Int32) (a2 : Int32) : Option (K × Int32) := bd (f_X11_isGuest E κ a1) fun κ1 r3 => if r3 = 0 then f_X11_register_b22 E κ1 a1 a2 else bd (f_X11_in E κ1 a2 0 3) fun κ12 r14 => if r14 = 0 then f_X11_register_b22 E κ12 a1 a2 else f_X11_register_b23 E κ12 a1 a2 0
set_option maxHeartbeats 4000000 in
set_option maxRecDepth 100000 in
theorem w_X11_register_b23 {l0 : Launch} (hfl : l0.stackTraces = false) {X : MX} {B : BX (EE × K)} {g : GP} {E : EE} {κ' : K} {rr : Int32} (O : CK l0 X B g cX11_register RX11 3 43) (hKP : KPok B E) (hmL : B.2.2.2.1 = 3) (hE : ∀ (pc : Nat) (lv : List (Nat × AV)), decode cX11_register pc = .ok (.ireturn, 1) → J X B (E, κ') pc lv [.inl (.int rr)]) (h0 : PC 11 E 5 0 0) : ∀ (κ : K) (x1 : Int32) (x2 : Int32) (xs0 : Int32), f_X11_register_b23 E κ x1 x2 xs0 = some (κ', rr) → J X B (E, κ) 23 [(0, .inr (some (5, 0, 0))), (1, .inl (.int x1)), (2, .inl (.int x2))] [.inl (.int xs0), .inr (some (5, 0, 0))] := by
  intro κ x1 x2 xs0 h
  unfold f_X11_register_b23 at h
  obtain ⟨κ5, r7, hq6, h⟩ := bd_some h
  refine J_callV O hKP (as := [.inl (.int xs0)]) (rest := []) (r := (some (.inl (.int r7)))) (c_X11_refused hfl h0 hq6) rfl (kd0 := 11) (k11_0 h0) (l11_0 h0) (T := TX11) (N := 42) rfl (by decide) mw605 mw606 mw607 mw517 mw608 pd_X11_refused rfl (by decide) rfl (Nat.le_of_ble_eq_true rfl) (sl_p (s11_0 h0) (sl_v (sl_v sl_0))) st_0 dX11_register_23 ?_
  show J X B (E, κ5) 26 [(0, .inr (some (5, 0, 0))), (1, .inl (.int x1)), (2, .inl (.int x2))] [.inl (.int r7)]
  refine J_if_eq O.mo (tgt := 31) dX11_register_26 (by decide) (fun hc8 => ?_) (fun hc8 => ?_)
  · replace h := (if_pos hc8).symm.trans h
    refine J_aload_n O.mo dX11_register_31 0 rfl ?_
    refine J_getF O.co (kd0 := 11) (k11_0 h0) (l11_0 h0) (C := RX11) (T := TX11) (N := 42) rfl (by decide) rfl in_X11 17 (by decide) (v := .inr (some (5, 0, 17))) rfl mw609 rfl dX11_register_32 ?_
    refine J_iload_n O.mo dX11_register_35 1 rfl ?_
    obtain ⟨hg9, h⟩ := gd_some h
    refine J_bald O.co (g := (kV κ5 5 0 17)) (ct_22n (l11_17 h0) (k11_17 h0) (n11_17 h0)) hg9 dX11_register_36 ?_
    refine J_if_eq O.mo (tgt := 44) dX11_register_37 (by decide) (fun hc10 => ?_) (fun hc10 => ?_)
    · replace h := (if_pos hc10).symm.trans h
      refine J_aload_n O.mo dX11_register_44 0 rfl ?_
      refine J_getF O.co (kd0 := 11) (k11_0 h0) (l11_0 h0) (C := RX11) (T := TX11) (N := 42) rfl (by decide) rfl in_X11 1 (by decide) (v := .inr (some (5, 0, 1))) rfl mw545 rfl dX11_register_45 ?_
      refine J_bipush O.mo (v := 55) dX11_register_48 (by decide) ?_
      refine J_iload_n O.mo dX11_register_50 1 rfl ?_
      refine J_imul O.mo dX11_register_51 ?_
      refine J_iload_n O.mo dX11_register_52 2 rfl ?_
      refine J_iadd O.mo dX11_register_53 ?_
      obtain ⟨hg11, h⟩ := gd_some h
      refine J_iald O.co (g := (kV κ5 5 0 1)) (ct_20n (l11_1 h0) (k11_1 h0) (n11_1 h0)) hg11 dX11_register_54 ?_
      cases h
      exact hE _ _ dX11_register_55
    · replace h := (if_neg hc10).symm.trans h
      refine J_iconst O.mo (v := (-1)) dX11_register_40 (by decide) ?_
      refine J_goto O.mo (tgt := 55) dX11_register_41 (by decide) ?_
      cases h
      exact hE _ _ dX11_register_55
  · replace h := (if_neg hc8).symm.trans h
    refine J_iconst O.mo (v := 0) dX11_register_29 (by decide) ?_
    cases h
    exact hE _ _ dX11_register_30
set_option maxHeartbeats 4000000 in
set_option maxRecDepth 100000 in
theorem w_X11_register_b22 {l0 : Launch} (hfl : l0.stackTraces = false) {X : MX} {B : BX (EE × K)} {g : GP} {E : EE} {κ' : K} {rr : Int32} (O : CK l0 X B g cX11_register RX11 3 43) (hKP : KPok B E) (hmL : B.2.2.2.1 = 3) (hE : ∀ (pc : Nat) (lv : List (Nat × AV)), decode cX11_register pc = .ok (.ireturn, 1) → J X B (E, κ') pc lv [.inl (.int rr)]) (h0 : PC 11 E 5 0 0) : ∀ (κ : K) (x1 : Int32) (x2 : Int32), f_X11_register_b22 E κ x1 x2 = some (κ', rr) → J X B (E, κ) 22 [(0, .inr (some (5, 0, 0))), (1, .inl (.int x1)), (2, .inl (.int x2))] [.inr (some (5, 0, 0))] := by
  intro κ x1 x2 h
  unfold f_X11_register_b22 at h
  refine J_iconst O.mo (v := 1) dX11_register_22 (by decide) ?_
  exact w_X11_register_b23 hfl O hKP hmL hE h0 _ _ _ _ h
set_option maxHeartbeats 4000000 in
set_option maxRecDepth 100000 in
theorem w_X11_register {l0 : Launch} (hfl : l0.stackTraces = false) {X : MX} {B : BX (EE × K)} {g : GP} {E : EE} {κ' : K} {rr : Int32} (O : CK l0 X B g cX11_register RX11 3 43) (hKP : KPok B E) (hmL : B.2.2.2.1 = 3) (hE : ∀ (pc : Nat) (lv : List (Nat × AV)), decode cX11_register pc = .ok (.ireturn, 1) → J X B (E, κ') pc lv [.inl (.int rr)]) (h0 : PC 11 E 5 0 0) : ∀ (κ : K) (a1 : Int32) (a2 : Int32), f_X11_register E κ a1 a2 = some (κ', rr) → J X B (E, κ) 0 [(0, .inr (some (5, 0, 0))), (1, .inl (.int a1)), (2, .inl (.int a2))] [] := by
  intro κ a1 a2 h
  unfold f_X11_register at h
  refine J_aload_n O.mo dX11_register_0 0 rfl ?_
  refine J_aload_n O.mo dX11_register_1 0 rfl ?_
  refine J_iload_n O.mo dX11_register_2 1 rfl ?_
  obtain ⟨κ1, r3, hq2, h⟩ := bd_some h
  refine J_callV O hKP (as := [.inl (.int a1)]) (rest := [.inr (some (5, 0, 0))]) (r := (some (.inl (.int r3)))) (c_X11_isGuest hfl h0 hq2) rfl (kd0 := 11) (k11_0 h0) (l11_0 h0) (T := TX11) (N := 42) rfl (by decide) mw611 mw612 mw613 mw517 mw614 pd_X11_isGuest rfl (by decide) rfl (Nat.le_of_ble_eq_true rfl) (sl_p (s11_0 h0) (sl_v (sl_v sl_0))) (st_p (s11_0 h0) st_0) dX11_register_3 ?_
  show J X B (E, κ1) 6 [(0, .inr (some (5, 0, 0))), (1, .inl (.int a1)), (2, .inl (.int a2))] [.inl (.int r3), .inr (some (5, 0, 0))]
  refine J_if_eq O.mo (tgt := 22) dX11_register_6 (by decide) (fun hc4 => ?_) (fun hc4 => ?_)
  · replace h := (if_pos hc4).symm.trans h
    exact w_X11_register_b22 hfl O hKP hmL hE h0 _ _ _ h
  · replace h := (if_neg hc4).symm.trans h
    refine J_iload_n O.mo dX11_register_9 2 rfl ?_
    refine J_iconst O.mo (v := 0) dX11_register_10 (by decide) ?_
    refine J_iconst O.mo (v := 3) dX11_register_11 (by decide) ?_
    obtain ⟨κ12, r14, hq13, h⟩ := bd_some h
    refine J_callS O hKP (as := [.inl (.int a2), .inl (.int 0), .inl (.int 3)]) (rest := [.inr (some (5, 0, 0))]) (r := (some (.inl (.int r14)))) (c_X11_in hfl hq13) rfl mw515 mw516 mw517 mw518 pd_X11_in rfl (by decide) rfl (Nat.le_of_ble_eq_true rfl) (sl_p (s11_0 h0) (sl_v (sl_v sl_0))) (st_p (s11_0 h0) st_0) dX11_register_12 ?_
    show J X B (E, κ12) 15 [(0, .inr (some (5, 0, 0))), (1, .inl (.int a1)), (2, .inl (.int a2))] [.inl (.int r14), .inr (some (5, 0, 0))]
    refine J_if_eq O.mo (tgt := 22) dX11_register_15 (by decide) (fun hc15 => ?_) (fun hc15 => ?_)
    · replace h := (if_pos hc15).symm.trans h
      exact w_X11_register_b22 hfl O hKP hmL hE h0 _ _ _ h
    · replace h := (if_neg hc15).symm.trans h
      refine J_iconst O.mo (v := 0) dX11_register_18 (by decide) ?_
      refine J_goto O.mo (tgt := 23) dX11_register_19 (by decide) ?_
      exact w_X11_register_b23 hfl O hKP hmL hE h0 _ _ _ _ h
theorem c_X11_register {l : Launch} (hfl : l.stackTraces = false) {E : EE} {κ κ' : K} {a1 : Int32} {a2 : Int32} (h0 : PC 11 E 5 0 0) {rr : Int32} (h : f_X11_register E κ a1 a2 = some (κ', rr)) : Con l yX11_register cX11_register 3 (some .int) 3 43 [.inr (some (5, 0, 0)), .inl (.int a1), .inl (.int a2)] (E, κ) (E, κ') (some (.inl (.int rr))) := by
  exact Con_of hfl (by decide +kernel) (Nat.le_of_ble_eq_true rfl) rfl ⟨_, rfl, rfl⟩ (fun X B g O hKP hmL hE => w_X11_register hfl O hKP hmL hE h0 _ _ _ h)
def f_X11_isPage_e (E : EE) (κ : K) (a1 : Int32) (a2 : Int32) : Option (K × Int32) := bd (f_X11_isGuest E κ a1) fun κ1 r3 => if r3 = 0 then some (κ1, 0) else bd (f_X11_in E κ1 a2 0 7) fun κ5 r7 => if r7 = 0 then some (κ5, 0) else some (κ5, 1)
def f_X11_isPage (E : EE) (κ : K) (a1 : Int32) (a2 : Int32) : Option (K × Int32) := bd (f_X11_isPage_e E κ a1 a2) fun κ x => gd (x = 0 ∨ x = 1) (some (κ, x))
set_option maxHeartbeats 4000000 in
set_option maxRecDepth 100000 in
theorem w_X11_isPage_e {l0 : Launch} (hfl : l0.stackTraces = false) {X : MX} {B : BX (EE × K)} {g : GP} {E : EE} {κ' : K} {rr : Int32} (O : CK l0 X B g cX11_isPage RX11 3 43) (hKP : KPok B E) (hmL : B.2.2.2.1 = 3) (hE : ∀ (pc : Nat) (lv : List (Nat × AV)), decode cX11_isPage pc = .ok (.ireturn, 1) → J X B (E, κ') pc lv [.inl (.int rr)]) (h0 : PC 11 E 5 0 0) : ∀ (κ : K) (a1 : Int32) (a2 : Int32), f_X11_isPage_e E κ a1 a2 = some (κ', rr) → J X B (E, κ) 0 [(0, .inr (some (5, 0, 0))), (1, .inl (.int a1)), (2, .inl (.int a2))] [] := by
  intro κ a1 a2 h
  unfold f_X11_isPage_e at h
  refine J_aload_n O.mo dX11_isPage_0 0 rfl ?_
  refine J_iload_n O.mo dX11_isPage_1 1 rfl ?_
  refine J_sub [2] rfl ?_
  obtain ⟨κ1, r3, hq2, h⟩ := bd_some h
  refine J_callV O hKP (as := [.inl (.int a1)]) (rest := []) (r := (some (.inl (.int r3)))) (c_X11_isGuest hfl h0 hq2) rfl (kd0 := 11) (k11_0 h0) (l11_0 h0) (T := TX11) (N := 42) rfl (by decide) mw611 mw612 mw613 mw517 mw614 pd_X11_isGuest rfl (by decide) rfl (Nat.le_of_ble_eq_true rfl) (sl_v sl_0) st_0 dX11_isPage_2 ?_
  show J X B (E, κ1) 5 [(2, .inl (.int a2))] [.inl (.int r3)]
  refine J_if_eq O.mo (tgt := 22) dX11_isPage_5 (by decide) (fun hc4 => ?_) (fun hc4 => ?_)
  · replace h := (if_pos hc4).symm.trans h
    refine J_iconst O.mo (v := 0) dX11_isPage_22 (by decide) ?_
    cases h
    exact hE _ _ dX11_isPage_23
  · replace h := (if_neg hc4).symm.trans h
    refine J_iload_n O.mo dX11_isPage_8 0 rfl ?_
    refine J_iconst O.mo (v := 0) dX11_isPage_9 (by decide) ?_
    refine J_bipush O.mo (v := 7) dX11_isPage_10 (by decide) ?_
    refine J_sub [] rfl ?_
    obtain ⟨κ5, r7, hq6, h⟩ := bd_some h
    refine J_callS O hKP (as := [.inl (.int a2), .inl (.int 0), .inl (.int 7)]) (rest := []) (r := (some (.inl (.int r7)))) (c_X11_in hfl hq6) rfl mw515 mw516 mw517 mw518 pd_X11_in rfl (by decide) rfl (Nat.le_of_ble_eq_true rfl) sl_0 st_0 dX11_isPage_12 ?_
    show J X B (E, κ5) 15 [] [.inl (.int r7)]
    refine J_if_eq O.mo (tgt := 22) dX11_isPage_15 (by decide) (fun hc8 => ?_) (fun hc8 => ?_)
    · replace h := (if_pos hc8).symm.trans h
      refine J_iconst O.mo (v := 0) dX11_isPage_22 (by decide) ?_
      cases h
      exact hE _ _ dX11_isPage_23
    · replace h := (if_neg hc8).symm.trans h
      refine J_iconst O.mo (v := 1) dX11_isPage_18 (by decide) ?_
      refine J_goto O.mo (tgt := 23) dX11_isPage_19 (by decide) ?_
      cases h
      exact hE _ _ dX11_isPage_23
theorem c_X11_isPage {l : Launch} (hfl : l.stackTraces = false) {E : EE} {κ κ' : K} {a1 : Int32} {a2 : Int32} (h0 : PC 11 E 5 0 0) {rr : Int32} (h : f_X11_isPage E κ a1 a2 = some (κ', rr)) : Con l yX11_isPage cX11_isPage 3 (some .boolean) 3 43 [.inr (some (5, 0, 0)), .inl (.int a1), .inl (.int a2)] (E, κ) (E, κ') (some (.inl (.int rr))) := by
  unfold f_X11_isPage at h
  obtain ⟨κ1, x1, q1, q2⟩ := bd_some h
  obtain ⟨hb, q3⟩ := gd_some q2
  cases q3
  exact Con_of hfl (by decide +kernel) (Nat.le_of_ble_eq_true rfl) rfl ⟨_, rfl, nar_b hb⟩ (fun X B g O hKP hmL hE => w_X11_isPage_e hfl O hKP hmL hE h0 _ _ _ q1)
def f_X11_word_b24 (E : EE) (κ : K) (x1 : Int32) (x2 : Int32) (x3 : Int32) (xs0 : Int32) : Option (K × Int32) := bd (f_X11_refused E κ xs0) fun κ5 r7 => if r7 = 0 then gd (¬ (x1 < 0 ∨ 5 ≤ x1.toNatClampNeg)) (if (kV κ5 5 0 17) x1.toNatClampNeg = 0 then gd (¬ (((((55 * x1) + 17) + (4 * x2)) + x3) < 0 ∨ 275 ≤ ((((55 * x1) + 17) + (4 * x2)) + x3).toNatClampNeg)) (some (κ5, (kV κ5 5 0 1) ((((55 * x1) + 17) + (4 * x2)) + x3).toNatClampNeg)) else some (κ5, (-1))) else some (κ5, 0)
def f_X11_word_b23 (E : EE) (κ : K) (x1 : Int32) (x2 : Int32) (x3 : Int32) : Option (K × Int32) := f_X11_word_b24 E κ x1 x2 x3 1
def f_X11_word (E : EE) (κ : K) (a1 : Int32) (a2 : Int32) (a3 : Int32) : Option (K × Int32) := bd (f_X11_isPage E κ a1 a2) fun κ1 r3 => if r3 = 0 then f_X11_word_b23 E κ1 a1 a2 a3 else bd (f_X11_in E κ1 a3 0 3) fun κ12 r14 => if r14 = 0 then f_X11_word_b23 E κ12 a1 a2 a3 else f_X11_word_b24 E κ12 a1 a2 a3 0
set_option maxHeartbeats 4000000 in
set_option maxRecDepth 100000 in
theorem w_X11_word_b24 {l0 : Launch} (hfl : l0.stackTraces = false) {X : MX} {B : BX (EE × K)} {g : GP} {E : EE} {κ' : K} {rr : Int32} (O : CK l0 X B g cX11_word RX11 4 65) (hKP : KPok B E) (hmL : B.2.2.2.1 = 4) (hE : ∀ (pc : Nat) (lv : List (Nat × AV)), decode cX11_word pc = .ok (.ireturn, 1) → J X B (E, κ') pc lv [.inl (.int rr)]) (h0 : PC 11 E 5 0 0) : ∀ (κ : K) (x1 : Int32) (x2 : Int32) (x3 : Int32) (xs0 : Int32), f_X11_word_b24 E κ x1 x2 x3 xs0 = some (κ', rr) → J X B (E, κ) 24 [(0, .inr (some (5, 0, 0))), (1, .inl (.int x1)), (2, .inl (.int x2)), (3, .inl (.int x3))] [.inl (.int xs0), .inr (some (5, 0, 0))] := by
  intro κ x1 x2 x3 xs0 h
  unfold f_X11_word_b24 at h
  obtain ⟨κ5, r7, hq6, h⟩ := bd_some h
  refine J_callV O hKP (as := [.inl (.int xs0)]) (rest := []) (r := (some (.inl (.int r7)))) (c_X11_refused hfl h0 hq6) rfl (kd0 := 11) (k11_0 h0) (l11_0 h0) (T := TX11) (N := 42) rfl (by decide) mw605 mw606 mw607 mw517 mw608 pd_X11_refused rfl (by decide) rfl (Nat.le_of_ble_eq_true rfl) (sl_p (s11_0 h0) (sl_v (sl_v (sl_v sl_0)))) st_0 dX11_word_24 ?_
  show J X B (E, κ5) 27 [(0, .inr (some (5, 0, 0))), (1, .inl (.int x1)), (2, .inl (.int x2)), (3, .inl (.int x3))] [.inl (.int r7)]
  refine J_if_eq O.mo (tgt := 32) dX11_word_27 (by decide) (fun hc8 => ?_) (fun hc8 => ?_)
  · replace h := (if_pos hc8).symm.trans h
    refine J_aload_n O.mo dX11_word_32 0 rfl ?_
    refine J_getF O.co (kd0 := 11) (k11_0 h0) (l11_0 h0) (C := RX11) (T := TX11) (N := 42) rfl (by decide) rfl in_X11 17 (by decide) (v := .inr (some (5, 0, 17))) rfl mw609 rfl dX11_word_33 ?_
    refine J_iload_n O.mo dX11_word_36 1 rfl ?_
    obtain ⟨hg9, h⟩ := gd_some h
    refine J_bald O.co (g := (kV κ5 5 0 17)) (ct_22n (l11_17 h0) (k11_17 h0) (n11_17 h0)) hg9 dX11_word_37 ?_
    refine J_if_eq O.mo (tgt := 45) dX11_word_38 (by decide) (fun hc10 => ?_) (fun hc10 => ?_)
    · replace h := (if_pos hc10).symm.trans h
      refine J_aload_n O.mo dX11_word_45 0 rfl ?_
      refine J_getF O.co (kd0 := 11) (k11_0 h0) (l11_0 h0) (C := RX11) (T := TX11) (N := 42) rfl (by decide) rfl in_X11 1 (by decide) (v := .inr (some (5, 0, 1))) rfl mw545 rfl dX11_word_46 ?_
      refine J_bipush O.mo (v := 55) dX11_word_49 (by decide) ?_
      refine J_iload_n O.mo dX11_word_51 1 rfl ?_
      refine J_imul O.mo dX11_word_52 ?_
      refine J_bipush O.mo (v := 17) dX11_word_53 (by decide) ?_
      refine J_iadd O.mo dX11_word_55 ?_
      refine J_iconst O.mo (v := 4) dX11_word_56 (by decide) ?_
      refine J_iload_n O.mo dX11_word_57 2 rfl ?_
      refine J_imul O.mo dX11_word_58 ?_
      refine J_iadd O.mo dX11_word_59 ?_
      refine J_iload_n O.mo dX11_word_60 3 rfl ?_
      refine J_iadd O.mo dX11_word_61 ?_
      obtain ⟨hg11, h⟩ := gd_some h
      refine J_iald O.co (g := (kV κ5 5 0 1)) (ct_20n (l11_1 h0) (k11_1 h0) (n11_1 h0)) hg11 dX11_word_62 ?_
      cases h
      exact hE _ _ dX11_word_63
    · replace h := (if_neg hc10).symm.trans h
      refine J_iconst O.mo (v := (-1)) dX11_word_41 (by decide) ?_
      refine J_goto O.mo (tgt := 63) dX11_word_42 (by decide) ?_
      cases h
      exact hE _ _ dX11_word_63
  · replace h := (if_neg hc8).symm.trans h
    refine J_iconst O.mo (v := 0) dX11_word_30 (by decide) ?_
    cases h
    exact hE _ _ dX11_word_31
set_option maxHeartbeats 4000000 in
set_option maxRecDepth 100000 in
theorem w_X11_word_b23 {l0 : Launch} (hfl : l0.stackTraces = false) {X : MX} {B : BX (EE × K)} {g : GP} {E : EE} {κ' : K} {rr : Int32} (O : CK l0 X B g cX11_word RX11 4 65) (hKP : KPok B E) (hmL : B.2.2.2.1 = 4) (hE : ∀ (pc : Nat) (lv : List (Nat × AV)), decode cX11_word pc = .ok (.ireturn, 1) → J X B (E, κ') pc lv [.inl (.int rr)]) (h0 : PC 11 E 5 0 0) : ∀ (κ : K) (x1 : Int32) (x2 : Int32) (x3 : Int32), f_X11_word_b23 E κ x1 x2 x3 = some (κ', rr) → J X B (E, κ) 23 [(0, .inr (some (5, 0, 0))), (1, .inl (.int x1)), (2, .inl (.int x2)), (3, .inl (.int x3))] [.inr (some (5, 0, 0))] := by
  intro κ x1 x2 x3 h
  unfold f_X11_word_b23 at h
  refine J_iconst O.mo (v := 1) dX11_word_23 (by decide) ?_
  exact w_X11_word_b24 hfl O hKP hmL hE h0 _ _ _ _ _ h
set_option maxHeartbeats 4000000 in
set_option maxRecDepth 100000 in
theorem w_X11_word {l0 : Launch} (hfl : l0.stackTraces = false) {X : MX} {B : BX (EE × K)} {g : GP} {E : EE} {κ' : K} {rr : Int32} (O : CK l0 X B g cX11_word RX11 4 65) (hKP : KPok B E) (hmL : B.2.2.2.1 = 4) (hE : ∀ (pc : Nat) (lv : List (Nat × AV)), decode cX11_word pc = .ok (.ireturn, 1) → J X B (E, κ') pc lv [.inl (.int rr)]) (h0 : PC 11 E 5 0 0) : ∀ (κ : K) (a1 : Int32) (a2 : Int32) (a3 : Int32), f_X11_word E κ a1 a2 a3 = some (κ', rr) → J X B (E, κ) 0 [(0, .inr (some (5, 0, 0))), (1, .inl (.int a1)), (2, .inl (.int a2)), (3, .inl (.int a3))] [] := by
  intro κ a1 a2 a3 h
  unfold f_X11_word at h
  refine J_aload_n O.mo dX11_word_0 0 rfl ?_
  refine J_aload_n O.mo dX11_word_1 0 rfl ?_
  refine J_iload_n O.mo dX11_word_2 1 rfl ?_
  refine J_iload_n O.mo dX11_word_3 2 rfl ?_
  obtain ⟨κ1, r3, hq2, h⟩ := bd_some h
  refine J_callV O hKP (as := [.inl (.int a1), .inl (.int a2)]) (rest := [.inr (some (5, 0, 0))]) (r := (some (.inl (.int r3)))) (c_X11_isPage hfl h0 hq2) rfl (kd0 := 11) (k11_0 h0) (l11_0 h0) (T := TX11) (N := 42) rfl (by decide) mw687 mw688 mw689 mw517 mw690 pd_X11_isPage rfl (by decide) rfl (Nat.le_of_ble_eq_true rfl) (sl_p (s11_0 h0) (sl_v (sl_v (sl_v sl_0)))) (st_p (s11_0 h0) st_0) dX11_word_4 ?_
  show J X B (E, κ1) 7 [(0, .inr (some (5, 0, 0))), (1, .inl (.int a1)), (2, .inl (.int a2)), (3, .inl (.int a3))] [.inl (.int r3), .inr (some (5, 0, 0))]
  refine J_if_eq O.mo (tgt := 23) dX11_word_7 (by decide) (fun hc4 => ?_) (fun hc4 => ?_)
  · replace h := (if_pos hc4).symm.trans h
    exact w_X11_word_b23 hfl O hKP hmL hE h0 _ _ _ _ h
  · replace h := (if_neg hc4).symm.trans h
    refine J_iload_n O.mo dX11_word_10 3 rfl ?_
    refine J_iconst O.mo (v := 0) dX11_word_11 (by decide) ?_
    refine J_iconst O.mo (v := 3) dX11_word_12 (by decide) ?_
    obtain ⟨κ12, r14, hq13, h⟩ := bd_some h
    refine J_callS O hKP (as := [.inl (.int a3), .inl (.int 0), .inl (.int 3)]) (rest := [.inr (some (5, 0, 0))]) (r := (some (.inl (.int r14)))) (c_X11_in hfl hq13) rfl mw515 mw516 mw517 mw518 pd_X11_in rfl (by decide) rfl (Nat.le_of_ble_eq_true rfl) (sl_p (s11_0 h0) (sl_v (sl_v (sl_v sl_0)))) (st_p (s11_0 h0) st_0) dX11_word_13 ?_
    show J X B (E, κ12) 16 [(0, .inr (some (5, 0, 0))), (1, .inl (.int a1)), (2, .inl (.int a2)), (3, .inl (.int a3))] [.inl (.int r14), .inr (some (5, 0, 0))]
    refine J_if_eq O.mo (tgt := 23) dX11_word_16 (by decide) (fun hc15 => ?_) (fun hc15 => ?_)
    · replace h := (if_pos hc15).symm.trans h
      exact w_X11_word_b23 hfl O hKP hmL hE h0 _ _ _ _ h
    · replace h := (if_neg hc15).symm.trans h
      refine J_iconst O.mo (v := 0) dX11_word_19 (by decide) ?_
      refine J_goto O.mo (tgt := 24) dX11_word_20 (by decide) ?_
      exact w_X11_word_b24 hfl O hKP hmL hE h0 _ _ _ _ _ h
theorem c_X11_word {l : Launch} (hfl : l.stackTraces = false) {E : EE} {κ κ' : K} {a1 : Int32} {a2 : Int32} {a3 : Int32} (h0 : PC 11 E 5 0 0) {rr : Int32} (h : f_X11_word E κ a1 a2 a3 = some (κ', rr)) : Con l yX11_word cX11_word 4 (some .int) 4 65 [.inr (some (5, 0, 0)), .inl (.int a1), .inl (.int a2), .inl (.int a3)] (E, κ) (E, κ') (some (.inl (.int rr))) := by
  exact Con_of hfl (by decide +kernel) (Nat.le_of_ble_eq_true rfl) rfl ⟨_, rfl, rfl⟩ (fun X B g O hKP hmL hE => w_X11_word hfl O hKP hmL hE h0 _ _ _ _ h)
def f_X11_pageOf_b15 (E : EE) (κ : K) (x1 : Int32) (x2 : Int32) (xs0 : Int32) : Option (K × Int32) := bd (f_X11_refused E κ xs0) fun κ5 r7 => if r7 = 0 then gd (¬ (((8 * x1) + x2) < 0 ∨ 40 ≤ ((8 * x1) + x2).toNatClampNeg)) (some (κ5, (kV κ5 5 0 27) ((8 * x1) + x2).toNatClampNeg)) else some (κ5, 0)
def f_X11_pageOf (E : EE) (κ : K) (a1 : Int32) (a2 : Int32) : Option (K × Int32) := bd (f_X11_isPage E κ a1 a2) fun κ1 r3 => if r3 = 0 then f_X11_pageOf_b15 E κ1 a1 a2 1 else f_X11_pageOf_b15 E κ1 a1 a2 0
set_option maxHeartbeats 4000000 in
set_option maxRecDepth 100000 in
theorem w_X11_pageOf_b15 {l0 : Launch} (hfl : l0.stackTraces = false) {X : MX} {B : BX (EE × K)} {g : GP} {E : EE} {κ' : K} {rr : Int32} (O : CK l0 X B g cX11_pageOf RX11 4 65) (hKP : KPok B E) (hmL : B.2.2.2.1 = 3) (hE : ∀ (pc : Nat) (lv : List (Nat × AV)), decode cX11_pageOf pc = .ok (.ireturn, 1) → J X B (E, κ') pc lv [.inl (.int rr)]) (h0 : PC 11 E 5 0 0) : ∀ (κ : K) (x1 : Int32) (x2 : Int32) (xs0 : Int32), f_X11_pageOf_b15 E κ x1 x2 xs0 = some (κ', rr) → J X B (E, κ) 15 [(0, .inr (some (5, 0, 0))), (1, .inl (.int x1)), (2, .inl (.int x2))] [.inl (.int xs0), .inr (some (5, 0, 0))] := by
  intro κ x1 x2 xs0 h
  unfold f_X11_pageOf_b15 at h
  obtain ⟨κ5, r7, hq6, h⟩ := bd_some h
  refine J_callV O hKP (as := [.inl (.int xs0)]) (rest := []) (r := (some (.inl (.int r7)))) (c_X11_refused hfl h0 hq6) rfl (kd0 := 11) (k11_0 h0) (l11_0 h0) (T := TX11) (N := 42) rfl (by decide) mw605 mw606 mw607 mw517 mw608 pd_X11_refused rfl (by decide) rfl (Nat.le_of_ble_eq_true rfl) (sl_p (s11_0 h0) (sl_v (sl_v sl_0))) st_0 dX11_pageOf_15 ?_
  show J X B (E, κ5) 18 [(0, .inr (some (5, 0, 0))), (1, .inl (.int x1)), (2, .inl (.int x2))] [.inl (.int r7)]
  refine J_if_eq O.mo (tgt := 25) dX11_pageOf_18 (by decide) (fun hc8 => ?_) (fun hc8 => ?_)
  · replace h := (if_pos hc8).symm.trans h
    refine J_aload_n O.mo dX11_pageOf_25 0 rfl ?_
    refine J_getF O.co (kd0 := 11) (k11_0 h0) (l11_0 h0) (C := RX11) (T := TX11) (N := 42) rfl (by decide) rfl in_X11 27 (by decide) (v := .inr (some (5, 0, 27))) rfl mw528 rfl dX11_pageOf_26 ?_
    refine J_bipush O.mo (v := 8) dX11_pageOf_29 (by decide) ?_
    refine J_iload_n O.mo dX11_pageOf_31 1 rfl ?_
    refine J_imul O.mo dX11_pageOf_32 ?_
    refine J_iload_n O.mo dX11_pageOf_33 2 rfl ?_
    refine J_iadd O.mo dX11_pageOf_34 ?_
    obtain ⟨hg9, h⟩ := gd_some h
    refine J_iald O.co (g := (kV κ5 5 0 27)) (ct_20n (l11_27 h0) (k11_27 h0) (n11_27 h0)) hg9 dX11_pageOf_35 ?_
    cases h
    exact hE _ _ dX11_pageOf_36
  · replace h := (if_neg hc8).symm.trans h
    refine J_iconst O.mo (v := 0) dX11_pageOf_21 (by decide) ?_
    refine J_goto O.mo (tgt := 36) dX11_pageOf_22 (by decide) ?_
    cases h
    exact hE _ _ dX11_pageOf_36
set_option maxHeartbeats 4000000 in
set_option maxRecDepth 100000 in
theorem w_X11_pageOf {l0 : Launch} (hfl : l0.stackTraces = false) {X : MX} {B : BX (EE × K)} {g : GP} {E : EE} {κ' : K} {rr : Int32} (O : CK l0 X B g cX11_pageOf RX11 4 65) (hKP : KPok B E) (hmL : B.2.2.2.1 = 3) (hE : ∀ (pc : Nat) (lv : List (Nat × AV)), decode cX11_pageOf pc = .ok (.ireturn, 1) → J X B (E, κ') pc lv [.inl (.int rr)]) (h0 : PC 11 E 5 0 0) : ∀ (κ : K) (a1 : Int32) (a2 : Int32), f_X11_pageOf E κ a1 a2 = some (κ', rr) → J X B (E, κ) 0 [(0, .inr (some (5, 0, 0))), (1, .inl (.int a1)), (2, .inl (.int a2))] [] := by
  intro κ a1 a2 h
  unfold f_X11_pageOf at h
  refine J_aload_n O.mo dX11_pageOf_0 0 rfl ?_
  refine J_aload_n O.mo dX11_pageOf_1 0 rfl ?_
  refine J_iload_n O.mo dX11_pageOf_2 1 rfl ?_
  refine J_iload_n O.mo dX11_pageOf_3 2 rfl ?_
  obtain ⟨κ1, r3, hq2, h⟩ := bd_some h
  refine J_callV O hKP (as := [.inl (.int a1), .inl (.int a2)]) (rest := [.inr (some (5, 0, 0))]) (r := (some (.inl (.int r3)))) (c_X11_isPage hfl h0 hq2) rfl (kd0 := 11) (k11_0 h0) (l11_0 h0) (T := TX11) (N := 42) rfl (by decide) mw687 mw688 mw689 mw517 mw690 pd_X11_isPage rfl (by decide) rfl (Nat.le_of_ble_eq_true rfl) (sl_p (s11_0 h0) (sl_v (sl_v sl_0))) (st_p (s11_0 h0) st_0) dX11_pageOf_4 ?_
  show J X B (E, κ1) 7 [(0, .inr (some (5, 0, 0))), (1, .inl (.int a1)), (2, .inl (.int a2))] [.inl (.int r3), .inr (some (5, 0, 0))]
  refine J_if_eq O.mo (tgt := 14) dX11_pageOf_7 (by decide) (fun hc4 => ?_) (fun hc4 => ?_)
  · replace h := (if_pos hc4).symm.trans h
    refine J_iconst O.mo (v := 1) dX11_pageOf_14 (by decide) ?_
    exact w_X11_pageOf_b15 hfl O hKP hmL hE h0 _ _ _ _ h
  · replace h := (if_neg hc4).symm.trans h
    refine J_iconst O.mo (v := 0) dX11_pageOf_10 (by decide) ?_
    refine J_goto O.mo (tgt := 15) dX11_pageOf_11 (by decide) ?_
    exact w_X11_pageOf_b15 hfl O hKP hmL hE h0 _ _ _ _ h
theorem c_X11_pageOf {l : Launch} (hfl : l.stackTraces = false) {E : EE} {κ κ' : K} {a1 : Int32} {a2 : Int32} (h0 : PC 11 E 5 0 0) {rr : Int32} (h : f_X11_pageOf E κ a1 a2 = some (κ', rr)) : Con l yX11_pageOf cX11_pageOf 3 (some .int) 4 65 [.inr (some (5, 0, 0)), .inl (.int a1), .inl (.int a2)] (E, κ) (E, κ') (some (.inl (.int rr))) := by
  exact Con_of hfl (by decide +kernel) (Nat.le_of_ble_eq_true rfl) rfl ⟨_, rfl, rfl⟩ (fun X B g O hKP hmL hE => w_X11_pageOf hfl O hKP hmL hE h0 _ _ _ h)
def f_X11_frameOf_b15 (E : EE) (κ : K) (x1 : Int32) (x2 : Int32) (xs0 : Int32) : Option (K × Int32) := bd (f_X11_refused E κ xs0) fun κ5 r7 => if r7 = 0 then gd (¬ (((8 * x1) + x2) < 0 ∨ 40 ≤ ((8 * x1) + x2).toNatClampNeg)) (some (κ5, (kV κ5 5 0 28) ((8 * x1) + x2).toNatClampNeg)) else some (κ5, 0)
def f_X11_frameOf (E : EE) (κ : K) (a1 : Int32) (a2 : Int32) : Option (K × Int32) := bd (f_X11_isPage E κ a1 a2) fun κ1 r3 => if r3 = 0 then f_X11_frameOf_b15 E κ1 a1 a2 1 else f_X11_frameOf_b15 E κ1 a1 a2 0
set_option maxHeartbeats 4000000 in
set_option maxRecDepth 100000 in
theorem w_X11_frameOf_b15 {l0 : Launch} (hfl : l0.stackTraces = false) {X : MX} {B : BX (EE × K)} {g : GP} {E : EE} {κ' : K} {rr : Int32} (O : CK l0 X B g cX11_frameOf RX11 4 65) (hKP : KPok B E) (hmL : B.2.2.2.1 = 3) (hE : ∀ (pc : Nat) (lv : List (Nat × AV)), decode cX11_frameOf pc = .ok (.ireturn, 1) → J X B (E, κ') pc lv [.inl (.int rr)]) (h0 : PC 11 E 5 0 0) : ∀ (κ : K) (x1 : Int32) (x2 : Int32) (xs0 : Int32), f_X11_frameOf_b15 E κ x1 x2 xs0 = some (κ', rr) → J X B (E, κ) 15 [(0, .inr (some (5, 0, 0))), (1, .inl (.int x1)), (2, .inl (.int x2))] [.inl (.int xs0), .inr (some (5, 0, 0))] := by
  intro κ x1 x2 xs0 h
  unfold f_X11_frameOf_b15 at h
  obtain ⟨κ5, r7, hq6, h⟩ := bd_some h
  refine J_callV O hKP (as := [.inl (.int xs0)]) (rest := []) (r := (some (.inl (.int r7)))) (c_X11_refused hfl h0 hq6) rfl (kd0 := 11) (k11_0 h0) (l11_0 h0) (T := TX11) (N := 42) rfl (by decide) mw605 mw606 mw607 mw517 mw608 pd_X11_refused rfl (by decide) rfl (Nat.le_of_ble_eq_true rfl) (sl_p (s11_0 h0) (sl_v (sl_v sl_0))) st_0 dX11_frameOf_15 ?_
  show J X B (E, κ5) 18 [(0, .inr (some (5, 0, 0))), (1, .inl (.int x1)), (2, .inl (.int x2))] [.inl (.int r7)]
  refine J_if_eq O.mo (tgt := 25) dX11_frameOf_18 (by decide) (fun hc8 => ?_) (fun hc8 => ?_)
  · replace h := (if_pos hc8).symm.trans h
    refine J_aload_n O.mo dX11_frameOf_25 0 rfl ?_
    refine J_getF O.co (kd0 := 11) (k11_0 h0) (l11_0 h0) (C := RX11) (T := TX11) (N := 42) rfl (by decide) rfl in_X11 28 (by decide) (v := .inr (some (5, 0, 28))) rfl mw527 rfl dX11_frameOf_26 ?_
    refine J_bipush O.mo (v := 8) dX11_frameOf_29 (by decide) ?_
    refine J_iload_n O.mo dX11_frameOf_31 1 rfl ?_
    refine J_imul O.mo dX11_frameOf_32 ?_
    refine J_iload_n O.mo dX11_frameOf_33 2 rfl ?_
    refine J_iadd O.mo dX11_frameOf_34 ?_
    obtain ⟨hg9, h⟩ := gd_some h
    refine J_iald O.co (g := (kV κ5 5 0 28)) (ct_20n (l11_28 h0) (k11_28 h0) (n11_28 h0)) hg9 dX11_frameOf_35 ?_
    cases h
    exact hE _ _ dX11_frameOf_36
  · replace h := (if_neg hc8).symm.trans h
    refine J_iconst O.mo (v := 0) dX11_frameOf_21 (by decide) ?_
    refine J_goto O.mo (tgt := 36) dX11_frameOf_22 (by decide) ?_
    cases h
    exact hE _ _ dX11_frameOf_36
set_option maxHeartbeats 4000000 in
set_option maxRecDepth 100000 in
theorem w_X11_frameOf {l0 : Launch} (hfl : l0.stackTraces = false) {X : MX} {B : BX (EE × K)} {g : GP} {E : EE} {κ' : K} {rr : Int32} (O : CK l0 X B g cX11_frameOf RX11 4 65) (hKP : KPok B E) (hmL : B.2.2.2.1 = 3) (hE : ∀ (pc : Nat) (lv : List (Nat × AV)), decode cX11_frameOf pc = .ok (.ireturn, 1) → J X B (E, κ') pc lv [.inl (.int rr)]) (h0 : PC 11 E 5 0 0) : ∀ (κ : K) (a1 : Int32) (a2 : Int32), f_X11_frameOf E κ a1 a2 = some (κ', rr) → J X B (E, κ) 0 [(0, .inr (some (5, 0, 0))), (1, .inl (.int a1)), (2, .inl (.int a2))] [] := by
  intro κ a1 a2 h
  unfold f_X11_frameOf at h
  refine J_aload_n O.mo dX11_frameOf_0 0 rfl ?_
  refine J_aload_n O.mo dX11_frameOf_1 0 rfl ?_
  refine J_iload_n O.mo dX11_frameOf_2 1 rfl ?_
  refine J_iload_n O.mo dX11_frameOf_3 2 rfl ?_
  obtain ⟨κ1, r3, hq2, h⟩ := bd_some h
  refine J_callV O hKP (as := [.inl (.int a1), .inl (.int a2)]) (rest := [.inr (some (5, 0, 0))]) (r := (some (.inl (.int r3)))) (c_X11_isPage hfl h0 hq2) rfl (kd0 := 11) (k11_0 h0) (l11_0 h0) (T := TX11) (N := 42) rfl (by decide) mw687 mw688 mw689 mw517 mw690 pd_X11_isPage rfl (by decide) rfl (Nat.le_of_ble_eq_true rfl) (sl_p (s11_0 h0) (sl_v (sl_v sl_0))) (st_p (s11_0 h0) st_0) dX11_frameOf_4 ?_
  show J X B (E, κ1) 7 [(0, .inr (some (5, 0, 0))), (1, .inl (.int a1)), (2, .inl (.int a2))] [.inl (.int r3), .inr (some (5, 0, 0))]
  refine J_if_eq O.mo (tgt := 14) dX11_frameOf_7 (by decide) (fun hc4 => ?_) (fun hc4 => ?_)
  · replace h := (if_pos hc4).symm.trans h
    refine J_iconst O.mo (v := 1) dX11_frameOf_14 (by decide) ?_
    exact w_X11_frameOf_b15 hfl O hKP hmL hE h0 _ _ _ _ h
  · replace h := (if_neg hc4).symm.trans h
    refine J_iconst O.mo (v := 0) dX11_frameOf_10 (by decide) ?_
    refine J_goto O.mo (tgt := 15) dX11_frameOf_11 (by decide) ?_
    exact w_X11_frameOf_b15 hfl O hKP hmL hE h0 _ _ _ _ h
theorem c_X11_frameOf {l : Launch} (hfl : l.stackTraces = false) {E : EE} {κ κ' : K} {a1 : Int32} {a2 : Int32} (h0 : PC 11 E 5 0 0) {rr : Int32} (h : f_X11_frameOf E κ a1 a2 = some (κ', rr)) : Con l yX11_frameOf cX11_frameOf 3 (some .int) 4 65 [.inr (some (5, 0, 0)), .inl (.int a1), .inl (.int a2)] (E, κ) (E, κ') (some (.inl (.int rr))) := by
  exact Con_of hfl (by decide +kernel) (Nat.le_of_ble_eq_true rfl) rfl ⟨_, rfl, rfl⟩ (fun X B g O hKP hmL hE => w_X11_frameOf hfl O hKP hmL hE h0 _ _ _ h)
def f_X11_used_b49 (E : EE) (k27 : K → Int32 → Int32 → Int32 → Option (K × Int32)) (κ : K) (x1 : Int32) (x3 : Int32) (xs0 : Int32) (xs1 : Int32) : Option (K × Int32) := nm (xs1 + xs0) fun y14 => nm (x3 + 1) fun y15 => k27 κ x1 y14 y15
def f_X11_used_b27 (E : EE) : Nat → K → Int32 → Int32 → Int32 → Option (K × Int32)
  | 0, _, _, _, _ => none
  | n + 1, κ, x1, x2, x3 => if 16 ≤ x3 then some (κ, x2) else bd (f_X11_pageIn E κ x1 x3) fun κ10 r12 => if r12 = (-1) then f_X11_used_b49 E (f_X11_used_b27 E n) κ10 x1 x3 0 x2 else f_X11_used_b49 E (f_X11_used_b27 E n) κ10 x1 x3 1 x2
def f_X11_used_b15 (E : EE) (κ : K) (x1 : Int32) (xs0 : Int32) : Option (K × Int32) := bd (f_X11_refused E κ xs0) fun κ5 r7 => if r7 = 0 then f_X11_used_b27 E FU κ5 x1 0 0 else some (κ5, 0)
def f_X11_used (E : EE) (κ : K) (a1 : Int32) : Option (K × Int32) := bd (f_X11_in E κ a1 0 1) fun κ1 r3 => if r3 = 0 then f_X11_used_b15 E κ1 a1 1 else f_X11_used_b15 E κ1 a1 0
set_option maxHeartbeats 4000000 in
set_option maxRecDepth 100000 in
theorem w_X11_used_b49 {l0 : Launch} (hfl : l0.stackTraces = false) {X : MX} {B : BX (EE × K)} {g : GP} {E : EE} {κ' : K} {rr : Int32} (O : CK l0 X B g cX11_used RX11 2 24) (hKP : KPok B E) (hmL : B.2.2.2.1 = 4) (hE : ∀ (pc : Nat) (lv : List (Nat × AV)), decode cX11_used pc = .ok (.ireturn, 1) → J X B (E, κ') pc lv [.inl (.int rr)]) (h0 : PC 11 E 5 0 0) {k27 : K → Int32 → Int32 → Int32 → Option (K × Int32)} (hk27 : ∀ (κ : K) (x1 : Int32) (x2 : Int32) (x3 : Int32), k27 κ x1 x2 x3 = some (κ', rr) → J X B (E, κ) 27 [(0, .inr (some (5, 0, 0))), (1, .inl (.int x1)), (2, .inl (.int x2)), (3, .inl (.int x3))] []) : ∀ (κ : K) (x1 : Int32) (x3 : Int32) (xs0 : Int32) (xs1 : Int32), f_X11_used_b49 E k27 κ x1 x3 xs0 xs1 = some (κ', rr) → J X B (E, κ) 49 [(0, .inr (some (5, 0, 0))), (1, .inl (.int x1)), (3, .inl (.int x3))] [.inl (.int xs0), .inl (.int xs1)] := by
  intro κ x1 x3 xs0 xs1 h
  unfold f_X11_used_b49 at h
  refine J_iadd O.mo dX11_used_49 ?_
  refine J_istore_n O.mo (lv' := [(0, .inr (some (5, 0, 0))), (1, .inl (.int x1)), (3, .inl (.int x3))]) dX11_used_50 (by rw [hmL]; decide) rfl rfl ?_
  refine nm_some (P := fun z => J X B (E, κ) 51 [(2, .inl (.int z)), (0, .inr (some (5, 0, 0))), (1, .inl (.int x1)), (3, .inl (.int x3))] []) h (fun y14 h => ?_)
  refine J_iinc O.mo (v := x3 + 1) (lv' := [(2, .inl (.int y14)), (0, .inr (some (5, 0, 0))), (1, .inl (.int x1))]) dX11_used_51 (by rw [hmL]; decide) 3 rfl (by rw [show Int32.ofInt (1) = (1 : Int32) from by decide]) rfl rfl ?_
  refine nm_some (P := fun z => J X B (E, κ) 54 [(3, .inl (.int z)), (2, .inl (.int y14)), (0, .inr (some (5, 0, 0))), (1, .inl (.int x1))] []) h (fun y15 h => ?_)
  refine J_goto O.mo (tgt := 27) dX11_used_54 (by decide) ?_
  refine J_sub [2, 3, 1, 0] rfl ?_
  exact hk27 _ _ _ _ h
set_option maxHeartbeats 4000000 in
set_option maxRecDepth 100000 in
theorem w_X11_used_b27 {l0 : Launch} (hfl : l0.stackTraces = false) {X : MX} {B : BX (EE × K)} {g : GP} {E : EE} {κ' : K} {rr : Int32} (O : CK l0 X B g cX11_used RX11 2 24) (hKP : KPok B E) (hmL : B.2.2.2.1 = 4) (hE : ∀ (pc : Nat) (lv : List (Nat × AV)), decode cX11_used pc = .ok (.ireturn, 1) → J X B (E, κ') pc lv [.inl (.int rr)]) (h0 : PC 11 E 5 0 0) : ∀ (n : Nat) (κ : K) (x1 : Int32) (x2 : Int32) (x3 : Int32), f_X11_used_b27 E n κ x1 x2 x3 = some (κ', rr) → J X B (E, κ) 27 [(0, .inr (some (5, 0, 0))), (1, .inl (.int x1)), (2, .inl (.int x2)), (3, .inl (.int x3))] [] := by
  intro n
  induction n with
  | zero => intro κ x1 x2 x3 h; cases h
  | succ n ih =>
    intro κ x1 x2 x3 h
    rw [f_X11_used_b27] at h
    refine J_iload_n O.mo dX11_used_27 3 rfl ?_
    refine J_bipush O.mo (v := 16) dX11_used_28 (by decide) ?_
    refine J_icmp_ge O.mo (tgt := 57) dX11_used_30 (by decide) (fun hc9 => ?_) (fun hc9 => ?_)
    · replace h := (if_pos hc9).symm.trans h
      refine J_iload_n O.mo dX11_used_57 2 rfl ?_
      cases h
      exact hE _ _ dX11_used_58
    · replace h := (if_neg hc9).symm.trans h
      refine J_iload_n O.mo dX11_used_33 2 rfl ?_
      refine J_aload_n O.mo dX11_used_34 0 rfl ?_
      refine J_iload_n O.mo dX11_used_35 1 rfl ?_
      refine J_iload_n O.mo dX11_used_36 3 rfl ?_
      refine J_sub [0, 1, 3] rfl ?_
      obtain ⟨κ10, r12, hq11, h⟩ := bd_some h
      refine J_callV O hKP (as := [.inl (.int x1), .inl (.int x3)]) (rest := [.inl (.int x2)]) (r := (some (.inl (.int r12)))) (c_X11_pageIn hfl h0 hq11) rfl (kd0 := 11) (k11_0 h0) (l11_0 h0) (T := TX11) (N := 42) rfl (by decide) mw529 mw530 mw531 mw517 mw532 pd_X11_pageIn rfl (by decide) rfl (Nat.le_of_ble_eq_true rfl) (sl_p (s11_0 h0) (sl_v (sl_v sl_0))) (st_v st_0) dX11_used_37 ?_
      show J X B (E, κ10) 40 [(0, .inr (some (5, 0, 0))), (1, .inl (.int x1)), (3, .inl (.int x3))] [.inl (.int r12), .inl (.int x2)]
      refine J_iconst O.mo (v := (-1)) dX11_used_40 (by decide) ?_
      refine J_icmp_ne O.mo (tgt := 48) dX11_used_41 (by decide) (fun hc13 => ?_) (fun hc13 => ?_)
      · replace h := (if_neg hc13).symm.trans h
        refine J_iconst O.mo (v := 1) dX11_used_48 (by decide) ?_
        exact w_X11_used_b49 hfl O hKP hmL hE h0 ih _ _ _ _ _ h
      · replace h := (if_pos hc13).symm.trans h
        refine J_iconst O.mo (v := 0) dX11_used_44 (by decide) ?_
        refine J_goto O.mo (tgt := 49) dX11_used_45 (by decide) ?_
        exact w_X11_used_b49 hfl O hKP hmL hE h0 ih _ _ _ _ _ h
set_option maxHeartbeats 4000000 in
set_option maxRecDepth 100000 in
theorem w_X11_used_b15 {l0 : Launch} (hfl : l0.stackTraces = false) {X : MX} {B : BX (EE × K)} {g : GP} {E : EE} {κ' : K} {rr : Int32} (O : CK l0 X B g cX11_used RX11 2 24) (hKP : KPok B E) (hmL : B.2.2.2.1 = 4) (hE : ∀ (pc : Nat) (lv : List (Nat × AV)), decode cX11_used pc = .ok (.ireturn, 1) → J X B (E, κ') pc lv [.inl (.int rr)]) (h0 : PC 11 E 5 0 0) : ∀ (κ : K) (x1 : Int32) (xs0 : Int32), f_X11_used_b15 E κ x1 xs0 = some (κ', rr) → J X B (E, κ) 15 [(0, .inr (some (5, 0, 0))), (1, .inl (.int x1))] [.inl (.int xs0), .inr (some (5, 0, 0))] := by
  intro κ x1 xs0 h
  unfold f_X11_used_b15 at h
  obtain ⟨κ5, r7, hq6, h⟩ := bd_some h
  refine J_callV O hKP (as := [.inl (.int xs0)]) (rest := []) (r := (some (.inl (.int r7)))) (c_X11_refused hfl h0 hq6) rfl (kd0 := 11) (k11_0 h0) (l11_0 h0) (T := TX11) (N := 42) rfl (by decide) mw605 mw606 mw607 mw517 mw608 pd_X11_refused rfl (by decide) rfl (Nat.le_of_ble_eq_true rfl) (sl_p (s11_0 h0) (sl_v sl_0)) st_0 dX11_used_15 ?_
  show J X B (E, κ5) 18 [(0, .inr (some (5, 0, 0))), (1, .inl (.int x1))] [.inl (.int r7)]
  refine J_if_eq O.mo (tgt := 23) dX11_used_18 (by decide) (fun hc8 => ?_) (fun hc8 => ?_)
  · replace h := (if_pos hc8).symm.trans h
    refine J_iconst O.mo (v := 0) dX11_used_23 (by decide) ?_
    refine J_istore_n O.mo (lv' := [(0, .inr (some (5, 0, 0))), (1, .inl (.int x1))]) dX11_used_24 (by rw [hmL]; decide) rfl rfl ?_
    refine J_iconst O.mo (v := 0) dX11_used_25 (by decide) ?_
    refine J_istore_n O.mo (lv' := [(2, .inl (.int 0)), (0, .inr (some (5, 0, 0))), (1, .inl (.int x1))]) dX11_used_26 (by rw [hmL]; decide) rfl rfl ?_
    refine J_sub [2, 3, 1, 0] rfl ?_
    exact w_X11_used_b27 hfl O hKP hmL hE h0 FU _ _ _ _ h
  · replace h := (if_neg hc8).symm.trans h
    refine J_iconst O.mo (v := 0) dX11_used_21 (by decide) ?_
    cases h
    exact hE _ _ dX11_used_22
set_option maxHeartbeats 4000000 in
set_option maxRecDepth 100000 in
theorem w_X11_used {l0 : Launch} (hfl : l0.stackTraces = false) {X : MX} {B : BX (EE × K)} {g : GP} {E : EE} {κ' : K} {rr : Int32} (O : CK l0 X B g cX11_used RX11 2 24) (hKP : KPok B E) (hmL : B.2.2.2.1 = 4) (hE : ∀ (pc : Nat) (lv : List (Nat × AV)), decode cX11_used pc = .ok (.ireturn, 1) → J X B (E, κ') pc lv [.inl (.int rr)]) (h0 : PC 11 E 5 0 0) : ∀ (κ : K) (a1 : Int32), f_X11_used E κ a1 = some (κ', rr) → J X B (E, κ) 0 [(0, .inr (some (5, 0, 0))), (1, .inl (.int a1))] [] := by
  intro κ a1 h
  unfold f_X11_used at h
  refine J_aload_n O.mo dX11_used_0 0 rfl ?_
  refine J_iload_n O.mo dX11_used_1 1 rfl ?_
  refine J_iconst O.mo (v := 0) dX11_used_2 (by decide) ?_
  refine J_iconst O.mo (v := 1) dX11_used_3 (by decide) ?_
  obtain ⟨κ1, r3, hq2, h⟩ := bd_some h
  refine J_callS O hKP (as := [.inl (.int a1), .inl (.int 0), .inl (.int 1)]) (rest := [.inr (some (5, 0, 0))]) (r := (some (.inl (.int r3)))) (c_X11_in hfl hq2) rfl mw515 mw516 mw517 mw518 pd_X11_in rfl (by decide) rfl (Nat.le_of_ble_eq_true rfl) (sl_p (s11_0 h0) (sl_v sl_0)) (st_p (s11_0 h0) st_0) dX11_used_4 ?_
  show J X B (E, κ1) 7 [(0, .inr (some (5, 0, 0))), (1, .inl (.int a1))] [.inl (.int r3), .inr (some (5, 0, 0))]
  refine J_if_eq O.mo (tgt := 14) dX11_used_7 (by decide) (fun hc4 => ?_) (fun hc4 => ?_)
  · replace h := (if_pos hc4).symm.trans h
    refine J_iconst O.mo (v := 1) dX11_used_14 (by decide) ?_
    exact w_X11_used_b15 hfl O hKP hmL hE h0 _ _ _ h
  · replace h := (if_neg hc4).symm.trans h
    refine J_iconst O.mo (v := 0) dX11_used_10 (by decide) ?_
    refine J_goto O.mo (tgt := 15) dX11_used_11 (by decide) ?_
    exact w_X11_used_b15 hfl O hKP hmL hE h0 _ _ _ h
theorem c_X11_used {l : Launch} (hfl : l.stackTraces = false) {E : EE} {κ κ' : K} {a1 : Int32} (h0 : PC 11 E 5 0 0) {rr : Int32} (h : f_X11_used E κ a1 = some (κ', rr)) : Con l yX11_used cX11_used 4 (some .int) 2 24 [.inr (some (5, 0, 0)), .inl (.int a1)] (E, κ) (E, κ') (some (.inl (.int rr))) := by
  exact Con_of hfl (by decide +kernel) (Nat.le_of_ble_eq_true rfl) rfl ⟨_, rfl, rfl⟩ (fun X B g O hKP hmL hE => w_X11_used hfl O hKP hmL hE h0 _ _ h)
def f_X11_exits_b27 (E : EE) (κ : K) (x1 : Int32) (x2 : Int32) (xs0 : Int32) : Option (K × Int32) := bd (f_X11_refused E κ xs0) fun κ9 r11 => if r11 = 0 then gd (¬ (((6 * x1) + x2) < 0 ∨ 30 ≤ ((6 * x1) + x2).toNatClampNeg)) (some (κ9, (kV κ9 5 0 25) ((6 * x1) + x2).toNatClampNeg)) else some (κ9, 0)
def f_X11_exits (E : EE) (κ : K) (a1 : Int32) (a2 : Int32) : Option (K × Int32) := bd (f_X11_isGuest E κ a1) fun κ1 r3 => if r3 = 0 then f_X11_exits_b27 E κ1 a1 a2 1 else bd (f_X11_in E κ1 a2 0 5) fun κ5 r7 => if r7 = 0 then f_X11_exits_b27 E κ5 a1 a2 2 else f_X11_exits_b27 E κ5 a1 a2 0
set_option maxHeartbeats 4000000 in
set_option maxRecDepth 100000 in
theorem w_X11_exits_b27 {l0 : Launch} (hfl : l0.stackTraces = false) {X : MX} {B : BX (EE × K)} {g : GP} {E : EE} {κ' : K} {rr : Int32} (O : CK l0 X B g cX11_exits RX11 3 43) (hKP : KPok B E) (hmL : B.2.2.2.1 = 3) (hE : ∀ (pc : Nat) (lv : List (Nat × AV)), decode cX11_exits pc = .ok (.ireturn, 1) → J X B (E, κ') pc lv [.inl (.int rr)]) (h0 : PC 11 E 5 0 0) : ∀ (κ : K) (x1 : Int32) (x2 : Int32) (xs0 : Int32), f_X11_exits_b27 E κ x1 x2 xs0 = some (κ', rr) → J X B (E, κ) 27 [(0, .inr (some (5, 0, 0))), (1, .inl (.int x1)), (2, .inl (.int x2))] [.inl (.int xs0), .inr (some (5, 0, 0))] := by
  intro κ x1 x2 xs0 h
  unfold f_X11_exits_b27 at h
  obtain ⟨κ9, r11, hq10, h⟩ := bd_some h
  refine J_callV O hKP (as := [.inl (.int xs0)]) (rest := []) (r := (some (.inl (.int r11)))) (c_X11_refused hfl h0 hq10) rfl (kd0 := 11) (k11_0 h0) (l11_0 h0) (T := TX11) (N := 42) rfl (by decide) mw605 mw606 mw607 mw517 mw608 pd_X11_refused rfl (by decide) rfl (Nat.le_of_ble_eq_true rfl) (sl_p (s11_0 h0) (sl_v (sl_v sl_0))) st_0 dX11_exits_27 ?_
  show J X B (E, κ9) 30 [(0, .inr (some (5, 0, 0))), (1, .inl (.int x1)), (2, .inl (.int x2))] [.inl (.int r11)]
  refine J_if_eq O.mo (tgt := 37) dX11_exits_30 (by decide) (fun hc12 => ?_) (fun hc12 => ?_)
  · replace h := (if_pos hc12).symm.trans h
    refine J_aload_n O.mo dX11_exits_37 0 rfl ?_
    refine J_getF O.co (kd0 := 11) (k11_0 h0) (l11_0 h0) (C := RX11) (T := TX11) (N := 42) rfl (by decide) rfl in_X11 25 (by decide) (v := .inr (some (5, 0, 25))) rfl mw544 rfl dX11_exits_38 ?_
    refine J_bipush O.mo (v := 6) dX11_exits_41 (by decide) ?_
    refine J_iload_n O.mo dX11_exits_43 1 rfl ?_
    refine J_imul O.mo dX11_exits_44 ?_
    refine J_iload_n O.mo dX11_exits_45 2 rfl ?_
    refine J_iadd O.mo dX11_exits_46 ?_
    obtain ⟨hg13, h⟩ := gd_some h
    refine J_iald O.co (g := (kV κ9 5 0 25)) (ct_20n (l11_25 h0) (k11_25 h0) (n11_25 h0)) hg13 dX11_exits_47 ?_
    cases h
    exact hE _ _ dX11_exits_48
  · replace h := (if_neg hc12).symm.trans h
    refine J_iconst O.mo (v := 0) dX11_exits_33 (by decide) ?_
    refine J_goto O.mo (tgt := 48) dX11_exits_34 (by decide) ?_
    cases h
    exact hE _ _ dX11_exits_48
set_option maxHeartbeats 4000000 in
set_option maxRecDepth 100000 in
theorem w_X11_exits {l0 : Launch} (hfl : l0.stackTraces = false) {X : MX} {B : BX (EE × K)} {g : GP} {E : EE} {κ' : K} {rr : Int32} (O : CK l0 X B g cX11_exits RX11 3 43) (hKP : KPok B E) (hmL : B.2.2.2.1 = 3) (hE : ∀ (pc : Nat) (lv : List (Nat × AV)), decode cX11_exits pc = .ok (.ireturn, 1) → J X B (E, κ') pc lv [.inl (.int rr)]) (h0 : PC 11 E 5 0 0) : ∀ (κ : K) (a1 : Int32) (a2 : Int32), f_X11_exits E κ a1 a2 = some (κ', rr) → J X B (E, κ) 0 [(0, .inr (some (5, 0, 0))), (1, .inl (.int a1)), (2, .inl (.int a2))] [] := by
  intro κ a1 a2 h
  unfold f_X11_exits at h
  refine J_aload_n O.mo dX11_exits_0 0 rfl ?_
  refine J_aload_n O.mo dX11_exits_1 0 rfl ?_
  refine J_iload_n O.mo dX11_exits_2 1 rfl ?_
  obtain ⟨κ1, r3, hq2, h⟩ := bd_some h
  refine J_callV O hKP (as := [.inl (.int a1)]) (rest := [.inr (some (5, 0, 0))]) (r := (some (.inl (.int r3)))) (c_X11_isGuest hfl h0 hq2) rfl (kd0 := 11) (k11_0 h0) (l11_0 h0) (T := TX11) (N := 42) rfl (by decide) mw611 mw612 mw613 mw517 mw614 pd_X11_isGuest rfl (by decide) rfl (Nat.le_of_ble_eq_true rfl) (sl_p (s11_0 h0) (sl_v (sl_v sl_0))) (st_p (s11_0 h0) st_0) dX11_exits_3 ?_
  show J X B (E, κ1) 6 [(0, .inr (some (5, 0, 0))), (1, .inl (.int a1)), (2, .inl (.int a2))] [.inl (.int r3), .inr (some (5, 0, 0))]
  refine J_if_ne O.mo (tgt := 13) dX11_exits_6 (by decide) (fun hc4 => ?_) (fun hc4 => ?_)
  · replace h := (if_neg hc4).symm.trans h
    refine J_iload_n O.mo dX11_exits_13 2 rfl ?_
    refine J_iconst O.mo (v := 0) dX11_exits_14 (by decide) ?_
    refine J_iconst O.mo (v := 5) dX11_exits_15 (by decide) ?_
    obtain ⟨κ5, r7, hq6, h⟩ := bd_some h
    refine J_callS O hKP (as := [.inl (.int a2), .inl (.int 0), .inl (.int 5)]) (rest := [.inr (some (5, 0, 0))]) (r := (some (.inl (.int r7)))) (c_X11_in hfl hq6) rfl mw515 mw516 mw517 mw518 pd_X11_in rfl (by decide) rfl (Nat.le_of_ble_eq_true rfl) (sl_p (s11_0 h0) (sl_v (sl_v sl_0))) (st_p (s11_0 h0) st_0) dX11_exits_16 ?_
    show J X B (E, κ5) 19 [(0, .inr (some (5, 0, 0))), (1, .inl (.int a1)), (2, .inl (.int a2))] [.inl (.int r7), .inr (some (5, 0, 0))]
    refine J_if_ne O.mo (tgt := 26) dX11_exits_19 (by decide) (fun hc8 => ?_) (fun hc8 => ?_)
    · replace h := (if_neg hc8).symm.trans h
      refine J_iconst O.mo (v := 0) dX11_exits_26 (by decide) ?_
      exact w_X11_exits_b27 hfl O hKP hmL hE h0 _ _ _ _ h
    · replace h := (if_pos hc8).symm.trans h
      refine J_iconst O.mo (v := 2) dX11_exits_22 (by decide) ?_
      refine J_goto O.mo (tgt := 27) dX11_exits_23 (by decide) ?_
      exact w_X11_exits_b27 hfl O hKP hmL hE h0 _ _ _ _ h
  · replace h := (if_pos hc4).symm.trans h
    refine J_iconst O.mo (v := 1) dX11_exits_9 (by decide) ?_
    refine J_goto O.mo (tgt := 27) dX11_exits_10 (by decide) ?_
    exact w_X11_exits_b27 hfl O hKP hmL hE h0 _ _ _ _ h
theorem c_X11_exits {l : Launch} (hfl : l.stackTraces = false) {E : EE} {κ κ' : K} {a1 : Int32} {a2 : Int32} (h0 : PC 11 E 5 0 0) {rr : Int32} (h : f_X11_exits E κ a1 a2 = some (κ', rr)) : Con l yX11_exits cX11_exits 3 (some .int) 3 43 [.inr (some (5, 0, 0)), .inl (.int a1), .inl (.int a2)] (E, κ) (E, κ') (some (.inl (.int rr))) := by
  exact Con_of hfl (by decide +kernel) (Nat.le_of_ble_eq_true rfl) rfl ⟨_, rfl, rfl⟩ (fun X B g O hKP hmL hE => w_X11_exits hfl O hKP hmL hE h0 _ _ _ h)
def f_X11_out_b14 (E : EE) (κ : K) (x1 : Int32) (xs0 : Int32) : Option (K × Int32) := bd (f_X11_refused E κ xs0) fun κ5 r7 => if r7 = 0 then gd (¬ (x1 < 0 ∨ 5 ≤ x1.toNatClampNeg)) (some (κ5, (kV κ5 5 0 35) x1.toNatClampNeg)) else some (κ5, 0)
def f_X11_out (E : EE) (κ : K) (a1 : Int32) : Option (K × Int32) := bd (f_X11_isGuest E κ a1) fun κ1 r3 => if r3 = 0 then f_X11_out_b14 E κ1 a1 1 else f_X11_out_b14 E κ1 a1 0
set_option maxHeartbeats 4000000 in
set_option maxRecDepth 100000 in
theorem w_X11_out_b14 {l0 : Launch} (hfl : l0.stackTraces = false) {X : MX} {B : BX (EE × K)} {g : GP} {E : EE} {κ' : K} {rr : Int32} (O : CK l0 X B g cX11_out RX11 3 43) (hKP : KPok B E) (hmL : B.2.2.2.1 = 2) (hE : ∀ (pc : Nat) (lv : List (Nat × AV)), decode cX11_out pc = .ok (.ireturn, 1) → J X B (E, κ') pc lv [.inl (.int rr)]) (h0 : PC 11 E 5 0 0) : ∀ (κ : K) (x1 : Int32) (xs0 : Int32), f_X11_out_b14 E κ x1 xs0 = some (κ', rr) → J X B (E, κ) 14 [(0, .inr (some (5, 0, 0))), (1, .inl (.int x1))] [.inl (.int xs0), .inr (some (5, 0, 0))] := by
  intro κ x1 xs0 h
  unfold f_X11_out_b14 at h
  obtain ⟨κ5, r7, hq6, h⟩ := bd_some h
  refine J_callV O hKP (as := [.inl (.int xs0)]) (rest := []) (r := (some (.inl (.int r7)))) (c_X11_refused hfl h0 hq6) rfl (kd0 := 11) (k11_0 h0) (l11_0 h0) (T := TX11) (N := 42) rfl (by decide) mw605 mw606 mw607 mw517 mw608 pd_X11_refused rfl (by decide) rfl (Nat.le_of_ble_eq_true rfl) (sl_p (s11_0 h0) (sl_v sl_0)) st_0 dX11_out_14 ?_
  show J X B (E, κ5) 17 [(0, .inr (some (5, 0, 0))), (1, .inl (.int x1))] [.inl (.int r7)]
  refine J_if_eq O.mo (tgt := 24) dX11_out_17 (by decide) (fun hc8 => ?_) (fun hc8 => ?_)
  · replace h := (if_pos hc8).symm.trans h
    refine J_aload_n O.mo dX11_out_24 0 rfl ?_
    refine J_getF O.co (kd0 := 11) (k11_0 h0) (l11_0 h0) (C := RX11) (T := TX11) (N := 42) rfl (by decide) rfl in_X11 35 (by decide) (v := .inr (some (5, 0, 35))) rfl mw552 rfl dX11_out_25 ?_
    refine J_iload_n O.mo dX11_out_28 1 rfl ?_
    obtain ⟨hg9, h⟩ := gd_some h
    refine J_iald O.co (g := (kV κ5 5 0 35)) (ct_20n (l11_35 h0) (k11_35 h0) (n11_35 h0)) hg9 dX11_out_29 ?_
    cases h
    exact hE _ _ dX11_out_30
  · replace h := (if_neg hc8).symm.trans h
    refine J_iconst O.mo (v := 0) dX11_out_20 (by decide) ?_
    refine J_goto O.mo (tgt := 30) dX11_out_21 (by decide) ?_
    cases h
    exact hE _ _ dX11_out_30
set_option maxHeartbeats 4000000 in
set_option maxRecDepth 100000 in
theorem w_X11_out {l0 : Launch} (hfl : l0.stackTraces = false) {X : MX} {B : BX (EE × K)} {g : GP} {E : EE} {κ' : K} {rr : Int32} (O : CK l0 X B g cX11_out RX11 3 43) (hKP : KPok B E) (hmL : B.2.2.2.1 = 2) (hE : ∀ (pc : Nat) (lv : List (Nat × AV)), decode cX11_out pc = .ok (.ireturn, 1) → J X B (E, κ') pc lv [.inl (.int rr)]) (h0 : PC 11 E 5 0 0) : ∀ (κ : K) (a1 : Int32), f_X11_out E κ a1 = some (κ', rr) → J X B (E, κ) 0 [(0, .inr (some (5, 0, 0))), (1, .inl (.int a1))] [] := by
  intro κ a1 h
  unfold f_X11_out at h
  refine J_aload_n O.mo dX11_out_0 0 rfl ?_
  refine J_aload_n O.mo dX11_out_1 0 rfl ?_
  refine J_iload_n O.mo dX11_out_2 1 rfl ?_
  obtain ⟨κ1, r3, hq2, h⟩ := bd_some h
  refine J_callV O hKP (as := [.inl (.int a1)]) (rest := [.inr (some (5, 0, 0))]) (r := (some (.inl (.int r3)))) (c_X11_isGuest hfl h0 hq2) rfl (kd0 := 11) (k11_0 h0) (l11_0 h0) (T := TX11) (N := 42) rfl (by decide) mw611 mw612 mw613 mw517 mw614 pd_X11_isGuest rfl (by decide) rfl (Nat.le_of_ble_eq_true rfl) (sl_p (s11_0 h0) (sl_v sl_0)) (st_p (s11_0 h0) st_0) dX11_out_3 ?_
  show J X B (E, κ1) 6 [(0, .inr (some (5, 0, 0))), (1, .inl (.int a1))] [.inl (.int r3), .inr (some (5, 0, 0))]
  refine J_if_eq O.mo (tgt := 13) dX11_out_6 (by decide) (fun hc4 => ?_) (fun hc4 => ?_)
  · replace h := (if_pos hc4).symm.trans h
    refine J_iconst O.mo (v := 1) dX11_out_13 (by decide) ?_
    exact w_X11_out_b14 hfl O hKP hmL hE h0 _ _ _ h
  · replace h := (if_neg hc4).symm.trans h
    refine J_iconst O.mo (v := 0) dX11_out_9 (by decide) ?_
    refine J_goto O.mo (tgt := 14) dX11_out_10 (by decide) ?_
    exact w_X11_out_b14 hfl O hKP hmL hE h0 _ _ _ h
theorem c_X11_out {l : Launch} (hfl : l.stackTraces = false) {E : EE} {κ κ' : K} {a1 : Int32} (h0 : PC 11 E 5 0 0) {rr : Int32} (h : f_X11_out E κ a1 = some (κ', rr)) : Con l yX11_out cX11_out 2 (some .int) 3 43 [.inr (some (5, 0, 0)), .inl (.int a1)] (E, κ) (E, κ') (some (.inl (.int rr))) := by
  exact Con_of hfl (by decide +kernel) (Nat.le_of_ble_eq_true rfl) rfl ⟨_, rfl, rfl⟩ (fun X B g O hKP hmL hE => w_X11_out hfl O hKP hmL hE h0 _ _ h)
def f_X11_outAt_b30 (E : EE) (κ : K) (x1 : Int32) (x2 : Int32) (xs0 : Int32) : Option (K × Int32) := bd (f_X11_refused E κ xs0) fun κ5 r7 => if r7 = 0 then gd (¬ (((3000 * x1) + x2) < 0 ∨ 15000 ≤ ((3000 * x1) + x2).toNatClampNeg)) (some (κ5, (kV κ5 5 0 34) ((3000 * x1) + x2).toNatClampNeg)) else some (κ5, 0)
def f_X11_outAt_b29 (E : EE) (κ : K) (x1 : Int32) (x2 : Int32) : Option (K × Int32) := f_X11_outAt_b30 E κ x1 x2 1
def f_X11_outAt (E : EE) (κ : K) (a1 : Int32) (a2 : Int32) : Option (K × Int32) := bd (f_X11_isGuest E κ a1) fun κ1 r3 => if r3 = 0 then f_X11_outAt_b29 E κ1 a1 a2 else gd (¬ (a1 < 0 ∨ 5 ≤ a1.toNatClampNeg)) (bd (f_X11_in E κ1 a2 0 (((kV κ1 5 0 35) a1.toNatClampNeg) - 1)) fun κ11 r13 => if r13 = 0 then f_X11_outAt_b29 E κ11 a1 a2 else f_X11_outAt_b30 E κ11 a1 a2 0)
set_option maxHeartbeats 4000000 in
set_option maxRecDepth 100000 in
theorem w_X11_outAt_b30 {l0 : Launch} (hfl : l0.stackTraces = false) {X : MX} {B : BX (EE × K)} {g : GP} {E : EE} {κ' : K} {rr : Int32} (O : CK l0 X B g cX11_outAt RX11 3 43) (hKP : KPok B E) (hmL : B.2.2.2.1 = 3) (hE : ∀ (pc : Nat) (lv : List (Nat × AV)), decode cX11_outAt pc = .ok (.ireturn, 1) → J X B (E, κ') pc lv [.inl (.int rr)]) (h0 : PC 11 E 5 0 0) : ∀ (κ : K) (x1 : Int32) (x2 : Int32) (xs0 : Int32), f_X11_outAt_b30 E κ x1 x2 xs0 = some (κ', rr) → J X B (E, κ) 30 [(0, .inr (some (5, 0, 0))), (1, .inl (.int x1)), (2, .inl (.int x2))] [.inl (.int xs0), .inr (some (5, 0, 0))] := by
  intro κ x1 x2 xs0 h
  unfold f_X11_outAt_b30 at h
  obtain ⟨κ5, r7, hq6, h⟩ := bd_some h
  refine J_callV O hKP (as := [.inl (.int xs0)]) (rest := []) (r := (some (.inl (.int r7)))) (c_X11_refused hfl h0 hq6) rfl (kd0 := 11) (k11_0 h0) (l11_0 h0) (T := TX11) (N := 42) rfl (by decide) mw605 mw606 mw607 mw517 mw608 pd_X11_refused rfl (by decide) rfl (Nat.le_of_ble_eq_true rfl) (sl_p (s11_0 h0) (sl_v (sl_v sl_0))) st_0 dX11_outAt_30 ?_
  show J X B (E, κ5) 33 [(0, .inr (some (5, 0, 0))), (1, .inl (.int x1)), (2, .inl (.int x2))] [.inl (.int r7)]
  refine J_if_eq O.mo (tgt := 40) dX11_outAt_33 (by decide) (fun hc8 => ?_) (fun hc8 => ?_)
  · replace h := (if_pos hc8).symm.trans h
    refine J_aload_n O.mo dX11_outAt_40 0 rfl ?_
    refine J_getF O.co (kd0 := 11) (k11_0 h0) (l11_0 h0) (C := RX11) (T := TX11) (N := 42) rfl (by decide) rfl in_X11 34 (by decide) (v := .inr (some (5, 0, 34))) rfl mw551 rfl dX11_outAt_41 ?_
    refine J_sipush O.mo (v := 3000) dX11_outAt_44 (by decide) ?_
    refine J_iload_n O.mo dX11_outAt_47 1 rfl ?_
    refine J_imul O.mo dX11_outAt_48 ?_
    refine J_iload_n O.mo dX11_outAt_49 2 rfl ?_
    refine J_iadd O.mo dX11_outAt_50 ?_
    obtain ⟨hg9, h⟩ := gd_some h
    refine J_iald O.co (g := (kV κ5 5 0 34)) (ct_20n (l11_34 h0) (k11_34 h0) (n11_34 h0)) hg9 dX11_outAt_51 ?_
    cases h
    exact hE _ _ dX11_outAt_52
  · replace h := (if_neg hc8).symm.trans h
    refine J_iconst O.mo (v := 0) dX11_outAt_36 (by decide) ?_
    refine J_goto O.mo (tgt := 52) dX11_outAt_37 (by decide) ?_
    cases h
    exact hE _ _ dX11_outAt_52
set_option maxHeartbeats 4000000 in
set_option maxRecDepth 100000 in
theorem w_X11_outAt_b29 {l0 : Launch} (hfl : l0.stackTraces = false) {X : MX} {B : BX (EE × K)} {g : GP} {E : EE} {κ' : K} {rr : Int32} (O : CK l0 X B g cX11_outAt RX11 3 43) (hKP : KPok B E) (hmL : B.2.2.2.1 = 3) (hE : ∀ (pc : Nat) (lv : List (Nat × AV)), decode cX11_outAt pc = .ok (.ireturn, 1) → J X B (E, κ') pc lv [.inl (.int rr)]) (h0 : PC 11 E 5 0 0) : ∀ (κ : K) (x1 : Int32) (x2 : Int32), f_X11_outAt_b29 E κ x1 x2 = some (κ', rr) → J X B (E, κ) 29 [(0, .inr (some (5, 0, 0))), (1, .inl (.int x1)), (2, .inl (.int x2))] [.inr (some (5, 0, 0))] := by
  intro κ x1 x2 h
  unfold f_X11_outAt_b29 at h
  refine J_iconst O.mo (v := 1) dX11_outAt_29 (by decide) ?_
  exact w_X11_outAt_b30 hfl O hKP hmL hE h0 _ _ _ _ h
set_option maxHeartbeats 4000000 in
set_option maxRecDepth 100000 in
theorem w_X11_outAt {l0 : Launch} (hfl : l0.stackTraces = false) {X : MX} {B : BX (EE × K)} {g : GP} {E : EE} {κ' : K} {rr : Int32} (O : CK l0 X B g cX11_outAt RX11 3 43) (hKP : KPok B E) (hmL : B.2.2.2.1 = 3) (hE : ∀ (pc : Nat) (lv : List (Nat × AV)), decode cX11_outAt pc = .ok (.ireturn, 1) → J X B (E, κ') pc lv [.inl (.int rr)]) (h0 : PC 11 E 5 0 0) : ∀ (κ : K) (a1 : Int32) (a2 : Int32), f_X11_outAt E κ a1 a2 = some (κ', rr) → J X B (E, κ) 0 [(0, .inr (some (5, 0, 0))), (1, .inl (.int a1)), (2, .inl (.int a2))] [] := by
  intro κ a1 a2 h
  unfold f_X11_outAt at h
  refine J_aload_n O.mo dX11_outAt_0 0 rfl ?_
  refine J_aload_n O.mo dX11_outAt_1 0 rfl ?_
  refine J_iload_n O.mo dX11_outAt_2 1 rfl ?_
  obtain ⟨κ1, r3, hq2, h⟩ := bd_some h
  refine J_callV O hKP (as := [.inl (.int a1)]) (rest := [.inr (some (5, 0, 0))]) (r := (some (.inl (.int r3)))) (c_X11_isGuest hfl h0 hq2) rfl (kd0 := 11) (k11_0 h0) (l11_0 h0) (T := TX11) (N := 42) rfl (by decide) mw611 mw612 mw613 mw517 mw614 pd_X11_isGuest rfl (by decide) rfl (Nat.le_of_ble_eq_true rfl) (sl_p (s11_0 h0) (sl_v (sl_v sl_0))) (st_p (s11_0 h0) st_0) dX11_outAt_3 ?_
  show J X B (E, κ1) 6 [(0, .inr (some (5, 0, 0))), (1, .inl (.int a1)), (2, .inl (.int a2))] [.inl (.int r3), .inr (some (5, 0, 0))]
  refine J_if_eq O.mo (tgt := 29) dX11_outAt_6 (by decide) (fun hc4 => ?_) (fun hc4 => ?_)
  · replace h := (if_pos hc4).symm.trans h
    exact w_X11_outAt_b29 hfl O hKP hmL hE h0 _ _ _ h
  · replace h := (if_neg hc4).symm.trans h
    refine J_iload_n O.mo dX11_outAt_9 2 rfl ?_
    refine J_iconst O.mo (v := 0) dX11_outAt_10 (by decide) ?_
    refine J_aload_n O.mo dX11_outAt_11 0 rfl ?_
    refine J_getF O.co (kd0 := 11) (k11_0 h0) (l11_0 h0) (C := RX11) (T := TX11) (N := 42) rfl (by decide) rfl in_X11 35 (by decide) (v := .inr (some (5, 0, 35))) rfl mw552 rfl dX11_outAt_12 ?_
    refine J_iload_n O.mo dX11_outAt_15 1 rfl ?_
    obtain ⟨hg10, h⟩ := gd_some h
    refine J_iald O.co (g := (kV κ1 5 0 35)) (ct_20n (l11_35 h0) (k11_35 h0) (n11_35 h0)) hg10 dX11_outAt_16 ?_
    refine J_iconst O.mo (v := 1) dX11_outAt_17 (by decide) ?_
    refine J_isub O.mo dX11_outAt_18 ?_
    obtain ⟨κ11, r13, hq12, h⟩ := bd_some h
    refine J_callS O hKP (as := [.inl (.int a2), .inl (.int 0), .inl (.int (((kV κ1 5 0 35) a1.toNatClampNeg) - 1))]) (rest := [.inr (some (5, 0, 0))]) (r := (some (.inl (.int r13)))) (c_X11_in hfl hq12) rfl mw515 mw516 mw517 mw518 pd_X11_in rfl (by decide) rfl (Nat.le_of_ble_eq_true rfl) (sl_p (s11_0 h0) (sl_v (sl_v sl_0))) (st_p (s11_0 h0) st_0) dX11_outAt_19 ?_
    show J X B (E, κ11) 22 [(0, .inr (some (5, 0, 0))), (1, .inl (.int a1)), (2, .inl (.int a2))] [.inl (.int r13), .inr (some (5, 0, 0))]
    refine J_if_eq O.mo (tgt := 29) dX11_outAt_22 (by decide) (fun hc14 => ?_) (fun hc14 => ?_)
    · replace h := (if_pos hc14).symm.trans h
      exact w_X11_outAt_b29 hfl O hKP hmL hE h0 _ _ _ h
    · replace h := (if_neg hc14).symm.trans h
      refine J_iconst O.mo (v := 0) dX11_outAt_25 (by decide) ?_
      refine J_goto O.mo (tgt := 30) dX11_outAt_26 (by decide) ?_
      exact w_X11_outAt_b30 hfl O hKP hmL hE h0 _ _ _ _ h
theorem c_X11_outAt {l : Launch} (hfl : l.stackTraces = false) {E : EE} {κ κ' : K} {a1 : Int32} {a2 : Int32} (h0 : PC 11 E 5 0 0) {rr : Int32} (h : f_X11_outAt E κ a1 a2 = some (κ', rr)) : Con l yX11_outAt cX11_outAt 3 (some .int) 3 43 [.inr (some (5, 0, 0)), .inl (.int a1), .inl (.int a2)] (E, κ) (E, κ') (some (.inl (.int rr))) := by
  exact Con_of hfl (by decide +kernel) (Nat.le_of_ble_eq_true rfl) rfl ⟨_, rfl, rfl⟩ (fun X B g O hKP hmL hE => w_X11_outAt hfl O hKP hmL hE h0 _ _ _ h)
def f_X11_held_b14 (E : EE) (κ : K) (x1 : Int32) (xs0 : Int32) : Option (K × Int32) := bd (f_X11_refused E κ xs0) fun κ5 r7 => if r7 = 0 then gd (¬ (x1 < 0 ∨ 5 ≤ x1.toNatClampNeg)) (some (κ5, (kV κ5 5 0 37) x1.toNatClampNeg)) else some (κ5, 0)
def f_X11_held (E : EE) (κ : K) (a1 : Int32) : Option (K × Int32) := bd (f_X11_isGuest E κ a1) fun κ1 r3 => if r3 = 0 then f_X11_held_b14 E κ1 a1 1 else f_X11_held_b14 E κ1 a1 0
set_option maxHeartbeats 4000000 in
set_option maxRecDepth 100000 in
theorem w_X11_held_b14 {l0 : Launch} (hfl : l0.stackTraces = false) {X : MX} {B : BX (EE × K)} {g : GP} {E : EE} {κ' : K} {rr : Int32} (O : CK l0 X B g cX11_held RX11 3 43) (hKP : KPok B E) (hmL : B.2.2.2.1 = 2) (hE : ∀ (pc : Nat) (lv : List (Nat × AV)), decode cX11_held pc = .ok (.ireturn, 1) → J X B (E, κ') pc lv [.inl (.int rr)]) (h0 : PC 11 E 5 0 0) : ∀ (κ : K) (x1 : Int32) (xs0 : Int32), f_X11_held_b14 E κ x1 xs0 = some (κ', rr) → J X B (E, κ) 14 [(0, .inr (some (5, 0, 0))), (1, .inl (.int x1))] [.inl (.int xs0), .inr (some (5, 0, 0))] := by
  intro κ x1 xs0 h
  unfold f_X11_held_b14 at h
  obtain ⟨κ5, r7, hq6, h⟩ := bd_some h
  refine J_callV O hKP (as := [.inl (.int xs0)]) (rest := []) (r := (some (.inl (.int r7)))) (c_X11_refused hfl h0 hq6) rfl (kd0 := 11) (k11_0 h0) (l11_0 h0) (T := TX11) (N := 42) rfl (by decide) mw605 mw606 mw607 mw517 mw608 pd_X11_refused rfl (by decide) rfl (Nat.le_of_ble_eq_true rfl) (sl_p (s11_0 h0) (sl_v sl_0)) st_0 dX11_held_14 ?_
  show J X B (E, κ5) 17 [(0, .inr (some (5, 0, 0))), (1, .inl (.int x1))] [.inl (.int r7)]
  refine J_if_eq O.mo (tgt := 24) dX11_held_17 (by decide) (fun hc8 => ?_) (fun hc8 => ?_)
  · replace h := (if_pos hc8).symm.trans h
    refine J_aload_n O.mo dX11_held_24 0 rfl ?_
    refine J_getF O.co (kd0 := 11) (k11_0 h0) (l11_0 h0) (C := RX11) (T := TX11) (N := 42) rfl (by decide) rfl in_X11 37 (by decide) (v := .inr (some (5, 0, 37))) rfl mw554 rfl dX11_held_25 ?_
    refine J_iload_n O.mo dX11_held_28 1 rfl ?_
    obtain ⟨hg9, h⟩ := gd_some h
    refine J_iald O.co (g := (kV κ5 5 0 37)) (ct_20n (l11_37 h0) (k11_37 h0) (n11_37 h0)) hg9 dX11_held_29 ?_
    cases h
    exact hE _ _ dX11_held_30
  · replace h := (if_neg hc8).symm.trans h
    refine J_iconst O.mo (v := 0) dX11_held_20 (by decide) ?_
    refine J_goto O.mo (tgt := 30) dX11_held_21 (by decide) ?_
    cases h
    exact hE _ _ dX11_held_30
set_option maxHeartbeats 4000000 in
set_option maxRecDepth 100000 in
theorem w_X11_held {l0 : Launch} (hfl : l0.stackTraces = false) {X : MX} {B : BX (EE × K)} {g : GP} {E : EE} {κ' : K} {rr : Int32} (O : CK l0 X B g cX11_held RX11 3 43) (hKP : KPok B E) (hmL : B.2.2.2.1 = 2) (hE : ∀ (pc : Nat) (lv : List (Nat × AV)), decode cX11_held pc = .ok (.ireturn, 1) → J X B (E, κ') pc lv [.inl (.int rr)]) (h0 : PC 11 E 5 0 0) : ∀ (κ : K) (a1 : Int32), f_X11_held E κ a1 = some (κ', rr) → J X B (E, κ) 0 [(0, .inr (some (5, 0, 0))), (1, .inl (.int a1))] [] := by
  intro κ a1 h
  unfold f_X11_held at h
  refine J_aload_n O.mo dX11_held_0 0 rfl ?_
  refine J_aload_n O.mo dX11_held_1 0 rfl ?_
  refine J_iload_n O.mo dX11_held_2 1 rfl ?_
  obtain ⟨κ1, r3, hq2, h⟩ := bd_some h
  refine J_callV O hKP (as := [.inl (.int a1)]) (rest := [.inr (some (5, 0, 0))]) (r := (some (.inl (.int r3)))) (c_X11_isGuest hfl h0 hq2) rfl (kd0 := 11) (k11_0 h0) (l11_0 h0) (T := TX11) (N := 42) rfl (by decide) mw611 mw612 mw613 mw517 mw614 pd_X11_isGuest rfl (by decide) rfl (Nat.le_of_ble_eq_true rfl) (sl_p (s11_0 h0) (sl_v sl_0)) (st_p (s11_0 h0) st_0) dX11_held_3 ?_
  show J X B (E, κ1) 6 [(0, .inr (some (5, 0, 0))), (1, .inl (.int a1))] [.inl (.int r3), .inr (some (5, 0, 0))]
  refine J_if_eq O.mo (tgt := 13) dX11_held_6 (by decide) (fun hc4 => ?_) (fun hc4 => ?_)
  · replace h := (if_pos hc4).symm.trans h
    refine J_iconst O.mo (v := 1) dX11_held_13 (by decide) ?_
    exact w_X11_held_b14 hfl O hKP hmL hE h0 _ _ _ h
  · replace h := (if_neg hc4).symm.trans h
    refine J_iconst O.mo (v := 0) dX11_held_9 (by decide) ?_
    refine J_goto O.mo (tgt := 14) dX11_held_10 (by decide) ?_
    exact w_X11_held_b14 hfl O hKP hmL hE h0 _ _ _ h
theorem c_X11_held {l : Launch} (hfl : l.stackTraces = false) {E : EE} {κ κ' : K} {a1 : Int32} (h0 : PC 11 E 5 0 0) {rr : Int32} (h : f_X11_held E κ a1 = some (κ', rr)) : Con l yX11_held cX11_held 2 (some .int) 3 43 [.inr (some (5, 0, 0)), .inl (.int a1)] (E, κ) (E, κ') (some (.inl (.int rr))) := by
  exact Con_of hfl (by decide +kernel) (Nat.le_of_ble_eq_true rfl) rfl ⟨_, rfl, rfl⟩ (fun X B g O hKP hmL hE => w_X11_held hfl O hKP hmL hE h0 _ _ h)
def f_X11_stored_b20 (E : EE) (κ : K) (x1 : Int32) (xs0 : Int32) : Option (K × Int32) := bd (f_X11_refused E κ xs0) fun κ5 r7 => if r7 = 0 then gd (¬ (x1 < 0 ∨ 10 ≤ x1.toNatClampNeg)) (some (κ5, (kV κ5 5 0 10) x1.toNatClampNeg)) else some (κ5, 0)
def f_X11_stored (E : EE) (κ : K) (a1 : Int32) : Option (K × Int32) := bd (f_X11_in E κ a1 0 ((kV κ 5 0 0 11) - 1)) fun κ1 r3 => if r3 = 0 then f_X11_stored_b20 E κ1 a1 1 else f_X11_stored_b20 E κ1 a1 0
set_option maxHeartbeats 4000000 in
set_option maxRecDepth 100000 in
theorem w_X11_stored_b20 {l0 : Launch} (hfl : l0.stackTraces = false) {X : MX} {B : BX (EE × K)} {g : GP} {E : EE} {κ' : K} {rr : Int32} (O : CK l0 X B g cX11_stored RX11 2 22) (hKP : KPok B E) (hmL : B.2.2.2.1 = 2) (hE : ∀ (pc : Nat) (lv : List (Nat × AV)), decode cX11_stored pc = .ok (.ireturn, 1) → J X B (E, κ') pc lv [.inl (.int rr)]) (h0 : PC 11 E 5 0 0) : ∀ (κ : K) (x1 : Int32) (xs0 : Int32), f_X11_stored_b20 E κ x1 xs0 = some (κ', rr) → J X B (E, κ) 20 [(0, .inr (some (5, 0, 0))), (1, .inl (.int x1))] [.inl (.int xs0), .inr (some (5, 0, 0))] := by
  intro κ x1 xs0 h
  unfold f_X11_stored_b20 at h
  obtain ⟨κ5, r7, hq6, h⟩ := bd_some h
  refine J_callV O hKP (as := [.inl (.int xs0)]) (rest := []) (r := (some (.inl (.int r7)))) (c_X11_refused hfl h0 hq6) rfl (kd0 := 11) (k11_0 h0) (l11_0 h0) (T := TX11) (N := 42) rfl (by decide) mw605 mw606 mw607 mw517 mw608 pd_X11_refused rfl (by decide) rfl (Nat.le_of_ble_eq_true rfl) (sl_p (s11_0 h0) (sl_v sl_0)) st_0 dX11_stored_20 ?_
  show J X B (E, κ5) 23 [(0, .inr (some (5, 0, 0))), (1, .inl (.int x1))] [.inl (.int r7)]
  refine J_if_eq O.mo (tgt := 30) dX11_stored_23 (by decide) (fun hc8 => ?_) (fun hc8 => ?_)
  · replace h := (if_pos hc8).symm.trans h
    refine J_aload_n O.mo dX11_stored_30 0 rfl ?_
    refine J_getF O.co (kd0 := 11) (k11_0 h0) (l11_0 h0) (C := RX11) (T := TX11) (N := 42) rfl (by decide) rfl in_X11 10 (by decide) (v := .inr (some (5, 0, 10))) rfl mw660 rfl dX11_stored_31 ?_
    refine J_iload_n O.mo dX11_stored_34 1 rfl ?_
    obtain ⟨hg9, h⟩ := gd_some h
    refine J_iald O.co (g := (kV κ5 5 0 10)) (ct_20n (l11_10 h0) (k11_10 h0) (n11_10 h0)) hg9 dX11_stored_35 ?_
    cases h
    exact hE _ _ dX11_stored_36
  · replace h := (if_neg hc8).symm.trans h
    refine J_iconst O.mo (v := 0) dX11_stored_26 (by decide) ?_
    refine J_goto O.mo (tgt := 36) dX11_stored_27 (by decide) ?_
    cases h
    exact hE _ _ dX11_stored_36
set_option maxHeartbeats 4000000 in
set_option maxRecDepth 100000 in
theorem w_X11_stored {l0 : Launch} (hfl : l0.stackTraces = false) {X : MX} {B : BX (EE × K)} {g : GP} {E : EE} {κ' : K} {rr : Int32} (O : CK l0 X B g cX11_stored RX11 2 22) (hKP : KPok B E) (hmL : B.2.2.2.1 = 2) (hE : ∀ (pc : Nat) (lv : List (Nat × AV)), decode cX11_stored pc = .ok (.ireturn, 1) → J X B (E, κ') pc lv [.inl (.int rr)]) (h0 : PC 11 E 5 0 0) : ∀ (κ : K) (a1 : Int32), f_X11_stored E κ a1 = some (κ', rr) → J X B (E, κ) 0 [(0, .inr (some (5, 0, 0))), (1, .inl (.int a1))] [] := by
  intro κ a1 h
  unfold f_X11_stored at h
  refine J_aload_n O.mo dX11_stored_0 0 rfl ?_
  refine J_iload_n O.mo dX11_stored_1 1 rfl ?_
  refine J_iconst O.mo (v := 0) dX11_stored_2 (by decide) ?_
  refine J_aload_n O.mo dX11_stored_3 0 rfl ?_
  refine J_getF O.co (kd0 := 11) (k11_0 h0) (l11_0 h0) (C := RX11) (T := TX11) (N := 42) rfl (by decide) rfl in_X11 11 (by decide) (v := .inl (.int (kV κ 5 0 0 11))) rfl mw652 rfl dX11_stored_4 ?_
  refine J_iconst O.mo (v := 1) dX11_stored_7 (by decide) ?_
  refine J_isub O.mo dX11_stored_8 ?_
  obtain ⟨κ1, r3, hq2, h⟩ := bd_some h
  refine J_callS O hKP (as := [.inl (.int a1), .inl (.int 0), .inl (.int ((kV κ 5 0 0 11) - 1))]) (rest := [.inr (some (5, 0, 0))]) (r := (some (.inl (.int r3)))) (c_X11_in hfl hq2) rfl mw515 mw516 mw517 mw518 pd_X11_in rfl (by decide) rfl (Nat.le_of_ble_eq_true rfl) (sl_p (s11_0 h0) (sl_v sl_0)) (st_p (s11_0 h0) st_0) dX11_stored_9 ?_
  show J X B (E, κ1) 12 [(0, .inr (some (5, 0, 0))), (1, .inl (.int a1))] [.inl (.int r3), .inr (some (5, 0, 0))]
  refine J_if_eq O.mo (tgt := 19) dX11_stored_12 (by decide) (fun hc4 => ?_) (fun hc4 => ?_)
  · replace h := (if_pos hc4).symm.trans h
    refine J_iconst O.mo (v := 1) dX11_stored_19 (by decide) ?_
    exact w_X11_stored_b20 hfl O hKP hmL hE h0 _ _ _ h
  · replace h := (if_neg hc4).symm.trans h
    refine J_iconst O.mo (v := 0) dX11_stored_15 (by decide) ?_
    refine J_goto O.mo (tgt := 20) dX11_stored_16 (by decide) ?_
    exact w_X11_stored_b20 hfl O hKP hmL hE h0 _ _ _ h
theorem c_X11_stored {l : Launch} (hfl : l.stackTraces = false) {E : EE} {κ κ' : K} {a1 : Int32} (h0 : PC 11 E 5 0 0) {rr : Int32} (h : f_X11_stored E κ a1 = some (κ', rr)) : Con l yX11_stored cX11_stored 2 (some .int) 2 22 [.inr (some (5, 0, 0)), .inl (.int a1)] (E, κ) (E, κ') (some (.inl (.int rr))) := by
  exact Con_of hfl (by decide +kernel) (Nat.le_of_ble_eq_true rfl) rfl ⟨_, rfl, rfl⟩ (fun X B g O hKP hmL hE => w_X11_stored hfl O hKP hmL hE h0 _ _ h)
def f_X11_isAsPlain_b14 (E : EE) (κ : K) (xs0 : Int32) : Option (K × Int32) := bd (f_X11_refused E κ xs0) fun κ5 r7 => if r7 = 0 then some (κ5, 1) else some (κ5, 0)
def f_X11_isAsPlain_e (E : EE) (κ : K) (a1 : Int32) : Option (K × Int32) := bd (f_X11_isGuest E κ a1) fun κ1 r3 => if r3 = 0 then f_X11_isAsPlain_b14 E κ1 1 else f_X11_isAsPlain_b14 E κ1 0
def f_X11_isAsPlain (E : EE) (κ : K) (a1 : Int32) : Option (K × Int32) := bd (f_X11_isAsPlain_e E κ a1) fun κ x => gd (x = 0 ∨ x = 1) (some (κ, x))
set_option maxHeartbeats 4000000 in
set_option maxRecDepth 100000 in
theorem w_X11_isAsPlain_b14 {l0 : Launch} (hfl : l0.stackTraces = false) {X : MX} {B : BX (EE × K)} {g : GP} {E : EE} {κ' : K} {rr : Int32} (O : CK l0 X B g cX11_isAsPlain RX11 3 43) (hKP : KPok B E) (hmL : B.2.2.2.1 = 2) (hE : ∀ (pc : Nat) (lv : List (Nat × AV)), decode cX11_isAsPlain pc = .ok (.ireturn, 1) → J X B (E, κ') pc lv [.inl (.int rr)]) (h0 : PC 11 E 5 0 0) : ∀ (κ : K) (xs0 : Int32), f_X11_isAsPlain_b14 E κ xs0 = some (κ', rr) → J X B (E, κ) 14 [] [.inl (.int xs0), .inr (some (5, 0, 0))] := by
  intro κ xs0 h
  unfold f_X11_isAsPlain_b14 at h
  obtain ⟨κ5, r7, hq6, h⟩ := bd_some h
  refine J_callV O hKP (as := [.inl (.int xs0)]) (rest := []) (r := (some (.inl (.int r7)))) (c_X11_refused hfl h0 hq6) rfl (kd0 := 11) (k11_0 h0) (l11_0 h0) (T := TX11) (N := 42) rfl (by decide) mw605 mw606 mw607 mw517 mw608 pd_X11_refused rfl (by decide) rfl (Nat.le_of_ble_eq_true rfl) sl_0 st_0 dX11_isAsPlain_14 ?_
  show J X B (E, κ5) 17 [] [.inl (.int r7)]
  refine J_if_ne O.mo (tgt := 24) dX11_isAsPlain_17 (by decide) (fun hc8 => ?_) (fun hc8 => ?_)
  · replace h := (if_neg hc8).symm.trans h
    refine J_iconst O.mo (v := 0) dX11_isAsPlain_24 (by decide) ?_
    cases h
    exact hE _ _ dX11_isAsPlain_25
  · replace h := (if_pos hc8).symm.trans h
    refine J_iconst O.mo (v := 1) dX11_isAsPlain_20 (by decide) ?_
    refine J_goto O.mo (tgt := 25) dX11_isAsPlain_21 (by decide) ?_
    cases h
    exact hE _ _ dX11_isAsPlain_25
set_option maxHeartbeats 4000000 in
set_option maxRecDepth 100000 in
theorem w_X11_isAsPlain_e {l0 : Launch} (hfl : l0.stackTraces = false) {X : MX} {B : BX (EE × K)} {g : GP} {E : EE} {κ' : K} {rr : Int32} (O : CK l0 X B g cX11_isAsPlain RX11 3 43) (hKP : KPok B E) (hmL : B.2.2.2.1 = 2) (hE : ∀ (pc : Nat) (lv : List (Nat × AV)), decode cX11_isAsPlain pc = .ok (.ireturn, 1) → J X B (E, κ') pc lv [.inl (.int rr)]) (h0 : PC 11 E 5 0 0) : ∀ (κ : K) (a1 : Int32), f_X11_isAsPlain_e E κ a1 = some (κ', rr) → J X B (E, κ) 0 [(0, .inr (some (5, 0, 0))), (1, .inl (.int a1))] [] := by
  intro κ a1 h
  unfold f_X11_isAsPlain_e at h
  refine J_aload_n O.mo dX11_isAsPlain_0 0 rfl ?_
  refine J_aload_n O.mo dX11_isAsPlain_1 0 rfl ?_
  refine J_iload_n O.mo dX11_isAsPlain_2 1 rfl ?_
  refine J_sub [] rfl ?_
  obtain ⟨κ1, r3, hq2, h⟩ := bd_some h
  refine J_callV O hKP (as := [.inl (.int a1)]) (rest := [.inr (some (5, 0, 0))]) (r := (some (.inl (.int r3)))) (c_X11_isGuest hfl h0 hq2) rfl (kd0 := 11) (k11_0 h0) (l11_0 h0) (T := TX11) (N := 42) rfl (by decide) mw611 mw612 mw613 mw517 mw614 pd_X11_isGuest rfl (by decide) rfl (Nat.le_of_ble_eq_true rfl) sl_0 (st_p (s11_0 h0) st_0) dX11_isAsPlain_3 ?_
  show J X B (E, κ1) 6 [] [.inl (.int r3), .inr (some (5, 0, 0))]
  refine J_if_eq O.mo (tgt := 13) dX11_isAsPlain_6 (by decide) (fun hc4 => ?_) (fun hc4 => ?_)
  · replace h := (if_pos hc4).symm.trans h
    refine J_iconst O.mo (v := 1) dX11_isAsPlain_13 (by decide) ?_
    exact w_X11_isAsPlain_b14 hfl O hKP hmL hE h0 _ _ h
  · replace h := (if_neg hc4).symm.trans h
    refine J_iconst O.mo (v := 0) dX11_isAsPlain_9 (by decide) ?_
    refine J_goto O.mo (tgt := 14) dX11_isAsPlain_10 (by decide) ?_
    exact w_X11_isAsPlain_b14 hfl O hKP hmL hE h0 _ _ h
theorem c_X11_isAsPlain {l : Launch} (hfl : l.stackTraces = false) {E : EE} {κ κ' : K} {a1 : Int32} (h0 : PC 11 E 5 0 0) {rr : Int32} (h : f_X11_isAsPlain E κ a1 = some (κ', rr)) : Con l yX11_isAsPlain cX11_isAsPlain 2 (some .boolean) 3 43 [.inr (some (5, 0, 0)), .inl (.int a1)] (E, κ) (E, κ') (some (.inl (.int rr))) := by
  unfold f_X11_isAsPlain at h
  obtain ⟨κ1, x1, q1, q2⟩ := bd_some h
  obtain ⟨hb, q3⟩ := gd_some q2
  cases q3
  exact Con_of hfl (by decide +kernel) (Nat.le_of_ble_eq_true rfl) rfl ⟨_, rfl, nar_b hb⟩ (fun X B g O hKP hmL hE => w_X11_isAsPlain_e hfl O hKP hmL hE h0 _ _ q1)
