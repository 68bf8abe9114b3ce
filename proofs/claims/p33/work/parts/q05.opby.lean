set_option maxRecDepth 100000 in
theorem mw768 : Cond.methodLink RL 121 yL_op ∈ gwl := gwl_tb 570 rfl rfl
set_option maxRecDepth 100000 in
theorem mw769 : Cond.static yL_op ∈ gwl := gwl_tb 571 rfl rfl
set_option maxRecDepth 100000 in
theorem mw770 : Cond.initialized RL ∈ gwl := gwl_tb 0 rfl rfl
set_option maxRecDepth 100000 in
theorem mw771 : Cond.codeWith yL_op cL_op 6 (some .int) [(0, 9, 10, 13), (0, 9, 15, 16), (0, 9, 20, 19)] ∈ gwl := gwl_tb 572 rfl rfl
theorem pd_L_op : (yL_op).cls ≠ "java/lang/invoke/MethodHandle" ∧ (yL_op).cls ≠ "java/lang/invoke/VarHandle" ∧ (parseMethodDescriptor (yL_op).desc).map (fun d => d.parameters.length) = some 5 := ⟨by decide +kernel, by decide +kernel, by decide +kernel⟩
section EROWS
variable {σ : Type} {X : MX} {B : BX σ} {ca : Nat → ClassId} {cc : ByteArray} {own : String} {x : σ} {pc : Nat} {lv : List (Nat × AV)} {rest : List AV}
theorem J_iaddE (O : B.2.2.2.2.2.2.2.2 X → MO X B ca cc own) {a b v : Int32} (hd : decode cc pc = .ok (.iadd, 1)) (hv : a + b = v) (k : J X B x (pc + 1) lv (.inl (.int v) :: rest)) : J X B x pc lv (.inl (.int b) :: .inl (.int a) :: rest) := J_iadd O hd (by rw [hv]; exact k)
theorem J_isubE (O : B.2.2.2.2.2.2.2.2 X → MO X B ca cc own) {a b v : Int32} (hd : decode cc pc = .ok (.isub, 1)) (hv : a - b = v) (k : J X B x (pc + 1) lv (.inl (.int v) :: rest)) : J X B x pc lv (.inl (.int b) :: .inl (.int a) :: rest) := J_isub O hd (by rw [hv]; exact k)
theorem J_imulE (O : B.2.2.2.2.2.2.2.2 X → MO X B ca cc own) {a b v : Int32} (hd : decode cc pc = .ok (.imul, 1)) (hv : a * b = v) (k : J X B x (pc + 1) lv (.inl (.int v) :: rest)) : J X B x pc lv (.inl (.int b) :: .inl (.int a) :: rest) := J_imul O hd (by rw [hv]; exact k)
theorem J_iandE (O : B.2.2.2.2.2.2.2.2 X → MO X B ca cc own) {a b v : Int32} (hd : decode cc pc = .ok (.iand, 1)) (hv : a &&& b = v) (k : J X B x (pc + 1) lv (.inl (.int v) :: rest)) : J X B x pc lv (.inl (.int b) :: .inl (.int a) :: rest) := J_iand O hd (by rw [hv]; exact k)
theorem J_iorE (O : B.2.2.2.2.2.2.2.2 X → MO X B ca cc own) {a b v : Int32} (hd : decode cc pc = .ok (.ior, 1)) (hv : a ||| b = v) (k : J X B x (pc + 1) lv (.inl (.int v) :: rest)) : J X B x pc lv (.inl (.int b) :: .inl (.int a) :: rest) := J_ior O hd (by rw [hv]; exact k)
theorem J_ishlE (O : B.2.2.2.2.2.2.2.2 X → MO X B ca cc own) {a b v : Int32} (hd : decode cc pc = .ok (.ishl, 1)) (hv : a <<< (b &&& 31) = v) (k : J X B x (pc + 1) lv (.inl (.int v) :: rest)) : J X B x pc lv (.inl (.int b) :: .inl (.int a) :: rest) := J_ishl O hd (by rw [hv]; exact k)
theorem J_ishrE (O : B.2.2.2.2.2.2.2.2 X → MO X B ca cc own) {a b v : Int32} (hd : decode cc pc = .ok (.ishr, 1)) (hv : a >>> (b &&& 31) = v) (k : J X B x (pc + 1) lv (.inl (.int v) :: rest)) : J X B x pc lv (.inl (.int b) :: .inl (.int a) :: rest) := J_ishr O hd (by rw [hv]; exact k)
theorem J_idivE (O : B.2.2.2.2.2.2.2.2 X → MO X B ca cc own) {a b v : Int32} (hd : decode cc pc = .ok (.idiv, 1)) (hne : ¬ b = 0) (hv : a / b = v) (k : J X B x (pc + 1) lv (.inl (.int v) :: rest)) : J X B x pc lv (.inl (.int b) :: .inl (.int a) :: rest) := J_idiv O hd hne (by rw [hv]; exact k)
theorem J_iremE (O : B.2.2.2.2.2.2.2.2 X → MO X B ca cc own) {a b v : Int32} (hd : decode cc pc = .ok (.irem, 1)) (hne : ¬ b = 0) (hv : a - a / b * b = v) (k : J X B x (pc + 1) lv (.inl (.int v) :: rest)) : J X B x pc lv (.inl (.int b) :: .inl (.int a) :: rest) := J_irem O hd hne (by rw [hv]; exact k)
end EROWS
def opW (x : Int32) : Int32 := if (x - x / 7 * 7) = 0 then (x / 7) - (x / 7) / 14 * 14 else (if 3 ≤ (x - x / 7 * 7) then (if (x - x / 7 * 7) = 3 then 3 else (if (x - x / 7 * 7) = 4 then 2 else (if (x - x / 7 * 7) = 5 then 4 else 6))) else 0)
def opB (w x : Int32) : Int32 := if w = 0 then (x / 98) - (x / 98) / 33 * 33 else (if 3 < w then (if w = 4 then (x / 98) - (x / 98) / 12 * 12 else (if w = 9 then (x / 98) - (x / 98) / 12 * 12 else (if w = 5 then (x / 98) - (x / 98) / 9 * 9 else (if w = 6 then ((x / 98) / 5) - ((x / 98) / 5) / 2 * 2 else (if w = 10 then ((x / 98) / 5) - ((x / 98) / 5) / 2 * 2 else (if w = 7 then (x / 98) - (x / 98) / 3 * 3 else (x / 98) - (x / 98) / 8 * 8)))))) else (x / 98) - (x / 98) / 4 * 4)
def opA (w x : Int32) : Int32 := if w = 5 then (x / 7) - (x / 7) / 8 * 8 else (x / 14) - (x / 14) / 4 * 4
set_option maxHeartbeats 4000000 in
set_option maxRecDepth 100000 in
theorem c_L_opBy {l : Launch} (hfl : l.stackTraces = false) {E : EE} {κ κ' : K} {a1 a2 : Int32} (h0 : PC 10 E 4 0 0) {rs : Int32 ⊕ Nat} (h : f_X10_instruct E κ a1 (opW a2) (opA (opW a2) a2) (opB (opW a2) a2) = some (κ', rs)) (he : ∀ e, rs = .inr e → e ∈ ([1, 2, 3] : List Nat)) : Con l yL_opBy cL_opBy 6 (some .int) 10 174 [.inr (some (4, 0, 0)), .inl (.int a1), .inl (.int a2)] (E, κ) (E, κ') (some (.inl (.int (lwR rs)))) := by
  refine Con_of hfl (by decide) (Nat.le_of_ble_eq_true rfl) rfl ⟨.int, rfl, rfl⟩ ?_
  intro X B g O hKP hmL hE
  change J X B (E, κ) 0 [(0, .inr (some (4, 0, 0))), (1, .inl (.int a1)), (2, .inl (.int a2))] []
  suffices K1 : J X B (E, κ) 67 [(0, .inr (some (4, 0, 0))), (1, .inl (.int a1)), (2, .inl (.int a2))] [.inl (.int (opW a2))] by
    unfold opW at K1
    refine J_iload_n O.mo dL_opBy_0 2 rfl ?_
    refine J_bipush O.mo (v := 7) dL_opBy_1 (by decide) ?_
    refine J_irem O.mo dL_opBy_3 (by decide) ?_
    refine J_if_ne O.mo (tgt := 17) dL_opBy_4 (by decide) (fun hc6 => ?_) (fun hc6 => ?_)
    · refine J_iload_n O.mo dL_opBy_17 2 rfl ?_
      refine J_bipush O.mo (v := 7) dL_opBy_18 (by decide) ?_
      refine J_irem O.mo dL_opBy_20 (by decide) ?_
      refine J_iconst O.mo (v := 3) dL_opBy_21 (by decide) ?_
      refine J_icmp_ge O.mo (tgt := 29) dL_opBy_22 (by decide) (fun hc7 => ?_) (fun hc7 => ?_)
      · refine J_iload_n O.mo dL_opBy_29 2 rfl ?_
        refine J_bipush O.mo (v := 7) dL_opBy_30 (by decide) ?_
        refine J_irem O.mo dL_opBy_32 (by decide) ?_
        refine J_iconst O.mo (v := 3) dL_opBy_33 (by decide) ?_
        refine J_icmp_ne O.mo (tgt := 41) dL_opBy_34 (by decide) (fun hc8 => ?_) (fun hc8 => ?_)
        · refine J_iload_n O.mo dL_opBy_41 2 rfl ?_
          refine J_bipush O.mo (v := 7) dL_opBy_42 (by decide) ?_
          refine J_irem O.mo dL_opBy_44 (by decide) ?_
          refine J_iconst O.mo (v := 4) dL_opBy_45 (by decide) ?_
          refine J_icmp_ne O.mo (tgt := 53) dL_opBy_46 (by decide) (fun hc9 => ?_) (fun hc9 => ?_)
          · refine J_iload_n O.mo dL_opBy_53 2 rfl ?_
            refine J_bipush O.mo (v := 7) dL_opBy_54 (by decide) ?_
            refine J_irem O.mo dL_opBy_56 (by decide) ?_
            refine J_iconst O.mo (v := 5) dL_opBy_57 (by decide) ?_
            refine J_icmp_ne O.mo (tgt := 65) dL_opBy_58 (by decide) (fun hc10 => ?_) (fun hc10 => ?_)
            · refine J_bipush O.mo (v := 6) dL_opBy_65 (by decide) ?_
              rw [if_neg hc6] at K1
              rw [if_pos hc7] at K1
              rw [if_neg hc8] at K1
              rw [if_neg hc9] at K1
              rw [if_neg hc10] at K1
              exact K1
            · refine J_iconst O.mo (v := 4) dL_opBy_61 (by decide) ?_
              refine J_goto O.mo (tgt := 67) dL_opBy_62 (by decide) ?_
              rw [if_neg hc6] at K1
              rw [if_pos hc7] at K1
              rw [if_neg hc8] at K1
              rw [if_neg hc9] at K1
              rw [if_pos hc10] at K1
              exact K1
          · refine J_iconst O.mo (v := 2) dL_opBy_49 (by decide) ?_
            refine J_goto O.mo (tgt := 67) dL_opBy_50 (by decide) ?_
            rw [if_neg hc6] at K1
            rw [if_pos hc7] at K1
            rw [if_neg hc8] at K1
            rw [if_pos hc9] at K1
            exact K1
        · refine J_iconst O.mo (v := 3) dL_opBy_37 (by decide) ?_
          refine J_goto O.mo (tgt := 67) dL_opBy_38 (by decide) ?_
          rw [if_neg hc6] at K1
          rw [if_pos hc7] at K1
          rw [if_pos hc8] at K1
          exact K1
      · refine J_iconst O.mo (v := 0) dL_opBy_25 (by decide) ?_
        refine J_goto O.mo (tgt := 67) dL_opBy_26 (by decide) ?_
        rw [if_neg hc6] at K1
        rw [if_neg hc7] at K1
        exact K1
    · refine J_iload_n O.mo dL_opBy_7 2 rfl ?_
      refine J_bipush O.mo (v := 7) dL_opBy_8 (by decide) ?_
      refine J_idiv O.mo dL_opBy_10 (by decide) ?_
      refine J_bipush O.mo (v := 14) dL_opBy_11 (by decide) ?_
      refine J_irem O.mo dL_opBy_13 (by decide) ?_
      refine J_goto O.mo (tgt := 67) dL_opBy_14 (by decide) ?_
      rw [if_pos hc6] at K1
      exact K1
  refine J_istore_n O.mo dL_opBy_67 (by rw [hmL]; decide) rfl rfl ?_
  generalize opW a2 = w at h ⊢
  refine J_iload_n O.mo dL_opBy_68 3 rfl ?_
  refine J_bipush O.mo (v := 98) dL_opBy_69 (by decide) ?_
  refine J_idiv O.mo dL_opBy_71 (by decide) ?_
  refine J_istore O.mo dL_opBy_72 (by rw [hmL]; decide) rfl rfl ?_
  refine J_iload_n O.mo dL_opBy_74 1 rfl ?_
  suffices K2 : J X B (E, κ) 169 [(4, .inl (.int (a2 / 98))), (3, .inl (.int w)), (0, .inr (some (4, 0, 0))), (1, .inl (.int a1)), (2, .inl (.int a2))] [.inl (.int (opB w a2))] by
    unfold opB at K2
    refine J_if_ne O.mo (tgt := 86) dL_opBy_75 (by decide) (fun hc14 => ?_) (fun hc14 => ?_)
    · refine J_iload_n O.mo dL_opBy_86 1 rfl ?_
      refine J_iconst O.mo (v := 3) dL_opBy_87 (by decide) ?_
      refine J_icmp_gt O.mo (tgt := 98) dL_opBy_88 (by decide) (fun hc15 => ?_) (fun hc15 => ?_)
      · refine J_iload_n O.mo dL_opBy_98 1 rfl ?_
        refine J_iconst O.mo (v := 4) dL_opBy_99 (by decide) ?_
        refine J_icmp_eq O.mo (tgt := 109) dL_opBy_100 (by decide) (fun hc16 => ?_) (fun hc16 => ?_)
        · refine J_iload O.mo dL_opBy_109 0 rfl ?_
          refine J_bipush O.mo (v := 12) dL_opBy_111 (by decide) ?_
          refine J_irem O.mo dL_opBy_113 (by decide) ?_
          refine J_goto O.mo (tgt := 169) dL_opBy_114 (by decide) ?_
          rw [if_neg hc14] at K2
          rw [if_pos hc15] at K2
          rw [if_pos hc16] at K2
          exact K2
        · refine J_iload_n O.mo dL_opBy_103 1 rfl ?_
          refine J_bipush O.mo (v := 9) dL_opBy_104 (by decide) ?_
          refine J_icmp_ne O.mo (tgt := 117) dL_opBy_106 (by decide) (fun hc17 => ?_) (fun hc17 => ?_)
          · refine J_iload_n O.mo dL_opBy_117 1 rfl ?_
            refine J_iconst O.mo (v := 5) dL_opBy_118 (by decide) ?_
            refine J_icmp_ne O.mo (tgt := 130) dL_opBy_119 (by decide) (fun hc18 => ?_) (fun hc18 => ?_)
            · refine J_iload_n O.mo dL_opBy_130 1 rfl ?_
              refine J_bipush O.mo (v := 6) dL_opBy_131 (by decide) ?_
              refine J_icmp_eq O.mo (tgt := 142) dL_opBy_133 (by decide) (fun hc19 => ?_) (fun hc19 => ?_)
              · refine J_iload O.mo dL_opBy_142 0 rfl ?_
                refine J_iconst O.mo (v := 5) dL_opBy_144 (by decide) ?_
                refine J_idiv O.mo dL_opBy_145 (by decide) ?_
                refine J_iconst O.mo (v := 2) dL_opBy_146 (by decide) ?_
                refine J_irem O.mo dL_opBy_147 (by decide) ?_
                refine J_goto O.mo (tgt := 169) dL_opBy_148 (by decide) ?_
                rw [if_neg hc14] at K2
                rw [if_pos hc15] at K2
                rw [if_neg hc16] at K2
                rw [if_neg hc17] at K2
                rw [if_neg hc18] at K2
                rw [if_pos hc19] at K2
                exact K2
              · refine J_iload_n O.mo dL_opBy_136 1 rfl ?_
                refine J_bipush O.mo (v := 10) dL_opBy_137 (by decide) ?_
                refine J_icmp_ne O.mo (tgt := 151) dL_opBy_139 (by decide) (fun hc20 => ?_) (fun hc20 => ?_)
                · refine J_iload_n O.mo dL_opBy_151 1 rfl ?_
                  refine J_bipush O.mo (v := 7) dL_opBy_152 (by decide) ?_
                  refine J_icmp_ne O.mo (tgt := 164) dL_opBy_154 (by decide) (fun hc21 => ?_) (fun hc21 => ?_)
                  · refine J_iload O.mo dL_opBy_164 0 rfl ?_
                    refine J_bipush O.mo (v := 8) dL_opBy_166 (by decide) ?_
                    refine J_irem O.mo dL_opBy_168 (by decide) ?_
                    rw [if_neg hc14] at K2
                    rw [if_pos hc15] at K2
                    rw [if_neg hc16] at K2
                    rw [if_neg hc17] at K2
                    rw [if_neg hc18] at K2
                    rw [if_neg hc19] at K2
                    rw [if_neg hc20] at K2
                    rw [if_neg hc21] at K2
                    exact K2
                  · refine J_iload O.mo dL_opBy_157 0 rfl ?_
                    refine J_iconst O.mo (v := 3) dL_opBy_159 (by decide) ?_
                    refine J_irem O.mo dL_opBy_160 (by decide) ?_
                    refine J_goto O.mo (tgt := 169) dL_opBy_161 (by decide) ?_
                    rw [if_neg hc14] at K2
                    rw [if_pos hc15] at K2
                    rw [if_neg hc16] at K2
                    rw [if_neg hc17] at K2
                    rw [if_neg hc18] at K2
                    rw [if_neg hc19] at K2
                    rw [if_neg hc20] at K2
                    rw [if_pos hc21] at K2
                    exact K2
                · refine J_iload O.mo dL_opBy_142 0 rfl ?_
                  refine J_iconst O.mo (v := 5) dL_opBy_144 (by decide) ?_
                  refine J_idiv O.mo dL_opBy_145 (by decide) ?_
                  refine J_iconst O.mo (v := 2) dL_opBy_146 (by decide) ?_
                  refine J_irem O.mo dL_opBy_147 (by decide) ?_
                  refine J_goto O.mo (tgt := 169) dL_opBy_148 (by decide) ?_
                  rw [if_neg hc14] at K2
                  rw [if_pos hc15] at K2
                  rw [if_neg hc16] at K2
                  rw [if_neg hc17] at K2
                  rw [if_neg hc18] at K2
                  rw [if_neg hc19] at K2
                  rw [if_pos hc20] at K2
                  exact K2
            · refine J_iload O.mo dL_opBy_122 0 rfl ?_
              refine J_bipush O.mo (v := 9) dL_opBy_124 (by decide) ?_
              refine J_irem O.mo dL_opBy_126 (by decide) ?_
              refine J_goto O.mo (tgt := 169) dL_opBy_127 (by decide) ?_
              rw [if_neg hc14] at K2
              rw [if_pos hc15] at K2
              rw [if_neg hc16] at K2
              rw [if_neg hc17] at K2
              rw [if_pos hc18] at K2
              exact K2
          · refine J_iload O.mo dL_opBy_109 0 rfl ?_
            refine J_bipush O.mo (v := 12) dL_opBy_111 (by decide) ?_
            refine J_irem O.mo dL_opBy_113 (by decide) ?_
            refine J_goto O.mo (tgt := 169) dL_opBy_114 (by decide) ?_
            rw [if_neg hc14] at K2
            rw [if_pos hc15] at K2
            rw [if_neg hc16] at K2
            rw [if_pos hc17] at K2
            exact K2
      · refine J_iload O.mo dL_opBy_91 0 rfl ?_
        refine J_iconst O.mo (v := 4) dL_opBy_93 (by decide) ?_
        refine J_irem O.mo dL_opBy_94 (by decide) ?_
        refine J_goto O.mo (tgt := 169) dL_opBy_95 (by decide) ?_
        rw [if_neg hc14] at K2
        rw [if_neg hc15] at K2
        exact K2
    · refine J_iload O.mo dL_opBy_78 0 rfl ?_
      refine J_bipush O.mo (v := 33) dL_opBy_80 (by decide) ?_
      refine J_irem O.mo dL_opBy_82 (by decide) ?_
      refine J_goto O.mo (tgt := 169) dL_opBy_83 (by decide) ?_
      rw [if_pos hc14] at K2
      exact K2
  refine J_istore O.mo dL_opBy_169 (by rw [hmL]; decide) rfl rfl ?_
  refine J_aload_n O.mo dL_opBy_171 3 rfl ?_
  refine J_iload_n O.mo dL_opBy_172 4 rfl ?_
  refine J_iload_n O.mo dL_opBy_173 2 rfl ?_
  refine J_iload_n O.mo dL_opBy_174 2 rfl ?_
  refine J_iconst O.mo (v := 5) dL_opBy_175 (by decide) ?_
  suffices K3 : J X B (E, κ) 195 [(5, .inl (.int (opB w a2))), (4, .inl (.int (a2 / 98))), (3, .inl (.int w)), (0, .inr (some (4, 0, 0))), (1, .inl (.int a1)), (2, .inl (.int a2))] [.inl (.int (opA w a2)), .inl (.int w), .inl (.int a1), .inr (some (4, 0, 0))] by
    unfold opA at K3
    refine J_icmp_ne O.mo (tgt := 189) dL_opBy_176 (by decide) (fun hc23 => ?_) (fun hc23 => ?_)
    · refine J_iload_n O.mo dL_opBy_189 5 rfl ?_
      refine J_bipush O.mo (v := 14) dL_opBy_190 (by decide) ?_
      refine J_idiv O.mo dL_opBy_192 (by decide) ?_
      refine J_iconst O.mo (v := 4) dL_opBy_193 (by decide) ?_
      refine J_irem O.mo dL_opBy_194 (by decide) ?_
      rw [if_neg hc23] at K3
      exact K3
    · refine J_iload_n O.mo dL_opBy_179 5 rfl ?_
      refine J_bipush O.mo (v := 7) dL_opBy_180 (by decide) ?_
      refine J_idiv O.mo dL_opBy_182 (by decide) ?_
      refine J_bipush O.mo (v := 8) dL_opBy_183 (by decide) ?_
      refine J_irem O.mo dL_opBy_185 (by decide) ?_
      refine J_goto O.mo (tgt := 195) dL_opBy_186 (by decide) ?_
      rw [if_pos hc23] at K3
      exact K3
  refine J_iload O.mo dL_opBy_195 0 rfl ?_
  refine J_callSW O hKP (as := [.inr (some (4, 0, 0)), .inl (.int a1), .inl (.int w), .inl (.int (opA w a2)), .inl (.int (opB w a2))]) (rest := []) (r := some (.inl (.int (lwR rs)))) (c_L_op hfl h0 h he) rfl mw768 mw769 mw770 mw771 pd_L_op rfl (by decide) rfl (Nat.le_of_ble_eq_true rfl) (sl_v (sl_v (sl_v (sl_p (s10_0 h0) (sl_v (sl_v sl_0)))))) st_0 dL_opBy_197 ?_
  show J X B (E, κ') 200 [(5, .inl (.int (opB w a2))), (4, .inl (.int (a2 / 98))), (3, .inl (.int w)), (0, .inr (some (4, 0, 0))), (1, .inl (.int a1)), (2, .inl (.int a2))] [.inl (.int (lwR rs))]
  exact hE _ _ dL_opBy_200
