def wrow (a : Nat → Int32) (μ : MU) (g : Nat) : Nat → Int32 := fun j => if 4 ≤ j ∧ j < 4 + g then μ 35 (j - 4) else a j
def wst (s : S2) (a : Nat → Int32) (μ : MU) (g : Nat) : S2 := (s.1, some (wrow a μ g), s.2.2)
theorem wst_0 {s : S2} {a : Nat → Int32} {μ : MU} (ha : s.2.1 = some a) : wst s a μ 0 = s := by
  have e : wrow a μ 0 = a := by
    funext j
    exact if_neg (by omega)
  unfold wst
  rw [e, ← ha]
theorem wst_s {s : S2} {a : Nat → Int32} {μ : MU} {g A D : Nat} : setNr (sp (wst s a μ g) A D) (4 + g) (μ 35 g) = sp (wst s a μ (g + 1)) A D := by
  have e : upd (wrow a μ g) (4 + g) (μ 35 g) = wrow a μ (g + 1) := by
    funext j
    show (if j = 4 + g then _ else if 4 ≤ j ∧ j < 4 + g then _ else _) = (if 4 ≤ j ∧ j < 4 + (g + 1) then _ else _)
    by_cases e : j = 4 + g
    · rw [if_pos e, if_pos (by omega), e]
      congr 1
      omega
    · rw [if_neg e]
      by_cases e2 : 4 ≤ j ∧ j < 4 + g
      · rw [if_pos e2, if_pos (by omega)]
      · rw [if_neg e2, if_neg (by omega)]
  show (s.1, (some (wrow a μ g)).map (fun b => upd b (4 + g) (μ 35 g)), _) = (s.1, some (wrow a μ (g + 1)), _)
  rw [← e]
  rfl
theorem wrow_0 {a : Nat → Int32} {μ : MU} {g : Nat} : wrow a μ g 0 = a 0 := if_neg (by omega)
theorem wrow_g {a : Nat → Int32} {μ : MU} {g : Nat} : wrow a μ g (4 + g) = a (4 + g) := if_neg (by omega)
set_option maxHeartbeats 4000000 in
set_option maxRecDepth 100000 in
theorem wh_k {l : Launch} (hfl : l.stackTraces = false) {E : EE} {κ : K} {n ns t C : Nat} (hR : REL E κ (kV κ 5 0) n ns t C) {s : S2} {h : Nat} (hh : h < 2) (hs : s.1 h = (E, κ)) {a : Nat → Int32} (ha : s.2.1 = some a) (a0 : a 0 = nI n) {X : MX} {B : BX S2} {g0 : GP} (O : CKM l X B g0 cL_isWhole yL_isWhole.cls 11 306) (hKP : KPokM B) (hmL : B.2.2.2.1 = 10) {x : Nat} {q g : Nat} (hq : q < 2) (hg : g < n) : ∀ d k : Nat, k + d = 8 → J X B (sp s 0 0) 165 [(0, .inr (some (shP h (4, 0, 0)))), (1, .inr (some (2, 0, 0))), (2, .inl (.int (nI x))), (3, .inl (.int (nI 1))), (4, .inl (.int (nI q))), (5, .inl (.int (nI (setS (kV κ 2 q) (8 * g + 8))))), (6, .inl (.int (nI g))), (7, .inl (.int (nI 8)))] [] → J X B (sp s 0 0) 50 [(0, .inr (some (shP h (4, 0, 0)))), (1, .inr (some (2, 0, 0))), (2, .inl (.int (nI x))), (3, .inl (.int (nI 1))), (4, .inl (.int (nI q))), (5, .inl (.int (nI (setS (kV κ 2 q) (8 * g + k))))), (6, .inl (.int (nI g))), (7, .inl (.int (nI k)))] [] := by
  have h0 : PC 10 E 4 0 0 := hR.1.2.2.1.1
  have hn5 : n ≤ 5 := hR.2.2.1.1.1.1
  have hF : FRM (kV κ 5 0) n := hR.2.2.1.2.1
  have hRH := (hR.2.2.1.2.2.1 q hq).1
  have hFK := FKO_of hRH hF
  obtain ⟨p1, hp1, e15⟩ := (hR.2.2.1.1.1.2.2.1 g hg).2.2.2
  intro d
  induction d with
  | zero =>
    intro k hk kk
    obtain rfl : k = 8 := by omega
    refine J_iload O.mo dL_isWhole_50 7 rfl ?_
    refine J_bipush O.mo (v := nI 8) dL_isWhole_52 (by decide) ?_
    refine J_icmp_ge O.mo (tgt := 165) dL_isWhole_54 (by decide) (fun _ => ?_) (fun hc => absurd (Int32.le_refl _) hc)
    exact kk
  | succ d ih =>
    intro k hk kk
    have hw := hRH.1 (8 * g + k) (by omega)
    rw [show (8 * g + k) / 8 = g by omega] at hw
    have hS := setS_lt hFK (8 * g + k) (by omega)
    have hgo := ih (k + 1) (by omega) kk
    clear ih kk
    rcases hF (8 * g + k) (by omega) with ⟨e27, f, hf, e28⟩ | ⟨e27, e28⟩
    · by_cases hpq : p1 = q
      · rw [if_pos ⟨hg, by rw [e15, hpq]⟩, e28] at hw
        refine J_iload O.mo dL_isWhole_50 7 rfl ?_
        refine J_bipush O.mo (v := nI 8) dL_isWhole_52 (by decide) ?_
        refine J_icmp_ge O.mo (tgt := 165) dL_isWhole_54 (by decide) (fun hc => absurd hc (by rw [nI_le' (by omega) (by omega)]; omega)) (fun _ => ?_)
        refine J_iload_n O.mo dL_isWhole_57 3 rfl ?_
        refine J_if_eq O.mo (tgt := 165) dL_isWhole_58 (by decide) (fun hc => absurd hc (by decide)) (fun _ => ?_)
        refine J_aload_n O.mo dL_isWhole_61 0 rfl ?_
        refine J_iload O.mo dL_isWhole_62 6 rfl ?_
        refine J_iload O.mo dL_isWhole_64 7 rfl ?_
        refine J_askW (s := s) (h := h) (A := 0) (D := 0) (da := 0) (db := 0) O hKP hh hs (l10_0 h0) (as := [.inr (some (4, 0, 0)), .inl (.int (nI g)), .inl (.int (nI k))]) (rest := []) (r := some (.inl (.int (nI f)))) (c_L_frameOf hfl h0 (show f_X10_frameOf E κ (nI g) (nI k) = some (κ, .inl (nI f)) by rw [qa_frameOf hR hg (show k < 8 by omega), e28]) (fun e z => by cases z)) trivial Cov.rf rfl rfl mw837 mw838 mw770 mw839 pd_L_frameOf rfl (by decide) rfl (Nat.le_of_ble_eq_true rfl) (sk_p (sM_h hh) (sk_p sM_n (sk_v (sk_v (sk_v (sk_v (sk_v (sk_v sk_0)))))))) sm_0 dL_isWhole_66 ?_
        show J X B (sp s (0) (0)) 69 [(0, .inr (some (shP h (4, 0, 0)))), (1, .inr (some (2, 0, 0))), (2, .inl (.int (nI x))), (3, .inl (.int (nI 1))), (4, .inl (.int (nI q))), (5, .inl (.int (nI (setS (kV κ 2 q) (8 * g + k))))), (6, .inl (.int (nI g))), (7, .inl (.int (nI k)))] [.inl (.int (nI f))]
        refine J_istore O.mo dL_isWhole_69 (by rw [hmL]; decide) rfl rfl ?_
        refine J_aload_n O.mo dL_isWhole_71 1 rfl ?_
        refine J_iload O.mo dL_isWhole_72 7 rfl ?_
        refine J_iload O.mo dL_isWhole_74 8 rfl ?_
        refine J_askW (s := s) (h := h) (A := 0) (D := 0) (da := 0) (db := 0) O hKP hh hs (l10_0 h0) (as := [.inr (some (4, 0, 0)), .inl (.int (nI g)), .inl (.int (nI k))]) (rest := []) (r := some (.inl (.int (nI 1)))) (c_L_pageOf hfl h0 (show f_X10_pageOf E κ (nI g) (nI k) = some (κ, .inl (nI 1)) by rw [qa_pageOf hR hg (show k < 8 by omega), e27]; rfl) (fun e z => by cases z)) trivial Cov.rf rfl rfl mw834 mw835 mw770 mw836 pd_L_pageOf rfl (by decide) rfl (Nat.le_of_ble_eq_true rfl) (sk_v (sk_p (sM_h hh) (sk_p sM_n (sk_v (sk_v (sk_v (sk_v (sk_v (sk_v sk_0))))))))) sm_0 dL_isWhole_76 ?_
        show J X B (sp s (0) (0)) 79 [(8, .inl (.int (nI f))), (0, .inr (some (shP h (4, 0, 0)))), (1, .inr (some (2, 0, 0))), (2, .inl (.int (nI x))), (3, .inl (.int (nI 1))), (4, .inl (.int (nI q))), (5, .inl (.int (nI (setS (kV κ 2 q) (8 * g + k))))), (6, .inl (.int (nI g))), (7, .inl (.int (nI k)))] [.inl (.int (nI 1))]
        refine J_istore O.mo dL_isWhole_79 (by rw [hmL]; decide) rfl rfl ?_
        refine J_iload O.mo dL_isWhole_81 0 rfl ?_
        refine J_if_lt O.mo (tgt := 127) dL_isWhole_83 (by decide) (fun hc => absurd hc (by decide)) (fun _ => ?_)
        refine J_iload O.mo dL_isWhole_86 0 rfl ?_
        refine J_iconst O.mo (v := nI 2) dL_isWhole_88 (by decide) ?_
        refine J_icmp_gt O.mo (tgt := 127) dL_isWhole_89 (by decide) (fun hc => absurd hc (by decide)) (fun _ => ?_)
        refine J_iload O.mo dL_isWhole_92 0 rfl ?_
        refine J_iconst O.mo (v := nI 1) dL_isWhole_94 (by decide) ?_
        refine J_icmp_ne O.mo (tgt := 102) dL_isWhole_95 (by decide) (fun hc => absurd (rfl) hc) (fun _ => ?_)
        refine J_iconst O.mo (v := nI 1) dL_isWhole_98 (by decide) ?_
        refine J_goto O.mo (tgt := 103) dL_isWhole_99 (by decide) ?_
        refine J_iload O.mo dL_isWhole_103 1 rfl ?_
        refine J_if_lt O.mo (tgt := 112) dL_isWhole_105 (by decide) (fun hc => absurd hc (nI_pos (by omega))) (fun _ => ?_)
        refine J_iconst O.mo (v := nI 1) dL_isWhole_108 (by decide) ?_
        refine J_goto O.mo (tgt := 113) dL_isWhole_109 (by decide) ?_
        refine J_icmp_ne O.mo (tgt := 127) dL_isWhole_113 (by decide) (fun hc => absurd (rfl) hc) (fun _ => ?_)
        refine J_iload O.mo dL_isWhole_116 1 rfl ?_
        refine J_bipush O.mo (v := nI 16) dL_isWhole_118 (by decide) ?_
        refine J_icmp_ge O.mo (tgt := 127) dL_isWhole_120 (by decide) (fun hc => absurd hc (by rw [nI_le' (by omega) (by omega)]; omega)) (fun _ => ?_)
        refine J_iconst O.mo (v := nI 1) dL_isWhole_123 (by decide) ?_
        refine J_goto O.mo (tgt := 128) dL_isWhole_124 (by decide) ?_
        refine J_istore_n O.mo dL_isWhole_128 (by rw [hmL]; decide) rfl rfl ?_
        refine J_iload O.mo dL_isWhole_129 7 rfl ?_
        refine J_iload O.mo dL_isWhole_131 2 rfl ?_
        refine J_if_lt O.mo (tgt := 155) dL_isWhole_133 (by decide) (fun hc => absurd hc (nI_pos (by omega))) (fun _ => ?_)
        refine J_aload_n O.mo dL_isWhole_136 3 rfl ?_
        refine J_iload O.mo dL_isWhole_137 8 rfl ?_
        refine J_iconst O.mo (v := nI 1) dL_isWhole_139 (by decide) ?_
        refine J_askW (s := s) (h := h) (A := 0) (D := 0) (da := 0) (db := 0) O hKP hh hs (l10_0 h0) (as := [.inr (some (4, 0, 0)), .inl (.int (nI g)), .inl (.int (nI 1))]) (rest := [.inl (.int (nI (setS (kV κ 2 q) (8 * g + k))))]) (r := some (.inl (.int (nI p1)))) (c_L_of hfl h0 (show f_X10_of E κ (nI g) (nI 1) = some (κ, .inl (nI p1)) by rw [qa_of1 hR hg, e15]) (fun e z => by cases z)) trivial Cov.rf rfl rfl mw825 mw826 mw770 mw827 pd_L_of rfl (by decide) rfl (Nat.le_of_ble_eq_true rfl) (sk_v (sk_v (sk_v (sk_p (sM_h hh) (sk_p sM_n (sk_v (sk_v (sk_v (sk_v (sk_v sk_0)))))))))) (sm_v sm_0) dL_isWhole_140 ?_
        show J X B (sp s (0) (0)) 143 [(3, .inl (.int (nI 1))), (9, .inl (.int (nI 1))), (8, .inl (.int (nI f))), (0, .inr (some (shP h (4, 0, 0)))), (1, .inr (some (2, 0, 0))), (2, .inl (.int (nI x))), (4, .inl (.int (nI q))), (5, .inl (.int (nI (setS (kV κ 2 q) (8 * g + k))))), (6, .inl (.int (nI g))), (7, .inl (.int (nI k)))] [.inl (.int (nI p1)), .inl (.int (nI (setS (kV κ 2 q) (8 * g + k))))]
        refine J_iload O.mo dL_isWhole_143 6 rfl ?_
        refine J_icmp_ne O.mo (tgt := 155) dL_isWhole_145 (by decide) (fun hc => absurd (by rw [hpq]) hc) (fun _ => ?_)
        refine J_iconst O.mo (v := nI 1) dL_isWhole_148 (by decide) ?_
        refine J_iload O.mo dL_isWhole_149 2 rfl ?_
        refine J_ishlE O.mo dL_isWhole_151 (v := nI (2 ^ f)) (nI_shl f hf) ?_
        refine J_goto O.mo (tgt := 156) dL_isWhole_152 (by decide) ?_
        refine J_iorE O.mo dL_isWhole_156 (v := nI (setS (kV κ 2 q) (8 * g + (k + 1)))) (by rw [nI_or hS (pow16 hf)]; exact congrArg nI (setS_f hf hw).symm) ?_
        refine J_istore O.mo dL_isWhole_157 (by rw [hmL]; decide) rfl rfl ?_
        refine J_iinc O.mo dL_isWhole_159 (by rw [hmL]; decide) 9 rfl (v := nI (k + 1)) (nI_add k 1) rfl rfl ?_
        refine J_goto O.mo (tgt := 50) dL_isWhole_162 (by decide) ?_
        refine J_sub [5, 6, 7, 2, 8, 1, 9, 0] rfl ?_
        exact hgo
      · rw [if_neg (fun z => hpq (by have z2 := z.2; rw [e15, nI_eq' (by omega) (by omega)] at z2; exact z2))] at hw
        refine J_iload O.mo dL_isWhole_50 7 rfl ?_
        refine J_bipush O.mo (v := nI 8) dL_isWhole_52 (by decide) ?_
        refine J_icmp_ge O.mo (tgt := 165) dL_isWhole_54 (by decide) (fun hc => absurd hc (by rw [nI_le' (by omega) (by omega)]; omega)) (fun _ => ?_)
        refine J_iload_n O.mo dL_isWhole_57 3 rfl ?_
        refine J_if_eq O.mo (tgt := 165) dL_isWhole_58 (by decide) (fun hc => absurd hc (by decide)) (fun _ => ?_)
        refine J_aload_n O.mo dL_isWhole_61 0 rfl ?_
        refine J_iload O.mo dL_isWhole_62 6 rfl ?_
        refine J_iload O.mo dL_isWhole_64 7 rfl ?_
        refine J_askW (s := s) (h := h) (A := 0) (D := 0) (da := 0) (db := 0) O hKP hh hs (l10_0 h0) (as := [.inr (some (4, 0, 0)), .inl (.int (nI g)), .inl (.int (nI k))]) (rest := []) (r := some (.inl (.int (nI f)))) (c_L_frameOf hfl h0 (show f_X10_frameOf E κ (nI g) (nI k) = some (κ, .inl (nI f)) by rw [qa_frameOf hR hg (show k < 8 by omega), e28]) (fun e z => by cases z)) trivial Cov.rf rfl rfl mw837 mw838 mw770 mw839 pd_L_frameOf rfl (by decide) rfl (Nat.le_of_ble_eq_true rfl) (sk_p (sM_h hh) (sk_p sM_n (sk_v (sk_v (sk_v (sk_v (sk_v (sk_v sk_0)))))))) sm_0 dL_isWhole_66 ?_
        show J X B (sp s (0) (0)) 69 [(0, .inr (some (shP h (4, 0, 0)))), (1, .inr (some (2, 0, 0))), (2, .inl (.int (nI x))), (3, .inl (.int (nI 1))), (4, .inl (.int (nI q))), (5, .inl (.int (nI (setS (kV κ 2 q) (8 * g + k))))), (6, .inl (.int (nI g))), (7, .inl (.int (nI k)))] [.inl (.int (nI f))]
        refine J_istore O.mo dL_isWhole_69 (by rw [hmL]; decide) rfl rfl ?_
        refine J_aload_n O.mo dL_isWhole_71 1 rfl ?_
        refine J_iload O.mo dL_isWhole_72 7 rfl ?_
        refine J_iload O.mo dL_isWhole_74 8 rfl ?_
        refine J_askW (s := s) (h := h) (A := 0) (D := 0) (da := 0) (db := 0) O hKP hh hs (l10_0 h0) (as := [.inr (some (4, 0, 0)), .inl (.int (nI g)), .inl (.int (nI k))]) (rest := []) (r := some (.inl (.int (nI 1)))) (c_L_pageOf hfl h0 (show f_X10_pageOf E κ (nI g) (nI k) = some (κ, .inl (nI 1)) by rw [qa_pageOf hR hg (show k < 8 by omega), e27]; rfl) (fun e z => by cases z)) trivial Cov.rf rfl rfl mw834 mw835 mw770 mw836 pd_L_pageOf rfl (by decide) rfl (Nat.le_of_ble_eq_true rfl) (sk_v (sk_p (sM_h hh) (sk_p sM_n (sk_v (sk_v (sk_v (sk_v (sk_v (sk_v sk_0))))))))) sm_0 dL_isWhole_76 ?_
        show J X B (sp s (0) (0)) 79 [(8, .inl (.int (nI f))), (0, .inr (some (shP h (4, 0, 0)))), (1, .inr (some (2, 0, 0))), (2, .inl (.int (nI x))), (3, .inl (.int (nI 1))), (4, .inl (.int (nI q))), (5, .inl (.int (nI (setS (kV κ 2 q) (8 * g + k))))), (6, .inl (.int (nI g))), (7, .inl (.int (nI k)))] [.inl (.int (nI 1))]
        refine J_istore O.mo dL_isWhole_79 (by rw [hmL]; decide) rfl rfl ?_
        refine J_iload O.mo dL_isWhole_81 0 rfl ?_
        refine J_if_lt O.mo (tgt := 127) dL_isWhole_83 (by decide) (fun hc => absurd hc (by decide)) (fun _ => ?_)
        refine J_iload O.mo dL_isWhole_86 0 rfl ?_
        refine J_iconst O.mo (v := nI 2) dL_isWhole_88 (by decide) ?_
        refine J_icmp_gt O.mo (tgt := 127) dL_isWhole_89 (by decide) (fun hc => absurd hc (by decide)) (fun _ => ?_)
        refine J_iload O.mo dL_isWhole_92 0 rfl ?_
        refine J_iconst O.mo (v := nI 1) dL_isWhole_94 (by decide) ?_
        refine J_icmp_ne O.mo (tgt := 102) dL_isWhole_95 (by decide) (fun hc => absurd (rfl) hc) (fun _ => ?_)
        refine J_iconst O.mo (v := nI 1) dL_isWhole_98 (by decide) ?_
        refine J_goto O.mo (tgt := 103) dL_isWhole_99 (by decide) ?_
        refine J_iload O.mo dL_isWhole_103 1 rfl ?_
        refine J_if_lt O.mo (tgt := 112) dL_isWhole_105 (by decide) (fun hc => absurd hc (nI_pos (by omega))) (fun _ => ?_)
        refine J_iconst O.mo (v := nI 1) dL_isWhole_108 (by decide) ?_
        refine J_goto O.mo (tgt := 113) dL_isWhole_109 (by decide) ?_
        refine J_icmp_ne O.mo (tgt := 127) dL_isWhole_113 (by decide) (fun hc => absurd (rfl) hc) (fun _ => ?_)
        refine J_iload O.mo dL_isWhole_116 1 rfl ?_
        refine J_bipush O.mo (v := nI 16) dL_isWhole_118 (by decide) ?_
        refine J_icmp_ge O.mo (tgt := 127) dL_isWhole_120 (by decide) (fun hc => absurd hc (by rw [nI_le' (by omega) (by omega)]; omega)) (fun _ => ?_)
        refine J_iconst O.mo (v := nI 1) dL_isWhole_123 (by decide) ?_
        refine J_goto O.mo (tgt := 128) dL_isWhole_124 (by decide) ?_
        refine J_istore_n O.mo dL_isWhole_128 (by rw [hmL]; decide) rfl rfl ?_
        refine J_iload O.mo dL_isWhole_129 7 rfl ?_
        refine J_iload O.mo dL_isWhole_131 2 rfl ?_
        refine J_if_lt O.mo (tgt := 155) dL_isWhole_133 (by decide) (fun hc => absurd hc (nI_pos (by omega))) (fun _ => ?_)
        refine J_aload_n O.mo dL_isWhole_136 3 rfl ?_
        refine J_iload O.mo dL_isWhole_137 8 rfl ?_
        refine J_iconst O.mo (v := nI 1) dL_isWhole_139 (by decide) ?_
        refine J_askW (s := s) (h := h) (A := 0) (D := 0) (da := 0) (db := 0) O hKP hh hs (l10_0 h0) (as := [.inr (some (4, 0, 0)), .inl (.int (nI g)), .inl (.int (nI 1))]) (rest := [.inl (.int (nI (setS (kV κ 2 q) (8 * g + k))))]) (r := some (.inl (.int (nI p1)))) (c_L_of hfl h0 (show f_X10_of E κ (nI g) (nI 1) = some (κ, .inl (nI p1)) by rw [qa_of1 hR hg, e15]) (fun e z => by cases z)) trivial Cov.rf rfl rfl mw825 mw826 mw770 mw827 pd_L_of rfl (by decide) rfl (Nat.le_of_ble_eq_true rfl) (sk_v (sk_v (sk_v (sk_p (sM_h hh) (sk_p sM_n (sk_v (sk_v (sk_v (sk_v (sk_v sk_0)))))))))) (sm_v sm_0) dL_isWhole_140 ?_
        show J X B (sp s (0) (0)) 143 [(3, .inl (.int (nI 1))), (9, .inl (.int (nI 1))), (8, .inl (.int (nI f))), (0, .inr (some (shP h (4, 0, 0)))), (1, .inr (some (2, 0, 0))), (2, .inl (.int (nI x))), (4, .inl (.int (nI q))), (5, .inl (.int (nI (setS (kV κ 2 q) (8 * g + k))))), (6, .inl (.int (nI g))), (7, .inl (.int (nI k)))] [.inl (.int (nI p1)), .inl (.int (nI (setS (kV κ 2 q) (8 * g + k))))]
        refine J_iload O.mo dL_isWhole_143 6 rfl ?_
        refine J_icmp_ne O.mo (tgt := 155) dL_isWhole_145 (by decide) (fun _ => ?_) (fun hc => absurd hc (by rw [nI_eq' (by omega) (by omega)]; exact hpq))
        refine J_iconst O.mo (v := nI 0) dL_isWhole_155 (by decide) ?_
        refine J_iorE O.mo dL_isWhole_156 (v := nI (setS (kV κ 2 q) (8 * g + (k + 1)))) (by rw [nI_or hS (by decide), Nat.or_zero]; exact congrArg nI (setS_no hw).symm) ?_
        refine J_istore O.mo dL_isWhole_157 (by rw [hmL]; decide) rfl rfl ?_
        refine J_iinc O.mo dL_isWhole_159 (by rw [hmL]; decide) 9 rfl (v := nI (k + 1)) (nI_add k 1) rfl rfl ?_
        refine J_goto O.mo (tgt := 50) dL_isWhole_162 (by decide) ?_
        refine J_sub [5, 6, 7, 2, 8, 1, 9, 0] rfl ?_
        exact hgo
    · have hw : kV κ 2 q 1 (8 * g + k) = -1 := by rw [hw]; split; exact e28; rfl
      rcases e27 with e27 | e27
      · refine J_iload O.mo dL_isWhole_50 7 rfl ?_
        refine J_bipush O.mo (v := nI 8) dL_isWhole_52 (by decide) ?_
        refine J_icmp_ge O.mo (tgt := 165) dL_isWhole_54 (by decide) (fun hc => absurd hc (by rw [nI_le' (by omega) (by omega)]; omega)) (fun _ => ?_)
        refine J_iload_n O.mo dL_isWhole_57 3 rfl ?_
        refine J_if_eq O.mo (tgt := 165) dL_isWhole_58 (by decide) (fun hc => absurd hc (by decide)) (fun _ => ?_)
        refine J_aload_n O.mo dL_isWhole_61 0 rfl ?_
        refine J_iload O.mo dL_isWhole_62 6 rfl ?_
        refine J_iload O.mo dL_isWhole_64 7 rfl ?_
        refine J_askW (s := s) (h := h) (A := 0) (D := 0) (da := 0) (db := 0) O hKP hh hs (l10_0 h0) (as := [.inr (some (4, 0, 0)), .inl (.int (nI g)), .inl (.int (nI k))]) (rest := []) (r := some (.inl (.int (-1)))) (c_L_frameOf hfl h0 (show f_X10_frameOf E κ (nI g) (nI k) = some (κ, .inl (-1)) by rw [qa_frameOf hR hg (show k < 8 by omega), e28]) (fun e z => by cases z)) trivial Cov.rf rfl rfl mw837 mw838 mw770 mw839 pd_L_frameOf rfl (by decide) rfl (Nat.le_of_ble_eq_true rfl) (sk_p (sM_h hh) (sk_p sM_n (sk_v (sk_v (sk_v (sk_v (sk_v (sk_v sk_0)))))))) sm_0 dL_isWhole_66 ?_
        show J X B (sp s (0) (0)) 69 [(0, .inr (some (shP h (4, 0, 0)))), (1, .inr (some (2, 0, 0))), (2, .inl (.int (nI x))), (3, .inl (.int (nI 1))), (4, .inl (.int (nI q))), (5, .inl (.int (nI (setS (kV κ 2 q) (8 * g + k))))), (6, .inl (.int (nI g))), (7, .inl (.int (nI k)))] [.inl (.int (-1))]
        refine J_istore O.mo dL_isWhole_69 (by rw [hmL]; decide) rfl rfl ?_
        refine J_aload_n O.mo dL_isWhole_71 1 rfl ?_
        refine J_iload O.mo dL_isWhole_72 7 rfl ?_
        refine J_iload O.mo dL_isWhole_74 8 rfl ?_
        refine J_askW (s := s) (h := h) (A := 0) (D := 0) (da := 0) (db := 0) O hKP hh hs (l10_0 h0) (as := [.inr (some (4, 0, 0)), .inl (.int (nI g)), .inl (.int (nI k))]) (rest := []) (r := some (.inl (.int (nI 0)))) (c_L_pageOf hfl h0 (show f_X10_pageOf E κ (nI g) (nI k) = some (κ, .inl (nI 0)) by rw [qa_pageOf hR hg (show k < 8 by omega), e27]; rfl) (fun e z => by cases z)) trivial Cov.rf rfl rfl mw834 mw835 mw770 mw836 pd_L_pageOf rfl (by decide) rfl (Nat.le_of_ble_eq_true rfl) (sk_v (sk_p (sM_h hh) (sk_p sM_n (sk_v (sk_v (sk_v (sk_v (sk_v (sk_v sk_0))))))))) sm_0 dL_isWhole_76 ?_
        show J X B (sp s (0) (0)) 79 [(8, .inl (.int (-1))), (0, .inr (some (shP h (4, 0, 0)))), (1, .inr (some (2, 0, 0))), (2, .inl (.int (nI x))), (3, .inl (.int (nI 1))), (4, .inl (.int (nI q))), (5, .inl (.int (nI (setS (kV κ 2 q) (8 * g + k))))), (6, .inl (.int (nI g))), (7, .inl (.int (nI k)))] [.inl (.int (nI 0))]
        refine J_istore O.mo dL_isWhole_79 (by rw [hmL]; decide) rfl rfl ?_
        refine J_iload O.mo dL_isWhole_81 0 rfl ?_
        refine J_if_lt O.mo (tgt := 127) dL_isWhole_83 (by decide) (fun hc => absurd hc (by decide)) (fun _ => ?_)
        refine J_iload O.mo dL_isWhole_86 0 rfl ?_
        refine J_iconst O.mo (v := nI 2) dL_isWhole_88 (by decide) ?_
        refine J_icmp_gt O.mo (tgt := 127) dL_isWhole_89 (by decide) (fun hc => absurd hc (by decide)) (fun _ => ?_)
        refine J_iload O.mo dL_isWhole_92 0 rfl ?_
        refine J_iconst O.mo (v := nI 1) dL_isWhole_94 (by decide) ?_
        refine J_icmp_ne O.mo (tgt := 102) dL_isWhole_95 (by decide) (fun _ => ?_) (fun hc => absurd hc (by decide))
        refine J_iconst O.mo (v := nI 0) dL_isWhole_102 (by decide) ?_
        refine J_iload O.mo dL_isWhole_103 1 rfl ?_
        refine J_if_lt O.mo (tgt := 112) dL_isWhole_105 (by decide) (fun _ => ?_) (fun hc => absurd (by decide) hc)
        refine J_iconst O.mo (v := nI 0) dL_isWhole_112 (by decide) ?_
        refine J_icmp_ne O.mo (tgt := 127) dL_isWhole_113 (by decide) (fun hc => absurd (rfl) hc) (fun _ => ?_)
        refine J_iload O.mo dL_isWhole_116 1 rfl ?_
        refine J_bipush O.mo (v := nI 16) dL_isWhole_118 (by decide) ?_
        refine J_icmp_ge O.mo (tgt := 127) dL_isWhole_120 (by decide) (fun hc => absurd hc (by decide)) (fun _ => ?_)
        refine J_iconst O.mo (v := nI 1) dL_isWhole_123 (by decide) ?_
        refine J_goto O.mo (tgt := 128) dL_isWhole_124 (by decide) ?_
        refine J_istore_n O.mo dL_isWhole_128 (by rw [hmL]; decide) rfl rfl ?_
        refine J_iload O.mo dL_isWhole_129 7 rfl ?_
        refine J_iload O.mo dL_isWhole_131 2 rfl ?_
        refine J_if_lt O.mo (tgt := 155) dL_isWhole_133 (by decide) (fun _ => ?_) (fun hc => absurd (by decide) hc)
        refine J_iconst O.mo (v := nI 0) dL_isWhole_155 (by decide) ?_
        refine J_iorE O.mo dL_isWhole_156 (v := nI (setS (kV κ 2 q) (8 * g + (k + 1)))) (by rw [nI_or hS (by decide), Nat.or_zero]; exact congrArg nI (setS_no hw).symm) ?_
        refine J_istore O.mo dL_isWhole_157 (by rw [hmL]; decide) rfl rfl ?_
        refine J_iinc O.mo dL_isWhole_159 (by rw [hmL]; decide) 9 rfl (v := nI (k + 1)) (nI_add k 1) rfl rfl ?_
        refine J_goto O.mo (tgt := 50) dL_isWhole_162 (by decide) ?_
        refine J_sub [5, 6, 7, 2, 8, 1, 9, 0] rfl ?_
        exact hgo
      · refine J_iload O.mo dL_isWhole_50 7 rfl ?_
        refine J_bipush O.mo (v := nI 8) dL_isWhole_52 (by decide) ?_
        refine J_icmp_ge O.mo (tgt := 165) dL_isWhole_54 (by decide) (fun hc => absurd hc (by rw [nI_le' (by omega) (by omega)]; omega)) (fun _ => ?_)
        refine J_iload_n O.mo dL_isWhole_57 3 rfl ?_
        refine J_if_eq O.mo (tgt := 165) dL_isWhole_58 (by decide) (fun hc => absurd hc (by decide)) (fun _ => ?_)
        refine J_aload_n O.mo dL_isWhole_61 0 rfl ?_
        refine J_iload O.mo dL_isWhole_62 6 rfl ?_
        refine J_iload O.mo dL_isWhole_64 7 rfl ?_
        refine J_askW (s := s) (h := h) (A := 0) (D := 0) (da := 0) (db := 0) O hKP hh hs (l10_0 h0) (as := [.inr (some (4, 0, 0)), .inl (.int (nI g)), .inl (.int (nI k))]) (rest := []) (r := some (.inl (.int (-1)))) (c_L_frameOf hfl h0 (show f_X10_frameOf E κ (nI g) (nI k) = some (κ, .inl (-1)) by rw [qa_frameOf hR hg (show k < 8 by omega), e28]) (fun e z => by cases z)) trivial Cov.rf rfl rfl mw837 mw838 mw770 mw839 pd_L_frameOf rfl (by decide) rfl (Nat.le_of_ble_eq_true rfl) (sk_p (sM_h hh) (sk_p sM_n (sk_v (sk_v (sk_v (sk_v (sk_v (sk_v sk_0)))))))) sm_0 dL_isWhole_66 ?_
        show J X B (sp s (0) (0)) 69 [(0, .inr (some (shP h (4, 0, 0)))), (1, .inr (some (2, 0, 0))), (2, .inl (.int (nI x))), (3, .inl (.int (nI 1))), (4, .inl (.int (nI q))), (5, .inl (.int (nI (setS (kV κ 2 q) (8 * g + k))))), (6, .inl (.int (nI g))), (7, .inl (.int (nI k)))] [.inl (.int (-1))]
        refine J_istore O.mo dL_isWhole_69 (by rw [hmL]; decide) rfl rfl ?_
        refine J_aload_n O.mo dL_isWhole_71 1 rfl ?_
        refine J_iload O.mo dL_isWhole_72 7 rfl ?_
        refine J_iload O.mo dL_isWhole_74 8 rfl ?_
        refine J_askW (s := s) (h := h) (A := 0) (D := 0) (da := 0) (db := 0) O hKP hh hs (l10_0 h0) (as := [.inr (some (4, 0, 0)), .inl (.int (nI g)), .inl (.int (nI k))]) (rest := []) (r := some (.inl (.int (nI 2)))) (c_L_pageOf hfl h0 (show f_X10_pageOf E κ (nI g) (nI k) = some (κ, .inl (nI 2)) by rw [qa_pageOf hR hg (show k < 8 by omega), e27]; rfl) (fun e z => by cases z)) trivial Cov.rf rfl rfl mw834 mw835 mw770 mw836 pd_L_pageOf rfl (by decide) rfl (Nat.le_of_ble_eq_true rfl) (sk_v (sk_p (sM_h hh) (sk_p sM_n (sk_v (sk_v (sk_v (sk_v (sk_v (sk_v sk_0))))))))) sm_0 dL_isWhole_76 ?_
        show J X B (sp s (0) (0)) 79 [(8, .inl (.int (-1))), (0, .inr (some (shP h (4, 0, 0)))), (1, .inr (some (2, 0, 0))), (2, .inl (.int (nI x))), (3, .inl (.int (nI 1))), (4, .inl (.int (nI q))), (5, .inl (.int (nI (setS (kV κ 2 q) (8 * g + k))))), (6, .inl (.int (nI g))), (7, .inl (.int (nI k)))] [.inl (.int (nI 2))]
        refine J_istore O.mo dL_isWhole_79 (by rw [hmL]; decide) rfl rfl ?_
        refine J_iload O.mo dL_isWhole_81 0 rfl ?_
        refine J_if_lt O.mo (tgt := 127) dL_isWhole_83 (by decide) (fun hc => absurd hc (by decide)) (fun _ => ?_)
        refine J_iload O.mo dL_isWhole_86 0 rfl ?_
        refine J_iconst O.mo (v := nI 2) dL_isWhole_88 (by decide) ?_
        refine J_icmp_gt O.mo (tgt := 127) dL_isWhole_89 (by decide) (fun hc => absurd hc (by decide)) (fun _ => ?_)
        refine J_iload O.mo dL_isWhole_92 0 rfl ?_
        refine J_iconst O.mo (v := nI 1) dL_isWhole_94 (by decide) ?_
        refine J_icmp_ne O.mo (tgt := 102) dL_isWhole_95 (by decide) (fun _ => ?_) (fun hc => absurd hc (by decide))
        refine J_iconst O.mo (v := nI 0) dL_isWhole_102 (by decide) ?_
        refine J_iload O.mo dL_isWhole_103 1 rfl ?_
        refine J_if_lt O.mo (tgt := 112) dL_isWhole_105 (by decide) (fun _ => ?_) (fun hc => absurd (by decide) hc)
        refine J_iconst O.mo (v := nI 0) dL_isWhole_112 (by decide) ?_
        refine J_icmp_ne O.mo (tgt := 127) dL_isWhole_113 (by decide) (fun hc => absurd (rfl) hc) (fun _ => ?_)
        refine J_iload O.mo dL_isWhole_116 1 rfl ?_
        refine J_bipush O.mo (v := nI 16) dL_isWhole_118 (by decide) ?_
        refine J_icmp_ge O.mo (tgt := 127) dL_isWhole_120 (by decide) (fun hc => absurd hc (by decide)) (fun _ => ?_)
        refine J_iconst O.mo (v := nI 1) dL_isWhole_123 (by decide) ?_
        refine J_goto O.mo (tgt := 128) dL_isWhole_124 (by decide) ?_
        refine J_istore_n O.mo dL_isWhole_128 (by rw [hmL]; decide) rfl rfl ?_
        refine J_iload O.mo dL_isWhole_129 7 rfl ?_
        refine J_iload O.mo dL_isWhole_131 2 rfl ?_
        refine J_if_lt O.mo (tgt := 155) dL_isWhole_133 (by decide) (fun _ => ?_) (fun hc => absurd (by decide) hc)
        refine J_iconst O.mo (v := nI 0) dL_isWhole_155 (by decide) ?_
        refine J_iorE O.mo dL_isWhole_156 (v := nI (setS (kV κ 2 q) (8 * g + (k + 1)))) (by rw [nI_or hS (by decide), Nat.or_zero]; exact congrArg nI (setS_no hw).symm) ?_
        refine J_istore O.mo dL_isWhole_157 (by rw [hmL]; decide) rfl rfl ?_
        refine J_iinc O.mo dL_isWhole_159 (by rw [hmL]; decide) 9 rfl (v := nI (k + 1)) (nI_add k 1) rfl rfl ?_
        refine J_goto O.mo (tgt := 50) dL_isWhole_162 (by decide) ?_
        refine J_sub [5, 6, 7, 2, 8, 1, 9, 0] rfl ?_
        exact hgo
set_option maxHeartbeats 4000000 in
set_option maxRecDepth 100000 in
theorem wh_g {l : Launch} (hfl : l.stackTraces = false) {E : EE} {κ : K} {n ns t C : Nat} (hR : REL E κ (kV κ 5 0) n ns t C) {s : S2} {h : Nat} (hh : h < 2) (hs : s.1 h = (E, κ)) {a : Nat → Int32} (ha : s.2.1 = some a) (a0 : a 0 = nI n) {X : MX} {B : BX S2} {g0 : GP} (O : CKM l X B g0 cL_isWhole yL_isWhole.cls 11 306) (hKP : KPokM B) (hmL : B.2.2.2.1 = 10) {x : Nat} {q : Nat} (hq : q < 2) : ∀ d g : Nat, g + d = n → J X B (sp s 0 0) 171 [(0, .inr (some (shP h (4, 0, 0)))), (1, .inr (some (2, 0, 0))), (2, .inl (.int (nI x))), (3, .inl (.int (nI 1))), (4, .inl (.int (nI q))), (5, .inl (.int (nI (setS (kV κ 2 q) (8 * n))))), (6, .inl (.int (nI n)))] [] → J X B (sp s 0 0) 35 [(0, .inr (some (shP h (4, 0, 0)))), (1, .inr (some (2, 0, 0))), (2, .inl (.int (nI x))), (3, .inl (.int (nI 1))), (4, .inl (.int (nI q))), (5, .inl (.int (nI (setS (kV κ 2 q) (8 * g))))), (6, .inl (.int (nI g)))] [] := by
  have hn5 : n ≤ 5 := hR.2.2.1.1.1.1
  intro d
  induction d with
  | zero =>
    intro g hg kk
    obtain rfl : g = n := by omega
    refine J_iload O.mo dL_isWhole_35 6 rfl ?_
    refine J_aload_n O.mo dL_isWhole_37 1 rfl ?_
    refine J_iconst O.mo (v := nI 0) dL_isWhole_38 (by decide) ?_
    refine J_nldE (s2 := (sp s 0 0)) O ha (nI_in (c := 0) (N := 12) (by decide) (by decide)) (v := nI g) (by rw [nI_cl (n := 0) (by decide)]; exact a0) dL_isWhole_39 ?_
    refine J_icmp_ge O.mo (tgt := 171) dL_isWhole_40 (by decide) (fun _ => ?_) (fun hc => absurd (Int32.le_refl _) hc)
    exact kk
  | succ d ih =>
    intro g hg kk
    have hgo := ih (g + 1) (by omega) kk
    clear ih kk
    refine J_iload O.mo dL_isWhole_35 6 rfl ?_
    refine J_aload_n O.mo dL_isWhole_37 1 rfl ?_
    refine J_iconst O.mo (v := nI 0) dL_isWhole_38 (by decide) ?_
    refine J_nldE (s2 := (sp s 0 0)) O ha (nI_in (c := 0) (N := 12) (by decide) (by decide)) (v := nI n) (by rw [nI_cl (n := 0) (by decide)]; exact a0) dL_isWhole_39 ?_
    refine J_icmp_ge O.mo (tgt := 171) dL_isWhole_40 (by decide) (fun hc => absurd hc (by rw [nI_le' (by omega) (by omega)]; omega)) (fun _ => ?_)
    refine J_iload_n O.mo dL_isWhole_43 3 rfl ?_
    refine J_if_eq O.mo (tgt := 171) dL_isWhole_44 (by decide) (fun hc => absurd hc (by decide)) (fun _ => ?_)
    refine J_iconst O.mo (v := nI 0) dL_isWhole_47 (by decide) ?_
    refine J_istore O.mo dL_isWhole_48 (by rw [hmL]; decide) rfl rfl ?_
    refine J_sub [1, 2, 3, 4, 5, 6, 7, 0] rfl ?_
    refine wh_k hfl hR hh hs ha a0 O hKP hmL hq (show g < n by omega) 8 0 rfl ?_
    refine J_iinc O.mo dL_isWhole_165 (by rw [hmL]; decide) 6 rfl (v := nI (g + 1)) (nI_add g 1) rfl rfl ?_
    refine J_goto O.mo (tgt := 35) dL_isWhole_168 (by decide) ?_
    refine J_sub [1, 2, 3, 4, 5, 6, 0] rfl ?_
    exact hgo
set_option maxHeartbeats 4000000 in
set_option maxRecDepth 100000 in
theorem wh_f {l : Launch} (hfl : l.stackTraces = false) {E : EE} {κ : K} {n ns t C : Nat} (hR : REL E κ (kV κ 5 0) n ns t C) {s : S2} {h : Nat} (hh : h < 2) (hs : s.1 h = (E, κ)) {a : Nat → Int32} (ha : s.2.1 = some a) (a0 : a 0 = nI n) {X : MX} {B : BX S2} {g0 : GP} (O : CKM l X B g0 cL_isWhole yL_isWhole.cls 11 306) (hKP : KPokM B) (hmL : B.2.2.2.1 = 10) {x : Nat} {q S : Nat} (hS : S < 65536) {v6 : Int32} : ∀ d f : Nat, f + d = 16 → J X B (sp s 0 0) 202 [(0, .inr (some (shP h (4, 0, 0)))), (1, .inr (some (2, 0, 0))), (2, .inl (.int (nI x))), (3, .inl (.int (nI 1))), (4, .inl (.int (nI q))), (5, .inl (.int (nI S))), (6, .inl (.int (nI (cntB S 16)))), (7, .inl (.int (nI 16)))] [] → J X B (sp s 0 0) 177 [(0, .inr (some (shP h (4, 0, 0)))), (1, .inr (some (2, 0, 0))), (2, .inl (.int (nI x))), (3, .inl (.int (nI 1))), (4, .inl (.int (nI q))), (5, .inl (.int (nI S))), (6, .inl (.int (nI (cntB S f)))), (7, .inl (.int (nI f)))] [] := by
  intro d
  induction d with
  | zero =>
    intro f hf kk
    obtain rfl : f = 16 := by omega
    refine J_iload O.mo dL_isWhole_177 7 rfl ?_
    refine J_bipush O.mo (v := nI 16) dL_isWhole_179 (by decide) ?_
    refine J_icmp_ge O.mo (tgt := 202) dL_isWhole_181 (by decide) (fun _ => ?_) (fun hc => absurd (Int32.le_refl _) hc)
    exact kk
  | succ d ih =>
    intro f hf kk
    have hgo := ih (f + 1) (by omega) kk
    clear ih kk
    refine J_iload O.mo dL_isWhole_177 7 rfl ?_
    refine J_bipush O.mo (v := nI 16) dL_isWhole_179 (by decide) ?_
    refine J_icmp_ge O.mo (tgt := 202) dL_isWhole_181 (by decide) (fun hc => absurd hc (by rw [nI_le' (by omega) (by omega)]; omega)) (fun _ => ?_)
    refine J_iload O.mo dL_isWhole_184 6 rfl ?_
    refine J_iload O.mo dL_isWhole_186 5 rfl ?_
    refine J_iload O.mo dL_isWhole_188 7 rfl ?_
    refine J_ishrE O.mo dL_isWhole_190 (v := nI (S / 2 ^ f)) (nI_shr hS (by omega)) ?_
    refine J_iconst O.mo (v := nI 1) dL_isWhole_191 (by decide) ?_
    refine J_iandE O.mo dL_isWhole_192 (v := nI (S / 2 ^ f % 2)) (nI_and1 (Nat.lt_of_le_of_lt (Nat.div_le_self _ _) hS)) ?_
    refine J_iaddE O.mo dL_isWhole_193 (v := nI (cntB S (f + 1))) (nI_add _ _) ?_
    refine J_istore O.mo dL_isWhole_194 (by rw [hmL]; decide) rfl rfl ?_
    refine J_iinc O.mo dL_isWhole_196 (by rw [hmL]; decide) 7 rfl (v := nI (f + 1)) (nI_add f 1) rfl rfl ?_
    refine J_goto O.mo (tgt := 177) dL_isWhole_199 (by decide) ?_
    refine J_sub [2, 3, 4, 5, 6, 7, 1, 0] rfl ?_
    exact hgo
set_option maxHeartbeats 4000000 in
set_option maxRecDepth 100000 in
theorem wh_q {l : Launch} (hfl : l.stackTraces = false) {E : EE} {κ : K} {n ns t C : Nat} (hR : REL E κ (kV κ 5 0) n ns t C) {s : S2} {h : Nat} (hh : h < 2) (hs : s.1 h = (E, κ)) {a : Nat → Int32} (ha : s.2.1 = some a) (a0 : a 0 = nI n) {X : MX} {B : BX S2} {g0 : GP} (O : CKM l X B g0 cL_isWhole yL_isWhole.cls 11 306) (hKP : KPokM B) (hmL : B.2.2.2.1 = 10) {x : Nat} : ∀ d q : Nat, q + d = 2 → J X B (sp s 0 0) 229 [(0, .inr (some (shP h (4, 0, 0)))), (1, .inr (some (2, 0, 0))), (2, .inl (.int (nI x))), (3, .inl (.int (nI 1))), (4, .inl (.int (nI 2)))] [] → J X B (sp s 0 0) 19 [(0, .inr (some (shP h (4, 0, 0)))), (1, .inr (some (2, 0, 0))), (2, .inl (.int (nI x))), (3, .inl (.int (nI 1))), (4, .inl (.int (nI q)))] [] := by
  have h0 : PC 10 E 4 0 0 := hR.1.2.2.1.1
  have hn5 : n ≤ 5 := hR.2.2.1.1.1.1
  have hF : FRM (kV κ 5 0) n := hR.2.2.1.2.1
  intro d
  induction d with
  | zero =>
    intro q hq kk
    obtain rfl : q = 2 := by omega
    refine J_iload O.mo dL_isWhole_19 4 rfl ?_
    refine J_iconst O.mo (v := nI 2) dL_isWhole_21 (by decide) ?_
    refine J_icmp_ge O.mo (tgt := 229) dL_isWhole_22 (by decide) (fun _ => ?_) (fun hc => absurd (Int32.le_refl _) hc)
    exact kk
  | succ d ih =>
    intro q hq kk
    have hgo := ih (q + 1) (by omega) kk
    clear ih kk
    have hq2 : q < 2 := by omega
    have hRH := (hR.2.2.1.2.2.1 q hq2).1
    have hFK := FKO_of hRH hF
    have hend := setS_end hRH hn5 (40 - 8 * n) (8 * n) (by omega) (Nat.le_refl _)
    have hS : setS (kV κ 2 q) (8 * n) < 65536 := setS_lt hFK (8 * n) (by omega)
    have hus : usU (kV κ 2 q) 16 = cntB (setS (kV κ 2 q) (8 * n)) 16 := by rw [← hend]; exact (cntB_us hFK 16 (Nat.le_refl _)).symm
    refine J_iload O.mo dL_isWhole_19 4 rfl ?_
    refine J_iconst O.mo (v := nI 2) dL_isWhole_21 (by decide) ?_
    refine J_icmp_ge O.mo (tgt := 229) dL_isWhole_22 (by decide) (fun hc => absurd hc (by rw [nI_le' (by omega) (by omega)]; omega)) (fun _ => ?_)
    refine J_iload_n O.mo dL_isWhole_25 3 rfl ?_
    refine J_if_eq O.mo (tgt := 229) dL_isWhole_26 (by decide) (fun hc => absurd hc (by decide)) (fun _ => ?_)
    refine J_iconst O.mo (v := nI 0) dL_isWhole_29 (by decide) ?_
    refine J_istore O.mo dL_isWhole_30 (by rw [hmL]; decide) rfl rfl ?_
    refine J_iconst O.mo (v := nI 0) dL_isWhole_32 (by decide) ?_
    refine J_istore O.mo dL_isWhole_33 (by rw [hmL]; decide) rfl rfl ?_
    refine J_sub [2, 3, 4, 5, 6, 1, 0] rfl ?_
    refine wh_g hfl hR hh hs ha a0 O hKP hmL hq2 n 0 (Nat.zero_add _) ?_
    refine J_iconst O.mo (v := nI 0) dL_isWhole_171 (by decide) ?_
    refine J_istore O.mo dL_isWhole_172 (by rw [hmL]; decide) rfl rfl ?_
    refine J_iconst O.mo (v := nI 0) dL_isWhole_174 (by decide) ?_
    refine J_istore O.mo dL_isWhole_175 (by rw [hmL]; decide) rfl rfl ?_
    refine J_sub [2, 3, 4, 5, 6, 7, 1, 0] rfl ?_
    refine wh_f hfl hR hh hs ha a0 O hKP hmL hS (v6 := 0) 16 0 rfl ?_
    refine J_iload_n O.mo dL_isWhole_202 3 rfl ?_
    refine J_if_eq O.mo (tgt := 221) dL_isWhole_203 (by decide) (fun hc => absurd hc (by decide)) (fun _ => ?_)
    refine J_aload_n O.mo dL_isWhole_206 0 rfl ?_
    refine J_iload O.mo dL_isWhole_207 4 rfl ?_
    refine J_askW (s := s) (h := h) (A := 0) (D := 0) (da := 0) (db := 0) O hKP hh hs (l10_0 h0) (as := [.inr (some (4, 0, 0)), .inl (.int (nI q))]) (rest := []) (r := some (.inl (.int (nI (usU (kV κ 2 q) 16))))) (c_L_used hfl h0 (qa_used hR hq2) (fun e z => by cases z)) trivial Cov.rf rfl rfl mw840 mw841 mw770 mw842 pd_L_used rfl (by decide) rfl (Nat.le_of_ble_eq_true rfl) (sk_p (sM_h hh) (sk_p sM_n (sk_v (sk_v (sk_v (sk_v (sk_v (sk_v sk_0)))))))) sm_0 dL_isWhole_209 ?_
    show J X B (sp s (0) (0)) 212 [(0, .inr (some (shP h (4, 0, 0)))), (1, .inr (some (2, 0, 0))), (2, .inl (.int (nI x))), (3, .inl (.int (nI 1))), (4, .inl (.int (nI q))), (5, .inl (.int (nI (setS (kV κ 2 q) (8 * n))))), (6, .inl (.int (nI (cntB (setS (kV κ 2 q) (8 * n)) 16)))), (7, .inl (.int (nI 16)))] [.inl (.int (nI (usU (kV κ 2 q) 16)))]
    refine J_iload O.mo dL_isWhole_212 6 rfl ?_
    refine J_icmp_ne O.mo (tgt := 221) dL_isWhole_214 (by decide) (fun hc => absurd (by rw [hus]) hc) (fun _ => ?_)
    refine J_iconst O.mo (v := nI 1) dL_isWhole_217 (by decide) ?_
    refine J_goto O.mo (tgt := 222) dL_isWhole_218 (by decide) ?_
    refine J_istore_n O.mo dL_isWhole_222 (by rw [hmL]; decide) rfl rfl ?_
    refine J_iinc O.mo dL_isWhole_223 (by rw [hmL]; decide) 4 rfl (v := nI (q + 1)) (nI_add q 1) rfl rfl ?_
    refine J_goto O.mo (tgt := 19) dL_isWhole_226 (by decide) ?_
    refine J_sub [2, 3, 4, 1, 0] rfl ?_
    exact hgo
set_option maxHeartbeats 4000000 in
set_option maxRecDepth 100000 in
theorem wh_2 {l : Launch} (hfl : l.stackTraces = false) {E : EE} {κ : K} {n ns t C : Nat} (hR : REL E κ (kV κ 5 0) n ns t C) {s : S2} {h : Nat} (hh : h < 2) (hs : s.1 h = (E, κ)) {a : Nat → Int32} (ha : s.2.1 = some a) (a0 : a 0 = nI n) {X : MX} {B : BX S2} {g0 : GP} (O : CKM l X B g0 cL_isWhole yL_isWhole.cls 11 306) (hKP : KPokM B) (hmL : B.2.2.2.1 = 10) {x : Nat} (hT : kT κ = none) (hx : x < 2147483648) (hW1 : W1 (kV κ 5 0)) (hW2 : W2 (kV κ 5 0)) (hout : ∀ g, g < n → ∃ p q, a (4 + g) = nI p ∧ kV κ 5 0 35 g = nI q ∧ p ≤ q ∧ q ≤ 3000) : ∀ d g : Nat, g + d = n → J X B (sp (wst s a (kV κ 5 0) n) (6 * n) (64 * n)) 499 [(0, .inr (some (shP h (4, 0, 0)))), (1, .inr (some (2, 0, 0))), (2, .inl (.int (nI x))), (3, .inl (.int (nI 1))), (4, .inl (.int (nI n)))] [] → J X B (sp (wst s a (kV κ 5 0) g) (6 * g) (64 * g)) 232 [(0, .inr (some (shP h (4, 0, 0)))), (1, .inr (some (2, 0, 0))), (2, .inl (.int (nI x))), (3, .inl (.int (nI 1))), (4, .inl (.int (nI g)))] [] := by
  have h0 : PC 10 E 4 0 0 := hR.1.2.2.1.1
  have hH : E.2.2.2.1 = 1 := hR.1.2.2.1.2.2.2.1
  have hRN : rawN E := hR.1.2.2.1.2.2.2.2
  have hn5 : n ≤ 5 := hR.2.2.1.1.1.1
  have ht3 : t ≤ 3000 := hR.2.1.2.2.2.2
  have ht : kV κ 5 0 0 41 = nI t := hR.2.1.2.2.2.1
  intro d
  induction d with
  | zero =>
    intro g hg kk
    obtain rfl : g = n := by omega
    refine J_iload O.mo dL_isWhole_232 4 rfl ?_
    refine J_aload_n O.mo dL_isWhole_234 1 rfl ?_
    refine J_iconst O.mo (v := nI 0) dL_isWhole_235 (by decide) ?_
    refine J_nldE (s2 := (sp (wst s a (kV κ 5 0) g) (6 * g) (64 * g))) O rfl (nI_in (c := 0) (N := 12) (by decide) (by decide)) (v := nI g) (by rw [nI_cl (n := 0) (by decide)]; exact wrow_0.trans a0) dL_isWhole_236 ?_
    refine J_icmp_ge O.mo (tgt := 499) dL_isWhole_237 (by decide) (fun _ => ?_) (fun hc => absurd (Int32.le_refl _) hc)
    exact kk
  | succ d ih =>
    intro g hg kk
    have hgo := ih (g + 1) (by omega) kk
    clear ih kk
    have hgn : g < n := by omega
    have hROK : ROK (kV κ 5 0) g := (hR.2.2.1.1.1.2.2.1 g hgn).1
    obtain ⟨hw, e49, hw4⟩ := hROK.st
    have h5 : ∃ ck, ck < 10000 ∧ clockM (kV κ 5 0) g = nI ck := by
      obtain ⟨m, sc, s1, c1, c2, c3, c4, c5, c6⟩ := (hR.2.2.2.1 g hgn).2.1
      exact ⟨_, Nat.mod_lt _ (by decide), clock_v ht c1 c2 c3 c4 c5 c6 (by omega)⟩
    obtain ⟨ck, hck, e5⟩ := h5
    have h67 : ∃ s6 s7, kV κ 5 0 23 g = nI s6 ∧ kV κ 5 0 24 g = nI s7 ∧ s6 + s7 ≤ t := by
      obtain ⟨s6, s7, t1, b1, b2, b3, b4, b5⟩ := hW1 g (by omega)
      rw [ht, nI_eq' (by omega) (by omega)] at b3
      exact ⟨s6, s7, b1, b2, by omega⟩
    obtain ⟨s6, s7, e6, e7, h67⟩ := h67
    obtain ⟨p35, q35, ea, e35, hpq, hq3⟩ := hout g hgn
    have h37 : ∃ b, kV κ 5 0 37 g = nI b ∧ b ≤ 3000 := by
      obtain ⟨a1, b1, r1, c1, c2, c3, c4, c5⟩ := (hR.2.2.2.1 g hgn).1
      exact ⟨b1, c2, by omega⟩
    obtain ⟨b37, e37, hb37⟩ := h37
    have h9 : ∃ m9, f_X10_of E κ (nI g) (nI 9) = some (κ, .inl m9) ∧ ¬ nI 8 < m9 := by
      rcases qa_of9 hR hgn with ⟨z, q⟩ | ⟨z, T, hT, q⟩
      · exact ⟨_, q, by decide⟩
      · exact ⟨_, q, by have hp := pop_le T; rw [nI_lt' (by omega) (by omega)]; omega⟩
    obtain ⟨m9, q9, h9⟩ := h9
    obtain ⟨xp, xda, xdb, xf, xv, xk, xa, xb⟩ := qa_plain hR hT hgn
    have hww : ∃ wv rv, f_X10_word E κ (nI g) (nI (x % 8)) (nI (x / 8 % 4)) = some (κ, .inl wv) ∧ f_X10_register E κ (nI g) (nI (x % 4)) = some (κ, .inl rv) ∧ (wv = -1 ↔ rv = -1) ∧ ¬ nI 9999 < wv ∧ (kV κ 5 0 27 (8 * g + x % 8) = 0 → ¬ 0 < wv) := by
      refine ⟨_, _, qa_word hR hgn (show x % 8 < 8 by omega) (show x / 8 % 4 < 4 by omega), qa_register hR hgn (show x % 4 < 4 by omega), ?_⟩
      by_cases h17 : kV κ 5 0 17 g = 0
      · rw [if_pos h17, if_pos h17]
        obtain ⟨r1, b1, b2⟩ := hROK.reg (show x % 4 < 4 by omega)
        have hwd : ∃ r2, kV κ 5 0 1 (55 * g + (17 + (4 * (x % 8) + x / 8 % 4))) = nI r2 ∧ r2 < 10000 := by
          rcases hROK (17 + (4 * (x % 8) + x / 8 % 4)) (by omega) with ⟨_, z⟩ | ⟨r, c1, c2⟩
          · omega
          · unfold lim at c2
            rw [if_neg (by omega), if_neg (by omega), if_neg (by omega), if_neg (by omega), if_neg (by omega), if_neg (by omega), if_neg (by omega), if_pos (by omega)] at c2
            exact ⟨r, c1, c2⟩
        obtain ⟨r2, b3, b4⟩ := hwd
        refine ⟨?_, ?_, fun z => ?_⟩
        · rw [b1, b3, nI_m1 (by omega), nI_m1 (by omega)]
        · rw [b3, nI_lt' (by omega) (by omega)]; omega
        · rw [hW2 g (x % 8) (by omega) (by omega) z (x / 8 % 4) (by omega)]; decide
      · rw [if_neg h17, if_neg h17]
        exact ⟨Iff.rfl, by decide, fun _ => by decide⟩
    obtain ⟨wv, rv, qw, qr, hwr, hw9, hwb⟩ := hww
    obtain ⟨bare, ebare, hbare⟩ : ∃ v : Int32, (if kV κ 5 0 27 (8 * g + x % 8) = 0 then nI 1 else nI 0) = v ∧ (¬ v = 0 → ¬ 0 < wv) := by
      refine ⟨_, rfl, ?_⟩
      split
      · rename_i z; exact fun _ => hwb z
      · exact fun z => absurd rfl z
    obtain ⟨b1, eb1⟩ : ∃ v : Int32, (if wv = -1 then nI 1 else nI 0) = v := ⟨_, rfl⟩
    obtain ⟨b2, eb2⟩ : ∃ v : Int32, (if rv = -1 then nI 1 else nI 0) = v := ⟨_, rfl⟩
    have hbb : b1 = b2 := by
      rw [← eb1, ← eb2]
      by_cases z : wv = -1
      · rw [if_pos z, if_pos (hwr.mp z)]
      · rw [if_neg z, if_neg (fun z2 => z (hwr.mpr z2))]
    refine J_iload O.mo dL_isWhole_232 4 rfl ?_
    refine J_aload_n O.mo dL_isWhole_234 1 rfl ?_
    refine J_iconst O.mo (v := nI 0) dL_isWhole_235 (by decide) ?_
    refine J_nldE (s2 := (sp (wst s a (kV κ 5 0) g) (6 * g) (64 * g))) O rfl (nI_in (c := 0) (N := 12) (by decide) (by decide)) (v := nI n) (by rw [nI_cl (n := 0) (by decide)]; exact wrow_0.trans a0) dL_isWhole_236 ?_
    refine J_icmp_ge O.mo (tgt := 499) dL_isWhole_237 (by decide) (fun hc => absurd hc (by rw [nI_le' (by omega) (by omega)]; omega)) (fun _ => ?_)
    refine J_iload_n O.mo dL_isWhole_240 3 rfl ?_
    refine J_if_eq O.mo (tgt := 499) dL_isWhole_241 (by decide) (fun hc => absurd hc (by decide)) (fun _ => ?_)
    refine J_aload_n O.mo dL_isWhole_244 0 rfl ?_
    refine J_iload O.mo dL_isWhole_245 4 rfl ?_
    refine J_iconst O.mo (v := nI 0) dL_isWhole_247 (by decide) ?_
    refine J_askW (s := (wst s a (kV κ 5 0) g)) (h := h) (A := 6 * g) (D := 64 * g) (da := 0) (db := 0) O hKP hh hs (l10_0 h0) (as := [.inr (some (4, 0, 0)), .inl (.int (nI g)), .inl (.int (nI 0))]) (rest := []) (r := some (.inl (.int (nI hw)))) (c_L_of hfl h0 (show f_X10_of E κ (nI g) (nI 0) = some (κ, .inl (nI hw)) by rw [qa_of0 hR hgn, e49]) (fun e z => by cases z)) trivial Cov.rf rfl rfl mw825 mw826 mw770 mw827 pd_L_of rfl (by decide) rfl (Nat.le_of_ble_eq_true rfl) (sk_p (sM_h hh) (sk_p sM_n (sk_v (sk_v (sk_v sk_0))))) sm_0 dL_isWhole_248 ?_
    show J X B (sp (wst s a (kV κ 5 0) g) (6 * g) (64 * g)) 251 [(0, .inr (some (shP h (4, 0, 0)))), (1, .inr (some (2, 0, 0))), (2, .inl (.int (nI x))), (3, .inl (.int (nI 1))), (4, .inl (.int (nI g)))] [.inl (.int (nI hw))]
    refine J_istore O.mo dL_isWhole_251 (by rw [hmL]; decide) rfl rfl ?_
    refine J_iload O.mo dL_isWhole_253 0 rfl ?_
    refine J_if_lt O.mo (tgt := 379) dL_isWhole_255 (by decide) (fun hc => absurd hc (nI_pos (by omega))) (fun _ => ?_)
    refine J_iload O.mo dL_isWhole_258 0 rfl ?_
    refine J_iconst O.mo (v := nI 3) dL_isWhole_260 (by decide) ?_
    refine J_icmp_gt O.mo (tgt := 379) dL_isWhole_261 (by decide) (fun hc => absurd hc (by rw [nI_lt' (by omega) (by omega)]; omega)) (fun _ => ?_)
    refine J_aload_n O.mo dL_isWhole_264 1 rfl ?_
    refine J_iload O.mo dL_isWhole_265 5 rfl ?_
    refine J_askW (s := (wst s a (kV κ 5 0) g)) (h := h) (A := 6 * g) (D := 64 * g) (da := xda) (db := xdb) O hKP hh hs (l10_0 h0) (as := [.inr (some (4, 0, 0)), .inl (.int (nI g))]) (rest := []) (r := some (.inl (.int (nI 1)))) (c_L_plain hfl h0 hH hRN xf (fun e z => by cases z)) trivial xv xk rfl mw858 mw859 mw770 mw860 pd_L_plain rfl (by decide) rfl (Nat.le_of_ble_eq_true rfl) (sk_v (sk_p (sM_h hh) (sk_p sM_n (sk_v (sk_v (sk_v sk_0)))))) sm_0 dL_isWhole_267 ?_
    refine J_sp O (a' := 6 * g + 5) (b' := 64 * g + 58) (by omega) (by omega) ?_
    show J X B (sp (wst s a (kV κ 5 0) g) (6 * g + 5) (64 * g + 58)) 270 [(5, .inl (.int (nI hw))), (0, .inr (some (shP h (4, 0, 0)))), (1, .inr (some (2, 0, 0))), (2, .inl (.int (nI x))), (3, .inl (.int (nI 1))), (4, .inl (.int (nI g)))] [.inl (.int (nI 1))]
    refine J_iconst O.mo (v := nI 1) dL_isWhole_270 (by decide) ?_
    refine J_icmp_ne O.mo (tgt := 379) dL_isWhole_271 (by decide) (fun hc => absurd (rfl) hc) (fun _ => ?_)
    refine J_aload_n O.mo dL_isWhole_274 1 rfl ?_
    refine J_iload O.mo dL_isWhole_275 5 rfl ?_
    refine J_iconst O.mo (v := nI 5) dL_isWhole_277 (by decide) ?_
    refine J_askW (s := (wst s a (kV κ 5 0) g)) (h := h) (A := 6 * g + 5) (D := 64 * g + 58) (da := 0) (db := 0) O hKP hh hs (l10_0 h0) (as := [.inr (some (4, 0, 0)), .inl (.int (nI g)), .inl (.int (nI 5))]) (rest := []) (r := some (.inl (.int (nI ck)))) (c_L_of hfl h0 (show f_X10_of E κ (nI g) (nI 5) = some (κ, .inl (nI ck)) by rw [qa_of5 hR hgn, e5]) (fun e z => by cases z)) trivial Cov.rf rfl rfl mw825 mw826 mw770 mw827 pd_L_of rfl (by decide) rfl (Nat.le_of_ble_eq_true rfl) (sk_v (sk_p (sM_h hh) (sk_p sM_n (sk_v (sk_v (sk_v sk_0)))))) sm_0 dL_isWhole_278 ?_
    show J X B (sp (wst s a (kV κ 5 0) g) (6 * g + 5) (64 * g + 58)) 281 [(5, .inl (.int (nI hw))), (0, .inr (some (shP h (4, 0, 0)))), (1, .inr (some (2, 0, 0))), (2, .inl (.int (nI x))), (3, .inl (.int (nI 1))), (4, .inl (.int (nI g)))] [.inl (.int (nI ck))]
    refine J_if_lt O.mo (tgt := 379) dL_isWhole_281 (by decide) (fun hc => absurd hc (nI_pos (by omega))) (fun _ => ?_)
    refine J_aload_n O.mo dL_isWhole_284 1 rfl ?_
    refine J_iload O.mo dL_isWhole_285 5 rfl ?_
    refine J_iconst O.mo (v := nI 5) dL_isWhole_287 (by decide) ?_
    refine J_askW (s := (wst s a (kV κ 5 0) g)) (h := h) (A := 6 * g + 5) (D := 64 * g + 58) (da := 0) (db := 0) O hKP hh hs (l10_0 h0) (as := [.inr (some (4, 0, 0)), .inl (.int (nI g)), .inl (.int (nI 5))]) (rest := []) (r := some (.inl (.int (nI ck)))) (c_L_of hfl h0 (show f_X10_of E κ (nI g) (nI 5) = some (κ, .inl (nI ck)) by rw [qa_of5 hR hgn, e5]) (fun e z => by cases z)) trivial Cov.rf rfl rfl mw825 mw826 mw770 mw827 pd_L_of rfl (by decide) rfl (Nat.le_of_ble_eq_true rfl) (sk_v (sk_p (sM_h hh) (sk_p sM_n (sk_v (sk_v (sk_v sk_0)))))) sm_0 dL_isWhole_288 ?_
    show J X B (sp (wst s a (kV κ 5 0) g) (6 * g + 5) (64 * g + 58)) 291 [(5, .inl (.int (nI hw))), (0, .inr (some (shP h (4, 0, 0)))), (1, .inr (some (2, 0, 0))), (2, .inl (.int (nI x))), (3, .inl (.int (nI 1))), (4, .inl (.int (nI g)))] [.inl (.int (nI ck))]
    refine J_sipush O.mo (v := nI 10000) dL_isWhole_291 (by decide) ?_
    refine J_icmp_ge O.mo (tgt := 379) dL_isWhole_294 (by decide) (fun hc => absurd hc (by rw [nI_le' (by omega) (by omega)]; omega)) (fun _ => ?_)
    refine J_aload_n O.mo dL_isWhole_297 1 rfl ?_
    refine J_iload O.mo dL_isWhole_298 5 rfl ?_
    refine J_bipush O.mo (v := nI 6) dL_isWhole_300 (by decide) ?_
    refine J_askW (s := (wst s a (kV κ 5 0) g)) (h := h) (A := 6 * g + 5) (D := 64 * g + 58) (da := 0) (db := 0) O hKP hh hs (l10_0 h0) (as := [.inr (some (4, 0, 0)), .inl (.int (nI g)), .inl (.int (nI 6))]) (rest := []) (r := some (.inl (.int (nI s6)))) (c_L_of hfl h0 (show f_X10_of E κ (nI g) (nI 6) = some (κ, .inl (nI s6)) by rw [qa_of6 hR hgn, e6]) (fun e z => by cases z)) trivial Cov.rf rfl rfl mw825 mw826 mw770 mw827 pd_L_of rfl (by decide) rfl (Nat.le_of_ble_eq_true rfl) (sk_v (sk_p (sM_h hh) (sk_p sM_n (sk_v (sk_v (sk_v sk_0)))))) sm_0 dL_isWhole_302 ?_
    show J X B (sp (wst s a (kV κ 5 0) g) (6 * g + 5) (64 * g + 58)) 305 [(5, .inl (.int (nI hw))), (0, .inr (some (shP h (4, 0, 0)))), (1, .inr (some (2, 0, 0))), (2, .inl (.int (nI x))), (3, .inl (.int (nI 1))), (4, .inl (.int (nI g)))] [.inl (.int (nI s6))]
    refine J_aload_n O.mo dL_isWhole_305 1 rfl ?_
    refine J_iload O.mo dL_isWhole_306 5 rfl ?_
    refine J_bipush O.mo (v := nI 7) dL_isWhole_308 (by decide) ?_
    refine J_askW (s := (wst s a (kV κ 5 0) g)) (h := h) (A := 6 * g + 5) (D := 64 * g + 58) (da := 0) (db := 0) O hKP hh hs (l10_0 h0) (as := [.inr (some (4, 0, 0)), .inl (.int (nI g)), .inl (.int (nI 7))]) (rest := [.inl (.int (nI s6))]) (r := some (.inl (.int (nI s7)))) (c_L_of hfl h0 (show f_X10_of E κ (nI g) (nI 7) = some (κ, .inl (nI s7)) by rw [qa_of7 hR hgn, e7]) (fun e z => by cases z)) trivial Cov.rf rfl rfl mw825 mw826 mw770 mw827 pd_L_of rfl (by decide) rfl (Nat.le_of_ble_eq_true rfl) (sk_v (sk_p (sM_h hh) (sk_p sM_n (sk_v (sk_v (sk_v sk_0)))))) (sm_v sm_0) dL_isWhole_310 ?_
    show J X B (sp (wst s a (kV κ 5 0) g) (6 * g + 5) (64 * g + 58)) 313 [(5, .inl (.int (nI hw))), (0, .inr (some (shP h (4, 0, 0)))), (1, .inr (some (2, 0, 0))), (2, .inl (.int (nI x))), (3, .inl (.int (nI 1))), (4, .inl (.int (nI g)))] [.inl (.int (nI s7)), .inl (.int (nI s6))]
    refine J_iaddE O.mo dL_isWhole_313 (v := nI (s6 + s7)) (nI_add _ _) ?_
    refine J_aload_n O.mo dL_isWhole_314 1 rfl ?_
    refine J_askV (s := (wst s a (kV κ 5 0) g)) (h := h) (A := 6 * g + 5) (D := 64 * g + 58) (da := 0) (db := 0) O hKP hh hs (as := []) (rest := [.inl (.int (nI (s6 + s7)))]) (r := some (.inl (.int (nI t)))) (c_X10_time hfl h0 (qa_time hR)) trivial Cov.rf rfl rfl (l10_0 h0) (T := TX10) (N := 4) rfl mw861 mw862 mw863 mw320 mw864 pd_X10_time rfl (by decide) rfl (Nat.le_of_ble_eq_true rfl) (sk_v (sk_p (sM_h hh) (sk_p sM_n (sk_v (sk_v (sk_v sk_0)))))) (sm_v sm_0) dL_isWhole_315 ?_
    show J X B (sp (wst s a (kV κ 5 0) g) (6 * g + 5) (64 * g + 58)) 318 [(5, .inl (.int (nI hw))), (0, .inr (some (shP h (4, 0, 0)))), (1, .inr (some (2, 0, 0))), (2, .inl (.int (nI x))), (3, .inl (.int (nI 1))), (4, .inl (.int (nI g)))] [.inl (.int (nI t)), .inl (.int (nI (s6 + s7)))]
    refine J_icmp_gt O.mo (tgt := 379) dL_isWhole_318 (by decide) (fun hc => absurd hc (by rw [nI_lt' (by omega) (by omega)]; omega)) (fun _ => ?_)
    refine J_aload_n O.mo dL_isWhole_321 1 rfl ?_
    refine J_iload O.mo dL_isWhole_322 5 rfl ?_
    refine J_askW (s := (wst s a (kV κ 5 0) g)) (h := h) (A := 6 * g + 5) (D := 64 * g + 58) (da := 0) (db := 0) O hKP hh hs (l10_0 h0) (as := [.inr (some (4, 0, 0)), .inl (.int (nI g))]) (rest := []) (r := some (.inl (.int (nI q35)))) (c_L_out hfl h0 (show f_X10_out E κ (nI g) = some (κ, .inl (nI q35)) by rw [qa_out hR hgn, e35]) (fun e z => by cases z)) trivial Cov.rf rfl rfl mw846 mw847 mw770 mw848 pd_L_out rfl (by decide) rfl (Nat.le_of_ble_eq_true rfl) (sk_v (sk_p (sM_h hh) (sk_p sM_n (sk_v (sk_v (sk_v sk_0)))))) sm_0 dL_isWhole_324 ?_
    show J X B (sp (wst s a (kV κ 5 0) g) (6 * g + 5) (64 * g + 58)) 327 [(5, .inl (.int (nI hw))), (0, .inr (some (shP h (4, 0, 0)))), (1, .inr (some (2, 0, 0))), (2, .inl (.int (nI x))), (3, .inl (.int (nI 1))), (4, .inl (.int (nI g)))] [.inl (.int (nI q35))]
    refine J_aload_n O.mo dL_isWhole_327 2 rfl ?_
    refine J_iconst O.mo (v := nI 4) dL_isWhole_328 (by decide) ?_
    refine J_iload O.mo dL_isWhole_329 5 rfl ?_
    refine J_iaddE O.mo dL_isWhole_331 (v := nI (4 + g)) (nI_add 4 g) ?_
    refine J_nldE (s2 := (sp (wst s a (kV κ 5 0) g) (6 * g + 5) (64 * g + 58))) O rfl (nI_in (c := 4 + g) (N := 12) (by omega) (by decide)) (v := nI p35) (by rw [nI_cl (by omega)]; exact wrow_g.trans ea) dL_isWhole_332 ?_
    refine J_icmp_lt O.mo (tgt := 379) dL_isWhole_333 (by decide) (fun hc => absurd hc (by rw [nI_lt' (by omega) (by omega)]; omega)) (fun _ => ?_)
    refine J_aload_n O.mo dL_isWhole_336 1 rfl ?_
    refine J_iload O.mo dL_isWhole_337 5 rfl ?_
    refine J_askW (s := (wst s a (kV κ 5 0) g)) (h := h) (A := 6 * g + 5) (D := 64 * g + 58) (da := 0) (db := 0) O hKP hh hs (l10_0 h0) (as := [.inr (some (4, 0, 0)), .inl (.int (nI g))]) (rest := []) (r := some (.inl (.int (nI b37)))) (c_L_held hfl h0 (show f_X10_held E κ (nI g) = some (κ, .inl (nI b37)) by rw [qa_held hR hgn, e37]) (fun e z => by cases z)) trivial Cov.rf rfl rfl mw852 mw853 mw770 mw854 pd_L_held rfl (by decide) rfl (Nat.le_of_ble_eq_true rfl) (sk_v (sk_p (sM_h hh) (sk_p sM_n (sk_v (sk_v (sk_v sk_0)))))) sm_0 dL_isWhole_339 ?_
    show J X B (sp (wst s a (kV κ 5 0) g) (6 * g + 5) (64 * g + 58)) 342 [(5, .inl (.int (nI hw))), (0, .inr (some (shP h (4, 0, 0)))), (1, .inr (some (2, 0, 0))), (2, .inl (.int (nI x))), (3, .inl (.int (nI 1))), (4, .inl (.int (nI g)))] [.inl (.int (nI b37))]
    refine J_if_lt O.mo (tgt := 379) dL_isWhole_342 (by decide) (fun hc => absurd hc (nI_pos (by omega))) (fun _ => ?_)
    refine J_aload_n O.mo dL_isWhole_345 1 rfl ?_
    refine J_iload O.mo dL_isWhole_346 5 rfl ?_
    refine J_bipush O.mo (v := nI 9) dL_isWhole_348 (by decide) ?_
    refine J_askW (s := (wst s a (kV κ 5 0) g)) (h := h) (A := 6 * g + 5) (D := 64 * g + 58) (da := 0) (db := 0) O hKP hh hs (l10_0 h0) (as := [.inr (some (4, 0, 0)), .inl (.int (nI g)), .inl (.int (nI 9))]) (rest := []) (r := some (.inl (.int m9))) (c_L_of hfl h0 q9 (fun e z => by cases z)) trivial Cov.rf rfl rfl mw825 mw826 mw770 mw827 pd_L_of rfl (by decide) rfl (Nat.le_of_ble_eq_true rfl) (sk_v (sk_p (sM_h hh) (sk_p sM_n (sk_v (sk_v (sk_v sk_0)))))) sm_0 dL_isWhole_350 ?_
    show J X B (sp (wst s a (kV κ 5 0) g) (6 * g + 5) (64 * g + 58)) 353 [(5, .inl (.int (nI hw))), (0, .inr (some (shP h (4, 0, 0)))), (1, .inr (some (2, 0, 0))), (2, .inl (.int (nI x))), (3, .inl (.int (nI 1))), (4, .inl (.int (nI g)))] [.inl (.int m9)]
    refine J_bipush O.mo (v := nI 8) dL_isWhole_353 (by decide) ?_
    refine J_icmp_gt O.mo (tgt := 379) dL_isWhole_355 (by decide) (fun hc => absurd hc (h9)) (fun _ => ?_)
    refine J_aload_n O.mo dL_isWhole_358 1 rfl ?_
    refine J_iload O.mo dL_isWhole_359 5 rfl ?_
    refine J_aload_n O.mo dL_isWhole_361 1 rfl ?_
    refine J_iload O.mo dL_isWhole_362 5 rfl ?_
    refine J_askW (s := (wst s a (kV κ 5 0) g)) (h := h) (A := 6 * g + 5) (D := 64 * g + 58) (da := 0) (db := 0) O hKP hh hs (l10_0 h0) (as := [.inr (some (4, 0, 0)), .inl (.int (nI g))]) (rest := [.inl (.int (nI g)), .inr (some (shP h (4, 0, 0)))]) (r := some (.inl (.int (nI q35)))) (c_L_out hfl h0 (show f_X10_out E κ (nI g) = some (κ, .inl (nI q35)) by rw [qa_out hR hgn, e35]) (fun e z => by cases z)) trivial Cov.rf rfl rfl mw846 mw847 mw770 mw848 pd_L_out rfl (by decide) rfl (Nat.le_of_ble_eq_true rfl) (sk_v (sk_p (sM_h hh) (sk_p sM_n (sk_v (sk_v (sk_v sk_0)))))) (sm_v (sm_p (sM_h hh) sm_0)) dL_isWhole_364 ?_
    show J X B (sp (wst s a (kV κ 5 0) g) (6 * g + 5) (64 * g + 58)) 367 [(5, .inl (.int (nI hw))), (0, .inr (some (shP h (4, 0, 0)))), (1, .inr (some (2, 0, 0))), (2, .inl (.int (nI x))), (3, .inl (.int (nI 1))), (4, .inl (.int (nI g)))] [.inl (.int (nI q35)), .inl (.int (nI g)), .inr (some (shP h (4, 0, 0)))]
    refine J_askW (s := (wst s a (kV κ 5 0) g)) (h := h) (A := 6 * g + 5) (D := 64 * g + 58) (da := 1) (db := 6) O hKP hh hs (l10_0 h0) (as := [.inr (some (4, 0, 0)), .inl (.int (nI g)), .inl (.int (nI q35))]) (rest := []) (r := some (.inl (.int (-2000000001)))) (c_L_outAt hfl h0 (na_outAt hR hgn (fun m z hm => by rw [e35, nI_eq' (by omega) (by omega)] at z; exact nvp (by omega) (by omega) (by omega))) (fun e z => by cases z; decide)) trivial Cov_add rfl rfl mw849 mw850 mw770 mw851 pd_L_outAt rfl (by decide) rfl (Nat.le_of_ble_eq_true rfl) (sk_v (sk_p (sM_h hh) (sk_p sM_n (sk_v (sk_v (sk_v sk_0)))))) sm_0 dL_isWhole_367 ?_
    show J X B (sp (wst s a (kV κ 5 0) g) (6 * g + 5 + 1) (64 * g + 58 + 6)) 370 [(5, .inl (.int (nI hw))), (0, .inr (some (shP h (4, 0, 0)))), (1, .inr (some (2, 0, 0))), (2, .inl (.int (nI x))), (3, .inl (.int (nI 1))), (4, .inl (.int (nI g)))] [.inl (.int (-2000000001))]
    refine J_ldcM O mw649 dL_isWhole_370 ?_
    refine J_icmp_ne O.mo (tgt := 379) dL_isWhole_372 (by decide) (fun hc => absurd (rfl) hc) (fun _ => ?_)
    refine J_iconst O.mo (v := nI 1) dL_isWhole_375 (by decide) ?_
    refine J_goto O.mo (tgt := 380) dL_isWhole_376 (by decide) ?_
    refine J_istore_n O.mo dL_isWhole_380 (by rw [hmL]; decide) rfl rfl ?_
    refine J_aload_n O.mo dL_isWhole_381 3 rfl ?_
    refine J_iconst O.mo (v := nI 4) dL_isWhole_382 (by decide) ?_
    refine J_iload O.mo dL_isWhole_383 5 rfl ?_
    refine J_iaddE O.mo dL_isWhole_385 (v := nI (4 + g)) (nI_add 4 g) ?_
    refine J_aload_n O.mo dL_isWhole_386 2 rfl ?_
    refine J_iload O.mo dL_isWhole_387 5 rfl ?_
    refine J_askW (s := (wst s a (kV κ 5 0) g)) (h := h) (A := 6 * g + 5 + 1) (D := 64 * g + 58 + 6) (da := 0) (db := 0) O hKP hh hs (l10_0 h0) (as := [.inr (some (4, 0, 0)), .inl (.int (nI g))]) (rest := [.inl (.int (nI (4 + g))), .inr (some (2, 0, 0))]) (r := some (.inl (.int (kV κ 5 0 35 g)))) (c_L_out hfl h0 (qa_out hR hgn) (fun e z => by cases z)) trivial Cov.rf rfl rfl mw846 mw847 mw770 mw848 pd_L_out rfl (by decide) rfl (Nat.le_of_ble_eq_true rfl) (sk_v (sk_v (sk_p (sM_h hh) (sk_p sM_n (sk_v (sk_v sk_0)))))) (sm_v (sm_p sM_n sm_0)) dL_isWhole_389 ?_
    show J X B (sp (wst s a (kV κ 5 0) g) (6 * g + 5 + 1) (64 * g + 58 + 6)) 392 [(3, .inl (.int (nI 1))), (5, .inl (.int (nI hw))), (0, .inr (some (shP h (4, 0, 0)))), (1, .inr (some (2, 0, 0))), (2, .inl (.int (nI x))), (4, .inl (.int (nI g)))] [.inl (.int (kV κ 5 0 35 g)), .inl (.int (nI (4 + g))), .inr (some (2, 0, 0))]
    refine J_nst (s2 := (sp (wst s a (kV κ 5 0) g) (6 * g + 5 + 1) (64 * g + 58 + 6))) O (a := wrow a (kV κ 5 0) g) rfl (j := nI (4 + g)) (nI_in (c := 4 + g) (N := 12) (by omega) (by decide)) (nI_cl (by omega)) dL_isWhole_392 ?_
    rw [wst_s]
    show J X B (sp (wst s a (kV κ 5 0) (g + 1)) (6 * g + 5 + 1) (64 * g + 58 + 6)) 393 [(3, .inl (.int (nI 1))), (5, .inl (.int (nI hw))), (0, .inr (some (shP h (4, 0, 0)))), (1, .inr (some (2, 0, 0))), (2, .inl (.int (nI x))), (4, .inl (.int (nI g)))] []
    refine J_iload_n O.mo dL_isWhole_393 4 rfl ?_
    refine J_bipush O.mo (v := nI 8) dL_isWhole_394 (by decide) ?_
    refine J_iremE O.mo dL_isWhole_396 (by decide) (v := nI (x % 8)) (nI_mod (by omega) (by omega)) ?_
    refine J_istore O.mo dL_isWhole_397 (by rw [hmL]; decide) rfl rfl ?_
    refine J_aload_n O.mo dL_isWhole_399 3 rfl ?_
    refine J_iload O.mo dL_isWhole_400 6 rfl ?_
    refine J_iload O.mo dL_isWhole_402 0 rfl ?_
    refine J_askW (s := (wst s a (kV κ 5 0) (g + 1))) (h := h) (A := 6 * g + 5 + 1) (D := 64 * g + 58 + 6) (da := 0) (db := 0) O hKP hh hs (l10_0 h0) (as := [.inr (some (4, 0, 0)), .inl (.int (nI g)), .inl (.int (nI (x % 8)))]) (rest := []) (r := some (.inl (.int (kV κ 5 0 27 (8 * g + x % 8))))) (c_L_pageOf hfl h0 (qa_pageOf hR hgn (show x % 8 < 8 by omega)) (fun e z => by cases z)) trivial Cov.rf rfl rfl mw834 mw835 mw770 mw836 pd_L_pageOf rfl (by decide) rfl (Nat.le_of_ble_eq_true rfl) (sk_v (sk_v (sk_v (sk_p (sM_h hh) (sk_p sM_n (sk_v (sk_v sk_0))))))) sm_0 dL_isWhole_404 ?_
    show J X B (sp (wst s a (kV κ 5 0) (g + 1)) (6 * g + 5 + 1) (64 * g + 58 + 6)) 407 [(6, .inl (.int (nI (x % 8)))), (3, .inl (.int (nI 1))), (5, .inl (.int (nI hw))), (0, .inr (some (shP h (4, 0, 0)))), (1, .inr (some (2, 0, 0))), (2, .inl (.int (nI x))), (4, .inl (.int (nI g)))] [.inl (.int (kV κ 5 0 27 (8 * g + x % 8)))]
    suffices K407 : J X B (sp (wst s a (kV κ 5 0) (g + 1)) (6 * g + 5 + 1) (64 * g + 58 + 6)) 415 [(6, .inl (.int (nI (x % 8)))), (3, .inl (.int (nI 1))), (5, .inl (.int (nI hw))), (0, .inr (some (shP h (4, 0, 0)))), (1, .inr (some (2, 0, 0))), (2, .inl (.int (nI x))), (4, .inl (.int (nI g)))] [.inl (.int bare)] by
      rw [← ebare] at K407
      refine J_if_ne O.mo (tgt := 414) dL_isWhole_407 (by decide) (fun hc4 => ?_) (fun hc4 => ?_)
      · refine J_iconst O.mo (v := nI 0) dL_isWhole_414 (by decide) ?_
        rw [if_neg hc4] at K407
        exact K407
      · refine J_iconst O.mo (v := nI 1) dL_isWhole_410 (by decide) ?_
        refine J_goto O.mo (tgt := 415) dL_isWhole_411 (by decide) ?_
        rw [if_pos hc4] at K407
        exact K407
    refine J_istore O.mo dL_isWhole_415 (by rw [hmL]; decide) rfl rfl ?_
    refine J_aload_n O.mo dL_isWhole_417 4 rfl ?_
    refine J_iload O.mo dL_isWhole_418 7 rfl ?_
    refine J_iload O.mo dL_isWhole_420 1 rfl ?_
    refine J_iload_n O.mo dL_isWhole_422 6 rfl ?_
    refine J_bipush O.mo (v := nI 8) dL_isWhole_423 (by decide) ?_
    refine J_idivE O.mo dL_isWhole_425 (by decide) (v := nI (x / 8)) (nI_div (by omega) (by omega)) ?_
    refine J_iconst O.mo (v := nI 4) dL_isWhole_426 (by decide) ?_
    refine J_iremE O.mo dL_isWhole_427 (by decide) (v := nI (x / 8 % 4)) (nI_mod (by omega) (by omega)) ?_
    refine J_askW (s := (wst s a (kV κ 5 0) (g + 1))) (h := h) (A := 6 * g + 5 + 1) (D := 64 * g + 58 + 6) (da := 0) (db := 0) O hKP hh hs (l10_0 h0) (as := [.inr (some (4, 0, 0)), .inl (.int (nI g)), .inl (.int (nI (x % 8))), .inl (.int (nI (x / 8 % 4)))]) (rest := []) (r := some (.inl (.int wv))) (c_L_word hfl h0 qw (fun e z => by cases z)) trivial Cov.rf rfl rfl mw831 mw832 mw770 mw833 pd_L_word rfl (by decide) rfl (Nat.le_of_ble_eq_true rfl) (sk_v (sk_v (sk_v (sk_v (sk_p (sM_h hh) (sk_p sM_n (sk_v (sk_v sk_0)))))))) sm_0 dL_isWhole_428 ?_
    show J X B (sp (wst s a (kV κ 5 0) (g + 1)) (6 * g + 5 + 1) (64 * g + 58 + 6)) 431 [(7, .inl (.int bare)), (6, .inl (.int (nI (x % 8)))), (3, .inl (.int (nI 1))), (5, .inl (.int (nI hw))), (0, .inr (some (shP h (4, 0, 0)))), (1, .inr (some (2, 0, 0))), (2, .inl (.int (nI x))), (4, .inl (.int (nI g)))] [.inl (.int wv)]
    refine J_istore O.mo dL_isWhole_431 (by rw [hmL]; decide) rfl rfl ?_
    refine J_iload_n O.mo dL_isWhole_433 3 rfl ?_
    refine J_if_eq O.mo (tgt := 491) dL_isWhole_434 (by decide) (fun hc => absurd hc (by decide)) (fun _ => ?_)
    refine J_iload O.mo dL_isWhole_437 0 rfl ?_
    refine J_iconst O.mo (v := -1) dL_isWhole_439 (by decide) ?_
    suffices K440 : J X B (sp (wst s a (kV κ 5 0) (g + 1)) (6 * g + 5 + 1) (64 * g + 58 + 6)) 448 [(8, .inl (.int wv)), (7, .inl (.int bare)), (6, .inl (.int (nI (x % 8)))), (3, .inl (.int (nI 1))), (5, .inl (.int (nI hw))), (0, .inr (some (shP h (4, 0, 0)))), (1, .inr (some (2, 0, 0))), (2, .inl (.int (nI x))), (4, .inl (.int (nI g)))] [.inl (.int b1)] by
      rw [← eb1] at K440
      refine J_icmp_ne O.mo (tgt := 447) dL_isWhole_440 (by decide) (fun hc8 => ?_) (fun hc8 => ?_)
      · refine J_iconst O.mo (v := nI 0) dL_isWhole_447 (by decide) ?_
        rw [if_neg hc8] at K440
        exact K440
      · refine J_iconst O.mo (v := nI 1) dL_isWhole_443 (by decide) ?_
        refine J_goto O.mo (tgt := 448) dL_isWhole_444 (by decide) ?_
        rw [if_pos hc8] at K440
        exact K440
    refine J_aload_n O.mo dL_isWhole_448 5 rfl ?_
    refine J_iload O.mo dL_isWhole_449 8 rfl ?_
    refine J_iload_n O.mo dL_isWhole_451 7 rfl ?_
    refine J_iconst O.mo (v := nI 4) dL_isWhole_452 (by decide) ?_
    refine J_iremE O.mo dL_isWhole_453 (by decide) (v := nI (x % 4)) (nI_mod (by omega) (by omega)) ?_
    refine J_askW (s := (wst s a (kV κ 5 0) (g + 1))) (h := h) (A := 6 * g + 5 + 1) (D := 64 * g + 58 + 6) (da := 0) (db := 0) O hKP hh hs (l10_0 h0) (as := [.inr (some (4, 0, 0)), .inl (.int (nI g)), .inl (.int (nI (x % 4)))]) (rest := [.inl (.int b1)]) (r := some (.inl (.int rv))) (c_L_register hfl h0 qr (fun e z => by cases z)) trivial Cov.rf rfl rfl mw828 mw829 mw770 mw830 pd_L_register rfl (by decide) rfl (Nat.le_of_ble_eq_true rfl) (sk_v (sk_v (sk_v (sk_v (sk_v (sk_p (sM_h hh) (sk_p sM_n (sk_v (sk_v sk_0))))))))) (sm_v sm_0) dL_isWhole_454 ?_
    show J X B (sp (wst s a (kV κ 5 0) (g + 1)) (6 * g + 5 + 1) (64 * g + 58 + 6)) 457 [(8, .inl (.int wv)), (7, .inl (.int bare)), (6, .inl (.int (nI (x % 8)))), (3, .inl (.int (nI 1))), (5, .inl (.int (nI hw))), (0, .inr (some (shP h (4, 0, 0)))), (1, .inr (some (2, 0, 0))), (2, .inl (.int (nI x))), (4, .inl (.int (nI g)))] [.inl (.int rv), .inl (.int b1)]
    refine J_iconst O.mo (v := -1) dL_isWhole_457 (by decide) ?_
    suffices K458 : J X B (sp (wst s a (kV κ 5 0) (g + 1)) (6 * g + 5 + 1) (64 * g + 58 + 6)) 466 [(8, .inl (.int wv)), (7, .inl (.int bare)), (6, .inl (.int (nI (x % 8)))), (3, .inl (.int (nI 1))), (5, .inl (.int (nI hw))), (0, .inr (some (shP h (4, 0, 0)))), (1, .inr (some (2, 0, 0))), (2, .inl (.int (nI x))), (4, .inl (.int (nI g)))] [.inl (.int b2), .inl (.int b1)] by
      rw [← eb2] at K458
      refine J_icmp_ne O.mo (tgt := 465) dL_isWhole_458 (by decide) (fun hc12 => ?_) (fun hc12 => ?_)
      · refine J_iconst O.mo (v := nI 0) dL_isWhole_465 (by decide) ?_
        rw [if_neg hc12] at K458
        exact K458
      · refine J_iconst O.mo (v := nI 1) dL_isWhole_461 (by decide) ?_
        refine J_goto O.mo (tgt := 466) dL_isWhole_462 (by decide) ?_
        rw [if_pos hc12] at K458
        exact K458
    refine J_icmp_ne O.mo (tgt := 491) dL_isWhole_466 (by decide) (fun hc => absurd (hbb) hc) (fun _ => ?_)
    refine J_iload O.mo dL_isWhole_469 1 rfl ?_
    suffices K469 : J X B (sp (wst s a (kV κ 5 0) (g + 1)) (6 * g + 5 + 1) (64 * g + 58 + 6)) 479 [(8, .inl (.int wv)), (7, .inl (.int bare)), (6, .inl (.int (nI (x % 8)))), (3, .inl (.int (nI 1))), (5, .inl (.int (nI hw))), (0, .inr (some (shP h (4, 0, 0)))), (1, .inr (some (2, 0, 0))), (2, .inl (.int (nI x))), (4, .inl (.int (nI g)))] [] by
      refine J_if_eq O.mo (tgt := 479) dL_isWhole_471 (by decide) (fun hc13 => ?_) (fun hc13 => ?_)
      · exact K469
      · refine J_iload O.mo dL_isWhole_474 0 rfl ?_
        refine J_if_gt O.mo (tgt := 491) dL_isWhole_476 (by decide) (fun hc => absurd hc (hbare hc13)) (fun _ => ?_)
        exact K469
    refine J_iload O.mo dL_isWhole_479 0 rfl ?_
    refine J_sipush O.mo (v := nI 9999) dL_isWhole_481 (by decide) ?_
    refine J_icmp_gt O.mo (tgt := 491) dL_isWhole_484 (by decide) (fun hc => absurd hc (hw9)) (fun _ => ?_)
    refine J_iconst O.mo (v := nI 1) dL_isWhole_487 (by decide) ?_
    refine J_goto O.mo (tgt := 492) dL_isWhole_488 (by decide) ?_
    refine J_istore_n O.mo dL_isWhole_492 (by rw [hmL]; decide) rfl rfl ?_
    refine J_iinc O.mo dL_isWhole_493 (by rw [hmL]; decide) 8 rfl (v := nI (g + 1)) (nI_add g 1) rfl rfl ?_
    refine J_goto O.mo (tgt := 232) dL_isWhole_496 (by decide) ?_
    refine J_sub [6, 7, 8, 1, 0] rfl ?_
    exact hgo
set_option maxHeartbeats 4000000 in
set_option maxRecDepth 100000 in
theorem c_L_isWhole {l : Launch} (hfl : l.stackTraces = false) {E : EE} {κ : K} {n ns t C : Nat} (hR : REL E κ (kV κ 5 0) n ns t C) {s : S2} {h : Nat} (hh : h < 2) (hs : s.1 h = (E, κ)) {a : Nat → Int32} (ha : s.2.1 = some a) (a0 : a 0 = nI n) {x : Nat} (hT : kT κ = none) (hx : x < 2147483648) (hW1 : W1 (kV κ 5 0)) (hW2 : W2 (kV κ 5 0)) (hout : ∀ g, g < n → ∃ p q, a (4 + g) = nI p ∧ kV κ 5 0 35 g = nI q ∧ p ≤ q ∧ q ≤ 3000) : ConM l yL_isWhole cL_isWhole 10 (some .boolean) 11 306 [.inr (some (shP h (4, 0, 0))), .inr (some (2, 0, 0)), .inl (.int (nI x))] s (sp (wst s a (kV κ 5 0) n) 30 320) (some (.inl (.int 1))) := by
  have h0 : PC 10 E 4 0 0 := hR.1.2.2.1.1
  have hn5 : n ≤ 5 := hR.2.2.1.1.1.1
  have ht3 : t ≤ 3000 := hR.2.1.2.2.2.2
  refine ConM_of hfl (by decide) (Nat.le_of_ble_eq_true rfl) rfl ⟨_, rfl, nar_b (Or.inr rfl)⟩ ?_
  intro X B g0 O hKP hmL hE
  change J X B (sp s 0 0) 0 [(0, .inr (some (shP h (4, 0, 0)))), (1, .inr (some (2, 0, 0))), (2, .inl (.int (nI x)))] []
  refine J_aload_n O.mo dL_isWhole_0 0 rfl ?_
  refine J_askV (s := s) (h := h) (A := 0) (D := 0) (da := 0) (db := 0) O hKP hh hs (as := []) (rest := []) (r := some (.inl (.int (nI t)))) (c_X10_time hfl h0 (qa_time hR)) trivial Cov.rf rfl rfl (l10_0 h0) (T := TX10) (N := 4) rfl mw861 mw862 mw863 mw320 mw864 pd_X10_time rfl (by decide) rfl (Nat.le_of_ble_eq_true rfl) (sk_p (sM_h hh) (sk_p sM_n (sk_v sk_0))) sm_0 dL_isWhole_1 ?_
  show J X B (sp s 0 0) 4 [(0, .inr (some (shP h (4, 0, 0)))), (1, .inr (some (2, 0, 0))), (2, .inl (.int (nI x)))] [.inl (.int (nI t))]
  refine J_sipush O.mo (v := nI 3000) dL_isWhole_4 (by decide) ?_
  refine J_icmp_gt O.mo (tgt := 14) dL_isWhole_7 (by decide) (fun hc => absurd hc (by rw [nI_lt' (by omega) (by omega)]; omega)) (fun _ => ?_)
  refine J_iconst O.mo (v := nI 1) dL_isWhole_10 (by decide) ?_
  refine J_goto O.mo (tgt := 15) dL_isWhole_11 (by decide) ?_
  refine J_istore_n O.mo dL_isWhole_15 (by rw [hmL]; decide) rfl rfl ?_
  refine J_iconst O.mo (v := nI 0) dL_isWhole_16 (by decide) ?_
  refine J_istore O.mo dL_isWhole_17 (by rw [hmL]; decide) rfl rfl ?_
  refine J_sub [2, 3, 4, 1, 0] rfl ?_
  refine wh_q hfl hR hh hs ha a0 O hKP hmL 2 0 rfl ?_
  refine J_iconst O.mo (v := nI 0) dL_isWhole_229 (by decide) ?_
  refine J_istore O.mo dL_isWhole_230 (by rw [hmL]; decide) rfl rfl ?_
  refine J_sub [1, 2, 3, 4, 0] rfl ?_
  have hst : sp s 0 0 = sp (wst s a (kV κ 5 0) 0) (6 * 0) (64 * 0) := by rw [wst_0 ha]
  rw [hst]
  refine wh_2 hfl hR hh hs ha a0 O hKP hmL hT hx hW1 hW2 hout n 0 (Nat.zero_add _) ?_
  refine J_sp O (a' := 30) (b' := 320) (by omega) (by omega) ?_
  refine J_iload_n O.mo dL_isWhole_499 3 rfl ?_
  exact hE _ _ dL_isWhole_500
