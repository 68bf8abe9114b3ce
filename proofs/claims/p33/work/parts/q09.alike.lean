set_option maxRecDepth 100000 in
theorem mw861 : Cond.methodLink RL 187 yX10_time ∈ gwl := gwl_tb 1192 rfl rfl
set_option maxRecDepth 100000 in
theorem mw862 : Cond.instanceMethod yX10_time ∈ gwl := gwl_tb 1193 rfl rfl
set_option maxRecDepth 100000 in
theorem mw863 : Cond.selects RX10 yX10_time yX10_time ∈ gwl := gwl_tb 1194 rfl rfl
set_option maxRecDepth 100000 in
theorem mw864 : Cond.code yX10_time cX10_time 1 (some .int) ∈ gwl := gwl_tb 1195 rfl rfl
theorem pd_X10_time : (yX10_time).cls ≠ "java/lang/invoke/MethodHandle" ∧ (yX10_time).cls ≠ "java/lang/invoke/VarHandle" ∧ (parseMethodDescriptor (yX10_time).desc).map (fun d => d.parameters.length) = some 0 := ⟨by decide +kernel, by decide +kernel, by decide +kernel⟩
/-- a call that answers or refuses, and leaves all as it was -/
def ASK (E : EE) (κ : K) (cs : List Nat) (o : Option (K × (Int32 ⊕ Nat))) : Prop := ∃ (κ1 : K) (rs : Int32 ⊕ Nat) (da db : Nat), o = some (κ1, rs) ∧ (∀ e, rs = .inr e → e ∈ cs) ∧ Cov (E, κ1) (E, κ) ∧ kC κ1 = ((kC κ).1 + da, (kC κ).2 + db) ∧ da ≤ 1 ∧ db ≤ 6
theorem ASK_ok {E : EE} {κ : K} {cs : List Nat} {o : Option (K × (Int32 ⊕ Nat))} {r : Int32} (h : o = some (κ, .inl r)) : ASK E κ cs o := ⟨κ, .inl r, 0, 0, h, fun e z => (by cases z), Cov.rf, rfl, by decide, by decide⟩
theorem ASK_no {E : EE} {κ : K} {cs : List Nat} {o : Option (K × (Int32 ⊕ Nat))} {e : Nat} (h : o = some (addC κ 1 6, .inr e)) (he : e ∈ cs) : ASK E κ cs o := ⟨_, .inr e, 1, 6, h, fun e z => (by cases z; exact he), Cov_add, rfl, by decide, by decide⟩
theorem nvp {g n : Nat} (hg : ¬ g < n) (h : g < 2147483648) (hn : n < 2147483648) : ¬ vp_in (nI g) n := by
  rw [vp_in_iff, nI_toInt h]; omega
theorem ask_out {E : EE} {κ : K} {n ns t C : Nat} (hR : REL E κ (kV κ 5 0) n ns t C) {g : Nat} (hg : g < 1000) : ASK E κ [1] (f_X10_out E κ (nI g)) := by
  have hn5 : n ≤ 5 := hR.2.2.1.1.1.1
  by_cases h : g < n
  · exact ASK_ok (qa_out hR h)
  · exact ASK_no (ng_out hR (nvp h (by omega) (by omega))) (by decide)
theorem ask_held {E : EE} {κ : K} {n ns t C : Nat} (hR : REL E κ (kV κ 5 0) n ns t C) {g : Nat} (hg : g < 1000) : ASK E κ [1] (f_X10_held E κ (nI g)) := by
  have hn5 : n ≤ 5 := hR.2.2.1.1.1.1
  by_cases h : g < n
  · exact ASK_ok (qa_held hR h)
  · exact ASK_no (ng_held hR (nvp h (by omega) (by omega))) (by decide)
theorem ask_exits {E : EE} {κ : K} {n ns t C : Nat} (hR : REL E κ (kV κ 5 0) n ns t C) {g : Nat} (hg : g < 1000) {k : Nat} (hk : k < 6) : ASK E κ [1, 2] (f_X10_exits E κ (nI g) (nI k)) := by
  have hn5 : n ≤ 5 := hR.2.2.1.1.1.1
  by_cases h : g < n
  · exact ASK_ok (qa_exits hR h hk)
  · exact ASK_no (ng_exits hR (nvp h (by omega) (by omega))) (by decide)
theorem ask_register {E : EE} {κ : K} {n ns t C : Nat} (hR : REL E κ (kV κ 5 0) n ns t C) {g : Nat} (hg : g < 1000) {k : Nat} (hk : k < 4) : ASK E κ [1] (f_X10_register E κ (nI g) (nI k)) := by
  have hn5 : n ≤ 5 := hR.2.2.1.1.1.1
  by_cases h : g < n
  · exact ASK_ok (qa_register hR h hk)
  · exact ASK_no (ng_register hR (nvp h (by omega) (by omega))) (by decide)
theorem ask_word {E : EE} {κ : K} {n ns t C : Nat} (hR : REL E κ (kV κ 5 0) n ns t C) {g : Nat} (hg : g < 1000) {p k : Nat} (hp : p < 8) (hk : k < 4) : ASK E κ [1] (f_X10_word E κ (nI g) (nI p) (nI k)) := by
  have hn5 : n ≤ 5 := hR.2.2.1.1.1.1
  by_cases h : g < n
  · exact ASK_ok (qa_word hR h hp hk)
  · exact ASK_no (ng_word hR (nvp h (by omega) (by omega))) (by decide)
theorem ask_frameOf {E : EE} {κ : K} {n ns t C : Nat} (hR : REL E κ (kV κ 5 0) n ns t C) {g : Nat} (hg : g < 1000) {k : Nat} (hk : k < 8) : ASK E κ [1] (f_X10_frameOf E κ (nI g) (nI k)) := by
  have hn5 : n ≤ 5 := hR.2.2.1.1.1.1
  by_cases h : g < n
  · exact ASK_ok (qa_frameOf hR h hk)
  · exact ASK_no (ng_frameOf hR (nvp h (by omega) (by omega))) (by decide)
theorem ask_pageOf {E : EE} {κ : K} {n ns t C : Nat} (hR : REL E κ (kV κ 5 0) n ns t C) {g : Nat} (hg : g < 1000) {k : Nat} (hk : k < 8) : ASK E κ [1] (f_X10_pageOf E κ (nI g) (nI k)) := by
  have hn5 : n ≤ 5 := hR.2.2.1.1.1.1
  by_cases h : g < n
  · exact ASK_ok (qa_pageOf hR h hk)
  · exact ASK_no (ng_pageOf hR (nvp h (by omega) (by omega))) (by decide)
theorem ask_of {E : EE} {κ : K} {n ns t C : Nat} (hR : REL E κ (kV κ 5 0) n ns t C) {g : Nat} (hg : g < 1000) {k : Nat} (hk : k < 11) : ASK E κ [1, 2] (f_X10_of E κ (nI g) (nI k)) := by
  have hn5 : n ≤ 5 := hR.2.2.1.1.1.1
  by_cases h : g < n
  · rcases (show k = 0 ∨ k = 1 ∨ k = 2 ∨ k = 3 ∨ k = 4 ∨ k = 5 ∨ k = 6 ∨ k = 7 ∨ k = 8 ∨ k = 9 ∨ k = 10 by omega) with rfl | rfl | rfl | rfl | rfl | rfl | rfl | rfl | rfl | rfl | rfl
    · exact ASK_ok (qa_of0 hR h)
    · exact ASK_ok (qa_of1 hR h)
    · exact ASK_ok (qa_of2 hR h)
    · exact ASK_ok (qa_of3 hR h)
    · exact ASK_ok (qa_of4 hR h)
    · exact ASK_ok (qa_of5 hR h)
    · exact ASK_ok (qa_of6 hR h)
    · exact ASK_ok (qa_of7 hR h)
    · exact ASK_ok (qa_of8 hR h)
    · rcases qa_of9 hR h with ⟨_, q⟩ | ⟨_, T, _, q⟩
      · exact ASK_ok q
      · exact ASK_ok q
    · exact ASK_ok (qa_of10 hR h)
  · exact ASK_no (ng_of hR (nvp h (by omega) (by omega))) (by decide)
theorem ask_used {E : EE} {κ : K} {n ns t C : Nat} (hR : REL E κ (kV κ 5 0) n ns t C) {k : Nat} (hk : k < 2) : ASK E κ [1] (f_X10_used E κ (nI k)) := ASK_ok (qa_used hR hk)
theorem ask_stored {E : EE} {κ : K} {n ns t C : Nat} (hR : REL E κ (kV κ 5 0) n ns t C) {k : Nat} (hk : k < 1000) : ASK E κ [1] (f_X10_stored E κ (nI k)) := by
  have hns : ns ≤ 10 := hR.2.2.2.2.1.2.1
  by_cases h : k < ns
  · exact ASK_ok (qa_stored hR h)
  · exact ASK_no (ns_stored hR (nvp h (by omega) (by omega))) (by decide)
set_option maxHeartbeats 4000000 in
set_option maxRecDepth 100000 in
theorem c_L_isAlike {l : Launch} (hfl : l.stackTraces = false) {E : EE} {κ : K} {n ns t C : Nat} (hR : REL E κ (kV κ 5 0) n ns t C) {s : S2} (hs0 : s.1 0 = (E, κ)) (hs1 : s.1 1 = (E, κ)) {x : Nat} (hx : x < 2147483648) : ConM l yL_isAlike cL_isAlike 6 (some .boolean) 11 306 [.inr (some (shP 0 (4, 0, 0))), .inr (some (shP 1 (4, 0, 0))), .inl (.int (nI x))] s (sp s 68 408) (some (.inl (.int 1))) := by
  have h0 : PC 10 E 4 0 0 := hR.1.2.2.1.1
  obtain ⟨uκ, ur, uda, udb, uf, uc, uv, uk, ua, ub⟩ := ask_used hR (show x % 2 < 2 by omega)
  obtain ⟨oκ, or, oda, odb, of, oc, ov, ok, oa, ob⟩ := ask_out hR (show x % 4 < 1000 by omega)
  obtain ⟨dκ, dr, dda, ddb, df, dc, dv, dk, da, db⟩ := ask_held hR (show x % 4 < 1000 by omega)
  obtain ⟨xκ, xr, xda, xdb, xf, xc, xv, xk, xa, xb⟩ := ask_exits hR (show x % 4 < 1000 by omega) (show x % 6 < 6 by omega)
  obtain ⟨gκ, gr, gda, gdb, gf, gc, gv, gk, ga, gb⟩ := ask_register hR (show x % 4 < 1000 by omega) (show x % 4 < 4 by omega)
  obtain ⟨wκ, wr, wda, wdb, wf, wc, wv, wk, wa, wb⟩ := ask_word hR (show x % 4 < 1000 by omega) (show x / 4 % 8 < 8 by omega) (show x / 32 % 4 < 4 by omega)
  obtain ⟨zκ, zr, zda, zdb, zf, zc, zv, zk, za, zb⟩ := ask_stored hR (show x % 3 < 1000 by omega)
  refine ConM_of hfl (by decide) (Nat.le_of_ble_eq_true rfl) rfl ⟨_, rfl, nar_b (Or.inr rfl)⟩ ?_
  intro X B g0 O hKP hmL hE
  change J X B (sp s 0 0) 0 [(0, .inr (some (shP 0 (4, 0, 0)))), (1, .inr (some (shP 1 (4, 0, 0)))), (2, .inl (.int (nI x)))] []
  refine J_iload_n O.mo dL_isAlike_0 2 rfl ?_
  refine J_iconst O.mo (v := nI 4) dL_isAlike_1 (by decide) ?_
  refine J_iremE O.mo dL_isAlike_2 (by decide) (v := nI (x % 4)) (nI_mod (by omega) (by omega)) ?_
  refine J_istore_n O.mo dL_isAlike_3 (by rw [hmL]; decide) rfl rfl ?_
  refine J_aload_n O.mo dL_isAlike_4 1 rfl ?_
  refine J_askV (s := s) (h := 0) (A := 0) (D := 0) (da := 0) (db := 0) O hKP (by decide) hs0 (as := []) (rest := []) (r := some (.inl (.int (nI t)))) (c_X10_time hfl h0 (qa_time hR)) trivial Cov.rf rfl rfl (l10_0 h0) (T := TX10) (N := 4) rfl mw861 mw862 mw863 mw320 mw864 pd_X10_time rfl (by decide) rfl (Nat.le_of_ble_eq_true rfl) (sk_v (sk_p (sM_h (by decide)) (sk_p (sM_h (by decide)) (sk_v sk_0)))) sm_0 dL_isAlike_5 ?_
  show J X B (sp s 0 0) 8 [(3, .inl (.int (nI (x % 4)))), (0, .inr (some (shP 0 (4, 0, 0)))), (1, .inr (some (shP 1 (4, 0, 0)))), (2, .inl (.int (nI x)))] [.inl (.int (nI t))]
  refine J_aload_n O.mo dL_isAlike_8 2 rfl ?_
  refine J_askV (s := s) (h := 1) (A := 0) (D := 0) (da := 0) (db := 0) O hKP (by decide) hs1 (as := []) (rest := [.inl (.int (nI t))]) (r := some (.inl (.int (nI t)))) (c_X10_time hfl h0 (qa_time hR)) trivial Cov.rf rfl rfl (l10_0 h0) (T := TX10) (N := 4) rfl mw861 mw862 mw863 mw320 mw864 pd_X10_time rfl (by decide) rfl (Nat.le_of_ble_eq_true rfl) (sk_v (sk_p (sM_h (by decide)) (sk_p (sM_h (by decide)) (sk_v sk_0)))) (sm_v sm_0) dL_isAlike_9 ?_
  show J X B (sp s 0 0) 12 [(3, .inl (.int (nI (x % 4)))), (0, .inr (some (shP 0 (4, 0, 0)))), (1, .inr (some (shP 1 (4, 0, 0)))), (2, .inl (.int (nI x)))] [.inl (.int (nI t)), .inl (.int (nI t))]
  refine J_icmp_ne O.mo (tgt := 156) dL_isAlike_12 (by decide) (fun hc => absurd (rfl) hc) (fun _ => ?_)
  refine J_aload_n O.mo dL_isAlike_15 1 rfl ?_
  refine J_iload_n O.mo dL_isAlike_16 3 rfl ?_
  refine J_iconst O.mo (v := nI 2) dL_isAlike_17 (by decide) ?_
  refine J_iremE O.mo dL_isAlike_18 (by decide) (v := nI (x % 2)) (nI_mod (by omega) (by omega)) ?_
  refine J_askW (s := s) (h := 0) (A := 0) (D := 0) (da := uda) (db := udb) O hKP (by decide) hs0 (l10_0 h0) (as := [.inr (some (4, 0, 0)), .inl (.int (nI (x % 2)))]) (rest := []) (r := some (.inl (.int (lwR ur)))) (c_L_used hfl h0 uf uc) trivial uv uk rfl mw840 mw841 mw770 mw842 pd_L_used rfl (by decide) rfl (Nat.le_of_ble_eq_true rfl) (sk_v (sk_p (sM_h (by decide)) (sk_p (sM_h (by decide)) (sk_v sk_0)))) sm_0 dL_isAlike_19 ?_
  refine J_sp O (a' := 1) (b' := 6) (by omega) (by omega) ?_
  show J X B (sp s (1) (6)) 22 [(3, .inl (.int (nI (x % 4)))), (0, .inr (some (shP 0 (4, 0, 0)))), (1, .inr (some (shP 1 (4, 0, 0)))), (2, .inl (.int (nI x)))] [.inl (.int (lwR ur))]
  refine J_aload_n O.mo dL_isAlike_22 2 rfl ?_
  refine J_iload_n O.mo dL_isAlike_23 3 rfl ?_
  refine J_iconst O.mo (v := nI 2) dL_isAlike_24 (by decide) ?_
  refine J_iremE O.mo dL_isAlike_25 (by decide) (v := nI (x % 2)) (nI_mod (by omega) (by omega)) ?_
  refine J_askW (s := s) (h := 1) (A := 1) (D := 6) (da := uda) (db := udb) O hKP (by decide) hs1 (l10_0 h0) (as := [.inr (some (4, 0, 0)), .inl (.int (nI (x % 2)))]) (rest := [.inl (.int (lwR ur))]) (r := some (.inl (.int (lwR ur)))) (c_L_used hfl h0 uf uc) trivial uv uk rfl mw840 mw841 mw770 mw842 pd_L_used rfl (by decide) rfl (Nat.le_of_ble_eq_true rfl) (sk_v (sk_p (sM_h (by decide)) (sk_p (sM_h (by decide)) (sk_v sk_0)))) (sm_v sm_0) dL_isAlike_26 ?_
  refine J_sp O (a' := 2) (b' := 12) (by omega) (by omega) ?_
  show J X B (sp s (2) (12)) 29 [(3, .inl (.int (nI (x % 4)))), (0, .inr (some (shP 0 (4, 0, 0)))), (1, .inr (some (shP 1 (4, 0, 0)))), (2, .inl (.int (nI x)))] [.inl (.int (lwR ur)), .inl (.int (lwR ur))]
  refine J_icmp_ne O.mo (tgt := 156) dL_isAlike_29 (by decide) (fun hc => absurd (rfl) hc) (fun _ => ?_)
  refine J_aload_n O.mo dL_isAlike_32 1 rfl ?_
  refine J_iload_n O.mo dL_isAlike_33 0 rfl ?_
  refine J_askW (s := s) (h := 0) (A := 2) (D := 12) (da := oda) (db := odb) O hKP (by decide) hs0 (l10_0 h0) (as := [.inr (some (4, 0, 0)), .inl (.int (nI (x % 4)))]) (rest := []) (r := some (.inl (.int (lwR or)))) (c_L_out hfl h0 of oc) trivial ov ok rfl mw846 mw847 mw770 mw848 pd_L_out rfl (by decide) rfl (Nat.le_of_ble_eq_true rfl) (sk_v (sk_p (sM_h (by decide)) (sk_p (sM_h (by decide)) (sk_v sk_0)))) sm_0 dL_isAlike_34 ?_
  refine J_sp O (a' := 3) (b' := 18) (by omega) (by omega) ?_
  show J X B (sp s (3) (18)) 37 [(3, .inl (.int (nI (x % 4)))), (0, .inr (some (shP 0 (4, 0, 0)))), (1, .inr (some (shP 1 (4, 0, 0)))), (2, .inl (.int (nI x)))] [.inl (.int (lwR or))]
  refine J_aload_n O.mo dL_isAlike_37 2 rfl ?_
  refine J_iload_n O.mo dL_isAlike_38 0 rfl ?_
  refine J_askW (s := s) (h := 1) (A := 3) (D := 18) (da := oda) (db := odb) O hKP (by decide) hs1 (l10_0 h0) (as := [.inr (some (4, 0, 0)), .inl (.int (nI (x % 4)))]) (rest := [.inl (.int (lwR or))]) (r := some (.inl (.int (lwR or)))) (c_L_out hfl h0 of oc) trivial ov ok rfl mw846 mw847 mw770 mw848 pd_L_out rfl (by decide) rfl (Nat.le_of_ble_eq_true rfl) (sk_v (sk_p (sM_h (by decide)) (sk_p (sM_h (by decide)) (sk_v sk_0)))) (sm_v sm_0) dL_isAlike_39 ?_
  refine J_sp O (a' := 4) (b' := 24) (by omega) (by omega) ?_
  show J X B (sp s (4) (24)) 42 [(3, .inl (.int (nI (x % 4)))), (0, .inr (some (shP 0 (4, 0, 0)))), (1, .inr (some (shP 1 (4, 0, 0)))), (2, .inl (.int (nI x)))] [.inl (.int (lwR or)), .inl (.int (lwR or))]
  refine J_icmp_ne O.mo (tgt := 156) dL_isAlike_42 (by decide) (fun hc => absurd (rfl) hc) (fun _ => ?_)
  refine J_aload_n O.mo dL_isAlike_45 1 rfl ?_
  refine J_iload_n O.mo dL_isAlike_46 0 rfl ?_
  refine J_askW (s := s) (h := 0) (A := 4) (D := 24) (da := dda) (db := ddb) O hKP (by decide) hs0 (l10_0 h0) (as := [.inr (some (4, 0, 0)), .inl (.int (nI (x % 4)))]) (rest := []) (r := some (.inl (.int (lwR dr)))) (c_L_held hfl h0 df dc) trivial dv dk rfl mw852 mw853 mw770 mw854 pd_L_held rfl (by decide) rfl (Nat.le_of_ble_eq_true rfl) (sk_v (sk_p (sM_h (by decide)) (sk_p (sM_h (by decide)) (sk_v sk_0)))) sm_0 dL_isAlike_47 ?_
  refine J_sp O (a' := 5) (b' := 30) (by omega) (by omega) ?_
  show J X B (sp s (5) (30)) 50 [(3, .inl (.int (nI (x % 4)))), (0, .inr (some (shP 0 (4, 0, 0)))), (1, .inr (some (shP 1 (4, 0, 0)))), (2, .inl (.int (nI x)))] [.inl (.int (lwR dr))]
  refine J_aload_n O.mo dL_isAlike_50 2 rfl ?_
  refine J_iload_n O.mo dL_isAlike_51 0 rfl ?_
  refine J_askW (s := s) (h := 1) (A := 5) (D := 30) (da := dda) (db := ddb) O hKP (by decide) hs1 (l10_0 h0) (as := [.inr (some (4, 0, 0)), .inl (.int (nI (x % 4)))]) (rest := [.inl (.int (lwR dr))]) (r := some (.inl (.int (lwR dr)))) (c_L_held hfl h0 df dc) trivial dv dk rfl mw852 mw853 mw770 mw854 pd_L_held rfl (by decide) rfl (Nat.le_of_ble_eq_true rfl) (sk_v (sk_p (sM_h (by decide)) (sk_p (sM_h (by decide)) (sk_v sk_0)))) (sm_v sm_0) dL_isAlike_52 ?_
  refine J_sp O (a' := 6) (b' := 36) (by omega) (by omega) ?_
  show J X B (sp s (6) (36)) 55 [(3, .inl (.int (nI (x % 4)))), (0, .inr (some (shP 0 (4, 0, 0)))), (1, .inr (some (shP 1 (4, 0, 0)))), (2, .inl (.int (nI x)))] [.inl (.int (lwR dr)), .inl (.int (lwR dr))]
  refine J_icmp_ne O.mo (tgt := 156) dL_isAlike_55 (by decide) (fun hc => absurd (rfl) hc) (fun _ => ?_)
  refine J_aload_n O.mo dL_isAlike_58 1 rfl ?_
  refine J_iload_n O.mo dL_isAlike_59 0 rfl ?_
  refine J_iload_n O.mo dL_isAlike_60 3 rfl ?_
  refine J_bipush O.mo (v := nI 6) dL_isAlike_61 (by decide) ?_
  refine J_iremE O.mo dL_isAlike_63 (by decide) (v := nI (x % 6)) (nI_mod (by omega) (by omega)) ?_
  refine J_askW (s := s) (h := 0) (A := 6) (D := 36) (da := xda) (db := xdb) O hKP (by decide) hs0 (l10_0 h0) (as := [.inr (some (4, 0, 0)), .inl (.int (nI (x % 4))), .inl (.int (nI (x % 6)))]) (rest := []) (r := some (.inl (.int (lwR xr)))) (c_L_exits hfl h0 xf xc) trivial xv xk rfl mw843 mw844 mw770 mw845 pd_L_exits rfl (by decide) rfl (Nat.le_of_ble_eq_true rfl) (sk_v (sk_p (sM_h (by decide)) (sk_p (sM_h (by decide)) (sk_v sk_0)))) sm_0 dL_isAlike_64 ?_
  refine J_sp O (a' := 7) (b' := 42) (by omega) (by omega) ?_
  show J X B (sp s (7) (42)) 67 [(3, .inl (.int (nI (x % 4)))), (0, .inr (some (shP 0 (4, 0, 0)))), (1, .inr (some (shP 1 (4, 0, 0)))), (2, .inl (.int (nI x)))] [.inl (.int (lwR xr))]
  refine J_aload_n O.mo dL_isAlike_67 2 rfl ?_
  refine J_iload_n O.mo dL_isAlike_68 0 rfl ?_
  refine J_iload_n O.mo dL_isAlike_69 3 rfl ?_
  refine J_bipush O.mo (v := nI 6) dL_isAlike_70 (by decide) ?_
  refine J_iremE O.mo dL_isAlike_72 (by decide) (v := nI (x % 6)) (nI_mod (by omega) (by omega)) ?_
  refine J_askW (s := s) (h := 1) (A := 7) (D := 42) (da := xda) (db := xdb) O hKP (by decide) hs1 (l10_0 h0) (as := [.inr (some (4, 0, 0)), .inl (.int (nI (x % 4))), .inl (.int (nI (x % 6)))]) (rest := [.inl (.int (lwR xr))]) (r := some (.inl (.int (lwR xr)))) (c_L_exits hfl h0 xf xc) trivial xv xk rfl mw843 mw844 mw770 mw845 pd_L_exits rfl (by decide) rfl (Nat.le_of_ble_eq_true rfl) (sk_v (sk_p (sM_h (by decide)) (sk_p (sM_h (by decide)) (sk_v sk_0)))) (sm_v sm_0) dL_isAlike_73 ?_
  refine J_sp O (a' := 8) (b' := 48) (by omega) (by omega) ?_
  show J X B (sp s (8) (48)) 76 [(3, .inl (.int (nI (x % 4)))), (0, .inr (some (shP 0 (4, 0, 0)))), (1, .inr (some (shP 1 (4, 0, 0)))), (2, .inl (.int (nI x)))] [.inl (.int (lwR xr)), .inl (.int (lwR xr))]
  refine J_icmp_ne O.mo (tgt := 156) dL_isAlike_76 (by decide) (fun hc => absurd (rfl) hc) (fun _ => ?_)
  refine J_aload_n O.mo dL_isAlike_79 1 rfl ?_
  refine J_iload_n O.mo dL_isAlike_80 0 rfl ?_
  refine J_iload_n O.mo dL_isAlike_81 3 rfl ?_
  refine J_iconst O.mo (v := nI 4) dL_isAlike_82 (by decide) ?_
  refine J_iremE O.mo dL_isAlike_83 (by decide) (v := nI (x % 4)) (nI_mod (by omega) (by omega)) ?_
  refine J_askW (s := s) (h := 0) (A := 8) (D := 48) (da := gda) (db := gdb) O hKP (by decide) hs0 (l10_0 h0) (as := [.inr (some (4, 0, 0)), .inl (.int (nI (x % 4))), .inl (.int (nI (x % 4)))]) (rest := []) (r := some (.inl (.int (lwR gr)))) (c_L_register hfl h0 gf gc) trivial gv gk rfl mw828 mw829 mw770 mw830 pd_L_register rfl (by decide) rfl (Nat.le_of_ble_eq_true rfl) (sk_v (sk_p (sM_h (by decide)) (sk_p (sM_h (by decide)) (sk_v sk_0)))) sm_0 dL_isAlike_84 ?_
  refine J_sp O (a' := 9) (b' := 54) (by omega) (by omega) ?_
  show J X B (sp s (9) (54)) 87 [(3, .inl (.int (nI (x % 4)))), (0, .inr (some (shP 0 (4, 0, 0)))), (1, .inr (some (shP 1 (4, 0, 0)))), (2, .inl (.int (nI x)))] [.inl (.int (lwR gr))]
  refine J_aload_n O.mo dL_isAlike_87 2 rfl ?_
  refine J_iload_n O.mo dL_isAlike_88 0 rfl ?_
  refine J_iload_n O.mo dL_isAlike_89 3 rfl ?_
  refine J_iconst O.mo (v := nI 4) dL_isAlike_90 (by decide) ?_
  refine J_iremE O.mo dL_isAlike_91 (by decide) (v := nI (x % 4)) (nI_mod (by omega) (by omega)) ?_
  refine J_askW (s := s) (h := 1) (A := 9) (D := 54) (da := gda) (db := gdb) O hKP (by decide) hs1 (l10_0 h0) (as := [.inr (some (4, 0, 0)), .inl (.int (nI (x % 4))), .inl (.int (nI (x % 4)))]) (rest := [.inl (.int (lwR gr))]) (r := some (.inl (.int (lwR gr)))) (c_L_register hfl h0 gf gc) trivial gv gk rfl mw828 mw829 mw770 mw830 pd_L_register rfl (by decide) rfl (Nat.le_of_ble_eq_true rfl) (sk_v (sk_p (sM_h (by decide)) (sk_p (sM_h (by decide)) (sk_v sk_0)))) (sm_v sm_0) dL_isAlike_92 ?_
  refine J_sp O (a' := 10) (b' := 60) (by omega) (by omega) ?_
  show J X B (sp s (10) (60)) 95 [(3, .inl (.int (nI (x % 4)))), (0, .inr (some (shP 0 (4, 0, 0)))), (1, .inr (some (shP 1 (4, 0, 0)))), (2, .inl (.int (nI x)))] [.inl (.int (lwR gr)), .inl (.int (lwR gr))]
  refine J_icmp_ne O.mo (tgt := 156) dL_isAlike_95 (by decide) (fun hc => absurd (rfl) hc) (fun _ => ?_)
  refine J_aload_n O.mo dL_isAlike_98 1 rfl ?_
  refine J_iload_n O.mo dL_isAlike_99 0 rfl ?_
  refine J_iload_n O.mo dL_isAlike_100 3 rfl ?_
  refine J_iconst O.mo (v := nI 4) dL_isAlike_101 (by decide) ?_
  refine J_idivE O.mo dL_isAlike_102 (by decide) (v := nI (x / 4)) (nI_div (by omega) (by omega)) ?_
  refine J_bipush O.mo (v := nI 8) dL_isAlike_103 (by decide) ?_
  refine J_iremE O.mo dL_isAlike_105 (by decide) (v := nI (x / 4 % 8)) (nI_mod (by omega) (by omega)) ?_
  refine J_iload_n O.mo dL_isAlike_106 3 rfl ?_
  refine J_bipush O.mo (v := nI 32) dL_isAlike_107 (by decide) ?_
  refine J_idivE O.mo dL_isAlike_109 (by decide) (v := nI (x / 32)) (nI_div (by omega) (by omega)) ?_
  refine J_iconst O.mo (v := nI 4) dL_isAlike_110 (by decide) ?_
  refine J_iremE O.mo dL_isAlike_111 (by decide) (v := nI (x / 32 % 4)) (nI_mod (by omega) (by omega)) ?_
  refine J_askW (s := s) (h := 0) (A := 10) (D := 60) (da := wda) (db := wdb) O hKP (by decide) hs0 (l10_0 h0) (as := [.inr (some (4, 0, 0)), .inl (.int (nI (x % 4))), .inl (.int (nI (x / 4 % 8))), .inl (.int (nI (x / 32 % 4)))]) (rest := []) (r := some (.inl (.int (lwR wr)))) (c_L_word hfl h0 wf wc) trivial wv wk rfl mw831 mw832 mw770 mw833 pd_L_word rfl (by decide) rfl (Nat.le_of_ble_eq_true rfl) (sk_v (sk_p (sM_h (by decide)) (sk_p (sM_h (by decide)) (sk_v sk_0)))) sm_0 dL_isAlike_112 ?_
  refine J_sp O (a' := 11) (b' := 66) (by omega) (by omega) ?_
  show J X B (sp s (11) (66)) 115 [(3, .inl (.int (nI (x % 4)))), (0, .inr (some (shP 0 (4, 0, 0)))), (1, .inr (some (shP 1 (4, 0, 0)))), (2, .inl (.int (nI x)))] [.inl (.int (lwR wr))]
  refine J_aload_n O.mo dL_isAlike_115 2 rfl ?_
  refine J_iload_n O.mo dL_isAlike_116 0 rfl ?_
  refine J_iload_n O.mo dL_isAlike_117 3 rfl ?_
  refine J_iconst O.mo (v := nI 4) dL_isAlike_118 (by decide) ?_
  refine J_idivE O.mo dL_isAlike_119 (by decide) (v := nI (x / 4)) (nI_div (by omega) (by omega)) ?_
  refine J_bipush O.mo (v := nI 8) dL_isAlike_120 (by decide) ?_
  refine J_iremE O.mo dL_isAlike_122 (by decide) (v := nI (x / 4 % 8)) (nI_mod (by omega) (by omega)) ?_
  refine J_iload_n O.mo dL_isAlike_123 3 rfl ?_
  refine J_bipush O.mo (v := nI 32) dL_isAlike_124 (by decide) ?_
  refine J_idivE O.mo dL_isAlike_126 (by decide) (v := nI (x / 32)) (nI_div (by omega) (by omega)) ?_
  refine J_iconst O.mo (v := nI 4) dL_isAlike_127 (by decide) ?_
  refine J_iremE O.mo dL_isAlike_128 (by decide) (v := nI (x / 32 % 4)) (nI_mod (by omega) (by omega)) ?_
  refine J_askW (s := s) (h := 1) (A := 11) (D := 66) (da := wda) (db := wdb) O hKP (by decide) hs1 (l10_0 h0) (as := [.inr (some (4, 0, 0)), .inl (.int (nI (x % 4))), .inl (.int (nI (x / 4 % 8))), .inl (.int (nI (x / 32 % 4)))]) (rest := [.inl (.int (lwR wr))]) (r := some (.inl (.int (lwR wr)))) (c_L_word hfl h0 wf wc) trivial wv wk rfl mw831 mw832 mw770 mw833 pd_L_word rfl (by decide) rfl (Nat.le_of_ble_eq_true rfl) (sk_v (sk_p (sM_h (by decide)) (sk_p (sM_h (by decide)) (sk_v sk_0)))) (sm_v sm_0) dL_isAlike_129 ?_
  refine J_sp O (a' := 12) (b' := 72) (by omega) (by omega) ?_
  show J X B (sp s (12) (72)) 132 [(3, .inl (.int (nI (x % 4)))), (0, .inr (some (shP 0 (4, 0, 0)))), (1, .inr (some (shP 1 (4, 0, 0)))), (2, .inl (.int (nI x)))] [.inl (.int (lwR wr)), .inl (.int (lwR wr))]
  refine J_icmp_ne O.mo (tgt := 156) dL_isAlike_132 (by decide) (fun hc => absurd (rfl) hc) (fun _ => ?_)
  refine J_aload_n O.mo dL_isAlike_135 1 rfl ?_
  refine J_iload_n O.mo dL_isAlike_136 3 rfl ?_
  refine J_iconst O.mo (v := nI 3) dL_isAlike_137 (by decide) ?_
  refine J_iremE O.mo dL_isAlike_138 (by decide) (v := nI (x % 3)) (nI_mod (by omega) (by omega)) ?_
  refine J_askW (s := s) (h := 0) (A := 12) (D := 72) (da := zda) (db := zdb) O hKP (by decide) hs0 (l10_0 h0) (as := [.inr (some (4, 0, 0)), .inl (.int (nI (x % 3)))]) (rest := []) (r := some (.inl (.int (lwR zr)))) (c_L_stored hfl h0 zf zc) trivial zv zk rfl mw855 mw856 mw770 mw857 pd_L_stored rfl (by decide) rfl (Nat.le_of_ble_eq_true rfl) (sk_v (sk_p (sM_h (by decide)) (sk_p (sM_h (by decide)) (sk_v sk_0)))) sm_0 dL_isAlike_139 ?_
  refine J_sp O (a' := 13) (b' := 78) (by omega) (by omega) ?_
  show J X B (sp s (13) (78)) 142 [(3, .inl (.int (nI (x % 4)))), (0, .inr (some (shP 0 (4, 0, 0)))), (1, .inr (some (shP 1 (4, 0, 0)))), (2, .inl (.int (nI x)))] [.inl (.int (lwR zr))]
  refine J_aload_n O.mo dL_isAlike_142 2 rfl ?_
  refine J_iload_n O.mo dL_isAlike_143 3 rfl ?_
  refine J_iconst O.mo (v := nI 3) dL_isAlike_144 (by decide) ?_
  refine J_iremE O.mo dL_isAlike_145 (by decide) (v := nI (x % 3)) (nI_mod (by omega) (by omega)) ?_
  refine J_askW (s := s) (h := 1) (A := 13) (D := 78) (da := zda) (db := zdb) O hKP (by decide) hs1 (l10_0 h0) (as := [.inr (some (4, 0, 0)), .inl (.int (nI (x % 3)))]) (rest := [.inl (.int (lwR zr))]) (r := some (.inl (.int (lwR zr)))) (c_L_stored hfl h0 zf zc) trivial zv zk rfl mw855 mw856 mw770 mw857 pd_L_stored rfl (by decide) rfl (Nat.le_of_ble_eq_true rfl) (sk_v (sk_p (sM_h (by decide)) (sk_p (sM_h (by decide)) (sk_v sk_0)))) (sm_v sm_0) dL_isAlike_146 ?_
  refine J_sp O (a' := 14) (b' := 84) (by omega) (by omega) ?_
  show J X B (sp s (14) (84)) 149 [(3, .inl (.int (nI (x % 4)))), (0, .inr (some (shP 0 (4, 0, 0)))), (1, .inr (some (shP 1 (4, 0, 0)))), (2, .inl (.int (nI x)))] [.inl (.int (lwR zr)), .inl (.int (lwR zr))]
  refine J_icmp_ne O.mo (tgt := 156) dL_isAlike_149 (by decide) (fun hc => absurd (rfl) hc) (fun _ => ?_)
  refine J_iconst O.mo (v := nI 1) dL_isAlike_152 (by decide) ?_
  refine J_goto O.mo (tgt := 157) dL_isAlike_153 (by decide) ?_
  refine J_istore O.mo dL_isAlike_157 (by rw [hmL]; decide) rfl rfl ?_
  refine J_iconst O.mo (v := nI 0) dL_isAlike_159 (by decide) ?_
  refine J_istore O.mo dL_isAlike_160 (by rw [hmL]; decide) rfl rfl ?_
  have L162 : ∀ d k : Nat, k + d = 11 → J X B (sp s 36 216) 204 [(5, .inl (.int (nI 11))), (4, .inl (.int (nI 1))), (3, .inl (.int (nI (x % 4)))), (0, .inr (some (shP 0 (4, 0, 0)))), (1, .inr (some (shP 1 (4, 0, 0)))), (2, .inl (.int (nI x)))] [] → J X B (sp s (14 + 2 * k) (84 + 12 * k)) 162 [(5, .inl (.int (nI k))), (4, .inl (.int (nI 1))), (3, .inl (.int (nI (x % 4)))), (0, .inr (some (shP 0 (4, 0, 0)))), (1, .inr (some (shP 1 (4, 0, 0)))), (2, .inl (.int (nI x)))] [] := by
    intro d
    induction d with
    | zero =>
      intro k hk kk
      obtain rfl : k = 11 := by omega
      refine J_iload O.mo dL_isAlike_162 0 rfl ?_
      refine J_bipush O.mo (v := nI 11) dL_isAlike_164 (by decide) ?_
      refine J_icmp_ge O.mo (tgt := 204) dL_isAlike_166 (by decide) (fun _ => ?_) (fun hc => absurd (Int32.le_refl _) hc)
      exact kk
    | succ d ih =>
      intro k hk kk
      obtain ⟨qκ, qr, qda, qdb, qf, qc, qv, qk, qa, qb⟩ := ask_of hR (show x % 4 < 1000 by omega) (show k < 11 by omega)
      refine J_iload O.mo dL_isAlike_162 0 rfl ?_
      refine J_bipush O.mo (v := nI 11) dL_isAlike_164 (by decide) ?_
      refine J_icmp_ge O.mo (tgt := 204) dL_isAlike_166 (by decide) (fun hc => absurd hc (by rw [nI_le' (by omega) (by omega)]; omega)) (fun _ => ?_)
      refine J_iload O.mo dL_isAlike_169 1 rfl ?_
      refine J_if_eq O.mo (tgt := 204) dL_isAlike_171 (by decide) (fun hc => absurd hc (by decide)) (fun _ => ?_)
      refine J_aload_n O.mo dL_isAlike_174 3 rfl ?_
      refine J_iload_n O.mo dL_isAlike_175 2 rfl ?_
      refine J_iload O.mo dL_isAlike_176 0 rfl ?_
      refine J_askW (s := s) (h := 0) (A := 14 + 2 * k) (D := 84 + 12 * k) (da := qda) (db := qdb) O hKP (by decide) hs0 (l10_0 h0) (as := [.inr (some (4, 0, 0)), .inl (.int (nI (x % 4))), .inl (.int (nI k))]) (rest := []) (r := some (.inl (.int (lwR qr)))) (c_L_of hfl h0 qf qc) trivial qv qk rfl mw825 mw826 mw770 mw827 pd_L_of rfl (by decide) rfl (Nat.le_of_ble_eq_true rfl) (sk_v (sk_v (sk_v (sk_p (sM_h (by decide)) (sk_p (sM_h (by decide)) (sk_v sk_0)))))) sm_0 dL_isAlike_178 ?_
      refine J_sp O (a' := 14 + 2 * k + 1) (b' := 84 + 12 * k + 6) (by omega) (by omega) ?_
      show J X B (sp s (14 + 2 * k + 1) (84 + 12 * k + 6)) 181 [(5, .inl (.int (nI k))), (4, .inl (.int (nI 1))), (3, .inl (.int (nI (x % 4)))), (0, .inr (some (shP 0 (4, 0, 0)))), (1, .inr (some (shP 1 (4, 0, 0)))), (2, .inl (.int (nI x)))] [.inl (.int (lwR qr))]
      refine J_aload_n O.mo dL_isAlike_181 4 rfl ?_
      refine J_iload_n O.mo dL_isAlike_182 2 rfl ?_
      refine J_iload O.mo dL_isAlike_183 0 rfl ?_
      refine J_askW (s := s) (h := 1) (A := 14 + 2 * k + 1) (D := 84 + 12 * k + 6) (da := qda) (db := qdb) O hKP (by decide) hs1 (l10_0 h0) (as := [.inr (some (4, 0, 0)), .inl (.int (nI (x % 4))), .inl (.int (nI k))]) (rest := [.inl (.int (lwR qr))]) (r := some (.inl (.int (lwR qr)))) (c_L_of hfl h0 qf qc) trivial qv qk rfl mw825 mw826 mw770 mw827 pd_L_of rfl (by decide) rfl (Nat.le_of_ble_eq_true rfl) (sk_v (sk_v (sk_v (sk_p (sM_h (by decide)) (sk_p (sM_h (by decide)) (sk_v sk_0)))))) (sm_v sm_0) dL_isAlike_185 ?_
      refine J_sp O (a' := 14 + 2 * k + 2) (b' := 84 + 12 * k + 12) (by omega) (by omega) ?_
      show J X B (sp s (14 + 2 * k + 2) (84 + 12 * k + 12)) 188 [(5, .inl (.int (nI k))), (4, .inl (.int (nI 1))), (3, .inl (.int (nI (x % 4)))), (0, .inr (some (shP 0 (4, 0, 0)))), (1, .inr (some (shP 1 (4, 0, 0)))), (2, .inl (.int (nI x)))] [.inl (.int (lwR qr)), .inl (.int (lwR qr))]
      refine J_icmp_ne O.mo (tgt := 195) dL_isAlike_188 (by decide) (fun hc => absurd (rfl) hc) (fun _ => ?_)
      refine J_iconst O.mo (v := nI 1) dL_isAlike_191 (by decide) ?_
      refine J_goto O.mo (tgt := 196) dL_isAlike_192 (by decide) ?_
      refine J_istore O.mo dL_isAlike_196 (by rw [hmL]; decide) rfl rfl ?_
      refine J_iinc O.mo dL_isAlike_198 (by rw [hmL]; decide) 1 rfl (v := nI (k + 1)) (nI_add k 1) rfl rfl ?_
      refine J_goto O.mo (tgt := 162) dL_isAlike_201 (by decide) ?_
      refine J_sp O (a' := 14 + 2 * (k + 1)) (b' := 84 + 12 * (k + 1)) (by omega) (by omega) ?_
      exact ih (k + 1) (by omega) kk
  refine L162 11 0 (by omega) ?_
  refine J_iconst O.mo (v := nI 0) dL_isAlike_204 (by decide) ?_
  refine J_istore O.mo dL_isAlike_205 (by rw [hmL]; decide) rfl rfl ?_
  have L207 : ∀ d k : Nat, k + d = 8 → J X B (sp s 68 408) 266 [(5, .inl (.int (nI 8))), (4, .inl (.int (nI 1))), (3, .inl (.int (nI (x % 4)))), (0, .inr (some (shP 0 (4, 0, 0)))), (1, .inr (some (shP 1 (4, 0, 0)))), (2, .inl (.int (nI x)))] [] → J X B (sp s (36 + 4 * k) (216 + 24 * k)) 207 [(5, .inl (.int (nI k))), (4, .inl (.int (nI 1))), (3, .inl (.int (nI (x % 4)))), (0, .inr (some (shP 0 (4, 0, 0)))), (1, .inr (some (shP 1 (4, 0, 0)))), (2, .inl (.int (nI x)))] [] := by
    intro d
    induction d with
    | zero =>
      intro k hk kk
      obtain rfl : k = 8 := by omega
      refine J_iload O.mo dL_isAlike_207 0 rfl ?_
      refine J_bipush O.mo (v := nI 8) dL_isAlike_209 (by decide) ?_
      refine J_icmp_ge O.mo (tgt := 266) dL_isAlike_211 (by decide) (fun _ => ?_) (fun hc => absurd (Int32.le_refl _) hc)
      exact kk
    | succ d ih =>
      intro k hk kk
      obtain ⟨qκ, qr, qda, qdb, qf, qc, qv, qk, qa, qb⟩ := ask_frameOf hR (show x % 4 < 1000 by omega) (show k < 8 by omega)
      obtain ⟨yκ, yr, yda, ydb, yf, yc, yv, yk, ya, yb⟩ := ask_pageOf hR (show x % 4 < 1000 by omega) (show k < 8 by omega)
      refine J_iload O.mo dL_isAlike_207 0 rfl ?_
      refine J_bipush O.mo (v := nI 8) dL_isAlike_209 (by decide) ?_
      refine J_icmp_ge O.mo (tgt := 266) dL_isAlike_211 (by decide) (fun hc => absurd hc (by rw [nI_le' (by omega) (by omega)]; omega)) (fun _ => ?_)
      refine J_iload O.mo dL_isAlike_214 1 rfl ?_
      refine J_if_eq O.mo (tgt := 266) dL_isAlike_216 (by decide) (fun hc => absurd hc (by decide)) (fun _ => ?_)
      refine J_aload_n O.mo dL_isAlike_219 3 rfl ?_
      refine J_iload_n O.mo dL_isAlike_220 2 rfl ?_
      refine J_iload O.mo dL_isAlike_221 0 rfl ?_
      refine J_askW (s := s) (h := 0) (A := 36 + 4 * k) (D := 216 + 24 * k) (da := qda) (db := qdb) O hKP (by decide) hs0 (l10_0 h0) (as := [.inr (some (4, 0, 0)), .inl (.int (nI (x % 4))), .inl (.int (nI k))]) (rest := []) (r := some (.inl (.int (lwR qr)))) (c_L_frameOf hfl h0 qf qc) trivial qv qk rfl mw837 mw838 mw770 mw839 pd_L_frameOf rfl (by decide) rfl (Nat.le_of_ble_eq_true rfl) (sk_v (sk_v (sk_v (sk_p (sM_h (by decide)) (sk_p (sM_h (by decide)) (sk_v sk_0)))))) sm_0 dL_isAlike_223 ?_
      refine J_sp O (a' := 36 + 4 * k + 1) (b' := 216 + 24 * k + 6) (by omega) (by omega) ?_
      show J X B (sp s (36 + 4 * k + 1) (216 + 24 * k + 6)) 226 [(5, .inl (.int (nI k))), (4, .inl (.int (nI 1))), (3, .inl (.int (nI (x % 4)))), (0, .inr (some (shP 0 (4, 0, 0)))), (1, .inr (some (shP 1 (4, 0, 0)))), (2, .inl (.int (nI x)))] [.inl (.int (lwR qr))]
      refine J_aload_n O.mo dL_isAlike_226 4 rfl ?_
      refine J_iload_n O.mo dL_isAlike_227 2 rfl ?_
      refine J_iload O.mo dL_isAlike_228 0 rfl ?_
      refine J_askW (s := s) (h := 1) (A := 36 + 4 * k + 1) (D := 216 + 24 * k + 6) (da := qda) (db := qdb) O hKP (by decide) hs1 (l10_0 h0) (as := [.inr (some (4, 0, 0)), .inl (.int (nI (x % 4))), .inl (.int (nI k))]) (rest := [.inl (.int (lwR qr))]) (r := some (.inl (.int (lwR qr)))) (c_L_frameOf hfl h0 qf qc) trivial qv qk rfl mw837 mw838 mw770 mw839 pd_L_frameOf rfl (by decide) rfl (Nat.le_of_ble_eq_true rfl) (sk_v (sk_v (sk_v (sk_p (sM_h (by decide)) (sk_p (sM_h (by decide)) (sk_v sk_0)))))) (sm_v sm_0) dL_isAlike_230 ?_
      refine J_sp O (a' := 36 + 4 * k + 2) (b' := 216 + 24 * k + 12) (by omega) (by omega) ?_
      show J X B (sp s (36 + 4 * k + 2) (216 + 24 * k + 12)) 233 [(5, .inl (.int (nI k))), (4, .inl (.int (nI 1))), (3, .inl (.int (nI (x % 4)))), (0, .inr (some (shP 0 (4, 0, 0)))), (1, .inr (some (shP 1 (4, 0, 0)))), (2, .inl (.int (nI x)))] [.inl (.int (lwR qr)), .inl (.int (lwR qr))]
      refine J_icmp_ne O.mo (tgt := 257) dL_isAlike_233 (by decide) (fun hc => absurd (rfl) hc) (fun _ => ?_)
      refine J_aload_n O.mo dL_isAlike_236 3 rfl ?_
      refine J_iload_n O.mo dL_isAlike_237 2 rfl ?_
      refine J_iload O.mo dL_isAlike_238 0 rfl ?_
      refine J_askW (s := s) (h := 0) (A := 36 + 4 * k + 2) (D := 216 + 24 * k + 12) (da := yda) (db := ydb) O hKP (by decide) hs0 (l10_0 h0) (as := [.inr (some (4, 0, 0)), .inl (.int (nI (x % 4))), .inl (.int (nI k))]) (rest := []) (r := some (.inl (.int (lwR yr)))) (c_L_pageOf hfl h0 yf yc) trivial yv yk rfl mw834 mw835 mw770 mw836 pd_L_pageOf rfl (by decide) rfl (Nat.le_of_ble_eq_true rfl) (sk_v (sk_v (sk_v (sk_p (sM_h (by decide)) (sk_p (sM_h (by decide)) (sk_v sk_0)))))) sm_0 dL_isAlike_240 ?_
      refine J_sp O (a' := 36 + 4 * k + 3) (b' := 216 + 24 * k + 18) (by omega) (by omega) ?_
      show J X B (sp s (36 + 4 * k + 3) (216 + 24 * k + 18)) 243 [(5, .inl (.int (nI k))), (4, .inl (.int (nI 1))), (3, .inl (.int (nI (x % 4)))), (0, .inr (some (shP 0 (4, 0, 0)))), (1, .inr (some (shP 1 (4, 0, 0)))), (2, .inl (.int (nI x)))] [.inl (.int (lwR yr))]
      refine J_aload_n O.mo dL_isAlike_243 4 rfl ?_
      refine J_iload_n O.mo dL_isAlike_244 2 rfl ?_
      refine J_iload O.mo dL_isAlike_245 0 rfl ?_
      refine J_askW (s := s) (h := 1) (A := 36 + 4 * k + 3) (D := 216 + 24 * k + 18) (da := yda) (db := ydb) O hKP (by decide) hs1 (l10_0 h0) (as := [.inr (some (4, 0, 0)), .inl (.int (nI (x % 4))), .inl (.int (nI k))]) (rest := [.inl (.int (lwR yr))]) (r := some (.inl (.int (lwR yr)))) (c_L_pageOf hfl h0 yf yc) trivial yv yk rfl mw834 mw835 mw770 mw836 pd_L_pageOf rfl (by decide) rfl (Nat.le_of_ble_eq_true rfl) (sk_v (sk_v (sk_v (sk_p (sM_h (by decide)) (sk_p (sM_h (by decide)) (sk_v sk_0)))))) (sm_v sm_0) dL_isAlike_247 ?_
      refine J_sp O (a' := 36 + 4 * k + 4) (b' := 216 + 24 * k + 24) (by omega) (by omega) ?_
      show J X B (sp s (36 + 4 * k + 4) (216 + 24 * k + 24)) 250 [(5, .inl (.int (nI k))), (4, .inl (.int (nI 1))), (3, .inl (.int (nI (x % 4)))), (0, .inr (some (shP 0 (4, 0, 0)))), (1, .inr (some (shP 1 (4, 0, 0)))), (2, .inl (.int (nI x)))] [.inl (.int (lwR yr)), .inl (.int (lwR yr))]
      refine J_icmp_ne O.mo (tgt := 257) dL_isAlike_250 (by decide) (fun hc => absurd (rfl) hc) (fun _ => ?_)
      refine J_iconst O.mo (v := nI 1) dL_isAlike_253 (by decide) ?_
      refine J_goto O.mo (tgt := 258) dL_isAlike_254 (by decide) ?_
      refine J_istore O.mo dL_isAlike_258 (by rw [hmL]; decide) rfl rfl ?_
      refine J_iinc O.mo dL_isAlike_260 (by rw [hmL]; decide) 1 rfl (v := nI (k + 1)) (nI_add k 1) rfl rfl ?_
      refine J_goto O.mo (tgt := 207) dL_isAlike_263 (by decide) ?_
      refine J_sp O (a' := 36 + 4 * (k + 1)) (b' := 216 + 24 * (k + 1)) (by omega) (by omega) ?_
      exact ih (k + 1) (by omega) kk
  refine L207 8 0 (by omega) ?_
  refine J_iload O.mo dL_isAlike_266 1 rfl ?_
  exact hE _ _ dL_isAlike_268
