set_option maxRecDepth 100000 in
theorem mw865 : Cond.methodLink RL 192 yL_drawn ∈ gwl := gwl_tb 117 rfl rfl
set_option maxRecDepth 100000 in
theorem mw866 : Cond.static yL_drawn ∈ gwl := gwl_tb 118 rfl rfl
set_option maxRecDepth 100000 in
theorem mw867 : Cond.code yL_drawn cL_drawn 2 (some .int) ∈ gwl := gwl_tb 119 rfl rfl
set_option maxRecDepth 100000 in
theorem mw868 : Cond.methodLink RL 207 yL_isWhole ∈ gwl := gwl_tb 1196 rfl rfl
set_option maxRecDepth 100000 in
theorem mw869 : Cond.static yL_isWhole ∈ gwl := gwl_tb 1197 rfl rfl
set_option maxRecDepth 100000 in
theorem mw870 : Cond.code yL_isWhole cL_isWhole 10 (some .boolean) ∈ gwl := gwl_tb 1198 rfl rfl
set_option maxRecDepth 100000 in
theorem mw871 : Cond.methodLink RL 203 yL_isAlike ∈ gwl := gwl_tb 1189 rfl rfl
set_option maxRecDepth 100000 in
theorem mw872 : Cond.static yL_isAlike ∈ gwl := gwl_tb 1190 rfl rfl
set_option maxRecDepth 100000 in
theorem mw873 : Cond.code yL_isAlike cL_isAlike 6 (some .boolean) ∈ gwl := gwl_tb 1191 rfl rfl
set_option maxRecDepth 100000 in
theorem mw874 : Cond.methodLink RL 196 yL_act ∈ gwl := gwl_tb 1183 rfl rfl
set_option maxRecDepth 100000 in
theorem mw875 : Cond.static yL_act ∈ gwl := gwl_tb 1184 rfl rfl
set_option maxRecDepth 100000 in
theorem mw876 : Cond.code yL_act cL_act 6 (some .int) ∈ gwl := gwl_tb 1185 rfl rfl
set_option maxRecDepth 100000 in
theorem mw877 : Cond.methodLink RL 199 yL_refuses ∈ gwl := gwl_tb 122 rfl rfl
set_option maxRecDepth 100000 in
theorem mw878 : Cond.static yL_refuses ∈ gwl := gwl_tb 123 rfl rfl
set_option maxRecDepth 100000 in
theorem mw879 : Cond.code yL_refuses cL_refuses 10 (some .boolean) ∈ gwl := gwl_tb 124 rfl rfl
set_option maxRecDepth 100000 in
theorem mw880 : Cond.classLink RL 8 RX10 ∈ gwl := gwl_tb 28 rfl rfl
set_option maxRecDepth 100000 in
theorem mw881 : Cond.instantiable RX10 4 ∈ gwl := gwl_tb 29 rfl rfl
set_option maxRecDepth 100000 in
theorem mw882 : Cond.methodLink RL 191 yX10_init ∈ gwl := gwl_tb 30 rfl rfl
set_option maxRecDepth 100000 in
theorem mw883 : Cond.instanceMethod yX10_init ∈ gwl := gwl_tb 31 rfl rfl
set_option maxRecDepth 100000 in
theorem mw884 : Cond.code yX10_init cX10_init 1 none ∈ gwl := gwl_tb 32 rfl rfl
theorem pd_L_drawn : (yL_drawn).cls ≠ "java/lang/invoke/MethodHandle" ∧ (yL_drawn).cls ≠ "java/lang/invoke/VarHandle" ∧ (parseMethodDescriptor (yL_drawn).desc).map (fun d => d.parameters.length) = some 2 := ⟨by decide +kernel, by decide +kernel, by decide +kernel⟩
theorem pd_L_isWhole : (yL_isWhole).cls ≠ "java/lang/invoke/MethodHandle" ∧ (yL_isWhole).cls ≠ "java/lang/invoke/VarHandle" ∧ (parseMethodDescriptor (yL_isWhole).desc).map (fun d => d.parameters.length) = some 3 := ⟨by decide +kernel, by decide +kernel, by decide +kernel⟩
theorem pd_L_isAlike : (yL_isAlike).cls ≠ "java/lang/invoke/MethodHandle" ∧ (yL_isAlike).cls ≠ "java/lang/invoke/VarHandle" ∧ (parseMethodDescriptor (yL_isAlike).desc).map (fun d => d.parameters.length) = some 3 := ⟨by decide +kernel, by decide +kernel, by decide +kernel⟩
theorem pd_L_act : (yL_act).cls ≠ "java/lang/invoke/MethodHandle" ∧ (yL_act).cls ≠ "java/lang/invoke/VarHandle" ∧ (parseMethodDescriptor (yL_act).desc).map (fun d => d.parameters.length) = some 2 := ⟨by decide +kernel, by decide +kernel, by decide +kernel⟩
theorem pd_L_refuses : (yL_refuses).cls ≠ "java/lang/invoke/MethodHandle" ∧ (yL_refuses).cls ≠ "java/lang/invoke/VarHandle" ∧ (parseMethodDescriptor (yL_refuses).desc).map (fun d => d.parameters.length) = some 3 := ⟨by decide +kernel, by decide +kernel, by decide +kernel⟩
theorem pd_X10_init : (yX10_init).cls ≠ "java/lang/invoke/MethodHandle" ∧ (yX10_init).cls ≠ "java/lang/invoke/VarHandle" ∧ (parseMethodDescriptor (yX10_init).desc).map (fun d => d.parameters.length) = some 0 := ⟨by decide +kernel, by decide +kernel, by decide +kernel⟩
theorem cap_all {E : EE} {κ : K} {μ : MU} {n ns t C : Nat} (hR : REL E κ μ n ns t C) : WT κ n ns ≤ 570000 := by
  obtain ⟨_, _, ⟨m1, m2, m3, m4, m5⟩, _⟩ := hR
  have h := sumL_max (f := fun p => if aliveN n ns p = true then kN κ p.1 p.2.1 p.2.2 else 0) (m := 6000) (l := numPl) (fun p hp => by
    obtain ⟨f, i, c⟩ := p
    show (if aliveN n ns (f, i, c) = true then kN κ f i c else 0) ≤ 6000
    by_cases e : aliveN n ns (f, i, c) = true
    · rw [if_pos e]
      have hp2 := hp
      unfold aliveN at e
      simp only [Bool.or_eq_true, Bool.and_eq_true, decide_eq_true_eq] at e
      unfold numPl at hp2
      simp only [List.mem_append, List.mem_flatMap, List.mem_map, List.mem_range] at hp2
      rcases hp2 with ⟨g, hg, c', hc, he⟩ | ⟨s, hs, c', hc, he⟩
      · injection he with he1 he2
        injection he2 with he2 he3
        subst he1 he2 he3
        obtain ⟨⟨_, _, _, _, _, _, ⟨_, _, _, q1⟩, ⟨_, _, _, q2⟩, ⟨_, _, _, q3⟩, ⟨_, _, _, q4⟩, _, q5⟩, _, _, ⟨_, _, _, _, _, _, _, _, q6, _⟩⟩ := (m4 g (by omega)).1
        obtain ⟨_, _, _, z5⟩ := q5 5 (by omega)
        obtain ⟨_, _, _, z7⟩ := q5 7 (by omega)
        obtain ⟨_, _, _, z9⟩ := q5 9 (by omega)
        obtain ⟨_, _, _, z11⟩ := q5 11 (by omega)
        simp only [List.mem_cons, List.not_mem_nil, or_false] at hc
        rcases hc with rfl | rfl | rfl | rfl | rfl | rfl | rfl | rfl | rfl | rfl | rfl
        · exact (CAP_ge q1.2.2.1).2
        · exact (CAP_ge q6.1.2.2.1).2
        · exact (CAP_ge q6.2.1.2.2.1).2
        · exact (CAP_ge q6.2.2.2.2.1).2
        · exact (CAP_ge z5.2.2.1).2
        · exact (CAP_ge z7.2.2.1).2
        · exact (CAP_ge z9.2.2.1).2
        · exact (CAP_ge z11.2.2.1).2
        · exact (CAP_ge q4.2.2.1).2
        · exact (CAP_ge q3.2.2.1).2
        · exact (CAP_ge q2.2.2.1).2
      · injection he with he1 he2
        injection he2 with he2 he3
        subst he1 he2 he3
        obtain ⟨_, _, _, _, _, _, ⟨_, _, _, _, _, _, ⟨_, _, _, k1⟩, _⟩, ⟨_, _, _, _, _, _, _, _, p1, p2, p3, _⟩⟩ := m5 s (by omega)
        simp only [List.mem_cons, List.not_mem_nil, or_false] at hc
        rcases hc with rfl | rfl | rfl | rfl
        · exact (CAP_ge k1.2.2.1).2
        · exact (CAP_ge p1.2.2.1).2
        · exact (CAP_ge p2.2.2.1).2
        · exact (CAP_ge p3.2.2.1).2
    · rw [if_neg e]; exact Nat.zero_le _)
  rw [num_len] at h
  unfold WT
  omega
section LAWM
variable {l0 : Launch} {X : MX} {B : BX S2} {g : GP} {cc : ByteArray} {own : String} {F L : Nat} {s : S2} {h : Nat} {x x' : EE × K} {pc : Nat} {lv : List (Nat × AV)} {st0 rest as : List AV} {r : Option AV}
theorem J_actM (O : CKM l0 X B g cc own F L) (hKP : KPokM B) (hh : h < 2) (hx : s.1 h = x) (hl : liveC x.1 4 0 0 = true) {ym : MethodName} {b : ByteArray} {mL fr lo index n : Nat} {ret : Option FieldType} (hC : Con l0 ym b mL ret fr lo as x x' r) (hr0 : numR r) (hst : st0 = (as.map (shA h)).reverse ++ rest)
    (w1 : Cond.methodLink own index ym ∈ gwl) (w2 : Cond.static ym ∈ gwl) (w4 : Cond.initialized ym.cls ∈ gwl) (w5 : Cond.code ym b mL ret ∈ gwl) (hpd : ym.cls ≠ "java/lang/invoke/MethodHandle" ∧ ym.cls ≠ "java/lang/invoke/VarHandle" ∧ (parseMethodDescriptor ym.desc).map (fun d => d.parameters.length) = some n) (hn : as.length = n)
    (hR : fr + 1 ≤ F ∧ 8 + (mL + 11) + lo ≤ L) (hrc : rest.all cat1 = true) (hrl : rest.length ≤ 8) (hlv : ∀ q ∈ lv, StabM q.2) (hrs : ∀ v ∈ rest, StabM v) (hd : decode cc pc = .ok (.invokestatic index, 3))
    (kk : ∀ s1 : S2, s1.1 h = x' → (∀ k, k ≠ h → s1.1 k = s.1 k) → s1.2.1 = s.2.1 → s1.2.2.1 = s.2.2.1 + ((kC x'.2).1 - (kC x.2).1) → s1.2.2.2 = s.2.2.2 + ((kC x'.2).2 - (kC x.2).2) → J X B s1 (pc + 3) lv (r.toList ++ rest)) : J X B s pc lv st0 := by
  subst hx
  exact J_callS1 O hKP hh hl hC hr0 Cov.rf hst w1 w2 w4 w5 hpd hn hR hrc hrl hlv hrs hd (kk _ upH_s (fun k hk => upH_n hk) rfl rfl rfl)
theorem J_nstE (O : CKM l0 X B g cc own F L) {a : Nat → Int32} (ha : s.2.1 = some a) {j : Int32} (hj : vp_in j 12) {kj : Nat} (hkj : j.toNatClampNeg = kj) {v : Int32} (hd : decode cc pc = .ok (.iastore, 1)) (kk : ∀ s1 : S2, s1.1 = s.1 → s1.2.1 = some (upd a kj v) → s1.2.2 = s.2.2 → J X B s1 (pc + 1) lv rest) : J X B s pc lv (.inl (.int v) :: .inl (.int j) :: .inr (some (2, 0, 0)) :: rest) :=
  J_nst O ha hj hkj hd (kk _ rfl (by show (s.2.1).map _ = _; rw [ha]; rfl) rfl)
end LAWM
/-- what the law knows at each of its steps: both halls are alike, how many guests and snapshots, what went out at least, what has been spent -/
def LI (s : S2) (k : Nat) (E : EE) (κ : K) (a : Nat → Int32) (n ns t C : Nat) : Prop := REL E κ (kV κ 5 0) n ns t C ∧ kT κ = none ∧ W1 (kV κ 5 0) ∧ W2 (kV κ 5 0) ∧ a 0 = nI n ∧ a 1 = nI ns ∧ (∀ g, g < 5 → ∃ p q, a (4 + g) = nI p ∧ kV κ 5 0 35 g = nI q ∧ p ≤ q ∧ q ≤ 3000) ∧ C ≤ k + 12 * n ∧ s.1 0 = (E, κ) ∧ s.1 1 = (E, κ) ∧ s.2.1 = some a ∧ s.2.2.1 ≤ 2 * (kC κ).1 + 1 + 198 * k ∧ s.2.2.2 ≤ 2 * (kC κ).2 + 12 + 1328 * k
theorem LI_cost {s : S2} {k : Nat} {E : EE} {κ : K} {a : Nat → Int32} {n ns t C : Nat} (h : LI s k E κ a n ns t C) (hk : k ≤ 48) : s.2.2.1 ≤ 661000 ∧ s.2.2.2 ≤ 7110000 := by
  obtain ⟨hR, _, _, _, _, _, _, hC, _, _, _, h1, h2⟩ := h
  have hn5 : n ≤ 5 := hR.2.2.1.1.1.1
  have hW := cap_all hR
  obtain ⟨_, _, _, _, _, _, c1, c2⟩ := hR
  omega
set_option maxHeartbeats 4000000 in
set_option maxRecDepth 100000 in
theorem law_end {l0 : Launch} (hfl : l0.stackTraces = false) {X : MX} {B : BX S2} {g0 : GP} (O : CKM l0 X B g0 cL_law yL_law.cls 14 534) (hKPa : ∀ ad : Pl → Nat, B.2.2.2.2.2.2.2.1 ad) (hmL : B.2.2.2.1 = 9) {b L : Nat} {xs : Nat → Int32} (hs : B.2.2.2.2.2.2.2.2 X → LWX b L xs B.2.2.1 X) (hL : L ≤ 2560) (hE : ∀ (s : S2) (lv : List (Nat × AV)), s.2.2.1 ≤ 662023 → s.2.2.2 ≤ 7115554 → J X B s 319 lv [.inl (.int 1)]) {T : Nat} (hT48 : T ≤ 48) {s : S2} {E : EE} {κ : K} {a : Nat → Int32} {n ns t C : Nat} (hI : LI s T E κ a n ns t C) : J X B s 261 [(0, .inl (.ref b)), (1, .inr (some (shP 0 (4, 0, 0)))), (2, .inr (some (shP 1 (4, 0, 0)))), (3, .inr (some (2, 0, 0))), (4, .inl (.int (nI T))), (5, .inl (.int (nI 1))), (6, .inl (.int (nI T)))] [] := by
  have hKP : KPokM B := fun _ ad _ _ => hKPa ad
  obtain ⟨hcc1, hcc2⟩ := LI_cost hI hT48
  obtain ⟨hR, hT, hW1, hW2, a0, a1, hout, hC, hs0, hs1, ha, hc1, hc2⟩ := hI
  have hn5 : n ≤ 5 := hR.2.2.1.1.1.1
  obtain ⟨Y, hY, hD⟩ := c_L_drawn hfl (bS := b) (j := 0) (by decide) hL (xs := xs) (x := s)
  have hW := c_L_isWhole hfl hR (s := s) (h := 0) (by decide) hs0 ha a0 (x := Y / 29) hT (by omega) hW1 hW2 (fun g hg => hout g (by omega))
  have hrow : ∀ g, g < n → wrow a (kV κ 5 0) n (4 + g) = kV κ 5 0 35 g := fun g hg => by unfold wrow; rw [if_pos (by omega), show 4 + g - 4 = g by omega]
  have hV := c_L_isWhole hfl hR (s := sp (wst s a (kV κ 5 0) n) 30 320) (h := 1) (by decide) hs1 (a := wrow a (kV κ 5 0) n) rfl (wrow_0.trans a0) (x := Y / 31) hT (by omega) hW1 hW2 (fun g hg => by obtain ⟨p, q, _, h2, _, h4⟩ := hout g (by omega); exact ⟨q, q, by rw [hrow g hg]; exact h2, h2, Nat.le_refl _, h4⟩)
  have hA := c_L_isAlike hfl hR (s := sp (wst (sp (wst s a (kV κ 5 0) n) 30 320) (wrow a (kV κ 5 0) n) (kV κ 5 0) n) 30 320) hs0 hs1 (x := Y / 37) (by omega)
  refine J_iload O.mo dL_law_261 5 rfl ?_
  refine J_if_eq O.mo (tgt := 318) dL_law_263 (by decide) (fun hc => absurd hc (by decide)) (fun _ => ?_)
  refine J_aload_n O.mo dL_law_266 1 rfl ?_
  refine J_aload_n O.mo dL_law_267 3 rfl ?_
  refine J_aload_nR O.mo dL_law_268 0 rfl ?_
  refine J_iconst O.mo (v := nI 0) dL_law_269 (by decide) ?_
  refine J_callSMS hs (s2 := s) O hKP (as := [.inl (.ref b), .inl (.int (nI 0))]) (rest := [.inr (some (2, 0, 0)), .inr (some (shP 0 (4, 0, 0)))]) (r := some (.inl (.int (nI Y)))) (hD _) rfl mw865 mw866 mw770 mw867 pd_L_drawn rfl (by decide) rfl (Nat.le_of_ble_eq_true rfl) (sk_v (sk_p (sM_h (by decide)) (sk_p (sM_h (by decide)) (sk_p sM_n (sk_v (sk_v (sk_v sk_0))))))) (sm_p sM_n (sm_p (sM_h (by decide)) sm_0)) dL_law_270 ?_
  show J X B s 273 [(0, .inl (.ref b)), (1, .inr (some (shP 0 (4, 0, 0)))), (2, .inr (some (shP 1 (4, 0, 0)))), (3, .inr (some (2, 0, 0))), (4, .inl (.int (nI T))), (5, .inl (.int (nI 1))), (6, .inl (.int (nI T)))] [.inl (.int (nI Y)), .inr (some (2, 0, 0)), .inr (some (shP 0 (4, 0, 0)))]
  refine J_bipush O.mo (v := nI 29) dL_law_273 (by decide) ?_
  refine J_idivE O.mo dL_law_275 (by decide) (v := nI (Y / 29)) (nI_div (by omega) (by omega)) ?_
  refine J_callSM (s2 := s) (s2' := (sp (wst s a (kV κ 5 0) n) 30 320)) O hKP (as := [.inr (some (shP 0 (4, 0, 0))), .inr (some (2, 0, 0)), .inl (.int (nI (Y / 29)))]) (rest := []) (r := some (.inl (.int (1)))) (hW) rfl mw868 mw869 mw770 mw870 pd_L_isWhole rfl (by decide) rfl (Nat.le_of_ble_eq_true rfl) (sk_v (sk_p (sM_h (by decide)) (sk_p (sM_h (by decide)) (sk_p sM_n (sk_v (sk_v (sk_v sk_0))))))) sm_0 dL_law_276 ?_
  show J X B (sp (wst s a (kV κ 5 0) n) 30 320) 279 [(0, .inl (.ref b)), (1, .inr (some (shP 0 (4, 0, 0)))), (2, .inr (some (shP 1 (4, 0, 0)))), (3, .inr (some (2, 0, 0))), (4, .inl (.int (nI T))), (5, .inl (.int (nI 1))), (6, .inl (.int (nI T)))] [.inl (.int 1)]
  refine J_if_eq O.mo (tgt := 318) dL_law_279 (by decide) (fun hc => absurd hc (by decide)) (fun _ => ?_)
  refine J_aload_n O.mo dL_law_282 2 rfl ?_
  refine J_aload_n O.mo dL_law_283 3 rfl ?_
  refine J_aload_nR O.mo dL_law_284 0 rfl ?_
  refine J_iconst O.mo (v := nI 0) dL_law_285 (by decide) ?_
  refine J_callSMS hs (s2 := (sp (wst s a (kV κ 5 0) n) 30 320)) O hKP (as := [.inl (.ref b), .inl (.int (nI 0))]) (rest := [.inr (some (2, 0, 0)), .inr (some (shP 1 (4, 0, 0)))]) (r := some (.inl (.int (nI Y)))) (hD _) rfl mw865 mw866 mw770 mw867 pd_L_drawn rfl (by decide) rfl (Nat.le_of_ble_eq_true rfl) (sk_v (sk_p (sM_h (by decide)) (sk_p (sM_h (by decide)) (sk_p sM_n (sk_v (sk_v (sk_v sk_0))))))) (sm_p sM_n (sm_p (sM_h (by decide)) sm_0)) dL_law_286 ?_
  show J X B (sp (wst s a (kV κ 5 0) n) 30 320) 289 [(0, .inl (.ref b)), (1, .inr (some (shP 0 (4, 0, 0)))), (2, .inr (some (shP 1 (4, 0, 0)))), (3, .inr (some (2, 0, 0))), (4, .inl (.int (nI T))), (5, .inl (.int (nI 1))), (6, .inl (.int (nI T)))] [.inl (.int (nI Y)), .inr (some (2, 0, 0)), .inr (some (shP 1 (4, 0, 0)))]
  refine J_bipush O.mo (v := nI 31) dL_law_289 (by decide) ?_
  refine J_idivE O.mo dL_law_291 (by decide) (v := nI (Y / 31)) (nI_div (by omega) (by omega)) ?_
  refine J_callSM (s2 := (sp (wst s a (kV κ 5 0) n) 30 320)) (s2' := (sp (wst (sp (wst s a (kV κ 5 0) n) 30 320) (wrow a (kV κ 5 0) n) (kV κ 5 0) n) 30 320)) O hKP (as := [.inr (some (shP 1 (4, 0, 0))), .inr (some (2, 0, 0)), .inl (.int (nI (Y / 31)))]) (rest := []) (r := some (.inl (.int (1)))) (hV) rfl mw868 mw869 mw770 mw870 pd_L_isWhole rfl (by decide) rfl (Nat.le_of_ble_eq_true rfl) (sk_v (sk_p (sM_h (by decide)) (sk_p (sM_h (by decide)) (sk_p sM_n (sk_v (sk_v (sk_v sk_0))))))) sm_0 dL_law_292 ?_
  show J X B (sp (wst (sp (wst s a (kV κ 5 0) n) 30 320) (wrow a (kV κ 5 0) n) (kV κ 5 0) n) 30 320) 295 [(0, .inl (.ref b)), (1, .inr (some (shP 0 (4, 0, 0)))), (2, .inr (some (shP 1 (4, 0, 0)))), (3, .inr (some (2, 0, 0))), (4, .inl (.int (nI T))), (5, .inl (.int (nI 1))), (6, .inl (.int (nI T)))] [.inl (.int 1)]
  refine J_if_eq O.mo (tgt := 318) dL_law_295 (by decide) (fun hc => absurd hc (by decide)) (fun _ => ?_)
  refine J_aload_n O.mo dL_law_298 1 rfl ?_
  refine J_aload_n O.mo dL_law_299 2 rfl ?_
  refine J_aload_nR O.mo dL_law_300 0 rfl ?_
  refine J_iconst O.mo (v := nI 0) dL_law_301 (by decide) ?_
  refine J_callSMS hs (s2 := (sp (wst (sp (wst s a (kV κ 5 0) n) 30 320) (wrow a (kV κ 5 0) n) (kV κ 5 0) n) 30 320)) O hKP (as := [.inl (.ref b), .inl (.int (nI 0))]) (rest := [.inr (some (shP 1 (4, 0, 0))), .inr (some (shP 0 (4, 0, 0)))]) (r := some (.inl (.int (nI Y)))) (hD _) rfl mw865 mw866 mw770 mw867 pd_L_drawn rfl (by decide) rfl (Nat.le_of_ble_eq_true rfl) (sk_v (sk_p (sM_h (by decide)) (sk_p (sM_h (by decide)) (sk_p sM_n (sk_v (sk_v (sk_v sk_0))))))) (sm_p (sM_h (by decide)) (sm_p (sM_h (by decide)) sm_0)) dL_law_302 ?_
  show J X B (sp (wst (sp (wst s a (kV κ 5 0) n) 30 320) (wrow a (kV κ 5 0) n) (kV κ 5 0) n) 30 320) 305 [(0, .inl (.ref b)), (1, .inr (some (shP 0 (4, 0, 0)))), (2, .inr (some (shP 1 (4, 0, 0)))), (3, .inr (some (2, 0, 0))), (4, .inl (.int (nI T))), (5, .inl (.int (nI 1))), (6, .inl (.int (nI T)))] [.inl (.int (nI Y)), .inr (some (shP 1 (4, 0, 0))), .inr (some (shP 0 (4, 0, 0)))]
  refine J_bipush O.mo (v := nI 37) dL_law_305 (by decide) ?_
  refine J_idivE O.mo dL_law_307 (by decide) (v := nI (Y / 37)) (nI_div (by omega) (by omega)) ?_
  refine J_callSM (s2 := (sp (wst (sp (wst s a (kV κ 5 0) n) 30 320) (wrow a (kV κ 5 0) n) (kV κ 5 0) n) 30 320)) (s2' := (sp (sp (wst (sp (wst s a (kV κ 5 0) n) 30 320) (wrow a (kV κ 5 0) n) (kV κ 5 0) n) 30 320) 68 408)) O hKP (as := [.inr (some (shP 0 (4, 0, 0))), .inr (some (shP 1 (4, 0, 0))), .inl (.int (nI (Y / 37)))]) (rest := []) (r := some (.inl (.int (1)))) (hA) rfl mw871 mw872 mw770 mw873 pd_L_isAlike rfl (by decide) rfl (Nat.le_of_ble_eq_true rfl) (sk_v (sk_p (sM_h (by decide)) (sk_p (sM_h (by decide)) (sk_p sM_n (sk_v (sk_v (sk_v sk_0))))))) sm_0 dL_law_308 ?_
  show J X B (sp (sp (wst (sp (wst s a (kV κ 5 0) n) 30 320) (wrow a (kV κ 5 0) n) (kV κ 5 0) n) 30 320) 68 408) 311 [(0, .inl (.ref b)), (1, .inr (some (shP 0 (4, 0, 0)))), (2, .inr (some (shP 1 (4, 0, 0)))), (3, .inr (some (2, 0, 0))), (4, .inl (.int (nI T))), (5, .inl (.int (nI 1))), (6, .inl (.int (nI T)))] [.inl (.int 1)]
  refine J_if_eq O.mo (tgt := 318) dL_law_311 (by decide) (fun hc => absurd hc (by decide)) (fun _ => ?_)
  refine J_iconst O.mo (v := nI 1) dL_law_314 (by decide) ?_
  refine J_goto O.mo (tgt := 319) dL_law_315 (by decide) ?_
  refine hE _ _ ?_ ?_
  · show s.2.2.1 + 30 + 30 + 68 ≤ _; omega
  · show s.2.2.2 + 320 + 320 + 408 ≤ _; omega
set_option maxHeartbeats 4000000 in
set_option maxRecDepth 100000 in
theorem law_loop {l0 : Launch} (hfl : l0.stackTraces = false) {X : MX} {B : BX S2} {g0 : GP} (O : CKM l0 X B g0 cL_law yL_law.cls 14 534) (hKPa : ∀ ad : Pl → Nat, B.2.2.2.2.2.2.2.1 ad) (hmL : B.2.2.2.1 = 9) {b L : Nat} {xs : Nat → Int32} (hs : B.2.2.2.2.2.2.2.2 X → LWX b L xs B.2.2.1 X) (hL : L ≤ 2560) (hE : ∀ (s : S2) (lv : List (Nat × AV)), s.2.2.1 ≤ 662023 → s.2.2.2 ≤ 7115554 → J X B s 319 lv [.inl (.int 1)]) {T : Nat} (hT48 : T ≤ 48) : ∀ (d k : Nat) {s : S2} {E : EE} {κ : K} {a : Nat → Int32} {n ns t C : Nat}, k + d = T → LI s k E κ a n ns t C → J X B s 40 [(0, .inl (.ref b)), (1, .inr (some (shP 0 (4, 0, 0)))), (2, .inr (some (shP 1 (4, 0, 0)))), (3, .inr (some (2, 0, 0))), (4, .inl (.int (nI T))), (5, .inl (.int (nI 1))), (6, .inl (.int (nI k)))] [] := by
  have hKP : KPokM B := fun _ ad _ _ => hKPa ad
  intro d
  induction d with
  | zero =>
    intro k s E κ a n ns t C hk hI
    obtain rfl : k = T := by omega
    refine J_iload O.mo dL_law_40 6 rfl ?_
    refine J_iload O.mo dL_law_42 4 rfl ?_
    refine J_icmp_ge O.mo (tgt := 261) dL_law_44 (by decide) (fun _ => ?_) (fun hc => absurd (Int32.le_refl _) hc)
    exact law_end hfl O hKPa hmL hs hL hE (T := k) (by omega) hI
  | succ d ih =>
    intro k s E κ a n ns t C hk hI
    obtain ⟨hR, hT, hW1, hW2, a0, a1, hout, hC, hs0, hs1, ha, hc1, hc2⟩ := hI
    have hn5 : n ≤ 5 := hR.2.2.1.1.1.1
    have hns : ns ≤ 10 := hR.2.2.2.2.1.2.1
    have h0 : PC 10 E 4 0 0 := hR.1.2.2.1.1
    obtain ⟨Y, hY, hD⟩ := c_L_drawn hfl (bS := b) (j := 1 + k) (by omega) hL (xs := xs) (x := s)
    obtain ⟨Z, hZ, eZ⟩ : ∃ Z, Z < 2147483648 ∧ (if (nI (k % 11)) = 0 then nI (20 * (Y / 20)) else (if (nI (k % 4)) = (nI 1) then nI (20 * (Y / 20) + 7) else nI Y)) = nI Z := by
      split
      · exact ⟨_, by omega, rfl⟩
      · split
        · exact ⟨_, by omega, rfl⟩
        · exact ⟨_, by omega, rfl⟩
    obtain ⟨E', κ', r, n', ns', t', C', hCon, hR', ⟨hC1, hC2⟩, hT', hX', en, ens⟩ := act_all hfl hR (by omega) hZ
    have hm := hCon.1 X
    have hm1 : (kC κ).1 ≤ (kC κ').1 := hm.1
    have hm2 : (kC κ).2 ≤ (kC κ').2 := hm.2
    have hn5' : n' ≤ 5 := hR'.2.2.1.1.1.1
    have hns' : ns' ≤ 10 := hR'.2.2.2.2.1.2.1
    have h0' : PC 10 E' 4 0 0 := hR'.1.2.2.1.1
    have hW1' := hX'.1 hW1
    have hW2' := hX'.2.1 hW2
    obtain ⟨d0, ed0, hd0⟩ : ∃ v : Int32, (if (nI 2) ≤ (nI (Z % 20)) then nI 0 else (if r < 0 then nI 0 else nI 1)) = v ∧ nI n + v = nI n' := by
      refine ⟨_, rfl, ?_⟩
      rw [en]
      by_cases z : 2 ≤ Z % 20
      · rw [if_pos (show nI 2 ≤ nI (Z % 20) by rw [nI_le' (by omega) (by omega)]; exact z), if_neg (fun q => by omega), nI_add]; rfl
      · rw [if_neg (show ¬ nI 2 ≤ nI (Z % 20) by rw [nI_le' (by omega) (by omega)]; exact z)]
        by_cases q : r < 0
        · rw [if_pos q, if_neg (fun p => Int32.not_le.mpr q p.2), nI_add]; rfl
        · rw [if_neg q, if_pos ⟨by omega, Int32.not_lt.mp q⟩, nI_add]
    obtain ⟨d1, ed1, hd1⟩ : ∃ v : Int32, (if (nI (Z % 20)) = (nI 14) then (if r < 0 then nI 0 else nI 1) else nI 0) = v ∧ nI ns + v = nI ns' := by
      refine ⟨_, rfl, ?_⟩
      rw [ens]
      by_cases z : Z % 20 = 14
      · rw [if_pos (show nI (Z % 20) = nI 14 by rw [z])]
        by_cases q : r < 0
        · rw [if_pos q, if_neg (fun p => Int32.not_le.mpr q p.2), nI_add]; rfl
        · rw [if_neg q, if_pos ⟨z, Int32.not_lt.mp q⟩, nI_add]
      · rw [if_neg (show ¬ nI (Z % 20) = nI 14 by rw [nI_eq' (by omega) (by omega)]; exact z), if_neg (fun q => z q.1), nI_add]; rfl
    refine J_iload O.mo dL_law_40 6 rfl ?_
    refine J_iload O.mo dL_law_42 4 rfl ?_
    refine J_icmp_ge O.mo (tgt := 261) dL_law_44 (by decide) (fun hc => absurd hc (by rw [nI_le' (by omega) (by omega)]; omega)) (fun _ => ?_)
    refine J_iload O.mo dL_law_47 5 rfl ?_
    refine J_if_eq O.mo (tgt := 261) dL_law_49 (by decide) (fun hc => absurd hc (by decide)) (fun _ => ?_)
    refine J_aload_nR O.mo dL_law_52 0 rfl ?_
    refine J_iconst O.mo (v := nI 1) dL_law_53 (by decide) ?_
    refine J_iload O.mo dL_law_54 6 rfl ?_
    refine J_iaddE O.mo dL_law_56 (v := nI (1 + k)) (nI_add 1 k) ?_
    refine J_callSMS hs (s2 := s) O hKP (as := [.inl (.ref b), .inl (.int (nI (1 + k)))]) (rest := []) (r := some (.inl (.int (nI Y)))) (hD _) rfl mw865 mw866 mw770 mw867 pd_L_drawn rfl (by decide) rfl (Nat.le_of_ble_eq_true rfl) (sk_v (sk_p (sM_h (by decide)) (sk_p (sM_h (by decide)) (sk_p sM_n (sk_v (sk_v (sk_v sk_0))))))) sm_0 dL_law_57 ?_
    show J X B s 60 [(0, .inl (.ref b)), (1, .inr (some (shP 0 (4, 0, 0)))), (2, .inr (some (shP 1 (4, 0, 0)))), (3, .inr (some (2, 0, 0))), (4, .inl (.int (nI T))), (5, .inl (.int (nI 1))), (6, .inl (.int (nI k)))] [.inl (.int (nI Y))]
    refine J_istore O.mo dL_law_60 (by rw [hmL]; decide) rfl rfl ?_
    refine J_iload O.mo dL_law_62 7 rfl ?_
    refine J_bipush O.mo (v := nI 11) dL_law_64 (by decide) ?_
    refine J_iremE O.mo dL_law_66 (by decide) (v := nI (k % 11)) (nI_mod (by omega) (by omega)) ?_
    suffices K67 : J X B s 105 [(7, .inl (.int (nI Y))), (0, .inl (.ref b)), (1, .inr (some (shP 0 (4, 0, 0)))), (2, .inr (some (shP 1 (4, 0, 0)))), (3, .inr (some (2, 0, 0))), (4, .inl (.int (nI T))), (5, .inl (.int (nI 1))), (6, .inl (.int (nI k)))] [.inl (.int (nI Z))] by
      rw [← eZ] at K67
      refine J_if_ne O.mo (tgt := 81) dL_law_67 (by decide) (fun hc3 => ?_) (fun hc3 => ?_)
      · refine J_iload O.mo dL_law_81 7 rfl ?_
        refine J_iconst O.mo (v := nI 4) dL_law_83 (by decide) ?_
        refine J_iremE O.mo dL_law_84 (by decide) (v := nI (k % 4)) (nI_mod (by omega) (by omega)) ?_
        refine J_iconst O.mo (v := nI 1) dL_law_85 (by decide) ?_
        refine J_icmp_ne O.mo (tgt := 103) dL_law_86 (by decide) (fun hc4 => ?_) (fun hc4 => ?_)
        · refine J_iload O.mo dL_law_103 0 rfl ?_
          rw [if_neg hc3] at K67
          rw [if_neg hc4] at K67
          exact K67
        · refine J_bipush O.mo (v := nI 20) dL_law_89 (by decide) ?_
          refine J_iload O.mo dL_law_91 0 rfl ?_
          refine J_bipush O.mo (v := nI 20) dL_law_93 (by decide) ?_
          refine J_idivE O.mo dL_law_95 (by decide) (v := nI (Y / 20)) (nI_div (by omega) (by omega)) ?_
          refine J_imulE O.mo dL_law_96 (v := nI (20 * (Y / 20))) (nI_mul _ _) ?_
          refine J_bipush O.mo (v := nI 7) dL_law_97 (by decide) ?_
          refine J_iaddE O.mo dL_law_99 (v := nI (20 * (Y / 20) + 7)) (nI_add _ _) ?_
          refine J_goto O.mo (tgt := 105) dL_law_100 (by decide) ?_
          rw [if_neg hc3] at K67
          rw [if_pos hc4] at K67
          exact K67
      · refine J_bipush O.mo (v := nI 20) dL_law_70 (by decide) ?_
        refine J_iload O.mo dL_law_72 0 rfl ?_
        refine J_bipush O.mo (v := nI 20) dL_law_74 (by decide) ?_
        refine J_idivE O.mo dL_law_76 (by decide) (v := nI (Y / 20)) (nI_div (by omega) (by omega)) ?_
        refine J_imulE O.mo dL_law_77 (v := nI (20 * (Y / 20))) (nI_mul _ _) ?_
        refine J_goto O.mo (tgt := 105) dL_law_78 (by decide) ?_
        rw [if_pos hc3] at K67
        exact K67
    refine J_istore O.mo dL_law_105 (by rw [hmL]; decide) rfl rfl ?_
    refine J_aload_n O.mo dL_law_107 2 rfl ?_
    refine J_iload O.mo dL_law_108 0 rfl ?_
    refine J_actM (s := s) (h := 0) O hKP (by decide) hs0 (l10_0 h0) (as := [.inr (some (4, 0, 0)), .inl (.int (nI Z))]) (rest := []) (r := some (.inl (.int r))) hCon trivial rfl mw874 mw875 mw770 mw876 pd_L_act rfl (by decide) rfl (Nat.le_of_ble_eq_true rfl) (sk_v (sk_v (sk_p (sM_h (by decide)) (sk_p (sM_h (by decide)) (sk_p sM_n (sk_v (sk_v (sk_v sk_0)))))))) sm_0 dL_law_110 (fun u1 u1h u1o u1n u1c u1d => ?_)
    show J X B u1 113 [(7, .inl (.int (nI Z))), (0, .inl (.ref b)), (1, .inr (some (shP 0 (4, 0, 0)))), (2, .inr (some (shP 1 (4, 0, 0)))), (3, .inr (some (2, 0, 0))), (4, .inl (.int (nI T))), (5, .inl (.int (nI 1))), (6, .inl (.int (nI k)))] [.inl (.int r)]
    refine J_istore O.mo dL_law_113 (by rw [hmL]; decide) rfl rfl ?_
    refine J_aload_n O.mo dL_law_115 4 rfl ?_
    refine J_aload_n O.mo dL_law_116 5 rfl ?_
    refine J_iload O.mo dL_law_117 1 rfl ?_
    refine J_sipush O.mo (v := nI 9973) dL_law_119 (by decide) ?_
    refine J_iremE O.mo dL_law_122 (by decide) (v := nI (Z % 9973)) (nI_mod (by omega) (by omega)) ?_
    refine J_callSM (s2 := u1) (s2' := (sp u1 50 300)) O hKP (as := [.inr (some (shP 1 (4, 0, 0))), .inr (some (2, 0, 0)), .inl (.int (nI (Z % 9973)))]) (rest := []) (r := some (.inl (.int (1)))) (c_L_refuses hfl hR (s := u1) (h := 1) (by decide) ((u1o 1 (by decide)).trans hs1) (u1n.trans ha) a0 a1 (x := Z % 9973) (by omega)) rfl mw877 mw878 mw770 mw879 pd_L_refuses rfl (by decide) rfl (Nat.le_of_ble_eq_true rfl) (sk_v (sk_v (sk_v (sk_p (sM_h (by decide)) (sk_p (sM_h (by decide)) (sk_p sM_n (sk_v (sk_v (sk_v sk_0))))))))) sm_0 dL_law_123 ?_
    show J X B (sp u1 50 300) 126 [(8, .inl (.int r)), (7, .inl (.int (nI Z))), (0, .inl (.ref b)), (1, .inr (some (shP 0 (4, 0, 0)))), (2, .inr (some (shP 1 (4, 0, 0)))), (3, .inr (some (2, 0, 0))), (4, .inl (.int (nI T))), (5, .inl (.int (nI 1))), (6, .inl (.int (nI k)))] [.inl (.int 1)]
    refine J_if_eq O.mo (tgt := 144) dL_law_126 (by decide) (fun hc => absurd hc (by decide)) (fun _ => ?_)
    refine J_aload_n O.mo dL_law_129 4 rfl ?_
    refine J_iload O.mo dL_law_130 1 rfl ?_
    refine J_actM (s := (sp u1 50 300)) (h := 1) O hKP (by decide) ((u1o 1 (by decide)).trans hs1) (l10_0 h0) (as := [.inr (some (4, 0, 0)), .inl (.int (nI Z))]) (rest := []) (r := some (.inl (.int r))) hCon trivial rfl mw874 mw875 mw770 mw876 pd_L_act rfl (by decide) rfl (Nat.le_of_ble_eq_true rfl) (sk_v (sk_v (sk_v (sk_p (sM_h (by decide)) (sk_p (sM_h (by decide)) (sk_p sM_n (sk_v (sk_v (sk_v sk_0))))))))) sm_0 dL_law_132 (fun u2 u2h u2o u2n u2c u2d => ?_)
    show J X B u2 135 [(8, .inl (.int r)), (7, .inl (.int (nI Z))), (0, .inl (.ref b)), (1, .inr (some (shP 0 (4, 0, 0)))), (2, .inr (some (shP 1 (4, 0, 0)))), (3, .inr (some (2, 0, 0))), (4, .inl (.int (nI T))), (5, .inl (.int (nI 1))), (6, .inl (.int (nI k)))] [.inl (.int r)]
    refine J_iload O.mo dL_law_135 0 rfl ?_
    refine J_icmp_ne O.mo (tgt := 144) dL_law_137 (by decide) (fun hc => absurd (rfl) hc) (fun _ => ?_)
    refine J_iconst O.mo (v := nI 1) dL_law_140 (by decide) ?_
    refine J_goto O.mo (tgt := 145) dL_law_141 (by decide) ?_
    refine J_istore O.mo dL_law_145 (by rw [hmL]; decide) rfl rfl ?_
    refine J_aload_n O.mo dL_law_147 6 rfl ?_
    refine J_iconst O.mo (v := nI 0) dL_law_148 (by decide) ?_
    refine J_dup2 O.mo dL_law_149 rfl rfl ?_
    have u2a : u2.2.1 = some a := u2n.trans (u1n.trans ha)
    refine J_nldE (s2 := u2) O u2a (nI_in (c := 0) (N := 12) (by decide) (by decide)) (v := nI n) (by rw [nI_cl (n := 0) (by decide)]; exact a0) dL_law_150 ?_
    refine J_iload O.mo dL_law_151 2 rfl ?_
    refine J_bipush O.mo (v := nI 20) dL_law_153 (by decide) ?_
    refine J_iremE O.mo dL_law_155 (by decide) (v := nI (Z % 20)) (nI_mod (by omega) (by omega)) ?_
    refine J_iconst O.mo (v := nI 2) dL_law_156 (by decide) ?_
    suffices K157 : J X B u2 170 [(5, .inl (.int (nI 1))), (8, .inl (.int r)), (7, .inl (.int (nI Z))), (0, .inl (.ref b)), (1, .inr (some (shP 0 (4, 0, 0)))), (2, .inr (some (shP 1 (4, 0, 0)))), (3, .inr (some (2, 0, 0))), (4, .inl (.int (nI T))), (6, .inl (.int (nI k)))] [.inl (.int d0), .inl (.int (nI n)), .inl (.int (nI 0)), .inr (some (2, 0, 0))] by
      rw [← ed0] at K157
      refine J_icmp_ge O.mo (tgt := 169) dL_law_157 (by decide) (fun hc6 => ?_) (fun hc6 => ?_)
      · refine J_iconst O.mo (v := nI 0) dL_law_169 (by decide) ?_
        rw [if_pos hc6] at K157
        exact K157
      · refine J_iload O.mo dL_law_160 1 rfl ?_
        refine J_if_lt O.mo (tgt := 169) dL_law_162 (by decide) (fun hc7 => ?_) (fun hc7 => ?_)
        · refine J_iconst O.mo (v := nI 0) dL_law_169 (by decide) ?_
          rw [if_neg hc6] at K157
          rw [if_pos hc7] at K157
          exact K157
        · refine J_iconst O.mo (v := nI 1) dL_law_165 (by decide) ?_
          refine J_goto O.mo (tgt := 170) dL_law_166 (by decide) ?_
          rw [if_neg hc6] at K157
          rw [if_neg hc7] at K157
          exact K157
    refine J_iaddE O.mo dL_law_170 (v := nI n') hd0 ?_
    refine J_nstE (s := u2) O (a := a) u2a (nI_in (c := 0) (N := 12) (by decide) (by decide)) (nI_cl (n := 0) (by decide)) dL_law_171 (fun u3 u3h u3n u3c => ?_)
    show J X B u3 172 [(5, .inl (.int (nI 1))), (8, .inl (.int r)), (7, .inl (.int (nI Z))), (0, .inl (.ref b)), (1, .inr (some (shP 0 (4, 0, 0)))), (2, .inr (some (shP 1 (4, 0, 0)))), (3, .inr (some (2, 0, 0))), (4, .inl (.int (nI T))), (6, .inl (.int (nI k)))] []
    refine J_aload_n O.mo dL_law_172 6 rfl ?_
    refine J_iconst O.mo (v := nI 1) dL_law_173 (by decide) ?_
    refine J_dup2 O.mo dL_law_174 rfl rfl ?_
    refine J_nldE (s2 := u3) O u3n (nI_in (c := 1) (N := 12) (by decide) (by decide)) (v := nI ns) (by rw [nI_cl (n := 1) (by decide)]; exact (if_neg (by decide)).trans a1) dL_law_175 ?_
    refine J_iload O.mo dL_law_176 2 rfl ?_
    refine J_bipush O.mo (v := nI 20) dL_law_178 (by decide) ?_
    refine J_iremE O.mo dL_law_180 (by decide) (v := nI (Z % 20)) (nI_mod (by omega) (by omega)) ?_
    refine J_bipush O.mo (v := nI 14) dL_law_181 (by decide) ?_
    suffices K183 : J X B u3 196 [(5, .inl (.int (nI 1))), (8, .inl (.int r)), (7, .inl (.int (nI Z))), (0, .inl (.ref b)), (1, .inr (some (shP 0 (4, 0, 0)))), (2, .inr (some (shP 1 (4, 0, 0)))), (3, .inr (some (2, 0, 0))), (4, .inl (.int (nI T))), (6, .inl (.int (nI k)))] [.inl (.int d1), .inl (.int (nI ns)), .inl (.int (nI 1)), .inr (some (2, 0, 0))] by
      rw [← ed1] at K183
      refine J_icmp_ne O.mo (tgt := 195) dL_law_183 (by decide) (fun hc9 => ?_) (fun hc9 => ?_)
      · refine J_iconst O.mo (v := nI 0) dL_law_195 (by decide) ?_
        rw [if_neg hc9] at K183
        exact K183
      · refine J_iload O.mo dL_law_186 1 rfl ?_
        refine J_if_lt O.mo (tgt := 195) dL_law_188 (by decide) (fun hc10 => ?_) (fun hc10 => ?_)
        · refine J_iconst O.mo (v := nI 0) dL_law_195 (by decide) ?_
          rw [if_pos hc9] at K183
          rw [if_pos hc10] at K183
          exact K183
        · refine J_iconst O.mo (v := nI 1) dL_law_191 (by decide) ?_
          refine J_goto O.mo (tgt := 196) dL_law_192 (by decide) ?_
          rw [if_pos hc9] at K183
          rw [if_neg hc10] at K183
          exact K183
    refine J_iaddE O.mo dL_law_196 (v := nI ns') hd1 ?_
    refine J_nstE (s := u3) O (a := (upd a 0 (nI n'))) u3n (nI_in (c := 1) (N := 12) (by decide) (by decide)) (nI_cl (n := 1) (by decide)) dL_law_197 (fun u4 u4h u4n u4c => ?_)
    show J X B u4 198 [(5, .inl (.int (nI 1))), (8, .inl (.int r)), (7, .inl (.int (nI Z))), (0, .inl (.ref b)), (1, .inr (some (shP 0 (4, 0, 0)))), (2, .inr (some (shP 1 (4, 0, 0)))), (3, .inr (some (2, 0, 0))), (4, .inl (.int (nI T))), (6, .inl (.int (nI k)))] []
    obtain ⟨a', ea'⟩ : ∃ a' : Nat → Int32, a' = upd (upd a 0 (nI n')) 1 (nI ns') := ⟨_, rfl⟩
    rw [← ea'] at u4n
    have a0' : a' 0 = nI n' := by rw [ea']; rfl
    have a1' : a' 1 = nI ns' := by rw [ea']; rfl
    have ag' : ∀ g, a' (4 + g) = a (4 + g) := fun g => by rw [ea']; exact (if_neg (by omega)).trans (if_neg (by omega))
    have hs0' : u4.1 0 = (E', κ') := by rw [u4h, u3h, u2o 0 (by decide)]; exact u1h
    have hs1' : u4.1 1 = (E', κ') := by rw [u4h, u3h]; exact u2h
    have hout' : ∀ g, g < 5 → ∃ p q, a' (4 + g) = nI p ∧ kV κ' 5 0 35 g = nI q ∧ p ≤ q ∧ q ≤ 3000 := fun g hg => by
      obtain ⟨p, q, h1, h2, h3, h4⟩ := hout g hg
      obtain ⟨q', h5, h6, h7⟩ := hX'.2.2 g q hg h4 h2
      exact ⟨p, q', by rw [ag']; exact h1, h7, by omega, h6⟩
    have uc1 : u4.2.2.1 ≤ 2 * (kC κ').1 + 1 + 198 * k + 50 := by
      rw [u4c, u3c, u2c]; show u1.2.2.1 + 50 + ((kC κ').1 - (kC κ).1) ≤ _; rw [u1c]; show s.2.2.1 + ((kC κ').1 - (kC κ).1) + 50 + ((kC κ').1 - (kC κ).1) ≤ _; omega
    have uc2 : u4.2.2.2 ≤ 2 * (kC κ').2 + 12 + 1328 * k + 300 := by
      rw [u4c, u3c, u2d]; show u1.2.2.2 + 300 + ((kC κ').2 - (kC κ).2) ≤ _; rw [u1d]; show s.2.2.2 + ((kC κ').2 - (kC κ).2) + 300 + ((kC κ').2 - (kC κ).2) ≤ _; omega
    refine J_iload O.mo dL_law_198 0 rfl ?_
    refine J_if_eq O.mo (tgt := 252) dL_law_200 (by decide) (fun hc => absurd hc (by decide)) (fun _ => ?_)
    refine J_aload_n O.mo dL_law_203 5 rfl ?_
    refine J_aload_n O.mo dL_law_204 6 rfl ?_
    refine J_iload O.mo dL_law_205 2 rfl ?_
    refine J_sipush O.mo (v := nI 499) dL_law_207 (by decide) ?_
    refine J_iremE O.mo dL_law_210 (by decide) (v := nI (Z % 499)) (nI_mod (by omega) (by omega)) ?_
    refine J_callSM (s2 := u4) (s2' := (sp u4 50 300)) O hKP (as := [.inr (some (shP 1 (4, 0, 0))), .inr (some (2, 0, 0)), .inl (.int (nI (Z % 499)))]) (rest := []) (r := some (.inl (.int (1)))) (c_L_refuses hfl hR' (s := u4) (h := 1) (by decide) hs1' u4n a0' a1' (x := Z % 499) (by omega)) rfl mw877 mw878 mw770 mw879 pd_L_refuses rfl (by decide) rfl (Nat.le_of_ble_eq_true rfl) (sk_v (sk_v (sk_v (sk_v (sk_p (sM_h (by decide)) (sk_p (sM_h (by decide)) (sk_p sM_n (sk_v (sk_v sk_0))))))))) sm_0 dL_law_211 ?_
    show J X B (sp u4 50 300) 214 [(5, .inl (.int (nI 1))), (8, .inl (.int r)), (7, .inl (.int (nI Z))), (0, .inl (.ref b)), (1, .inr (some (shP 0 (4, 0, 0)))), (2, .inr (some (shP 1 (4, 0, 0)))), (3, .inr (some (2, 0, 0))), (4, .inl (.int (nI T))), (6, .inl (.int (nI k)))] [.inl (.int 1)]
    refine J_if_eq O.mo (tgt := 252) dL_law_214 (by decide) (fun hc => absurd hc (by decide)) (fun _ => ?_)
    refine J_aload_n O.mo dL_law_217 4 rfl ?_
    refine J_aload_n O.mo dL_law_218 5 rfl ?_
    refine J_iload O.mo dL_law_219 2 rfl ?_
    refine J_iconst O.mo (v := nI 3) dL_law_221 (by decide) ?_
    refine J_idivE O.mo dL_law_222 (by decide) (v := nI (Z / 3)) (nI_div (by omega) (by omega)) ?_
    refine J_callSM (s2 := (sp u4 50 300)) (s2' := (sp (sp u4 50 300) 68 408)) O hKP (as := [.inr (some (shP 0 (4, 0, 0))), .inr (some (shP 1 (4, 0, 0))), .inl (.int (nI (Z / 3)))]) (rest := []) (r := some (.inl (.int (1)))) (c_L_isAlike hfl hR' (s := sp u4 50 300) hs0' hs1' (x := Z / 3) (by omega)) rfl mw871 mw872 mw770 mw873 pd_L_isAlike rfl (by decide) rfl (Nat.le_of_ble_eq_true rfl) (sk_v (sk_v (sk_v (sk_v (sk_p (sM_h (by decide)) (sk_p (sM_h (by decide)) (sk_p sM_n (sk_v (sk_v sk_0))))))))) sm_0 dL_law_223 ?_
    show J X B (sp (sp u4 50 300) 68 408) 226 [(5, .inl (.int (nI 1))), (8, .inl (.int r)), (7, .inl (.int (nI Z))), (0, .inl (.ref b)), (1, .inr (some (shP 0 (4, 0, 0)))), (2, .inr (some (shP 1 (4, 0, 0)))), (3, .inr (some (2, 0, 0))), (4, .inl (.int (nI T))), (6, .inl (.int (nI k)))] [.inl (.int 1)]
    refine J_if_eq O.mo (tgt := 252) dL_law_226 (by decide) (fun hc => absurd hc (by decide)) (fun _ => ?_)
    refine J_iload O.mo dL_law_229 8 rfl ?_
    refine J_iconst O.mo (v := nI 3) dL_law_231 (by decide) ?_
    refine J_iremE O.mo dL_law_232 (by decide) (v := nI (k % 3)) (nI_mod (by omega) (by omega)) ?_
    refine J_if_gt O.mo (tgt := 248) dL_law_233 (by decide) (fun hc11 => ?_) (fun hc11 => ?_)
    · refine J_iconst O.mo (v := nI 1) dL_law_248 (by decide) ?_
      refine J_goto O.mo (tgt := 253) dL_law_249 (by decide) ?_
      refine J_istore O.mo dL_law_253 (by rw [hmL]; decide) rfl rfl ?_
      refine J_iinc O.mo dL_law_255 (by rw [hmL]; decide) 8 rfl (v := nI (k + 1)) (nI_add k 1) rfl rfl ?_
      refine J_goto O.mo (tgt := 40) dL_law_258 (by decide) ?_
      refine J_sub [4, 5, 6, 7, 8, 1, 0] rfl ?_
      refine ih (k + 1) (E := E') (κ := κ') (a := a') (n := n') (ns := ns') (t := t') (C := C') (by omega) ⟨hR', hT', hW1', hW2', ?_, ?_, ?_, by omega, hs0', hs1', ?_, ?_, ?_⟩
      · exact a0'
      · exact a1'
      · exact hout'
      · exact u4n
      · show u4.2.2.1 + 50 + 68 ≤ _; omega
      · show u4.2.2.2 + 300 + 408 ≤ _; omega
    · refine J_aload_n O.mo dL_law_236 5 rfl ?_
      refine J_aload_n O.mo dL_law_237 6 rfl ?_
      refine J_iload O.mo dL_law_238 2 rfl ?_
      refine J_iconst O.mo (v := nI 5) dL_law_240 (by decide) ?_
      refine J_idivE O.mo dL_law_241 (by decide) (v := nI (Z / 5)) (nI_div (by omega) (by omega)) ?_
      refine J_callSM (s2 := (sp (sp u4 50 300) 68 408)) (s2' := (sp (wst (sp (sp u4 50 300) 68 408) a' (kV κ' 5 0) n') 30 320)) O hKP (as := [.inr (some (shP 1 (4, 0, 0))), .inr (some (2, 0, 0)), .inl (.int (nI (Z / 5)))]) (rest := []) (r := some (.inl (.int (1)))) (c_L_isWhole hfl hR' (s := sp (sp u4 50 300) 68 408) (h := 1) (by decide) hs1' u4n a0' (x := Z / 5) hT' (by omega) hW1' hW2' (fun g hg => hout' g (by omega))) rfl mw868 mw869 mw770 mw870 pd_L_isWhole rfl (by decide) rfl (Nat.le_of_ble_eq_true rfl) (sk_v (sk_v (sk_v (sk_v (sk_p (sM_h (by decide)) (sk_p (sM_h (by decide)) (sk_p sM_n (sk_v (sk_v sk_0))))))))) sm_0 dL_law_242 ?_
      show J X B (sp (wst (sp (sp u4 50 300) 68 408) a' (kV κ' 5 0) n') 30 320) 245 [(5, .inl (.int (nI 1))), (8, .inl (.int r)), (7, .inl (.int (nI Z))), (0, .inl (.ref b)), (1, .inr (some (shP 0 (4, 0, 0)))), (2, .inr (some (shP 1 (4, 0, 0)))), (3, .inr (some (2, 0, 0))), (4, .inl (.int (nI T))), (6, .inl (.int (nI k)))] [.inl (.int 1)]
      refine J_if_eq O.mo (tgt := 252) dL_law_245 (by decide) (fun hc => absurd hc (by decide)) (fun _ => ?_)
      refine J_iconst O.mo (v := nI 1) dL_law_248 (by decide) ?_
      refine J_goto O.mo (tgt := 253) dL_law_249 (by decide) ?_
      refine J_istore O.mo dL_law_253 (by rw [hmL]; decide) rfl rfl ?_
      refine J_iinc O.mo dL_law_255 (by rw [hmL]; decide) 8 rfl (v := nI (k + 1)) (nI_add k 1) rfl rfl ?_
      refine J_goto O.mo (tgt := 40) dL_law_258 (by decide) ?_
      refine J_sub [4, 5, 6, 7, 8, 1, 0] rfl ?_
      refine ih (k + 1) (E := E') (κ := κ') (a := (wrow a' (kV κ' 5 0) n')) (n := n') (ns := ns') (t := t') (C := C') (by omega) ⟨hR', hT', hW1', hW2', ?_, ?_, ?_, by omega, hs0', hs1', ?_, ?_, ?_⟩
      · exact wrow_0.trans a0'
      · exact (if_neg (by omega)).trans a1'
      · intro g hg
        obtain ⟨p, q, h1, h2, h3, h4⟩ := hout' g hg
        by_cases hgn : g < n'
        · exact ⟨q, q, by unfold wrow; rw [if_pos (by omega), show 4 + g - 4 = g by omega]; exact h2, h2, Nat.le_refl _, h4⟩
        · exact ⟨p, q, by unfold wrow; rw [if_neg (by omega)]; exact h1, h2, h3, h4⟩
      · rfl
      · show u4.2.2.1 + 50 + 68 + 30 ≤ _; omega
      · show u4.2.2.2 + 300 + 408 + 320 ≤ _; omega
set_option maxHeartbeats 4000000 in
set_option maxRecDepth 100000 in
theorem law_start {l0 : Launch} (hfl : l0.stackTraces = false) {X : MX} {B : BX S2} {g0 : GP} (O : CKM l0 X B g0 cL_law yL_law.cls 14 534) (hKPa : ∀ ad : Pl → Nat, B.2.2.2.2.2.2.2.1 ad) (hmL : B.2.2.2.1 = 9) {b L : Nat} {xs : Nat → Int32} (hs : B.2.2.2.2.2.2.2.2 X → LWX b L xs B.2.2.1 X) (hL : L ≤ 2560) (hE : ∀ (s : S2) (lv : List (Nat × AV)), s.2.2.1 ≤ 662023 → s.2.2.2 ≤ 7115554 → J X B s 319 lv [.inl (.int 1)]) : J X B (fun _ => (E00, κ00), none, (0, 0)) 0 [(0, .inl (.ref b))] [] := by
  have hKP : KPokM B := fun _ ad _ _ => hKPa ad
  have hR0 : rawOK E00 := fun r hr => absurd hr List.not_mem_nil
  refine J_newOM (s2 := (fun _ => (E00, κ00), none, (0, 0))) (h := 0) (E := E00) (κ := κ00) O hKPa (by decide) rfl hR0 (kd0 := 10) (C := RX10) (T := TX10) (N := 4) rfl rfl in_X10 tyX10 tyX10_ok mw880 mw881 mw320 (fun q hq => by rcases List.mem_singleton.mp hq with rfl; exact trivial) (fun _ h => absurd h List.not_mem_nil) dL_law_0 (fun hR => ?_)
  obtain ⟨w0, ew0⟩ : ∃ w, w = upH (fun _ => (E00, κ00), none, (0, 0)) 0 (upR E00 (eR E00 ++ [.inl (10, fun j => dv (tyX10 j))]), addC κ00 1 4) 1 4 := ⟨_, rfl⟩
  have w0h : w0.1 0 = (upR E00 ([] ++ [.inl (10, fun j => dv (tyX10 j))]), addC κ00 1 4) := by rw [ew0]; exact upH_s
  have w0o : ∀ k, k ≠ 0 → w0.1 k = ((fun _ => (E00, κ00), none, (0, 0)) : S2).1 k := fun k hk => by rw [ew0]; exact upH_n hk
  have w0n : w0.2.1 = ((fun _ => (E00, κ00), none, (0, 0)) : S2).2.1 := by rw [ew0]; rfl
  have w0c : w0.2.2.1 = ((fun _ => (E00, κ00), none, (0, 0)) : S2).2.2.1 + 1 ∧ w0.2.2.2 = ((fun _ => (E00, κ00), none, (0, 0)) : S2).2.2.2 + 4 := by rw [ew0]; exact ⟨rfl, rfl⟩
  rw [← ew0]
  refine J_dup O.mo dL_law_3 rfl ?_
  refine J_callIM (s2 := w0) (h := 0) (p0 := (8, 0, 0)) (x' := (upR E00 ([] ++ cX10 0), addC (addC κ00 1 4) 11 168)) (y := (upR E00 ([] ++ cX10 0), addC (addC κ00 1 4) 11 168)) O hKPa (by decide) (as := []) (rest := [.inr (some (shP 0 (8, 0, 0)))]) (by rw [w0h]; exact ci_X10 hfl (E0 := E00) (L := []) hR) Cov.rf rfl rfl (Or.inl mw882) mw883 mw320 mw884 pd_X10_init rfl (by decide) rfl (Nat.le_of_ble_eq_true rfl) (fun q hq => Or.inl (by rcases List.mem_singleton.mp hq with rfl; exact trivial)) (fun v hv => by rcases List.mem_singleton.mp hv with rfl; exact Or.inr ⟨.inr (some (8, 0, 0)), by rw [w0h]; exact st_8 Nat.zero_lt_one, rfl⟩) dL_law_4 ?_
  rw [show kC (w0.1 0).2 = (1, 4) by rw [w0h]; rfl]
  obtain ⟨z0, ez0⟩ : ∃ z, z = upH w0 0 (upR E00 ([] ++ cX10 0), addC (addC κ00 1 4) 11 168) 11 168 := ⟨_, rfl⟩
  have z0h : z0.1 0 = (upR E00 ([] ++ cX10 0), addC (addC κ00 1 4) 11 168) := by rw [ez0]; exact upH_s
  have z0o : ∀ k, k ≠ 0 → z0.1 k = w0.1 k := fun k hk => by rw [ez0]; exact upH_n hk
  have z0n : z0.2.1 = w0.2.1 := by rw [ez0]; rfl
  have z0c : z0.2.2.1 = w0.2.2.1 + 11 ∧ z0.2.2.2 = w0.2.2.2 + 168 := by rw [ez0]; exact ⟨rfl, rfl⟩
  change J X B (upH w0 0 (upR E00 ([] ++ cX10 0), addC (addC κ00 1 4) 11 168) 11 168) 7 [(0, .inl (.ref b))] [.inr (some (shP 0 (8, 0, 0)))]
  rw [← ez0]
  refine J_astore_n O.mo (lv' := [(0, .inl (.ref b))]) dL_law_7 (by rw [hmL]; decide) rfl rfl ?_
  refine J_adoptM (s2 := z0) (h := 0) (E' := EH) (y := (EI, kI)) O hKPa (by decide) z0h nwH (cX10 0) rfl (fun f i c h1 h2 _ => absurd h2 (nwH_live h1)) (fun f i c m _ h2 => ad_H h2) (fun f i c f' i' c' m h1 h2 => ?_) (fun i c => ⟨rfl, rfl⟩) (fun r hr => absurd hr List.not_mem_nil) (fun f i c h1 h2 _ => absurd h2 (nwH_live h1)) cov_I (lv' := [(1, .inr (some (shP 0 (4, 0, 0)))), (0, .inl (.ref b))]) (st' := []) rfl rfl ?_
  · rcases nwH_cases h1 with ⟨rfl, rfl, z, rfl⟩ | ⟨rfl, y, z, rfl⟩ <;> rcases nwH_cases h2 with ⟨rfl, rfl, z2, e⟩ | ⟨rfl, y2, z2, e⟩
    · rw [e]
    · omega
    · omega
    · have e1 : i = i' := by omega
      have e2 : c = c' := by omega
      rw [e1, e2]
  obtain ⟨v1, ev1⟩ : ∃ v, v = upH z0 0 (EI, kI) 0 0 := ⟨_, rfl⟩
  have v1h : v1.1 0 = (EI, kI) := by rw [ev1]; exact upH_s
  have v1k : ∀ k, k ≠ 0 → v1.1 k = ((fun _ => (E00, κ00), none, (0, 0)) : S2).1 k := fun k hk => by rw [ev1, upH_n hk, z0o k hk, w0o k hk]
  have v1n : v1.2.1 = ((fun _ => (E00, κ00), none, (0, 0)) : S2).2.1 := by rw [ev1]; exact z0n.trans w0n
  have v1c : v1.2.2.1 = ((fun _ => (E00, κ00), none, (0, 0)) : S2).2.2.1 + 12 ∧ v1.2.2.2 = ((fun _ => (E00, κ00), none, (0, 0)) : S2).2.2.2 + 172 := by rw [ev1]; exact ⟨by show z0.2.2.1 + 0 = _; rw [z0c.1, w0c.1], by show z0.2.2.2 + 0 = _; rw [z0c.2, w0c.2]⟩
  rw [← ev1]
  have v1o : v1.1 1 = (E00, κ00) := v1k 1 (by decide)
  have hn1 : ∀ q ∈ ([(1, .inr (some (shP 0 (4, 0, 0)))), (0, .inl (.ref b))] : List (Nat × AV)), NotH 1 q.2 := by intro q hq; simp only [List.mem_cons, List.not_mem_nil, or_false] at hq; rcases hq with rfl | rfl; exact (by decide : (12 : Nat) % 3 ≠ 1); exact trivial
  refine J_newOM (s2 := v1) (h := 1) (E := E00) (κ := κ00) O hKPa (by decide) v1o hR0 (kd0 := 10) (C := RX10) (T := TX10) (N := 4) rfl rfl in_X10 tyX10 tyX10_ok mw880 mw881 mw320 hn1 (fun _ h => absurd h List.not_mem_nil) dL_law_8 (fun hR => ?_)
  obtain ⟨w1, ew1⟩ : ∃ w, w = upH v1 1 (upR E00 (eR E00 ++ [.inl (10, fun j => dv (tyX10 j))]), addC κ00 1 4) 1 4 := ⟨_, rfl⟩
  have w1h : w1.1 1 = (upR E00 ([] ++ [.inl (10, fun j => dv (tyX10 j))]), addC κ00 1 4) := by rw [ew1]; exact upH_s
  have w1o : ∀ k, k ≠ 1 → w1.1 k = (v1 : S2).1 k := fun k hk => by rw [ew1]; exact upH_n hk
  have w1n : w1.2.1 = (v1 : S2).2.1 := by rw [ew1]; rfl
  have w1c : w1.2.2.1 = (v1 : S2).2.2.1 + 1 ∧ w1.2.2.2 = (v1 : S2).2.2.2 + 4 := by rw [ew1]; exact ⟨rfl, rfl⟩
  rw [← ew1]
  refine J_dup O.mo dL_law_11 rfl ?_
  refine J_callIM (s2 := w1) (h := 1) (p0 := (8, 0, 0)) (x' := (upR E00 ([] ++ cX10 0), addC (addC κ00 1 4) 11 168)) (y := (upR E00 ([] ++ cX10 0), addC (addC κ00 1 4) 11 168)) O hKPa (by decide) (as := []) (rest := [.inr (some (shP 1 (8, 0, 0)))]) (by rw [w1h]; exact ci_X10 hfl (E0 := E00) (L := []) hR) Cov.rf rfl rfl (Or.inl mw882) mw883 mw320 mw884 pd_X10_init rfl (by decide) rfl (Nat.le_of_ble_eq_true rfl) (fun q hq => Or.inl (hn1 q hq)) (fun v hv => by rcases List.mem_singleton.mp hv with rfl; exact Or.inr ⟨.inr (some (8, 0, 0)), by rw [w1h]; exact st_8 Nat.zero_lt_one, rfl⟩) dL_law_12 ?_
  rw [show kC (w1.1 1).2 = (1, 4) by rw [w1h]; rfl]
  obtain ⟨z1, ez1⟩ : ∃ z, z = upH w1 1 (upR E00 ([] ++ cX10 0), addC (addC κ00 1 4) 11 168) 11 168 := ⟨_, rfl⟩
  have z1h : z1.1 1 = (upR E00 ([] ++ cX10 0), addC (addC κ00 1 4) 11 168) := by rw [ez1]; exact upH_s
  have z1o : ∀ k, k ≠ 1 → z1.1 k = w1.1 k := fun k hk => by rw [ez1]; exact upH_n hk
  have z1n : z1.2.1 = w1.2.1 := by rw [ez1]; rfl
  have z1c : z1.2.2.1 = w1.2.2.1 + 11 ∧ z1.2.2.2 = w1.2.2.2 + 168 := by rw [ez1]; exact ⟨rfl, rfl⟩
  change J X B (upH w1 1 (upR E00 ([] ++ cX10 0), addC (addC κ00 1 4) 11 168) 11 168) 15 [(1, .inr (some (shP 0 (4, 0, 0)))), (0, .inl (.ref b))] [.inr (some (shP 1 (8, 0, 0)))]
  rw [← ez1]
  refine J_astore_n O.mo (lv' := [(1, .inr (some (shP 0 (4, 0, 0)))), (0, .inl (.ref b))]) dL_law_15 (by rw [hmL]; decide) rfl rfl ?_
  refine J_adoptM (s2 := z1) (h := 1) (E' := EH) (y := (EI, kI)) O hKPa (by decide) z1h nwH (cX10 0) rfl (fun f i c h1 h2 _ => absurd h2 (nwH_live h1)) (fun f i c m _ h2 => ad_H h2) (fun f i c f' i' c' m h1 h2 => ?_) (fun i c => ⟨rfl, rfl⟩) (fun r hr => absurd hr List.not_mem_nil) (fun f i c h1 h2 _ => absurd h2 (nwH_live h1)) cov_I (lv' := [(2, .inr (some (shP 1 (4, 0, 0)))), (1, .inr (some (shP 0 (4, 0, 0)))), (0, .inl (.ref b))]) (st' := []) rfl rfl ?_
  · rcases nwH_cases h1 with ⟨rfl, rfl, z, rfl⟩ | ⟨rfl, y, z, rfl⟩ <;> rcases nwH_cases h2 with ⟨rfl, rfl, z2, e⟩ | ⟨rfl, y2, z2, e⟩
    · rw [e]
    · omega
    · omega
    · have e1 : i = i' := by omega
      have e2 : c = c' := by omega
      rw [e1, e2]
  obtain ⟨v2, ev2⟩ : ∃ v, v = upH z1 1 (EI, kI) 0 0 := ⟨_, rfl⟩
  have v2h : v2.1 1 = (EI, kI) := by rw [ev2]; exact upH_s
  have v2k : ∀ k, k ≠ 1 → v2.1 k = (v1 : S2).1 k := fun k hk => by rw [ev2, upH_n hk, z1o k hk, w1o k hk]
  have v2n : v2.2.1 = (v1 : S2).2.1 := by rw [ev2]; exact z1n.trans w1n
  have v2c : v2.2.2.1 = (v1 : S2).2.2.1 + 12 ∧ v2.2.2.2 = (v1 : S2).2.2.2 + 172 := by rw [ev2]; exact ⟨by show z1.2.2.1 + 0 = _; rw [z1c.1, w1c.1], by show z1.2.2.2 + 0 = _; rw [z1c.2, w1c.2]⟩
  rw [← ev2]
  show J X B v2 16 [(2, .inr (some (shP 1 (4, 0, 0)))), (1, .inr (some (shP 0 (4, 0, 0)))), (0, .inl (.ref b))] []
  refine J_bipush O.mo (v := 12) dL_law_16 (by decide) ?_
  refine J_newRow (s2 := v2) O hKPa (by rw [v2n, v1n]) mw_arrI (fun q hq => by simp only [List.mem_cons, List.not_mem_nil, or_false] at hq; rcases hq with rfl | rfl | rfl <;> (intro z; cases z)) dL_law_18 ?_
  obtain ⟨v3, ev3⟩ : ∃ v : S2, v = (v2.1, some (fun _ => 0), (v2.2.2.1 + 1, v2.2.2.2 + 12)) := ⟨_, rfl⟩
  rw [← ev3]
  show J X B v3 20 [(2, .inr (some (shP 1 (4, 0, 0)))), (1, .inr (some (shP 0 (4, 0, 0)))), (0, .inl (.ref b))] [.inr (some (2, 0, 0))]
  obtain ⟨Y, hY, hD⟩ := c_L_drawn hfl (bS := b) (j := 0) (by decide) hL (xs := xs) (x := v3)
  refine J_astore_n O.mo dL_law_20 (by rw [hmL]; decide) rfl rfl ?_
  refine J_bipush O.mo (v := nI 22) dL_law_21 (by decide) ?_
  refine J_aload_nR O.mo dL_law_23 3 rfl ?_
  refine J_iconst O.mo (v := nI 0) dL_law_24 (by decide) ?_
  refine J_callSMS hs (s2 := v3) O hKP (as := [.inl (.ref b), .inl (.int (nI 0))]) (rest := [.inl (.int (nI 22))]) (r := some (.inl (.int (nI Y)))) (hD _) rfl mw865 mw866 mw770 mw867 pd_L_drawn rfl (by decide) rfl (Nat.le_of_ble_eq_true rfl) (sk_p sM_n (sk_p (sM_h (by decide)) (sk_p (sM_h (by decide)) (sk_v sk_0)))) (sm_v sm_0) dL_law_25 ?_
  show J X B v3 28 [(3, .inr (some (2, 0, 0))), (2, .inr (some (shP 1 (4, 0, 0)))), (1, .inr (some (shP 0 (4, 0, 0)))), (0, .inl (.ref b))] [.inl (.int (nI Y)), .inl (.int (nI 22))]
  refine J_bipush O.mo (v := nI 27) dL_law_28 (by decide) ?_
  refine J_iremE O.mo dL_law_30 (by decide) (v := nI (Y % 27)) (nI_mod (by omega) (by omega)) ?_
  refine J_iaddE O.mo dL_law_31 (v := nI (22 + Y % 27)) (nI_add _ _) ?_
  refine J_istore O.mo dL_law_32 (by rw [hmL]; decide) rfl rfl ?_
  refine J_iconst O.mo (v := nI 1) dL_law_34 (by decide) ?_
  refine J_istore O.mo dL_law_35 (by rw [hmL]; decide) rfl rfl ?_
  refine J_iconst O.mo (v := nI 0) dL_law_37 (by decide) ?_
  refine J_istore O.mo dL_law_38 (by rw [hmL]; decide) rfl rfl ?_
  refine J_sub [6, 5, 4, 3, 2, 1, 0] rfl ?_
  refine law_loop hfl O hKPa hmL hs hL hE (T := 22 + Y % 27) (by omega) (22 + Y % 27) 0 (E := EI) (κ := kI) (a := fun _ => 0) (n := 0) (ns := 0) (t := 0) (C := 0) (Nat.zero_add _) ⟨REL_ini, rfl, W1_ini, W2_ini, rfl, rfl, fun g _ => ⟨0, 0, rfl, ki_0 (by omega) g, Nat.le_refl _, by omega⟩, by omega, ?_, ?_, ?_, ?_, ?_⟩
  · rw [ev3]; exact (v2k 0 (by decide)).trans v1h
  · rw [ev3]; exact v2h
  · rw [ev3]
  · have e : (kC kI).1 = 12 := rfl
    rw [ev3]; show v2.2.2.1 + 1 ≤ _; rw [v2c.1, v1c.1, e]; show 0 + 12 + 12 + 1 ≤ _; omega
  · have e : (kC kI).2 = 172 := rfl
    rw [ev3]; show v2.2.2.2 + 12 ≤ _; rw [v2c.2, v1c.2, e]; show 0 + 172 + 172 + 12 ≤ _; omega
