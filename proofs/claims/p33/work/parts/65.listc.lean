set_option maxRecDepth 100000 in
theorem mw564 : Cond.fieldLink RJx4a65c 63 "java/util/ArrayList" "modCount" "I" ∈ gwl := gwl_tb 53 rfl rfl
set_option maxRecDepth 100000 in
theorem mw565 : Cond.sameField "java/util/ArrayList" "java/util/AbstractList" "modCount" "I" ∈ gwl := gwl_tb 54 rfl rfl
set_option maxRecDepth 100000 in
theorem mw566 : Cond.fieldLink RJx4a65c 39 "java/util/ArrayList" "DEFAULTCAPACITY_EMPTY_ELEMENTDATA" "[Ljava/lang/Object;" ∈ gwl := gwl_tb 48 rfl rfl
set_option maxRecDepth 100000 in
theorem mw567 : Cond.classLink RJx4a65c 7 "java/lang/Object" ∈ gwl := gwl_tb 566 rfl rfl
set_option maxRecDepth 100000 in
theorem mw568 : Cond.methodLink RJx4a65c 79 Lib.Math.max.name ∈ gwl := gwl_tb 565 rfl rfl
set_option maxRecDepth 100000 in
theorem mw569 : Cond.methodLink RJx4a65c 69 yJx4a65c_grow_92f84 ∈ gwl := gwl_tb 518 rfl rfl
set_option maxRecDepth 100000 in
theorem mw570 : Cond.instanceMethod yJx4a65c_grow_92f84 ∈ gwl := gwl_tb 520 rfl rfl
set_option maxRecDepth 100000 in
theorem mw571 : Cond.selects RJx4a65c yJx4a65c_grow_92f84 yJx4a65c_grow_92f84 ∈ gwl := gwl_sl 4 rfl rfl
set_option maxRecDepth 100000 in
theorem mw572 : Cond.code yJx4a65c_grow_92f84 cJx4a65c_grow_92f84 4 (some (.array (.object "java/lang/Object"))) ∈ gwl := gwl_tb 521 rfl rfl
set_option maxRecDepth 100000 in
theorem mw573 : Cond.methodLink RJx4a65c 129 yJx4a65c_grow_d5877 ∈ gwl := gwl_tb 514 rfl rfl
set_option maxRecDepth 100000 in
theorem mw574 : Cond.instanceMethod yJx4a65c_grow_d5877 ∈ gwl := gwl_tb 516 rfl rfl
set_option maxRecDepth 100000 in
theorem mw575 : Cond.selects RJx4a65c yJx4a65c_grow_d5877 yJx4a65c_grow_d5877 ∈ gwl := gwl_sl 3 rfl rfl
set_option maxRecDepth 100000 in
theorem mw576 : Cond.code yJx4a65c_grow_d5877 cJx4a65c_grow_d5877 1 (some (.array (.object "java/lang/Object"))) ∈ gwl := gwl_tb 517 rfl rfl
set_option maxRecDepth 100000 in
theorem mw577 : Cond.methodLink RJx4a65c 131 yJx4a65c_add_72be8 ∈ gwl := gwl_tb 510 rfl rfl
set_option maxRecDepth 100000 in
theorem mw578 : Cond.instanceMethod yJx4a65c_add_72be8 ∈ gwl := gwl_tb 512 rfl rfl
set_option maxRecDepth 100000 in
theorem mw579 : Cond.selects RJx4a65c yJx4a65c_add_72be8 yJx4a65c_add_72be8 ∈ gwl := gwl_sl 2 rfl rfl
set_option maxRecDepth 100000 in
theorem mw580 : Cond.code yJx4a65c_add_72be8 cJx4a65c_add_72be8 4 none ∈ gwl := gwl_tb 513 rfl rfl
theorem pd_Jx4a65c_grow_92f84 : (yJx4a65c_grow_92f84).cls ≠ "java/lang/invoke/MethodHandle" ∧ (yJx4a65c_grow_92f84).cls ≠ "java/lang/invoke/VarHandle" ∧ (parseMethodDescriptor (yJx4a65c_grow_92f84).desc).map (fun d => d.parameters.length) = some 1 := ⟨by decide +kernel, by decide +kernel, by decide +kernel⟩
theorem pd_Jx4a65c_grow_d5877 : (yJx4a65c_grow_d5877).cls ≠ "java/lang/invoke/MethodHandle" ∧ (yJx4a65c_grow_d5877).cls ≠ "java/lang/invoke/VarHandle" ∧ (parseMethodDescriptor (yJx4a65c_grow_d5877).desc).map (fun d => d.parameters.length) = some 0 := ⟨by decide +kernel, by decide +kernel, by decide +kernel⟩
theorem pd_Jx4a65c_add_72be8 : (yJx4a65c_add_72be8).cls ≠ "java/lang/invoke/MethodHandle" ∧ (yJx4a65c_add_72be8).cls ≠ "java/lang/invoke/VarHandle" ∧ (parseMethodDescriptor (yJx4a65c_add_72be8).desc).map (fun d => d.parameters.length) = some 3 := ⟨by decide +kernel, by decide +kernel, by decide +kernel⟩
def grK (κ : K) (c : Nat) : K := setP (adK (addC κ 1 10) (nw1 c) [rObj]) 4 0 c 1 (some 0)
set_option maxHeartbeats 4000000 in
set_option maxRecDepth 100000 in
theorem c_grow2 {l : Launch} (hfl : l.stackTraces = false) {E : EE} {κ : K} {c : Nat} (hc : c = 1 ∨ c = 2) (h : PC 10 E 4 0 0) (hH : E.2.2.2.1 = 1) (h0 : kP κ 4 0 c 1 = none) (hf : cnt4 E c = 0) (hRN : rawN E) : Con l yJx4a65c_grow_92f84 cJx4a65c_grow_92f84 4 (some (.array (.object "java/lang/Object"))) 1 30 [.inr (some (4, 0, c)), .inl (.int 1)] (E, κ) (flagE E c, grK κ c) (some (.inr (some (4, 0, c + 3)))) := by
  refine Con_of hfl (by decide +kernel) (Nat.le_of_ble_eq_true rfl) rfl ⟨_, rfl, Or.inr ⟨_, rfl⟩⟩ (fun X B g O hKP hmL hE => ?_)
  show J X B (E, κ) 0 [(0, .inr (some (4, 0, c))), (1, .inl (.int 1))] []
  refine J_aload_n O.mo dJx4a65c_grow_92f84_0 0 rfl ?_
  refine J_getF O.co (kd0 := 0) (ls_kd hc) (ls_lv hc h) (C := RJx4a65c) (T := TJx4a65c) (N := 3) rfl (by decide) rfl in_L 1 (by decide) (v := .inl (.ref g.2.2.1)) (by rw [h0]; rfl) mw41 rfl dJx4a65c_grow_92f84_1 ?_
  refine J_alenE0 O dJx4a65c_grow_92f84_4 ?_
  refine J_istore_n O.mo (lv' := [(0, .inr (some (4, 0, c))), (1, .inl (.int 1))]) dJx4a65c_grow_92f84_5 (by rw [hmL]; decide) rfl rfl ?_
  refine J_iload_n O.mo dJx4a65c_grow_92f84_6 0 rfl ?_
  refine J_if_gt O.mo (tgt := 20) dJx4a65c_grow_92f84_7 (by decide) (fun hq => absurd hq (by decide)) (fun _ => ?_)
  refine J_aload_n O.mo dJx4a65c_grow_92f84_10 1 rfl ?_
  refine J_getF O.co (kd0 := 0) (ls_kd hc) (ls_lv hc h) (C := RJx4a65c) (T := TJx4a65c) (N := 3) rfl (by decide) rfl in_L 1 (by decide) (v := .inl (.ref g.2.2.1)) (by rw [h0]; rfl) mw41 rfl dJx4a65c_grow_92f84_11 ?_
  refine J_getE0 O mw566 dJx4a65c_grow_92f84_14 ?_
  refine J_acmpE O (tgt := 45) dJx4a65c_grow_92f84_17 (by decide) ?_
  refine J_aload_n O.mo dJx4a65c_grow_92f84_45 1 rfl ?_
  refine J_bipush O.mo (v := 10) dJx4a65c_grow_92f84_46 (by decide) ?_
  refine J_iload_n O.mo dJx4a65c_grow_92f84_48 2 rfl ?_
  refine J_max O mw568 mw4 mw5 mw6 (by decide) (Nat.le_of_ble_eq_true rfl) rfl dJx4a65c_grow_92f84_49 ?_
  show J X B (E, κ) 52 [(2, .inl (.int 0)), (0, .inr (some (4, 0, c))), (1, .inl (.int 1))] [.inl (.int 10), .inr (some (4, 0, c))]
  refine J_anewR O hKP (rawOK_of_N hRN) (ai := 3) (C := "java/lang/Object") (fun _ => rfl) (n := 10) (N := 10) mw567 (fun s hs => hs.2.2.2.1) (by decide) (by decide) (by decide) (sl_v (sl_p (ls_st hc h) (sl_v sl_0))) (st_p (ls_st hc h) st_0) dJx4a65c_grow_92f84_52 (fun _ => ?_)
  refine J_dup_x1 O.mo dJx4a65c_grow_92f84_55 rfl rfl ?_
  have e1 : rhoN (nw1 c) (eR E).length (4, 0, c + 3) = (8, (eR E).length, 0) := rhoN_some nw1_s
  have e2 : rhoN (nw1 c) (eR E).length (4, 0, c) = (4, 0, c) := rhoN_none (nw1_n fun z => by omega)
  refine J_listA O hKP hc hH hf (κ := addC κ 1 10) h0 hRN (lv' := [(2, .inl (.int 0)), (0, .inr (some (4, 0, c))), (1, .inl (.int 1))]) (st' := [.inr (some (4, 0, c + 3)), .inr (some (4, 0, c)), .inr (some (4, 0, c + 3))]) (by simp only [List.map_cons, List.map_nil, rnA, e2]) (by simp only [List.map_cons, List.map_nil, rnA, e1, e2]) ?_
  refine J_putE O.co hc (PC_flag h) mw41 dJx4a65c_grow_92f84_56 ?_
  exact hE _ _ dJx4a65c_grow_92f84_59
set_option maxHeartbeats 4000000 in
set_option maxRecDepth 100000 in
theorem c_grow0 {l : Launch} (hfl : l.stackTraces = false) {E : EE} {κ : K} {c : Nat} (hc : c = 1 ∨ c = 2) (h : PC 10 E 4 0 0) (hH : E.2.2.2.1 = 1) (h0 : kP κ 4 0 c 1 = none) (hf : cnt4 E c = 0) (hRN : rawN E) (hs0 : kV κ 4 0 c 2 = 0) : Con l yJx4a65c_grow_d5877 cJx4a65c_grow_d5877 1 (some (.array (.object "java/lang/Object"))) 2 60 [.inr (some (4, 0, c))] (E, κ) (flagE E c, grK κ c) (some (.inr (some (4, 0, c + 3)))) := by
  refine Con_of hfl (by decide +kernel) (Nat.le_of_ble_eq_true rfl) rfl ⟨_, rfl, Or.inr ⟨_, rfl⟩⟩ (fun X B g O hKP hmL hE => ?_)
  show J X B (E, κ) 0 [(0, .inr (some (4, 0, c)))] []
  refine J_aload_n O.mo dJx4a65c_grow_d5877_0 0 rfl ?_
  refine J_aload_n O.mo dJx4a65c_grow_d5877_1 0 rfl ?_
  refine J_getF O.co (kd0 := 0) (ls_kd hc) (ls_lv hc h) (C := RJx4a65c) (T := TJx4a65c) (N := 3) rfl (by decide) rfl in_L 2 (by decide) (v := .inl (.int (kV κ 4 0 c 2))) rfl mw32 rfl dJx4a65c_grow_d5877_2 ?_
  refine J_iconst O.mo (v := 1) dJx4a65c_grow_d5877_5 (by decide) ?_
  refine J_iadd O.mo dJx4a65c_grow_d5877_6 ?_
  rw [hs0]
  show J X B (E, κ) 7 [(0, .inr (some (4, 0, c)))] [.inl (.int 1), .inr (some (4, 0, c))]
  refine J_callV O hKP (as := [.inl (.int 1)]) (rest := []) (r := some (.inr (some (4, 0, c + 3)))) (c_grow2 hfl hc h hH h0 hf hRN) rfl (kd0 := 0) (ls_kd hc) (ls_lv hc h) (T := TJx4a65c) (N := 3) rfl (by decide) mw569 mw570 mw571 mw45 mw572 pd_Jx4a65c_grow_92f84 rfl (by decide) rfl (Nat.le_of_ble_eq_true rfl) (sl_p (ls_st hc h) sl_0) st_0 dJx4a65c_grow_d5877_7 ?_
  exact hE _ _ dJx4a65c_grow_d5877_10
theorem st_e {E : EE} {c e kd1 : Nat} (hli : liveC E (c - 1) e 0 = true) (hki : kd (c - 1) 0 = kd1) (h12 : kd1 < 12) : Stab E (.inr (some (c - 1, e, 0))) := ⟨hli, by show kd (c - 1) 0 ≠ 21; rw [hki]; omega⟩
theorem live_flag {E : EE} {c f i c2 : Nat} (h : liveC E f i c2 = true) (h4 : f ≠ 4) : liveC (flagE E c) f i c2 = true := by
  unfold liveC at h ⊢
  rw [cntE_flag]
  simp only [Bool.and_eq_true, Bool.or_eq_true, decide_eq_true_eq] at h ⊢
  exact ⟨h.1, Or.inl (Or.inl h4)⟩
set_option maxHeartbeats 1000000 in
theorem ConAt_of {g : GP} {l : Launch} {y : MethodName} {b : ByteArray} {mL : Nat} {ret : Option FieldType} {fr lo : Nat} {as : List AV} {x x' : EE × K} {r : Option AV} (hfl : l.stackTraces = false) (hy : plainName y.cls = true) (hlen : as.length ≤ mL) (hcat : as.all cat1 = true) (hret : RetOK ret r)
    (body : ∀ (X : MX) (B : BX (EE × K)), CK l X B g b y.cls fr lo → KPok B x.1 → B.2.2.2.1 = mL → EndOK X B b x' r → J X B x 0 (argl 0 as) []) : ConAt g l y b mL ret fr lo as x x' r := by
  refine ⟨fun X => ?_, fun ad sz => ?_⟩
  · exact (body X (Bof g (fun _ => 0) x 0 mL (kC x'.2) (fun _ => False)) ⟨fun o => o.elim, rfl, rfl, rfl⟩ kpok rfl (end_false rfl (fun o => o) r)).1
  · refine Met.ofW (cc := b) (maxL := mL) (ret := ret) hy rfl ?_
    intro p e s m args below meth c s₁ B0 hml hv
    obtain ⟨rfl, hsz, hK, hST, hSH, hWd⟩ := hv
    have hts := atoms_spec (ws := Cond.code y b mL ret :: gwl) B0.pre
    have hmono := (body (p, l, e, { frames := 0, cells := 0, slots := 0, locals := 0 }, s, m, #[], below, meth, c, fun _ => True) (Bof g (fun _ => 0) x 0 mL (kC x'.2) (fun _ => False)) ⟨fun o => o.elim, rfl, rfl, rfl⟩ kpok rfl (end_false rfl (fun o => o) r)).1
    have hm1 : (kC x.2).1 ≤ (kC x'.2).1 := hmono.1
    have hm2 : (kC x.2).2 ≤ (kC x'.2).2 := hmono.2
    have hl := lv_entry (as.map (emb ad)) (n := mL) (by rw [lg_len ad as hcat]; exact hlen)
    rw [lv_argl ad as 0 hcat] at hl
    rw [lg_entry_eq]
    generalize hfx : (fun X : MX => MO X (Bof g ad x sz mL (kC x'.2) (fun _ => True)) g.2.1 b y.cls ∧ QN g ad x sz x' r ret X ∧ CX l X (Bof g ad x sz mL (kC x'.2) (fun _ => True)) g b y.cls fr lo) = fx
    have hX : fx (p, l, e, { frames := fr, cells := (kC x'.2).1 - (kC x.2).1, slots := (kC x'.2).2 - (kC x.2).2, locals := lo }, s, m, (as.map (emb ad)).toArray, below, meth, c, MQ below (QcC g ad x sz x' r) (as.map (emb ad)).toArray s ((kC x'.2).1 - (kC x.2).1) ((kC x'.2).2 - (kC x.2).2) (Aof g ad x sz)) := by
      have hMO : MO (p, l, e, ({ frames := fr, cells := (kC x'.2).1 - (kC x.2).1, slots := (kC x'.2).2 - (kC x.2).2, locals := lo } : Room), s, m, (as.map (emb ad)).toArray, below, meth, c, MQ below (QcC g ad x sz x' r) (as.map (emb ad)).toArray s ((kC x'.2).1 - (kC x.2).1) ((kC x'.2).2 - (kC x.2).2) (Aof g ad x sz)) (Bof g ad x sz mL (kC x'.2) (fun _ => True)) g.2.1 b y.cls :=
        ⟨B0.exec, B0.bytes, hml, findClass_of_methodNamed B0.named, fun w hw => hts w (List.mem_cons_of_mem _ hw), hK, B0.notSynchronized, fun q hq => Or.inr (by rw [← hsz]; exact hq), by show (kC x.2).1 + ((kC x'.2).1 - (kC x.2).1) = _; exact Nat.add_sub_cancel' hm1, by show (kC x.2).2 + ((kC x'.2).2 - (kC x.2).2) = _; exact Nat.add_sub_cancel' hm2⟩
      rw [← hfx]
      exact ⟨hMO, ⟨rfl, B0.returns, hsz⟩, hMO, hST, by rw [← hsz] at hSH; rw [← hsz]; exact hSH, rfl, rfl, rfl, hfl⟩
    have hMOfx : ∀ X, fx X → MO X (Bof g ad x sz mL (kC x'.2) fx) g.2.1 b y.cls ∧ QN g ad x sz x' r ret X := by
      intro X h; rw [← hfx] at h; exact ⟨h.1, h.2.1⟩
    have hCX : ∀ X, fx X → CX l X (Bof g ad x sz mL (kC x'.2) fx) g b y.cls fr lo := by
      intro X h; rw [← hfx] at h; exact h.2.2
    have hJ := fun X : MX => body X (Bof g ad x sz mL (kC x'.2) fx) ⟨hCX X, rfl, rfl, rfl⟩ kpok rfl (end_true (X := X) (b := b) (own := y.cls) hret hMOfx)
    exact (hJ _).2 hX ad s.heap [] _ 0 0 ⟨hWd, fun _ _ _ _ _ => rfl⟩ va_S.rf hl rfl rfl
theorem J_callVat {l0 : Launch} {X : MX} {B : BX (EE × K)} {g : GP} {cc : ByteArray} {own : String} {F L : Nat} {E E' : EE} {κ κ' : K} {pc : Nat} {lv : List (Nat × AV)} {st0 rest as : List AV} {r : Option AV} (O : CK l0 X B g cc own F L) (hKP : KPok B E) {y : MethodName} {b : ByteArray} {mL fr lo index n : Nat} {ret : Option FieldType} {f i c : Nat} (hC : ConAt g l0 y b mL ret fr lo (.inr (some (f, i, c)) :: as) (E, κ) (E', κ') r) (hst : st0 = as.reverse ++ .inr (some (f, i, c)) :: rest)
    {kd0 : Nat} (hkd : kd f c = kd0) (hl : liveC E f i c = true) {T : u_T} {N : Nat} (hc : vwCl[kd0]? = some (y.cls, T, N)) (h12 : kd0 < 12)
    (w1 : Cond.methodLink own index y ∈ gwl) (w2 : Cond.instanceMethod y ∈ gwl) (w3 : Cond.selects y.cls y y ∈ gwl) (w4 : Cond.initialized y.cls ∈ gwl) (w5 : Cond.code y b mL ret ∈ gwl) (hpd : y.cls ≠ "java/lang/invoke/MethodHandle" ∧ y.cls ≠ "java/lang/invoke/VarHandle" ∧ (parseMethodDescriptor y.desc).map (fun d => d.parameters.length) = some n) (hn : as.length = n)
    (hR : fr + 1 ≤ F ∧ 8 + (mL + 11) + lo ≤ L) (hrc : rest.all cat1 = true) (hrl : rest.length ≤ 8) (hlv : ∀ q ∈ lv, Stab E q.2) (hrs : ∀ v ∈ rest, Stab E v) (hd : decode cc pc = .ok (.invokevirtual index, 3))
    (kk : J X B (E', κ') (pc + 3) lv (r.toList ++ rest)) : J X B (E, κ) pc lv st0 := by
  refine J_core O hKP (hC.1 X) hlv hrs (fun p l e R s m args below meth c0 Q hX O1 ad H locs ls cells slots h1 h2 h3 h4 h5 => ?_) kk
  subst hX
  obtain ⟨-, hB, hCst, hD⟩ := O
  obtain ⟨hMO, hST, hSH, hF, hL, hl0, -⟩ := id O1
  subst hl0; subst hst
  have h6 := (h1.at hB (ctC_live hl)).1
  rw [cell_obj (by rw [hkd]; exact h12), hkd] at h6
  have hmap : (as.reverse ++ .inr (some (f, i, c)) :: rest).map (emb ad) = (as.map (emb ad)).reverse ++ Value.ref (ad (f, i, c)) :: rest.map (emb ad) := by
    rw [List.map_append, List.map_reverse]; rfl
  have hgood : ∀ w ∈ wsV own index y.cls y (Cond.code y b mL ret :: gwl), w ∈ gwl := by
    intro w hw
    simp only [wsV, List.mem_append, List.mem_cons, List.not_mem_nil, or_false] at hw
    rcases hw with (rfl | rfl | rfl | rfl) | rfl | hw <;> assumption
  rw [hmap]
  exact ⟨_, va_runV (As := as.map (emb ad)) (n := n) ⟨hMO.1, hMO.2.1, hMO.2.2.1, hMO.2.2.2.1, hMO.2.2.2.2.1⟩ (hC.2 ad H.size) (cwV n hMO.2.2.2.2.1 (goodIn_gwl hgood) rfl rfl rfl ⟨rfl, hpd⟩ (by rw [hF, hL]; exact hR))
    ⟨PcC.blind, va_recv hMO.2.2.2.2.2.1 (va_P1 h6) hc (q0 := 0) rfl, PcC_of O1 hB hD h1 h2⟩ rfl (by rw [List.length_map]; exact hn) h3 rfl (by rw [cat_sum ad rest hrc]; show 2 * 0 + _ ≤ 8; omega) hd ⟨h4, h5⟩⟩
set_option maxHeartbeats 4000000 in
set_option maxRecDepth 100000 in
theorem c_add3E {l : Launch} (hfl : l.stackTraces = false) {E : EE} {κ : K} {c : Nat} (hc : c = 1 ∨ c = 2) (h : PC 10 E 4 0 0) (hH : E.2.2.2.1 = 1) (h0 : kP κ 4 0 c 1 = none) (hf : cnt4 E c = 0) (hRN : rawN E) {e kd1 : Nat} {r : vw_C} (hli : liveC E (c - 1) e 0 = true) (hki : kd (c - 1) 0 = kd1) (h12 : kd1 < 12) (hr : vwCl[kd1]? = some r) (hw : Cond.castable r.1 "java/lang/Object" ∈ nwl) (hs0 : kV κ 4 0 c 2 = 0) (g : GP) : ConAt g l yJx4a65c_add_72be8 cJx4a65c_add_72be8 4 none 3 85 [.inr (some (4, 0, c)), .inr (some (c - 1, e, 0)), .inl (.ref g.2.2.1), .inl (.int 0)] (E, κ) (flagE E c, setV (setP (grK κ c) 4 0 (c + 3) 0 (some e)) 4 0 c 2 1) none := by
  have hc2 : ¬ cnt4 (flagE E c) c = 0 := by rw [cnt4_flag]; simp
  have hl2 := live_24 (PC_flag (c := c) h) hc2 hc
  refine ConAt_of hfl (by decide +kernel) (Nat.le_of_ble_eq_true rfl) rfl rfl (fun X B O hKP hmL hE => ?_)
  show J X B (E, κ) 0 [(0, .inr (some (4, 0, c))), (1, .inr (some (c - 1, e, 0))), (2, .inl (.ref g.2.2.1)), (3, .inl (.int 0))] []
  refine J_iload_n O.mo dJx4a65c_add_72be8_0 3 rfl ?_
  refine J_aload_nR O.mo dJx4a65c_add_72be8_1 2 rfl ?_
  refine J_alenE0 O dJx4a65c_add_72be8_2 ?_
  refine J_icmp_ne O.mo (tgt := 11) dJx4a65c_add_72be8_3 (by decide) (fun hq => absurd rfl hq) (fun _ => ?_)
  refine J_aload_n O.mo dJx4a65c_add_72be8_6 0 rfl ?_
  refine J_callV O hKP (as := []) (rest := []) (r := some (.inr (some (4, 0, c + 3)))) (c_grow0 hfl hc h hH h0 hf hRN hs0) rfl (kd0 := 0) (ls_kd hc) (ls_lv hc h) (T := TJx4a65c) (N := 3) rfl (by decide) mw573 mw574 mw575 mw45 mw576 pd_Jx4a65c_grow_d5877 rfl (by decide) rfl (Nat.le_of_ble_eq_true rfl) (sl_p (ls_st hc h) (sl_p (st_e hli hki h12) (sl_v (sl_v sl_0)))) st_0 dJx4a65c_add_72be8_7 ?_
  show J X B (flagE E c, grK κ c) 10 [(0, .inr (some (4, 0, c))), (1, .inr (some (c - 1, e, 0))), (2, .inl (.ref g.2.2.1)), (3, .inl (.int 0))] [.inr (some (4, 0, c + 3))]
  refine J_astore_n O.mo (lv' := [(0, .inr (some (4, 0, c))), (1, .inr (some (c - 1, e, 0))), (3, .inl (.int 0))]) dJx4a65c_add_72be8_10 (by rw [hmL]; decide) rfl rfl ?_
  refine J_aload_n O.mo dJx4a65c_add_72be8_11 0 rfl ?_
  refine J_iload_n O.mo dJx4a65c_add_72be8_12 3 rfl ?_
  refine J_aload_n O.mo dJx4a65c_add_72be8_13 2 rfl ?_
  refine J_aastL O (kd1 := kd1) hl2 hc rfl (live_flag hli (by omega)) hki h12 hr hw (q := 0) (show ¬ ((0 : Int32) < 0 ∨ 10 ≤ (0 : Int32).toNatClampNeg) from by decide) dJx4a65c_add_72be8_14 ?_
  refine J_aload_n O.mo dJx4a65c_add_72be8_15 1 rfl ?_
  refine J_iload_n O.mo dJx4a65c_add_72be8_16 3 rfl ?_
  refine J_iconst O.mo (v := 1) dJx4a65c_add_72be8_17 (by decide) ?_
  refine J_iadd O.mo dJx4a65c_add_72be8_18 ?_
  refine J_putI O.co (kd0 := 0) (ls_kd hc) (ls_lv hc (PC_flag h)) (C := RJx4a65c) (T := TJx4a65c) (N := 3) rfl (by decide) rfl in_L tyJx4a65c tyJx4a65c_ok nmJx4a65c 2 (by decide) rfl rfl (x := 0 + 1) (Or.inl rfl) mw32 dJx4a65c_add_72be8_19 ?_
  exact hE _ _ dJx4a65c_add_72be8_22
set_option maxHeartbeats 4000000 in
set_option maxRecDepth 100000 in
theorem c_add3 {l : Launch} (hfl : l.stackTraces = false) {E : EE} {κ : K} {c : Nat} (hc : c = 1 ∨ c = 2) (h : PC 10 E 4 0 0) (hf : ¬ cnt4 E c = 0) {e kd1 : Nat} {r : vw_C} (hli : liveC E (c - 1) e 0 = true) (hki : kd (c - 1) 0 = kd1) (h12 : kd1 < 12) (hr : vwCl[kd1]? = some r) (hw : Cond.castable r.1 "java/lang/Object" ∈ nwl) {s : Int32} (hs : vp_in s 10) : Con l yJx4a65c_add_72be8 cJx4a65c_add_72be8 4 none 3 85 [.inr (some (4, 0, c)), .inr (some (c - 1, e, 0)), .inr (some (4, 0, c + 3)), .inl (.int s)] (E, κ) (E, setV (setP κ 4 0 (c + 3) s.toNatClampNeg (some e)) 4 0 c 2 (s + 1)) none := by
  have hl2 := live_24 h hf hc
  refine Con_of hfl (by decide +kernel) (Nat.le_of_ble_eq_true rfl) rfl rfl (fun X B g O hKP hmL hE => ?_)
  show J X B (E, κ) 0 [(0, .inr (some (4, 0, c))), (1, .inr (some (c - 1, e, 0))), (2, .inr (some (4, 0, c + 3))), (3, .inl (.int s))] []
  refine J_iload_n O.mo dJx4a65c_add_72be8_0 3 rfl ?_
  refine J_aload_n O.mo dJx4a65c_add_72be8_1 2 rfl ?_
  refine J_alenL O.co hl2 hc dJx4a65c_add_72be8_2 ?_
  refine J_icmp_ne O.mo (tgt := 11) dJx4a65c_add_72be8_3 (by decide) (fun _ => ?_) (fun hq => absurd hs (by rw [hq]; show ¬ ¬ _; decide))
  refine J_aload_n O.mo dJx4a65c_add_72be8_11 2 rfl ?_
  refine J_iload_n O.mo dJx4a65c_add_72be8_12 3 rfl ?_
  refine J_aload_n O.mo dJx4a65c_add_72be8_13 1 rfl ?_
  refine J_aastL O (kd1 := kd1) hl2 hc rfl hli hki h12 hr hw hs dJx4a65c_add_72be8_14 ?_
  refine J_aload_n O.mo dJx4a65c_add_72be8_15 0 rfl ?_
  refine J_iload_n O.mo dJx4a65c_add_72be8_16 3 rfl ?_
  refine J_iconst O.mo (v := 1) dJx4a65c_add_72be8_17 (by decide) ?_
  refine J_iadd O.mo dJx4a65c_add_72be8_18 ?_
  refine J_putI O.co (kd0 := 0) (ls_kd hc) (ls_lv hc h) (C := RJx4a65c) (T := TJx4a65c) (N := 3) rfl (by decide) rfl in_L tyJx4a65c tyJx4a65c_ok nmJx4a65c 2 (by decide) rfl rfl (x := s + 1) (Or.inl rfl) mw32 dJx4a65c_add_72be8_19 ?_
  exact hE _ _ dJx4a65c_add_72be8_22
def adM (κ : K) (c : Nat) : K := setV κ 4 0 c 0 (kV κ 4 0 c 0 + 1)
theorem adM_P {κ : K} {c : Nat} : kP (adM κ c) = kP κ := rfl
theorem adM_2 {κ : K} {c : Nat} : kV (adM κ c) 4 0 c 2 = kV κ 4 0 c 2 := by simp [adM, kV, setV]
def adE (κ : K) (c e : Nat) : K := setV (setP (grK (adM κ c) c) 4 0 (c + 3) 0 (some e)) 4 0 c 2 1
def adN (κ : K) (c e : Nat) : K := setV (setP (adM κ c) 4 0 (c + 3) (kV κ 4 0 c 2).toNatClampNeg (some e)) 4 0 c 2 (kV κ 4 0 c 2 + 1)
set_option maxHeartbeats 4000000 in
set_option maxRecDepth 100000 in
theorem c_addE {l : Launch} (hfl : l.stackTraces = false) {E : EE} {κ : K} {c : Nat} (hc : c = 1 ∨ c = 2) (h : PC 10 E 4 0 0) (hH : E.2.2.2.1 = 1) (h0 : kP κ 4 0 c 1 = none) (hf : cnt4 E c = 0) (hRN : rawN E) {e kd1 : Nat} {r : vw_C} (hli : liveC E (c - 1) e 0 = true) (hki : kd (c - 1) 0 = kd1) (h12 : kd1 < 12) (hr : vwCl[kd1]? = some r) (hw : Cond.castable r.1 "java/lang/Object" ∈ nwl) (hs0 : kV κ 4 0 c 2 = 0) : Con l yJx4a65c_add_9ea2d cJx4a65c_add_9ea2d 2 (some .boolean) 4 120 [.inr (some (4, 0, c)), .inr (some (c - 1, e, 0))] (E, κ) (flagE E c, adE κ c e) (some (.inl (.int 1))) := by
  refine Con_of hfl (by decide +kernel) (Nat.le_of_ble_eq_true rfl) rfl ⟨_, rfl, by decide⟩ (fun X B g O hKP hmL hE => ?_)
  show J X B (E, κ) 0 [(0, .inr (some (4, 0, c))), (1, .inr (some (c - 1, e, 0)))] []
  refine J_aload_n O.mo dJx4a65c_add_9ea2d_0 0 rfl ?_
  refine J_dup O.mo dJx4a65c_add_9ea2d_1 rfl ?_
  refine J_getMod O.co hc h mw564 mw565 dJx4a65c_add_9ea2d_2 ?_
  refine J_iconst O.mo (v := 1) dJx4a65c_add_9ea2d_5 (by decide) ?_
  refine J_iadd O.mo dJx4a65c_add_9ea2d_6 ?_
  refine J_putMod O.co hc h mw564 mw565 dJx4a65c_add_9ea2d_7 ?_
  show J X B (E, adM κ c) 10 [(0, .inr (some (4, 0, c))), (1, .inr (some (c - 1, e, 0)))] []
  refine J_aload_n O.mo dJx4a65c_add_9ea2d_10 0 rfl ?_
  refine J_aload_n O.mo dJx4a65c_add_9ea2d_11 1 rfl ?_
  refine J_aload_n O.mo dJx4a65c_add_9ea2d_12 0 rfl ?_
  refine J_getF O.co (kd0 := 0) (ls_kd hc) (ls_lv hc h) (C := RJx4a65c) (T := TJx4a65c) (N := 3) rfl (by decide) rfl in_L 1 (by decide) (v := .inl (.ref g.2.2.1)) (by rw [adM_P, h0]; rfl) mw41 rfl dJx4a65c_add_9ea2d_13 ?_
  refine J_aload_n O.mo dJx4a65c_add_9ea2d_16 0 rfl ?_
  refine J_getF O.co (kd0 := 0) (ls_kd hc) (ls_lv hc h) (C := RJx4a65c) (T := TJx4a65c) (N := 3) rfl (by decide) rfl in_L 2 (by decide) (v := .inl (.int (kV (adM κ c) 4 0 c 2))) rfl mw32 rfl dJx4a65c_add_9ea2d_17 ?_
  rw [adM_2, hs0]
  refine J_callVat O hKP (as := [.inr (some (c - 1, e, 0)), .inl (.ref g.2.2.1), .inl (.int 0)]) (rest := []) (r := none) (c_add3E hfl hc h hH (κ := adM κ c) h0 hf hRN hli hki h12 hr hw (adM_2.trans hs0) g) rfl (kd0 := 0) (ls_kd hc) (ls_lv hc h) (T := TJx4a65c) (N := 3) rfl (by decide) mw577 mw578 mw579 mw45 mw580 pd_Jx4a65c_add_72be8 rfl (by decide) rfl (Nat.le_of_ble_eq_true rfl) (sl_p (ls_st hc h) (sl_p (st_e hli hki h12) sl_0)) st_0 dJx4a65c_add_9ea2d_20 ?_
  refine J_iconst O.mo (v := 1) dJx4a65c_add_9ea2d_23 (by decide) ?_
  exact hE _ _ dJx4a65c_add_9ea2d_24
set_option maxHeartbeats 4000000 in
set_option maxRecDepth 100000 in
theorem c_addN {l : Launch} (hfl : l.stackTraces = false) {E : EE} {κ : K} {c : Nat} (hc : c = 1 ∨ c = 2) (h : PC 10 E 4 0 0) (h0 : kP κ 4 0 c 1 = some 0) (hf : ¬ cnt4 E c = 0) {e kd1 : Nat} {r : vw_C} (hli : liveC E (c - 1) e 0 = true) (hki : kd (c - 1) 0 = kd1) (h12 : kd1 < 12) (hr : vwCl[kd1]? = some r) (hw : Cond.castable r.1 "java/lang/Object" ∈ nwl) (hs : vp_in (kV κ 4 0 c 2) 10) : Con l yJx4a65c_add_9ea2d cJx4a65c_add_9ea2d 2 (some .boolean) 4 120 [.inr (some (4, 0, c)), .inr (some (c - 1, e, 0))] (E, κ) (E, adN κ c e) (some (.inl (.int 1))) := by
  refine Con_of hfl (by decide +kernel) (Nat.le_of_ble_eq_true rfl) rfl ⟨_, rfl, by decide⟩ (fun X B g O hKP hmL hE => ?_)
  show J X B (E, κ) 0 [(0, .inr (some (4, 0, c))), (1, .inr (some (c - 1, e, 0)))] []
  refine J_aload_n O.mo dJx4a65c_add_9ea2d_0 0 rfl ?_
  refine J_dup O.mo dJx4a65c_add_9ea2d_1 rfl ?_
  refine J_getMod O.co hc h mw564 mw565 dJx4a65c_add_9ea2d_2 ?_
  refine J_iconst O.mo (v := 1) dJx4a65c_add_9ea2d_5 (by decide) ?_
  refine J_iadd O.mo dJx4a65c_add_9ea2d_6 ?_
  refine J_putMod O.co hc h mw564 mw565 dJx4a65c_add_9ea2d_7 ?_
  show J X B (E, adM κ c) 10 [(0, .inr (some (4, 0, c))), (1, .inr (some (c - 1, e, 0)))] []
  refine J_aload_n O.mo dJx4a65c_add_9ea2d_10 0 rfl ?_
  refine J_aload_n O.mo dJx4a65c_add_9ea2d_11 1 rfl ?_
  refine J_aload_n O.mo dJx4a65c_add_9ea2d_12 0 rfl ?_
  refine J_getF O.co (kd0 := 0) (ls_kd hc) (ls_lv hc h) (C := RJx4a65c) (T := TJx4a65c) (N := 3) rfl (by decide) rfl in_L 1 (by decide) (v := .inr (some (4, 0, c + 3))) (by rw [adM_P, h0]; rfl) mw41 rfl dJx4a65c_add_9ea2d_13 ?_
  refine J_aload_n O.mo dJx4a65c_add_9ea2d_16 0 rfl ?_
  refine J_getF O.co (kd0 := 0) (ls_kd hc) (ls_lv hc h) (C := RJx4a65c) (T := TJx4a65c) (N := 3) rfl (by decide) rfl in_L 2 (by decide) (v := .inl (.int (kV (adM κ c) 4 0 c 2))) rfl mw32 rfl dJx4a65c_add_9ea2d_17 ?_
  rw [adM_2]
  refine J_callV O hKP (as := [.inr (some (c - 1, e, 0)), .inr (some (4, 0, c + 3)), .inl (.int (kV κ 4 0 c 2))]) (rest := []) (r := none) (c_add3 hfl hc h hf hli hki h12 hr hw hs) rfl (kd0 := 0) (ls_kd hc) (ls_lv hc h) (T := TJx4a65c) (N := 3) rfl (by decide) mw577 mw578 mw579 mw45 mw580 pd_Jx4a65c_add_72be8 rfl (by decide) rfl (Nat.le_of_ble_eq_true rfl) (sl_p (ls_st hc h) (sl_p (st_e hli hki h12) sl_0)) st_0 dJx4a65c_add_9ea2d_20 ?_
  refine J_iconst O.mo (v := 1) dJx4a65c_add_9ea2d_23 (by decide) ?_
  exact hE _ _ dJx4a65c_add_9ea2d_24
