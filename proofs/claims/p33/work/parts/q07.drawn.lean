set_option maxRecDepth 100000 in
theorem mw823 : Cond.constant RL 114 15526489 ∈ gwl := gwl_tb 120 rfl rfl
set_option maxRecDepth 100000 in
theorem mw824 : Cond.constant RL 115 2147483647 ∈ gwl := gwl_tb 121 rfl rfl
/-! THE SCRIPT: what is drawn from it -/
def PcMS (bS LS : Nat) (xs : Nat → Int32) (g : GP) (ad : Pl → Nat) (x : S2) (sz : Nat) (as : List AV) : Array Value → State → Prop := fun v U => PcM g ad x sz as v U ∧ va_X bS LS xs U U.heap ∧ bS < sz ∧ ¬ AofM g ad x sz bS
theorem PcMS.blind {bS LS : Nat} {xs : Nat → Int32} {g : GP} {ad : Pl → Nat} {x : S2} {sz : Nat} {as : List AV} : FrameBlind (PcMS bS LS xs g ad x sz as) := by
  intro a U fr mk h
  exact ⟨PcM.blind a U fr mk h.1, va_X.moved (u := U) (U := U.calling fr mk a) (Vm.Alike.refl U.vm) h.2.1, h.2.2⟩
def ConMS (bS LS : Nat) (xs : Nat → Int32) (l : Launch) (y : MethodName) (b : ByteArray) (mL : Nat) (ret : Option FieldType) (fr lo : Nat) (as : List AV) (x : S2) (r : Option AV) : Prop :=
  ∀ (g : GP) (ad : Pl → Nat) (sz : Nat), Met l y (Cond.code y b mL ret :: gwl) ({ frames := fr, cells := (x.2.2).1 - (x.2.2).1, slots := (x.2.2).2 - (x.2.2).2, locals := lo }) (PcMS bS LS xs g ad x sz as) (QcM g ad x sz x r) ((x.2.2).1 - (x.2.2).1) ((x.2.2).2 - (x.2.2).2) (AofM g ad x sz)
set_option maxHeartbeats 1000000 in
/-- a contract out of its body's walk -/
theorem ConMS_of {bS LS : Nat} {xs : Nat → Int32} {l : Launch} {y : MethodName} {b : ByteArray} {mL : Nat} {ret : Option FieldType} {fr lo : Nat} {as : List AV} {x : S2} {r : Option AV} (hfl : l.stackTraces = false) (hy : plainName y.cls = true) (hlen : as.length ≤ mL) (hcat : as.all cat1 = true) (hret : RetOK ret r)
    (body : ∀ (X : MX) (B : BX S2) (g : GP), CKM l X B g b y.cls fr lo → KPokM B → B.2.2.2.1 = mL → (B.2.2.2.2.2.2.2.2 X → LWX bS LS xs B.2.2.1 X) → EndOKM X B b x r → J X B x 0 (argl 0 as) []) : ConMS bS LS xs l y b mL ret fr lo as x r := by
  intro g ad sz
  · refine Met.ofW (cc := b) (maxL := mL) (ret := ret) hy rfl ?_
    intro p e s m args below meth c s₁ B0 hml hv
    obtain ⟨⟨rfl, hsz, hK, hST, hSH, hWd⟩, hSX⟩ := hv
    have hts := atoms_spec (ws := Cond.code y b mL ret :: gwl) B0.pre
    have hmono := (body (p, l, e, { frames := 0, cells := 0, slots := 0, locals := 0 }, s, m, #[], below, meth, c, fun _ => True) (BofM ((fun _ => 0, fun _ _ => 0), fun _ => 0, (0, 0, 0)) (fun _ => 0) x 0 mL (x.2.2) (fun _ => False)) ((fun _ => 0, fun _ _ => 0), fun _ => 0, (0, 0, 0)) ⟨fun o => o.elim, rfl, rfl, rfl⟩ kpokM rfl (fun o => o.elim) (end_falseM rfl (fun o => o) r)).1
    have hm1 : (x.2.2).1 ≤ (x.2.2).1 := hmono.1
    have hm2 : (x.2.2).2 ≤ (x.2.2).2 := hmono.2
    have hl := lv_entry (as.map (emb ad)) (n := mL) (by rw [lg_len ad as hcat]; exact hlen)
    rw [lv_argl ad as 0 hcat] at hl
    rw [lg_entry_eq]
    generalize hfx : (fun X : MX => MO X (BofM g ad x sz mL (x.2.2) (fun _ => True)) g.2.1 b y.cls ∧ QNM g ad x sz x r ret X ∧ CXM l X (BofM g ad x sz mL (x.2.2) (fun _ => True)) g b y.cls fr lo ∧ LWX bS LS xs (AofM g ad x sz) X) = fx
    have hX : fx (p, l, e, { frames := fr, cells := (x.2.2).1 - (x.2.2).1, slots := (x.2.2).2 - (x.2.2).2, locals := lo }, s, m, (as.map (emb ad)).toArray, below, meth, c, MQ below (QcM g ad x sz x r) (as.map (emb ad)).toArray s ((x.2.2).1 - (x.2.2).1) ((x.2.2).2 - (x.2.2).2) (AofM g ad x sz)) := by
      have hMO : MO (p, l, e, ({ frames := fr, cells := (x.2.2).1 - (x.2.2).1, slots := (x.2.2).2 - (x.2.2).2, locals := lo } : Room), s, m, (as.map (emb ad)).toArray, below, meth, c, MQ below (QcM g ad x sz x r) (as.map (emb ad)).toArray s ((x.2.2).1 - (x.2.2).1) ((x.2.2).2 - (x.2.2).2) (AofM g ad x sz)) (BofM g ad x sz mL (x.2.2) (fun _ => True)) g.2.1 b y.cls :=
        ⟨B0.exec, B0.bytes, hml, findClass_of_methodNamed B0.named, fun w hw => hts w (List.mem_cons_of_mem _ hw), hK, B0.notSynchronized, fun q hq => Or.inr (by rw [← hsz]; exact hq), by show (x.2.2).1 + ((x.2.2).1 - (x.2.2).1) = _; exact Nat.add_sub_cancel' hm1, by show (x.2.2).2 + ((x.2.2).2 - (x.2.2).2) = _; exact Nat.add_sub_cancel' hm2⟩
      rw [← hfx]
      exact ⟨hMO, ⟨rfl, B0.returns, hsz⟩, ⟨hMO, hST, by rw [← hsz] at hSH; rw [← hsz]; exact hSH, rfl, rfl, rfl, hfl⟩, hSX.1, by rw [hsz]; exact hSX.2.1, hSX.2.2⟩
    have hMOfx : ∀ X, fx X → MO X (BofM g ad x sz mL (x.2.2) fx) g.2.1 b y.cls ∧ QNM g ad x sz x r ret X := by
      intro X h; rw [← hfx] at h; exact ⟨h.1, h.2.1⟩
    have hCX : ∀ X, fx X → CXM l X (BofM g ad x sz mL (x.2.2) fx) g b y.cls fr lo := by
      intro X h; rw [← hfx] at h; exact h.2.2.1
    have hLW : ∀ X, fx X → LWX bS LS xs (AofM g ad x sz) X := by
      intro X h; rw [← hfx] at h; exact h.2.2.2
    have hJ := fun X : MX => body X (BofM g ad x sz mL (x.2.2) fx) g ⟨hCX X, rfl, rfl, rfl⟩ kpokM rfl (hLW X) (end_trueM (X := X) (b := b) (own := y.cls) hret hMOfx)
    exact (hJ _).2 hX ad s.heap [] _ 0 0 ⟨hWd, KeepM.rf⟩ va_S.rf hl rfl rfl
section CALLSMS
variable {l0 : Launch} {X : MX} {B : BX S2} {g : GP} {cc : ByteArray} {own : String} {F L : Nat} {s2 : S2} {pc : Nat} {lv : List (Nat × AV)} {st0 rest as : List AV} {r : Option AV}
theorem J_callSMS {bS LS : Nat} {xs : Nat → Int32} (hs : B.2.2.2.2.2.2.2.2 X → LWX bS LS xs B.2.2.1 X) (O : CKM l0 X B g cc own F L) (hKP : KPokM B) {y : MethodName} {b : ByteArray} {mL fr lo index n : Nat} {ret : Option FieldType} (hC : ConMS bS LS xs l0 y b mL ret fr lo as s2 r) (hst : st0 = as.reverse ++ rest)
    (w1 : Cond.methodLink own index y ∈ gwl) (w2 : Cond.static y ∈ gwl) (w4 : Cond.initialized y.cls ∈ gwl) (w5 : Cond.code y b mL ret ∈ gwl) (hpd : y.cls ≠ "java/lang/invoke/MethodHandle" ∧ y.cls ≠ "java/lang/invoke/VarHandle" ∧ (parseMethodDescriptor y.desc).map (fun d => d.parameters.length) = some n) (hn : as.length = n)
    (hR : fr + 1 ≤ F ∧ 8 + (mL + 11) + lo ≤ L) (hrc : rest.all cat1 = true) (hrl : rest.length ≤ 8) (hlv : ∀ q ∈ lv, StabM q.2) (hrs : ∀ v ∈ rest, StabM v) (hd : decode cc pc = .ok (.invokestatic index, 3))
    (kk : J X B s2 (pc + 3) lv (r.toList ++ rest)) : J X B s2 pc lv st0 := by
  by_cases hfx : B.2.2.2.2.2.2.2.2 X
  rotate_left
  · exact ⟨kk.1, fun o => absurd o hfx⟩
  have hLW := hs hfx
  refine J_coreM O hKP (s2' := s2) ⟨Nat.le_refl _, Nat.le_refl _⟩ hlv hrs (fun p l e R s m args below meth c0 Q hX O1 ad H locs ls cells slots h1 h2 h3 h4 h5 => ?_) kk
  subst hX
  obtain ⟨hx1, hx2, hx3⟩ := hLW
  obtain ⟨-, hB, hCst, hD⟩ := O
  obtain ⟨hMO, hST, hSH, hF, hL, hl0, -⟩ := id O1
  subst hl0; subst hst
  have hmap : (as.reverse ++ rest).map (emb ad) = (as.map (emb ad)).reverse ++ rest.map (emb ad) := by
    rw [List.map_append, List.map_reverse]
  have hgood : ∀ w ∈ va_wsS own index y (Cond.code y b mL ret :: gwl), w ∈ gwl := by
    intro w hw
    simp only [va_wsS, List.mem_append, List.mem_cons, List.not_mem_nil, or_false] at hw
    rcases hw with (rfl | rfl | rfl) | rfl | hw <;> assumption
  rw [hmap]
  exact ⟨_, va_runS (As := as.map (emb ad)) (n := n) ⟨hMO.1, hMO.2.1, hMO.2.2.1, hMO.2.2.2.1, hMO.2.2.2.2.1⟩ (hC g ad H.size) (va_cwS n hMO.2.2.2.2.1 (goodIn_gwl hgood) rfl rfl rfl hpd (by rw [hF, hL]; exact hR))
    ⟨PcMS.blind, fun U hU hWm => ⟨PcM_of O1 hB hD h1 h2 U hU hWm, by rw [hU]; exact va_X.moved hWm.alike (va_X.kept hx1 (h2.2.1 _ hx2 hx3)), Nat.lt_of_lt_of_le hx2 h2.1, fun z => hx3 (AofM.sub (g := g) (ad := ad) (x := s2) (A := B.2.2.1) (H0 := s.heap) (by rw [← hD, ← hB]; exact h1) h2.1 hMO.2.2.2.2.2.2.2.1 _ z)⟩⟩ rfl (by rw [List.length_map]; exact hn) h3 rfl (by rw [cat_sum ad rest hrc]; show 2 * 0 + _ ≤ 8; omega) hd ⟨h4, h5⟩⟩
end CALLSMS
section LAW0M
variable {l0 : Launch} {X : MX} {B : BX S2} {g : GP} {cc : ByteArray} {own : String} {F Lo : Nat} {s2 : S2} {pc : Nat} {lv : List (Nat × AV)} {rest st0 as : List AV}
theorem J_sldM (O : CKM l0 X B g cc own F Lo) {b L : Nat} {xs : Nat → Int32} (hs : B.2.2.2.2.2.2.2.2 X → LWX b L xs B.2.2.1 X) {j : Int32} (hj : vp_in j L) (hd : decode cc pc = .ok (.iaload, 1)) (kk : J X B s2 (pc + 1) lv (.inl (.int (xs j.toNatClampNeg)) :: rest)) : J X B s2 pc lv (.inl (.int j) :: .inl (.ref b) :: rest) := by
  obtain ⟨OO, hB, hCst, hD⟩ := O
  obtain ⟨p0, l, e, R, s, m, args, below, meth, c0, Q⟩ := X
  refine ⟨kk.1, fun fx ad H locs ls cells slots h1 h2 h3 h4 h5 => ?_⟩
  have O1 := (OO fx).1
  obtain ⟨q1, q2, q3⟩ := hs fx
  exact va_sld O1.1 O1.2.1 q1 q2 q3 h2 hj hd (kk.2 fx ad H locs ls cells slots h1 h2 h3 h4 h5)
theorem J_slenM (O : CKM l0 X B g cc own F Lo) {b L : Nat} {xs : Nat → Int32} (hs : B.2.2.2.2.2.2.2.2 X → LWX b L xs B.2.2.1 X) (hd : decode cc pc = .ok (.arraylength, 1)) (kk : J X B s2 (pc + 1) lv (.inl (.int (nI L)) :: rest)) : J X B s2 pc lv (.inl (.ref b) :: rest) := by
  obtain ⟨OO, hB, hCst, hD⟩ := O
  obtain ⟨p0, l, e, R, s, m, args, below, meth, c0, Q⟩ := X
  refine ⟨kk.1, fun fx ad H locs ls cells slots h1 h2 h3 h4 h5 => ?_⟩
  have O1 := (OO fx).1
  obtain ⟨q1, q2, q3⟩ := hs fx
  exact va_slen O1.1 O1.2.1 q1 q2 q3 h2 hd (kk.2 fx ad H locs ls cells slots h1 h2 h3 h4 h5)
theorem J_nldE (O : CKM l0 X B g cc own F Lo) {a : Nat → Int32} (ha : s2.2.1 = some a) {j v : Int32} (hj : vp_in j 12) (hv : a j.toNatClampNeg = v) (hd : decode cc pc = .ok (.iaload, 1)) (kk : J X B s2 (pc + 1) lv (.inl (.int v) :: rest)) : J X B s2 pc lv (.inl (.int j) :: .inr (some (2, 0, 0)) :: rest) := J_nld O ha hj hd (by rw [hv]; exact kk)
end LAW0M
theorem and_max (a : Int32) : ∃ Y, Y < 2147483648 ∧ a &&& 2147483647 = nI Y := by
  refine ⟨a.toBitVec.toNat % 2147483648, Nat.mod_lt _ (by decide), ?_⟩
  apply Int32.toBitVec_inj.mp
  apply BitVec.eq_of_toNat_eq
  rw [Int32.toBitVec_and, BitVec.toNat_and]
  have h1 : a.toBitVec.toNat &&& 2147483647 = a.toBitVec.toNat % 2147483648 := Nat.and_two_pow_sub_one_eq_mod _ 31
  have h2 : (nI (a.toBitVec.toNat % 2147483648)).toBitVec.toNat = a.toBitVec.toNat % 2147483648 := by
    have h3 : a.toBitVec.toNat % 2147483648 < 2147483648 := Nat.mod_lt _ (by decide)
    show (a.toBitVec.toNat % 2147483648) % 2 ^ 32 = _
    exact Nat.mod_eq_of_lt (by omega)
  rw [h2]
  exact h1
set_option maxHeartbeats 4000000 in
set_option maxRecDepth 100000 in
theorem c_L_drawn {l : Launch} (hfl : l.stackTraces = false) {bS LS j : Nat} (hj : j < 3000) (hL : LS ≤ 2560) {xs : Nat → Int32} {x : S2} : ∃ Y, Y < 2147483648 ∧ ∀ x : S2, ConMS bS LS xs l yL_drawn cL_drawn 2 (some .int) 0 0 [.inl (.ref bS), .inl (.int (nI j))] x (some (.inl (.int (nI Y)))) := by
  obtain ⟨Y, hY, e⟩ := and_max (if nI LS ≤ nI j then nI 15526489 * (nI j + nI 3) + nI 14423 else xs j)
  refine ⟨Y, hY, fun x => ?_⟩
  refine ConMS_of hfl (by decide) (Nat.le_of_ble_eq_true rfl) rfl ⟨.int, rfl, rfl⟩ ?_
  intro X B g O hKP hmL hs hE
  change J X B x 0 [(0, .inl (.ref bS)), (1, .inl (.int (nI j)))] []
  suffices K1 : J X B x 22 [(0, .inl (.ref bS)), (1, .inl (.int (nI j)))] [.inl (.int (if nI LS ≤ nI j then nI 15526489 * (nI j + nI 3) + nI 14423 else xs j))] by
    refine J_iload_n O.mo dL_drawn_0 1 rfl ?_
    refine J_aload_nR O.mo dL_drawn_1 0 rfl ?_
    refine J_slenM O hs dL_drawn_2 ?_
    refine J_icmp_ge O.mo (tgt := 12) dL_drawn_3 (by decide) (fun hc1 => ?_) (fun hc1 => ?_)
    · rw [if_pos hc1] at K1
      refine J_ldcM O mw823 dL_drawn_12 ?_
      refine J_iload_n O.mo dL_drawn_14 1 rfl ?_
      refine J_iconst O.mo (v := 3) dL_drawn_15 (by decide) ?_
      refine J_iadd O.mo dL_drawn_16 ?_
      refine J_imul O.mo dL_drawn_17 ?_
      refine J_sipush O.mo (v := 14423) dL_drawn_18 (by decide) ?_
      refine J_iadd O.mo dL_drawn_21 ?_
      exact K1
    · rw [if_neg hc1] at K1
      have hin : vp_in (nI j) LS := nI_in (by rw [nI_le' (by omega) (by omega)] at hc1; omega) (by omega)
      refine J_aload_nR O.mo dL_drawn_6 0 rfl ?_
      refine J_iload_n O.mo dL_drawn_7 1 rfl ?_
      refine J_sldM O hs hin dL_drawn_8 ?_
      rw [nI_cl (by omega)]
      refine J_goto O.mo (tgt := 22) dL_drawn_9 (by decide) ?_
      exact K1
  refine J_ldcM O mw824 dL_drawn_22 ?_
  refine J_iandE O.mo dL_drawn_24 (v := nI Y) e ?_
  exact hE _ _ dL_drawn_25
section ASK1
variable {l0 : Launch} {X : MX} {B : BX S2} {g : GP} {cc : ByteArray} {own : String} {F L : Nat} {s : S2} {h : Nat} {x x' : EE × K} {A D da db : Nat} {pc : Nat} {lv : List (Nat × AV)} {st0 rest as : List AV} {r : Option AV}
theorem upH_sp (hx : s.1 h = x) : upH (sp s A D) h x da db = sp s (A + da) (D + db) := by
  have e1 : (fun j => if j = h then x else s.1 j) = s.1 := by
    funext j
    by_cases e : j = h
    · rw [if_pos e, e, hx]
    · rw [if_neg e]
  show ((fun j => if j = h then x else s.1 j), s.2.1, (s.2.2.1 + A + da, s.2.2.2 + D + db)) = (s.1, s.2.1, (s.2.2.1 + (A + da), s.2.2.2 + (D + db)))
  rw [e1, Nat.add_assoc, Nat.add_assoc]
theorem J_askW (O : CKM l0 X B g cc own F L) (hKP : KPokM B) (hh : h < 2) (hx : s.1 h = x) (hl : liveC x.1 4 0 0 = true) {ym : MethodName} {b : ByteArray} {mL fr lo index n : Nat} {ret : Option FieldType} {hhs : List (Nat × Nat × Nat × Nat)} (hC : ConW l0 ym b mL ret hhs fr lo as x x' r) (hr0 : numR r) (hc : Cov x' x) (hk : kC x'.2 = ((kC x.2).1 + da, (kC x.2).2 + db)) (hst : st0 = (as.map (shA h)).reverse ++ rest)
    (w1 : Cond.methodLink own index ym ∈ gwl) (w2 : Cond.static ym ∈ gwl) (w4 : Cond.initialized ym.cls ∈ gwl) (w5 : Cond.codeWith ym b mL ret hhs ∈ gwl) (hpd : ym.cls ≠ "java/lang/invoke/MethodHandle" ∧ ym.cls ≠ "java/lang/invoke/VarHandle" ∧ (parseMethodDescriptor ym.desc).map (fun d => d.parameters.length) = some n) (hn : as.length = n)
    (hR : fr + 1 ≤ F ∧ 8 + (mL + 11) + lo ≤ L) (hrc : rest.all cat1 = true) (hrl : rest.length ≤ 8) (hlv : ∀ q ∈ lv, StabM q.2) (hrs : ∀ v ∈ rest, StabM v) (hd : decode cc pc = .ok (.invokestatic index, 3))
    (kk : J X B (sp s (A + da) (D + db)) (pc + 3) lv (r.toList ++ rest)) : J X B (sp s A D) pc lv st0 := by
  have hx' : (sp s A D).1 h = x := hx
  refine J_callW1 (s2 := sp s A D) (h := h) (y := x) O hKP hh (by rw [hx']; exact hl) (by rw [hx']; exact hC) hr0 hc hst w1 w2 w4 w5 hpd hn hR hrc hrl hlv hrs hd ?_
  rw [hx', hk, upH_sp hx, show (kC x.2).1 + da - (kC x.2).1 = da from Nat.add_sub_cancel_left .., show (kC x.2).2 + db - (kC x.2).2 = db from Nat.add_sub_cancel_left ..]
  exact kk
theorem J_askV (O : CKM l0 X B g cc own F L) (hKP : KPokM B) (hh : h < 2) (hx : s.1 h = x) {ym : MethodName} {b : ByteArray} {mL fr lo index n : Nat} {ret : Option FieldType} (hC : Con l0 ym b mL ret fr lo (.inr (some (4, 0, 0)) :: as) x x' r) (hr0 : numR r) (hc : Cov x' x) (hk : kC x'.2 = ((kC x.2).1 + da, (kC x.2).2 + db)) (hst : st0 = (as.map (shA h)).reverse ++ .inr (some (shP h (4, 0, 0))) :: rest)
    (hl : liveC x.1 4 0 0 = true) {T : u_T} {N : Nat} (hcl : vwCl[10]? = some (ym.cls, T, N))
    (w1 : Cond.methodLink own index ym ∈ gwl) (w2 : Cond.instanceMethod ym ∈ gwl) (w3 : Cond.selects ym.cls ym ym ∈ gwl) (w4 : Cond.initialized ym.cls ∈ gwl) (w5 : Cond.code ym b mL ret ∈ gwl) (hpd : ym.cls ≠ "java/lang/invoke/MethodHandle" ∧ ym.cls ≠ "java/lang/invoke/VarHandle" ∧ (parseMethodDescriptor ym.desc).map (fun d => d.parameters.length) = some n) (hn : as.length = n)
    (hR : fr + 1 ≤ F ∧ 8 + (mL + 11) + lo ≤ L) (hrc : rest.all cat1 = true) (hrl : rest.length ≤ 8) (hlv : ∀ q ∈ lv, StabM q.2) (hrs : ∀ v ∈ rest, StabM v) (hd : decode cc pc = .ok (.invokevirtual index, 3))
    (kk : J X B (sp s (A + da) (D + db)) (pc + 3) lv (r.toList ++ rest)) : J X B (sp s A D) pc lv st0 := by
  have hx' : (sp s A D).1 h = x := hx
  refine J_callV1 (s2 := sp s A D) (h := h) (y := x) O hKP hh (by rw [hx']; exact hC) hr0 hc hst (by rw [hx']; exact hl) hcl w1 w2 w3 w4 w5 hpd hn hR hrc hrl hlv hrs hd ?_
  rw [hx', hk, upH_sp hx, show (kC x.2).1 + da - (kC x.2).1 = da from Nat.add_sub_cancel_left .., show (kC x.2).2 + db - (kC x.2).2 = db from Nat.add_sub_cancel_left ..]
  exact kk
end ASK1
theorem sm_0 : ∀ v ∈ ([] : List AV), StabM v := fun _ h => absurd h List.not_mem_nil
theorem sm_v {w : Value} {l : List AV} (h : ∀ v ∈ l, StabM v) : ∀ v ∈ (.inl w :: l : List AV), StabM v := fun v hv => (List.mem_cons.mp hv).elim (fun e => by rw [e]; exact trivial) (h v)
theorem sm_p {w : AV} {l : List AV} (hw : StabM w) (h : ∀ v ∈ l, StabM v) : ∀ v ∈ (w :: l), StabM v := fun v hv => (List.mem_cons.mp hv).elim (fun e => by rw [e]; exact hw) (h v)
theorem sk_0 : ∀ q ∈ ([] : List (Nat × AV)), StabM q.2 := fun _ h => absurd h List.not_mem_nil
theorem sk_v {i : Nat} {w : Value} {l : List (Nat × AV)} (h : ∀ q ∈ l, StabM q.2) : ∀ q ∈ ((i, .inl w) :: l : List (Nat × AV)), StabM q.2 := fun v hv => (List.mem_cons.mp hv).elim (fun e => by rw [e]; exact trivial) (h v)
theorem sk_p {i : Nat} {w : AV} {l : List (Nat × AV)} (hw : StabM w) (h : ∀ q ∈ l, StabM q.2) : ∀ q ∈ ((i, w) :: l : List (Nat × AV)), StabM q.2 := fun v hv => (List.mem_cons.mp hv).elim (fun e => by rw [e]; exact hw) (h v)
theorem sM_h {h : Nat} (hh : h < 2) : StabM (.inr (some (shP h (4, 0, 0)))) := by
  rcases (show h = 0 ∨ h = 1 by omega) with rfl | rfl
  · exact Or.inl rfl
  · exact Or.inr (Or.inl rfl)
theorem sM_n : StabM (.inr (some (2, 0, 0))) := Or.inr (Or.inr rfl)
theorem Cov_add {E : EE} {κ : K} {a b : Nat} : Cov (E, addC κ a b) (E, κ) := Cov_c rfl rfl rfl rfl
