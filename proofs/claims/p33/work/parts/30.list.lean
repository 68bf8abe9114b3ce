/-! ARRAYS OF REFERENCES, LISTS -/
def flagE (E : EE) (c : Nat) : EE := if c = 1 then (E.1, E.2.1, E.2.2.1, E.2.2.2.1, E.2.2.2.2.1, 1, E.2.2.2.2.2.2.1, E.2.2.2.2.2.2.2) else (E.1, E.2.1, E.2.2.1, E.2.2.2.1, E.2.2.2.2.1, E.2.2.2.2.2.1, 1, E.2.2.2.2.2.2.2)
section LIST
variable {p : Program} {l : Launch} {e : Env} {R : Room} {s : State} {m : MethodId} {args : Array Value} {below : List Frame} {meth : Method} {c : Code} {H : Heap} {locs : List Loc} {cells slots : Nat} {Q : State → Prop}
variable {cc : ByteArray} {pc : Nat} {ls : Array Slot} {rest : List Value} {D : va_G} {A : Nat → Prop} {a : Nat} {tys : List (ClassId × FieldType)} {H0 : Heap}
theorem aast_one (hexec : p.tables.exec = Jvm.exec) (hb : c.code = cc) (hK : va_K D vwCl tys s) {t0 ci n v : Nat} {E : String} {cA : ClassId} {r : vw_C} {vs : List Value} {f : Nat → Option Nat} (hP : va_at D vwCl (a, .inl (cA, n, .inr (.inr (.inr (.inr f))))) H) (hA : A a) (hS : va_S A H0 H locs) (ht : tys[t0]? = some (cA, .object E)) (hv : va_at D vwCl (v, .inr (ci, vs)) H) (hc : vwCl[ci]? = some r) (hasg : ∀ c0 comp : ClassId, ClassAt s r.1 c0 → s.vm.findClass E = some comp → s.vm.assignable c0 comp = true) {i : Int32} (hin : vp_in i n) (hdg : decode cc pc = .ok (.aastore, 1))
    (kk : ∀ (H1 : Heap) (locs1 : List Loc), va_at D vwCl (a, .inl (cA, n, .inr (.inr (.inr (.inr (va_up f i.toNatClampNeg (some v))))))) H1 → (∀ q : Nat, q ≠ a → H1[q]? = H[q]?) → va_S A H0 H1 locs1 → W p l e R s m args below meth c H1 locs1 cells slots Q (F0 m (pc + 1) ls rest)) : W p l e R s m args below meth c H locs cells slots Q (F0 m pc ls (.ref v :: .int i :: .ref a :: rest)) := by
  have hlt : i.toNatClampNeg < n := Nat.not_le.mp fun q => hin (Or.inr q)
  have h0 : ¬ i < 0 := fun q => hin (Or.inl q)
  obtain ⟨r', hr', cellV, g1, g2, g3, -⟩ := hv
  have hcls := (hK.1 ci r hc).2
  obtain ⟨kA, comp, k1, k2, k3, -⟩ := (hK.2 t0 _ ht).2
  obtain ⟨kE, hkE, -⟩ := Vm.findClass_spec k3
  obtain ⟨kC, hkC, -⟩ := id hcls.2
  refine W.aast hexec hb hP (fun q h => by cases h) (fun h => by cases h) k1 k2 rfl hkE ⟨h0, by show _ < (arrV _ _ _).slots.size; rw [arrV_size]; exact hlt⟩ g1 (fun q h => by rw [g3] at h; cases h) (by rw [g2]; exact hkC) (by rw [g2]; exact hasg _ _ hcls k3) rfl rfl hdg fun H1 e z oq => ?_
  refine kk H1 _ ?_ oq (hS.put z oq hA)
  show H1[a]? = some (vp_cell _ _)
  rw [e]
  rw [vp_cell_q, vp_cell_q, arrV_store]
  congr 2
  funext q
  by_cases hq : q = i.toNatClampNeg
  · subst hq
    simp [updV, va_up, va_rf]
  · simp [updV, va_up, hq]
end LIST
section LISTJ
variable {l0 : Launch} {X : MX} {B : BX (EE × K)} {g : GP} {cc : ByteArray} {own : String} {F L : Nat} {E E0 : EE} {κ κ' : K} {pc : Nat} {lv : List (Nat × AV)} {rest st0 as : List AV}
def updo (o : Nat → Option Pl) (k : Nat) (v : Option Pl) : Nat → Option Pl := fun j => if j = k then v else o j
/-- a raw array of references is written: a raw object of the array's own kind -/
theorem J_aastR (O : CK l0 X B g cc own F L) (hR : rawOK E) {j n j2 kd1 ai : Nat} {o : Nat → Option Pl} {fs : Nat → AV} (hj : (eR E)[j]? = some (.inr (ai, n, .inr (.inr o)))) (hj2 : (eR E)[j2]? = some (.inl (kd1, fs))) {C : String} {T : u_T} {N : Nat} (hai : ∀ ca : Nat → ClassId, (tysOf ca)[ai]? = some (ca ai, .object C)) (hc : vwCl[kd1]? = some (C, T, N)) {q : Int32} (hq : vp_in q n) (hd : decode cc pc = .ok (.aastore, 1))
    (kk : rawOK (upR E ((eR E).set j (.inr (ai, n, .inr (.inr (updo o q.toNatClampNeg (some (8, j2, 0)))))))) → J X B (upR E ((eR E).set j (.inr (ai, n, .inr (.inr (updo o q.toNatClampNeg (some (8, j2, 0))))))), κ) (pc + 1) lv rest) : J X B (E, κ) pc lv (.inr (some (8, j2, 0)) :: .inl (.int q) :: .inr (some (8, j, 0)) :: rest) := by
  have hl2 : j2 < (eR E).length := (List.getElem?_eq_some_iff.mp hj2).1
  have kk := kk (rawOK_set hR (show ∀ z, clA _ (.inr (updo o q.toNatClampNeg (some (8, j2, 0)) z)) from fun z => by
    unfold updo
    split
    · exact fun _ => hl2
    · exact hR _ (List.mem_of_getElem? hj) z))
  obtain ⟨OO, hB, hCst, hD⟩ := O
  obtain ⟨p0, l, e, R, s, m, args, below, meth, c0, Q⟩ := X
  have hcst : B.2.2.2.2.1 (upR E ((eR E).set j (.inr (ai, n, .inr (.inr (updo o q.toNatClampNeg (some (8, j2, 0))))))), κ) = B.2.2.2.2.1 (E, κ) := by rw [hCst]
  refine ⟨by rw [← hcst]; exact kk.1, fun fx ad H locs ls cells slots h1 h2 h3 h4 h5 => ?_⟩
  have O1 := (OO fx).1
  have hW0 := h1.1
  rw [hB] at hW0
  have h6 := hW0.1 _ _ (ct_8 hj)
  have h7 := hW0.1 _ _ (ct_8 hj2)
  refine aast_one O1.1 O1.2.1 O1.2.2.2.2.2.1 h6.1 h6.2 h2 (hai g.2.1) h7.1 hc (fun c1 comp hx hy => by cases hx.1.symm.trans hy; exact va_assign hx) hq hd (fun H1 locs1 g1 g2 g3 => ?_)
  refine kk.2 fx ad H1 locs1 ls cells slots ⟨?_, h1.2⟩ g3 h3 (by rw [hcst]; exact h4) (by rw [hcst]; exact h5)
  rw [hB]
  refine Wd_setR hW0 hj ?_ g2
  have e9 : rcE g.2.1 g.2.2.1 ad (.inr (ai, n, .inr (.inr (updo o q.toNatClampNeg (some (8, j2, 0)))))) = .inl (g.2.1 ai, n, .inr (.inr (.inr (.inr (va_up (fun j => match o j with | none => none | some p => if okP p = true then some (ad p) else none) q.toNatClampNeg (some (ad (8, j2, 0)))))))) := by
    simp only [rcE]
    congr 7
    funext z
    unfold updo va_up
    by_cases hz : z = q.toNatClampNeg
    · rw [if_pos hz, if_pos hz]; rfl
    · rw [if_neg hz, if_neg hz]; rfl
  rw [e9]
  exact g1
/-- 'new C[n]' -/
theorem J_anewR (O : CK l0 X B g cc own F L) (hKP : KPok B E) (hR : rawOK E) {ai : Nat} {C : String} (hai : ∀ ca : Nat → ClassId, (tysOf ca)[ai]? = some (ca ai, .object C)) {n : Int32} {N : Nat} {index : Nat} (w1 : Cond.classLink own index C ∈ gwl) (hAO : ∀ s, ST s → va_AO C s) (hn : ¬ n < 0) (hN : n.toNatClampNeg = N) (hb : N * 4 ≤ 536870912) (hlv : ∀ q ∈ lv, Stab E q.2) (hrs : ∀ v ∈ rest, Stab E v) (hd : decode cc pc = .ok (.anewarray index, 3))
    (kk : rawOK (upR E (eR E ++ [.inr (ai, N, .inr (.inr fun _ => none))])) → J X B (upR E (eR E ++ [.inr (ai, N, .inr (.inr fun _ => none))]), addC κ 1 N) (pc + 3) lv (.inr (some (8, (eR E).length, 0)) :: rest)) : J X B (E, κ) pc lv (.inl (.int n) :: rest) := by
  refine J_push (r := .inr (ai, N, .inr (.inr fun _ => none))) (n1 := N) O hKP hR (show ∀ j : Nat, clA _ (.inr none) from fun _ => trivial) (fun p l e R s m args below meth c Q hX O1 ad H locs ls cells slots hc1 hc2 k2 => ?_) hlv hrs kk
  subst hX
  have hMO := O1.1
  subst hN
  refine W.anew hMO.1 hMO.2.1 hMO.2.2.2.1 (hMO.2.2.2.2.1 _ w1) ((hAO _ O1.2.1).use) rfl hd rfl hn hb hc1 hc2 fun cA kA comp f1 f2 f3 f4 => ?_
  have hcA : cA = g.2.1 ai := by
    obtain ⟨_, _, _, _, _, h8⟩ := (hMO.2.2.2.2.2.1.2 ai _ (hai g.2.1)).2
    exact Option.some.inj (f1.symm.trans h8)
  subst hcA
  generalize hH1 : H.push ({ cls := g.2.1 ai, slots := Array.replicate n.toNatClampNeg .null, vm := .none } : Cell) = H1
  refine k2 H1 (by rw [← hH1, Array.size_push]) (fun q hq => by rw [← hH1, Array.getElem?_push, if_neg (Nat.ne_of_lt hq)]) fun ad' => ?_
  show H1[H.size]? = some (vp_cell _ _)
  rw [← hH1, Array.getElem?_push_size, vp_cell_q]
  show _ = some (arrV (g.2.1 ai) n.toNatClampNeg fun _ => Value.null)
  exact congrArg some (arrV_new (g.2.1 ai) n.toNatClampNeg Value.null)
theorem J_getE0 (O : CK l0 X B g cc own F L) {index : Nat} (hw : Cond.fieldLink own index "java/util/ArrayList" "DEFAULTCAPACITY_EMPTY_ELEMENTDATA" "[Ljava/lang/Object;" ∈ gwl) (hd : decode cc pc = .ok (.getstatic index, 3)) (kk : J X B (E, κ) (pc + 3) lv (.inl (.ref g.2.2.1) :: rest)) : J X B (E, κ) pc lv rest := by
  obtain ⟨OO, hB, hCst, hD⟩ := O
  obtain ⟨p, l, e, R, s, m, args, below, meth, c, Q⟩ := X
  refine ⟨kk.1, fun fx ad H locs ls cells slots h1 h2 h3 h4 h5 => ?_⟩
  obtain ⟨hMO, hST, hSH, -⟩ := OO fx
  exact va_gets hMO.1 hMO.2.1 hSH.2.2.2.2.1 h2 hMO.2.2.2.1 (hMO.2.2.2.2.1 _ hw) (fun _ h => h) hd (kk.2 fx ad H locs ls cells slots h1 h2 h3 h4 h5)
theorem J_alenE0 (O : CK l0 X B g cc own F L) (hd : decode cc pc = .ok (.arraylength, 1)) (kk : J X B (E, κ) (pc + 1) lv (.inl (.int 0) :: rest)) : J X B (E, κ) pc lv (.inl (.ref g.2.2.1) :: rest) := by
  obtain ⟨OO, hB, hCst, hD⟩ := O
  obtain ⟨p, l, e, R, s, m, args, below, meth, c, Q⟩ := X
  refine ⟨kk.1, fun fx ad H locs ls cells slots h1 h2 h3 h4 h5 => ?_⟩
  obtain ⟨hMO, hST, hSH, -⟩ := OO fx
  obtain ⟨cell, g1, g2, g3, g4, g5, -⟩ := (hSH.kept h2.2.1).2.2.2.2.2.1
  exact W.alen (n := 0) hMO.1 hMO.2.1 g1 g2 (by rw [g5]; rfl) rfl rfl hd (kk.2 fx ad H locs ls cells slots h1 h2 h3 h4 h5)
theorem J_acmpE (O : CK l0 X B g cc own F L) {a : Nat} {off : Int} {tgt : Nat} (hd : decode cc pc = .ok (.if_acmp .eq off, 3)) (ht : (pc : Int) + off = (tgt : Int)) (kk : J X B (E, κ) tgt lv rest) : J X B (E, κ) pc lv (.inl (.ref a) :: .inl (.ref a) :: rest) :=
  ⟨kk.1, fun o ad H locs ls cells slots h1 h2 h3 h4 h5 => lv_acmp_eq (rx := some a) (ry := some a) (O.mo o).1 (O.mo o).2.1 hd ht (fun _ => kk.2 o ad H locs ls cells slots h1 h2 h3 h4 h5) (fun z => absurd rfl z)⟩
/-- a member goes into a list's own array -/
theorem J_aastL (O : CK l0 X B g cc own F L) {c fa kd1 : Nat} (hl : liveC E 4 0 (c + 3) = true) (hc : c = 1 ∨ c = 2) (hfa : c - 1 = fa) {i : Nat} (hli : liveC E fa i 0 = true) (hki : kd fa 0 = kd1) (h12 : kd1 < 12) {r : vw_C} (hr : vwCl[kd1]? = some r) (w : Cond.castable r.1 "java/lang/Object" ∈ nwl) {q : Int32} (hq : vp_in q 10) (hd : decode cc pc = .ok (.aastore, 1))
    (kk : J X B (E, setP κ 4 0 (c + 3) q.toNatClampNeg (some i)) (pc + 1) lv rest) : J X B (E, κ) pc lv (.inr (some (fa, i, 0)) :: .inl (.int q) :: .inr (some (4, 0, c + 3)) :: rest) := by
  subst hfa
  obtain ⟨OO, hB, hCst, hD⟩ := O
  obtain ⟨p0, l, e, R, s, m, args, below, meth, c0, Q⟩ := X
  have hcst : B.2.2.2.2.1 (E, setP κ 4 0 (c + 3) q.toNatClampNeg (some i)) = B.2.2.2.2.1 (E, κ) := by rw [hCst]; rfl
  refine ⟨by rw [← hcst]; exact kk.1, fun fx ad H locs ls cells slots h1 h2 h3 h4 h5 => ?_⟩
  obtain ⟨O1, hST, -⟩ := OO fx
  have hW0 := h1.1
  rw [hB] at hW0
  have h6 := hW0.1 _ _ (ct_24 hl hc ad)
  have h7 := (hW0.1 _ _ (ctC_live hli)).1
  rw [cell_obj (by rw [hki]; exact h12), hki] at h7
  refine aast_one O1.1 O1.2.1 O1.2.2.2.2.2.1 (t0 := 3) (E := "java/lang/Object") h6.1 h6.2 h2 rfl h7 hr (fun c1 comp hx hy => by
    obtain ⟨c0, t1, f1, f2, f3⟩ := Cond.castable_spec (va_Nw.use (A := args) rfl (hST.1 _ w))
    cases hx.1.symm.trans f1
    cases hy.symm.trans f2
    exact f3) hq hd (fun H1 locs1 g1 g2 g3 => ?_)
  refine kk.2 fx ad H1 locs1 ls cells slots ⟨?_, h1.2⟩ g3 h3 (by rw [hcst]; exact h4) (by rw [hcst]; exact h5)
  rw [hB]
  refine Wd.set (p0 := (4, 0, c + 3)) hW0 (ct_24 hl hc ad) (ct_24 hl hc ad) (fun z hz => ctC_setP hz) ?_ g2
  have e9 : (fun j => (kP (setP κ 4 0 (c + 3) q.toNatClampNeg (some i)) 4 0 (c + 3) j).map fun q => ad (c - 1, q, 0)) = va_up (fun j => (kP κ 4 0 (c + 3) j).map fun q => ad (c - 1, q, 0)) q.toNatClampNeg (some (ad (c - 1, i, 0))) := by
    funext z
    unfold va_up
    by_cases hz : z = q.toNatClampNeg
    · subst hz; simp [kP, setP]
    · simp [kP, setP, hz]
  rw [e9]
  exact g1
end LISTJ
set_option maxRecDepth 100000 in
theorem in_L : ∀ w ∈ u_ws RJx4a65c TJx4a65c 3, w ∈ gwl := by
  intro w hw
  obtain ⟨k, hk, rfl⟩ := List.mem_map.mp hw
  replace hk := List.mem_range.mp hk
  clear hw
  revert k
  exact (tb_s (tb_s (tb_s tb_0 (gwl_tb 59 rfl rfl)) (gwl_tb 55 rfl rfl)) (gwl_tb 57 rfl rfl))
section LIST2
variable {l0 : Launch} {X : MX} {B : BX (EE × K)} {g : GP} {cc : ByteArray} {own : String} {F L : Nat} {E E' E0 : EE} {κ κ' : K} {pc : Nat} {lv : List (Nat × AV)} {rest st0 as : List AV} {r : Option AV} {c : Nat}
theorem ls_kd (hc : c = 1 ∨ c = 2) : kd 4 c = 0 := by rcases hc with rfl | rfl <;> rfl
theorem ls_lv (hc : c = 1 ∨ c = 2) (h : PC 10 E 4 0 0) : liveC E 4 0 c = true := by
  rcases hc with rfl | rfl
  · exact PC_lv h 1 (by decide) (by decide)
  · exact PC_lv h 2 (by decide) (by decide)
theorem ls_st (hc : c = 1 ∨ c = 2) (h : PC 10 E 4 0 0) : Stab E (.inr (some (4, 0, c))) := ⟨ls_lv hc h, by show kd 4 c ≠ 21; rw [ls_kd hc]; decide⟩
/-- a contract where the static arrays are known -/
def ConAt (g : GP) (l : Launch) (y : MethodName) (b : ByteArray) (mL : Nat) (ret : Option FieldType) (fr lo : Nat) (as : List AV) (x x' : EE × K) (r : Option AV) : Prop :=
  (MX → (kC x.2).1 ≤ (kC x'.2).1 ∧ (kC x.2).2 ≤ (kC x'.2).2) ∧ ∀ (ad : Pl → Nat) (sz : Nat),
    Met l y (Cond.code y b mL ret :: gwl) ({ frames := fr, cells := (kC x'.2).1 - (kC x.2).1, slots := (kC x'.2).2 - (kC x.2).2, locals := lo }) (PcC g ad x sz as) (QcC g ad x sz x' r) ((kC x'.2).1 - (kC x.2).1) ((kC x'.2).2 - (kC x.2).2) (Aof g ad x sz)
/-- the list's own array is set -/
theorem J_putE {ca : Nat → ClassId} {e0 : Nat} (O : CO X B ca e0 cc own) (hc : c = 1 ∨ c = 2) (h : PC 10 E 4 0 0) {index : Nat} (hlink : Cond.fieldLink own index "java/util/ArrayList" "elementData" "[Ljava/lang/Object;" ∈ gwl) (hd : decode cc pc = .ok (.putfield index, 3)) (kk : J X B (E, setP κ 4 0 c 1 (some 0)) (pc + 3) lv rest) : J X B (E, κ) pc lv (.inr (some (4, 0, c + 3)) :: .inr (some (4, 0, c)) :: rest) := by
  have hl := ls_lv hc h
  have hkd := ls_kd hc
  obtain ⟨OO, hB, hCst⟩ := O
  obtain ⟨p, l, e, R, s, m, args, below, meth, c0, Q⟩ := X
  have hcst : B.2.2.2.2.1 (E, setP κ 4 0 c 1 (some 0)) = B.2.2.2.2.1 (E, κ) := by rw [hCst]; rfl
  refine ⟨by rw [← hcst]; exact kk.1, fun fx ad H locs ls cells slots h1 h2 h3 h4 h5 => ?_⟩
  have O1 := OO fx
  have h6 := h1.1.at hB (ctC_live hl)
  have hcell := cell_obj (ca := ca) (e0 := e0) (ad := ad) (E := E) (i := 0) (by rw [hkd]; decide : kd 4 c < 12)
  rw [hcell, hkd] at h6
  refine put_one (T := TJx4a65c) (A := B.2.2.1) O1.1 O1.2.1 O1.2.2.2.2.1 in_L tyJx4a65c tyJx4a65c_ok nmJx4a65c O1.2.2.2.1 O1.2.2.2.2.2.1 h6.1 h6.2 h2 rfl 1 (by decide) (ref := "java/util/ArrayList") (O1.2.2.2.2.1 _ hlink) (fun _ h => h) rfl (tyJx4a65c_ok 1 (by decide)) rfl rfl (by rw [fld_len]; decide) hd (fun H1 locs1 g1 g2 g3 => ?_)
  refine kk.2 fx ad H1 locs1 ls cells slots ⟨?_, h1.2⟩ g3 h3 (by rw [hcst]; exact h4) (by rw [hcst]; exact h5)
  refine Wd.set (p0 := (4, 0, c)) h1.1 (by rw [hB]; exact ctC_live hl) (by rw [hB]; exact ctC_live hl) (fun q hq => by rw [hB]; exact ctC_setP hq) ?_ g2
  rw [hcell, hkd, range_map_set (k := 1) (nfl 0) _ _ (emb ad (.inr (some (4, 0, c + 3)))) ?_ (fun j hj => ?_)]
  · exact g1
  · show emb ad (avf E e0 4 0 c _ (kP (setP κ 4 0 c 1 (some 0)) 4 0 c 1) (3, 0, 0)) = _
    have e5 : kP (setP κ 4 0 c 1 (some 0)) 4 0 c 1 = some 0 := by simp [kP, setP]
    rw [e5]; rfl
  · have e5 : kP (setP κ 4 0 c 1 (some 0)) 4 0 c j = kP κ 4 0 c j := by simp [kP, setP, hj]
    rw [e5]; rfl
theorem J_alenL {ca : Nat → ClassId} {e0 : Nat} (O : CO X B ca e0 cc own) (hl : liveC E 4 0 (c + 3) = true) (hc : c = 1 ∨ c = 2) (hd : decode cc pc = .ok (.arraylength, 1)) (kk : J X B (E, κ) (pc + 1) lv (.inl (.int 10) :: rest)) : J X B (E, κ) pc lv (.inr (some (4, 0, c + 3)) :: rest) := by
  obtain ⟨OO, hB, hCst⟩ := O
  obtain ⟨p0, l, e, R, s, m, args, below, meth, c0, Q⟩ := X
  refine ⟨kk.1, fun fx ad H locs ls cells slots h1 h2 h3 h4 h5 => ?_⟩
  have O1 := OO fx
  exact va_alen O1.1 O1.2.1 O1.2.2.2.2.2.1 (va_P1 (h1.1.at hB (ct_24 hl hc ad)).1) 0 3 rfl rfl rfl hd (kk.2 fx ad H locs ls cells slots h1 h2 h3 h4 h5)
theorem J_getMod {ca : Nat → ClassId} {e0 : Nat} (O : CO X B ca e0 cc own) (hc : c = 1 ∨ c = 2) (h : PC 10 E 4 0 0) {index : Nat} (hlink : Cond.fieldLink own index "java/util/ArrayList" "modCount" "I" ∈ gwl) (hs : Cond.sameField "java/util/ArrayList" "java/util/AbstractList" "modCount" "I" ∈ gwl) (hd : decode cc pc = .ok (.getfield index, 3)) (kk : J X B (E, κ) (pc + 3) lv (.inl (.int (kV κ 4 0 c 0)) :: rest)) : J X B (E, κ) pc lv (.inr (some (4, 0, c)) :: rest) := by
  have hl := ls_lv hc h
  have hkd := ls_kd hc
  obtain ⟨OO, hB, hCst⟩ := O
  obtain ⟨p, l, e, R, s, m, args, below, meth, c0, Q⟩ := X
  refine ⟨kk.1, fun fx ad H locs ls cells slots h1 h2 h3 h4 h5 => ?_⟩
  have O1 := OO fx
  have h6 := (h1.1.at hB (ctC_live hl)).1
  rw [cell_obj (by rw [hkd]; decide), hkd] at h6
  exact va_get (T := TJx4a65c) O1.1 O1.2.1 O1.2.2.2.2.1 in_L O1.2.2.2.1 O1.2.2.2.2.2.1 (va_P1 h6) 0 rfl rfl 0 (by decide) (ref := "java/util/ArrayList") (O1.2.2.2.2.1 _ hlink) (fun x hx => u_same (O1.2.2.2.2.1 _ hs) x hx) (v := .int (kV κ 4 0 c 0)) rfl hd (kk.2 fx ad H locs ls cells slots h1 h2 h3 h4 h5)
theorem J_putMod {ca : Nat → ClassId} {e0 : Nat} (O : CO X B ca e0 cc own) (hc : c = 1 ∨ c = 2) (h : PC 10 E 4 0 0) {x : Int32} {index : Nat} (hlink : Cond.fieldLink own index "java/util/ArrayList" "modCount" "I" ∈ gwl) (hs : Cond.sameField "java/util/ArrayList" "java/util/AbstractList" "modCount" "I" ∈ gwl) (hd : decode cc pc = .ok (.putfield index, 3)) (kk : J X B (E, setV κ 4 0 c 0 x) (pc + 3) lv rest) : J X B (E, κ) pc lv (.inl (.int x) :: .inr (some (4, 0, c)) :: rest) := by
  have hl := ls_lv hc h
  have hkd := ls_kd hc
  obtain ⟨OO, hB, hCst⟩ := O
  obtain ⟨p, l, e, R, s, m, args, below, meth, c0, Q⟩ := X
  have hcst : B.2.2.2.2.1 (E, setV κ 4 0 c 0 x) = B.2.2.2.2.1 (E, κ) := by rw [hCst]; rfl
  refine ⟨by rw [← hcst]; exact kk.1, fun fx ad H locs ls cells slots h1 h2 h3 h4 h5 => ?_⟩
  have O1 := OO fx
  have h6 := h1.1.at hB (ctC_live hl)
  have hcell := cell_obj (ca := ca) (e0 := e0) (ad := ad) (E := E) (i := 0) (by rw [hkd]; decide : kd 4 c < 12)
  rw [hcell, hkd] at h6
  refine put_one (T := TJx4a65c) (A := B.2.2.1) O1.1 O1.2.1 O1.2.2.2.2.1 in_L tyJx4a65c tyJx4a65c_ok nmJx4a65c O1.2.2.2.1 O1.2.2.2.2.2.1 h6.1 h6.2 h2 rfl 0 (by decide) (ref := "java/util/ArrayList") (O1.2.2.2.2.1 _ hlink) (fun x hx => u_same (O1.2.2.2.2.1 _ hs) x hx) rfl (tyJx4a65c_ok 0 (by decide)) rfl rfl (by rw [fld_len]; decide) hd (fun H1 locs1 g1 g2 g3 => ?_)
  refine kk.2 fx ad H1 locs1 ls cells slots ⟨?_, h1.2⟩ g3 h3 (by rw [hcst]; exact h4) (by rw [hcst]; exact h5)
  refine Wd.set (p0 := (4, 0, c)) h1.1 (by rw [hB]; exact ctC_live hl) (by rw [hB]; exact ctC_live hl) (fun q hq => by rw [hB]; exact ctC_setV hq) ?_ g2
  rw [hcell, hkd, range_map_set (k := 0) (nfl 0) _ _ (.int x) ?_ (fun j hj => ?_)]
  · exact g1
  · rw [setV_eq]; rfl
  · rw [setV_eq]; simp [upd, hj]; rfl
/-! the flags -/
theorem cntE_flag {f : Nat} : cntE (flagE E c) f = cntE E f := by
  unfold flagE
  split <;> (unfold cntE; split <;> rfl)
theorem eR_flag : eR (flagE E c) = eR E := by unfold flagE; split <;> rfl
theorem cnt4_flag {c' : Nat} : cnt4 (flagE E c) c' = if (c' = 1 ↔ c = 1) then 1 else cnt4 E c' := by
  unfold flagE cnt4
  by_cases h : c = 1 <;> by_cases h' : c' = 1 <;> simp [h, h']
theorem PC_flag {k f i c' : Nat} (h : PC k E f i c') : PC k (flagE E c) f i c' := ⟨by rw [cntE_flag]; exact h.1, h.2⟩
def nw1 (c : Nat) : NW := fun f i c' => if f = 4 ∧ i = 0 ∧ c' = c + 3 then some 0 else none
theorem nw1_s : nw1 c 4 0 (c + 3) = some 0 := by simp [nw1]
theorem nw1_n {f i c' : Nat} (h : ¬ (f = 4 ∧ i = 0 ∧ c' = c + 3)) : nw1 c f i c' = none := by simp only [nw1, if_neg h]
abbrev rObj : RC := .inr (3, 10, .inr (.inr fun _ => none))
theorem fsp_k (k j : Nat) : (fsp k j).1 ≤ 3 := by
  unfold fsp
  split <;> decide
theorem fsp_2 {k j fa co : Nat} (h : fsp k j = (2, fa, co)) : fa ≠ 4 := by
  unfold fsp at h
  split at h <;> first | (injection h with h1 h2; exact absurd h1 (by decide)) | (injection h with h1 h2; injection h2 with h2 h3; rw [← h2]; decide)
theorem kd4 {c : Nat} (h : kd 4 c < 12) : c < 3 := by
  match c, h with
  | 0, _ => decide
  | 1, _ => decide
  | 2, _ => decide
  | 3, h => exact absurd (show (25 : Nat) < 12 from h) (by decide)
  | 4, h => exact absurd (show (24 : Nat) < 12 from h) (by decide)
  | 5, h => exact absurd (show (24 : Nat) < 12 from h) (by decide)
  | n + 6, h => exact absurd (show (99 : Nat) < 12 from h) (by decide)
theorem live_kd {f i c : Nat} (h : liveC E f i c = true) : i < cntE E f ∧ c < cmpN f ∧ kd f c < 90 := by
  unfold liveC at h
  simp only [Bool.and_eq_true, decide_eq_true_eq] at h
  exact ⟨h.1.1, h.1.2.1, h.1.2.2⟩
theorem kd_24 {f c : Nat} (h : kd f c = 24) : f = 4 ∧ c - 4 < 2 := by
  unfold kd at h
  split at h <;> first | exact ⟨rfl, by decide⟩ | (exfalso; revert h; decide)
theorem fsp_1 {j d z : Nat} (c : Nat) (hc : c < 3) (h : fsp (kd 4 c) j = (1, d, z)) : c + d < 4 := by
  match c, hc with
  | 0, _ =>
    match j, h with
    | 0, h => injection h with h1 h2; injection h2 with h2 h3; subst h2; decide
    | 1, h => injection h with h1 h2; injection h2 with h2 h3; subst h2; decide
    | 2, h => injection h with h1 h2; injection h2 with h2 h3; subst h2; decide
    | n + 3, h => exact absurd (show ((0 : Nat), 0, 0) = (1, d, z) from h) (by intro q; injection q with q; cases q)
  | 1, _ =>
    match j, h with
    | 0, h => exact absurd (show ((0 : Nat), 0, 0) = (1, d, z) from h) (by intro q; injection q with q; cases q)
    | 1, h => exact absurd (show ((3 : Nat), 0, 0) = (1, d, z) from h) (by intro q; injection q with q; cases q)
    | n + 2, h => exact absurd (show ((0 : Nat), 0, 0) = (1, d, z) from h) (by intro q; injection q with q; cases q)
  | 2, _ =>
    match j, h with
    | 0, h => exact absurd (show ((0 : Nat), 0, 0) = (1, d, z) from h) (by intro q; injection q with q; cases q)
    | 1, h => exact absurd (show ((3 : Nat), 0, 0) = (1, d, z) from h) (by intro q; injection q with q; cases q)
    | n + 2, h => exact absurd (show ((0 : Nat), 0, 0) = (1, d, z) from h) (by intro q; injection q with q; cases q)
theorem rcF_N {nw : NW} {n : Nat} {r : RC} (h : rcN r = true) : rcF nw n r := by
  match r, h with
  | .inr (_, _, .inl _), _ => exact trivial
  | .inr (_, _, .inr (.inl _)), _ => exact trivial
/-- a list gets its own array -/
theorem J_listA (O : CK l0 X B g cc own F L) (hKP : KPok B E) (hc : c = 1 ∨ c = 2) (hH : E.2.2.2.1 = 1) (hf : cnt4 E c = 0) (h0 : kP κ 4 0 c 1 = none) (hRN : rawN E) {lv' : List (Nat × AV)} {st' : List AV} (hl : lv = lv'.map fun q => (q.1, rnA (rhoN (nw1 c) (eR E).length) q.2)) (hs : st0 = st'.map (rnA (rhoN (nw1 c) (eR E).length))) (kk : J X B (flagE E c, adK κ (nw1 c) [rObj]) pc lv' st') : J X B (upR E (eR E ++ [rObj]), κ) pc lv st0 := by
  have he := eR_flag (E := E) (c := c)
  have h4 : ∀ i, i < cntE E 4 → i = 0 := by
    intro i hi
    have : i < E.2.2.2.1 := hi
    omega
  have hd3 : ∀ c' : Nat, ¬ c' < 4 → c' < 6 → ¬ c' = c + 3 → cnt4 (flagE E c) (c' - 3) = cnt4 E (c' - 3) := by
    intro c' a1 a2 a3
    rw [cnt4_flag, if_neg]
    intro hz
    rcases hc with rfl | rfl
    · have := hz.mpr rfl
      omega
    · have : ¬ (c' - 3 = 1) := fun z => absurd (hz.mp z) (by decide)
      omega
  refine J_adopt (E' := flagE E c) O hKP (nw1 c) [rObj] (fun f i c' h1 h2 => nw1_n fun ⟨a1, a2, a3⟩ => ?_) (by rw [he]; rfl) (fun f i c' h1 h2 h8 => ?_) (fun f i c' m h1 h2 => ?_) (fun f i c1 f' i' c1' m h1 h2 => ?_) (fun i c' => ⟨nw1_n fun z => absurd z.1 (by decide), nw1_n fun z => absurd z.1 (by decide)⟩) (fun r hr => rcF_N (hRN r (by rw [← he]; exact hr))) ?_ (by rw [he]; exact hl) (by rw [he]; exact hs) kk
  · subst a1; subst a2; subst a3
    unfold liveC at h1
    rw [Nat.add_sub_cancel, hf] at h1
    rcases hc with rfl | rfl <;> simp at h1
  · rw [liveC_upR h8]
    unfold liveC at h1 ⊢
    rw [cntE_flag] at h1
    simp only [Bool.and_eq_true, Bool.or_eq_true, decide_eq_true_eq] at h1 ⊢
    refine ⟨h1.1, ?_⟩
    rcases h1.2 with (h | h) | h
    · exact Or.inl (Or.inl h)
    · exact Or.inl (Or.inr h)
    · by_cases h4' : f = 4
      · subst h4'
        by_cases hlt : c' < 4
        · exact Or.inl (Or.inr hlt)
        · have hi := h4 i h1.1.1
          have hne : ¬ c' = c + 3 := fun z => by
            rw [z, hi, nw1_s] at h2
            cases h2
          rw [hd3 c' hlt h1.1.2.1 hne] at h
          exact Or.inr h
      · exact Or.inl (Or.inl h4')
  · unfold nw1 at h2
    split at h2
    · rename_i hz
      obtain ⟨a1, a2, a3⟩ := hz
      cases h2
      subst a1; subst a2; subst a3
      refine ⟨rObj, rfl, Or.inr ⟨?_, rfl, rfl, fun _ => rfl⟩⟩
      rcases hc with rfl | rfl <;> rfl
    · cases h2
  · unfold nw1 at h1 h2
    split at h1
    · split at h2
      · rename_i z1 z2
        rw [z1.1, z1.2.1, z1.2.2, z2.1, z2.2.1, z2.2.2]
      · cases h2
    · cases h1
  · intro f i c' h1 h2 h8
    obtain ⟨a1, a2, a3⟩ := live_kd h1
    refine ⟨fun k => ⟨fun d z hz => nw1_n ?_, fun fa co hz j _ => nw1_n ?_, fun y z hz j hj => nw1_n ?_⟩, fun h24 k q _ => nw1_n ?_, fun _ j _ => nw1_n fun z => absurd z.1 (by decide)⟩
    · rintro ⟨rfl, b2, b3⟩
      by_cases h12 : kd 4 c' < 12
      · have := fsp_1 c' (kd4 h12) hz
        omega
      · have : fsp (kd 4 c') k = (0, 0, 0) := by
          have : ∀ n : Nat, ¬ n < 12 → fsp n k = (0, 0, 0) := by
            intro n hn
            unfold fsp
            split <;> first | rfl | (exfalso; exact hn (by decide))
          exact this _ h12
        rw [this] at hz
        injection hz with hz
        cases hz
    · rintro ⟨rfl, -, -⟩
      exact fsp_2 hz rfl
    · rintro ⟨rfl, rfl, b3⟩
      have : c' = c := by omega
      subst this
      have hk : k = 1 := by
        rw [ls_kd hc] at hz
        match k, hz with
        | 0, hz => exact absurd (show ((0 : Nat), 0, 0) = (3, y, z) from hz) (by intro q; injection q with q; cases q)
        | 1, _ => rfl
        | n + 2, hz => exact absurd (show ((0 : Nat), 0, 0) = (3, y, z) from hz) (by intro q; injection q with q; cases q)
      subst hk
      rw [h0] at hj
      cases hj
    · rintro ⟨b1, -, -⟩
      have := (kd_24 h24).2
      omega
end LIST2
