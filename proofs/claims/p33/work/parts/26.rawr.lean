/-! ROWS of raw cells -/
def dv (t : FieldType) : AV := match defaultValue t with
  | .null => .inr none
  | v => .inl v
theorem dv_emb (e0 : Nat) (ad : Pl → Nat) (t : FieldType) : emb ad (san e0 (dv t)) = defaultValue t := by cases t <;> rfl
theorem dv_cl (n : Nat) (t : FieldType) : clA n (dv t) := by cases t <;> exact trivial
def updf (f : Nat → AV) (k : Nat) (v : AV) : Nat → AV := fun j => if j = k then v else f j
def MXn (X : MX) : String := match X with
  | (_, _, _, _, _, _, _, _, meth, _, _) => meth.name
section PUT1F
variable {p : Program} {l : Launch} {e : Env} {R : Room} {s : State} {m : MethodId} {args : Array Value} {below : List Frame} {meth : Method} {c : Code} {H : Heap} {locs : List Loc} {cells slots : Nat} {Q : State → Prop}
variable {cc : ByteArray} {pc : Nat} {ls : Array Slot} {rest : List Value} {D : va_G} {cl : List vw_C} {A : Nat → Prop} {a : Nat} {tys : List (ClassId × FieldType)} {H0 : Heap}
theorem put_oneF (hexec : p.tables.exec = Jvm.exec) (hb : c.code = cc) {own ref C : String} {T : u_T} {N ci index : Nat} {Ts : List Cond} (hts : ∀ w ∈ Ts, w.before args s = true) (hin : ∀ w ∈ u_ws C T N, w ∈ Ts) (ty0 : Nat → FieldType) (hty : ∀ k, k < N → parseFieldDescriptor (T k).2.2.1 = some (ty0 k)) (hnm : ∀ a, a < N → ∀ b, b < N → a ≠ b → (T a).2.1 ≠ (T b).2.1) (hown : s.vm.findClass own = some m.cls) (hK : va_K D cl tys s) {fs : List Value} (hP : va_at D cl (a, .inr (ci, fs)) H) (hA : A a) (hS0 : va_S A H0 H locs) (hc : cl[ci]? = some (C, T, N)) (k : Nat) (hk : k < N) (hlink : (Cond.fieldLink own index ref (T k).2.1 (T k).2.2.1).before args s = true) (hsame : ∀ x, s.fieldFound? (T k).1 (T k).2.1 (T k).2.2.1 = some x → s.fieldFound? ref (T k).2.1 (T k).2.2.1 = some x) (hfin : (T k).2.2.2 = true) (hin2 : meth.name = "<init>") (hdecl : (T k).1 = own) {ty : FieldType} {v : Value} (hd : parseFieldDescriptor (T k).2.2.1 = some ty) (hn : narrow ty v = v) (hfit : fits ty v = true) (hl : k < fs.length)
    (hdg : decode cc pc = .ok (.putfield index, 3)) (kk : ∀ (H1 : Heap) (locs1 : List Loc), va_at D cl (a, .inr (ci, fs.set k v)) H1 → (∀ q : Nat, q ≠ a → H1[q]? = H[q]?) → va_S A H0 H1 locs1 → W p l e R s m args below meth c H1 locs1 cells slots Q (F0 m (pc + 3) ls rest)) : W p l e R s m args below meth c H locs cells slots Q (F0 m pc ls (v :: .ref a :: rest)) := by
  have hap := va_apart (own := own) hts hin ty0 hty hnm hK hc
  obtain ⟨r, h1, cell, q1, q2, q3, q4⟩ := hP
  have hr : r = (C, T, N) := Option.some.inj (h1.symm.trans hc)
  subst hr
  obtain ⟨hS, hfc, kC, hkC, hkind⟩ := hK.1 ci _ hc
  obtain ⟨cf, kf, fi, f, hi, hsl⟩ := hS k hk
  have hlay := hts _ (hin _ (u_in_lay hk))
  unfold u_lay at hlay
  rw [if_pos hfin] at hlay
  have hst := (u_facts hfc hkC (u_lays hts hin hk) hi).1
  have hcf : m.cls = cf := by
    obtain ⟨_, _, c', _, _, _, -, -, hf', -, -, -, hown2, -⟩ := Cond.laysFinal_spec hlay
    have e1 : c' = cf := by have := hi.symm.trans hf'; simp at this; exact this.1.symm
    rw [hdecl] at hown2
    rw [← e1]; exact Option.some.inj (hown.symm.trans hown2)
  have h6 := u_fits hfc hkC hkind (Or.inr hlay) hi hd hn hfit
  refine W.putFinK hexec hb hown hlink (hsame _ hi) hst hcf hin2 (by rw [q2]; exact h6) q1 q3 (by rw [hsl]; exact k2_hasslot (q4 k hk)) rfl rfl hdg fun H' e1 e2 e3 => ?_
  rw [hsl] at e1 ⊢
  exact kk H' _ ⟨_, hc, t_OB.to (V := updV (vp_V fs) k v) ⟨_, e1, q2, q3, t_set q4 hap hk v⟩ (fun j _ => vp_updV_set hl v j)⟩ e3 (hS0.put e2 e3 hA)
end PUT1F
set_option maxHeartbeats 1000000 in
/-- .. of a constructor -/
theorem Con_ofI {l : Launch} {y : MethodName} {b : ByteArray} {mL : Nat} {ret : Option FieldType} {fr lo : Nat} {as : List AV} {x x' : EE × K} {r : Option AV} (hfl : l.stackTraces = false) (hy : plainName y.cls = true) (hlen : as.length ≤ mL) (hcat : as.all cat1 = true) (hret : RetOK ret r)
    (body : ∀ (X : MX) (B : BX (EE × K)) (g : GP), CK l X B g b y.cls fr lo → KPok B x.1 → B.2.2.2.1 = mL → (B.2.2.2.2.2.2.2.2 X → MXn X = y.name) → EndOK X B b x' r → J X B x 0 (argl 0 as) []) : Con l y b mL ret fr lo as x x' r := by
  refine ⟨fun X => ?_, fun g ad sz => ?_⟩
  · exact (body X (Bof ((fun _ => 0, fun _ _ => 0), fun _ => 0, (0, 0, 0)) (fun _ => 0) x 0 mL (kC x'.2) (fun _ => False)) ((fun _ => 0, fun _ _ => 0), fun _ => 0, (0, 0, 0)) ⟨fun o => o.elim, rfl, rfl, rfl⟩ kpok rfl (fun o => o.elim) (end_false rfl (fun o => o) r)).1
  · refine Met.ofW (cc := b) (maxL := mL) (ret := ret) hy rfl ?_
    intro p e s m args below meth c s₁ B0 hml hv
    obtain ⟨rfl, hsz, hK, hST, hSH, hWd⟩ := hv
    have hts := atoms_spec (ws := Cond.code y b mL ret :: gwl) B0.pre
    have hmono := (body (p, l, e, { frames := 0, cells := 0, slots := 0, locals := 0 }, s, m, #[], below, meth, c, fun _ => True) (Bof ((fun _ => 0, fun _ _ => 0), fun _ => 0, (0, 0, 0)) (fun _ => 0) x 0 mL (kC x'.2) (fun _ => False)) ((fun _ => 0, fun _ _ => 0), fun _ => 0, (0, 0, 0)) ⟨fun o => o.elim, rfl, rfl, rfl⟩ kpok rfl (fun o => o.elim) (end_false rfl (fun o => o) r)).1
    have hm1 : (kC x.2).1 ≤ (kC x'.2).1 := hmono.1
    have hm2 : (kC x.2).2 ≤ (kC x'.2).2 := hmono.2
    have hl := lv_entry (as.map (emb ad)) (n := mL) (by rw [lg_len ad as hcat]; exact hlen)
    rw [lv_argl ad as 0 hcat] at hl
    rw [lg_entry_eq]
    generalize hfx : (fun X : MX => MO X (Bof g ad x sz mL (kC x'.2) (fun _ => True)) g.2.1 b y.cls ∧ QN g ad x sz x' r ret X ∧ CX l X (Bof g ad x sz mL (kC x'.2) (fun _ => True)) g b y.cls fr lo ∧ MXn X = y.name) = fx
    have hX : fx (p, l, e, { frames := fr, cells := (kC x'.2).1 - (kC x.2).1, slots := (kC x'.2).2 - (kC x.2).2, locals := lo }, s, m, (as.map (emb ad)).toArray, below, meth, c, MQ below (QcC g ad x sz x' r) (as.map (emb ad)).toArray s ((kC x'.2).1 - (kC x.2).1) ((kC x'.2).2 - (kC x.2).2) (Aof g ad x sz)) := by
      have hMO : MO (p, l, e, ({ frames := fr, cells := (kC x'.2).1 - (kC x.2).1, slots := (kC x'.2).2 - (kC x.2).2, locals := lo } : Room), s, m, (as.map (emb ad)).toArray, below, meth, c, MQ below (QcC g ad x sz x' r) (as.map (emb ad)).toArray s ((kC x'.2).1 - (kC x.2).1) ((kC x'.2).2 - (kC x.2).2) (Aof g ad x sz)) (Bof g ad x sz mL (kC x'.2) (fun _ => True)) g.2.1 b y.cls :=
        ⟨B0.exec, B0.bytes, hml, findClass_of_methodNamed B0.named, fun w hw => hts w (List.mem_cons_of_mem _ hw), hK, B0.notSynchronized, fun q hq => Or.inr (by rw [← hsz]; exact hq), by show (kC x.2).1 + ((kC x'.2).1 - (kC x.2).1) = _; exact Nat.add_sub_cancel' hm1, by show (kC x.2).2 + ((kC x'.2).2 - (kC x.2).2) = _; exact Nat.add_sub_cancel' hm2⟩
      rw [← hfx]
      exact ⟨hMO, ⟨rfl, B0.returns, hsz⟩, ⟨hMO, hST, ⟨by rw [← hsz] at hSH; rw [← hsz]; exact hSH, rfl, rfl, rfl, hfl⟩⟩, (name_of_methodNamed B0.named B0.method).1⟩
    have hMOfx : ∀ X, fx X → MO X (Bof g ad x sz mL (kC x'.2) fx) g.2.1 b y.cls ∧ QN g ad x sz x' r ret X := by
      intro X h; rw [← hfx] at h; exact ⟨h.1, h.2.1⟩
    have hCX : ∀ X, fx X → CX l X (Bof g ad x sz mL (kC x'.2) fx) g b y.cls fr lo := by
      intro X h; rw [← hfx] at h; exact h.2.2.1
    have hNX : ∀ X, fx X → MXn X = y.name := by
      intro X h; rw [← hfx] at h; exact h.2.2.2
    have hJ := fun X : MX => body X (Bof g ad x sz mL (kC x'.2) fx) g ⟨hCX X, rfl, rfl, rfl⟩ kpok rfl (hNX X) (end_true (X := X) (b := b) (own := y.cls) hret hMOfx)
    exact (hJ _).2 hX ad s.heap [] _ 0 0 ⟨hWd, fun _ _ _ _ _ => rfl⟩ va_S.rf hl rfl rfl
section RAWROWS
variable {l0 : Launch} {X : MX} {B : BX (EE × K)} {g : GP} {cc : ByteArray} {own : String} {F L : Nat} {E E' : EE} {κ κ' : K} {pc : Nat} {lv : List (Nat × AV)} {rest st0 as : List AV} {r : Option AV}
/-- a new raw cell at the top -/
theorem J_push (O : CK l0 X B g cc own F L) (hKP : KPok B E) (hR : rawOK E) {r : RC} (hrc : rcOK ((eR E).length + 1) r) {n1 pc2 : Nat}
    (hstep : ∀ (p : Program) (l : Launch) (e : Env) (R : Room) (s : State) (m : MethodId) (args : Array Value) (below : List Frame) (meth : Method) (c : Code) (Q : State → Prop), X = (p, l, e, R, s, m, args, below, meth, c, Q) → CX l0 X B g cc own F L → ∀ (ad : Pl → Nat) (H : Heap) (locs : List Loc) (ls : Array Slot) (cells slots : Nat), cells + 1 ≤ R.cells → slots + n1 ≤ R.slots →
      (∀ H1 : Heap, H1.size = H.size + 1 → (∀ q : Nat, q < H.size → H1[q]? = H[q]?) → (∀ ad' : Pl → Nat, va_at B.1 vwCl (H.size, rcE g.2.1 g.2.2.1 ad' r) H1) → W p l e R s m args below meth c H1 locs (cells + 1) (slots + n1) Q (F0 m pc2 ls (.ref H.size :: rest.map (emb ad)))) → W p l e R s m args below meth c H locs cells slots Q (F0 m pc ls (st0.map (emb ad))))
    (hlv : ∀ q ∈ lv, Stab E q.2) (hrs : ∀ v ∈ rest, Stab E v) (kk : rawOK (upR E (eR E ++ [r])) → J X B (upR E (eR E ++ [r]), addC κ 1 n1) pc2 lv (.inr (some (8, (eR E).length, 0)) :: rest)) : J X B (E, κ) pc lv st0 := by
  have kk := kk (rawOK_push hR hrc)
  obtain ⟨OO, hB, hCst, hD⟩ := O
  obtain ⟨p, l, e, R, s, m, args, below, meth, c, Q⟩ := X
  have c1 : B.2.2.2.2.1 (E, κ) = kC κ := by rw [hCst]
  have c2 : B.2.2.2.2.1 (upR E (eR E ++ [r]), addC κ 1 n1) = ((kC κ).1 + 1, (kC κ).2 + n1) := by rw [hCst]; rfl
  have kk1 := kk.1
  rw [c2] at kk1
  dsimp only at kk1
  refine ⟨by rw [c1]; exact ⟨by omega, by omega⟩, fun fx ad H locs ls cells slots h1 h2 h3 h4 h5 => ?_⟩
  rw [c1] at h4 h5
  have O1 := OO fx
  obtain ⟨hMO, hST, hSH, hF', hL', -⟩ := id O1
  obtain ⟨hb1, hb2⟩ := hMO.2.2.2.2.2.2.2.2
  refine hstep p l e R s m args below meth c Q rfl O1 ad H locs ls cells slots (by omega) (by omega) fun H1 z1 o1 e1 => ?_
  have hW0 := h1.1
  rw [hB] at hW0
  have hA0 : B.2.2.1 H.size := hMO.2.2.2.2.2.2.2.1 _ h2.1
  have hkeep := Keep_adp (E := E) (ad := ad) (a := H.size)
  have hgo := kk.2 fx (adp ad (8, (eR E).length, 0) H.size) H1 locs ls (cells + 1) (slots + n1) ⟨by rw [hB]; exact Wd_push hW0 hR o1 hA0 (e1 _) 1 n1, hKP ad _ h1.2 hkeep⟩ ⟨Nat.le_trans h2.1 (by omega), fun q g1 g2 => (o1 q (Nat.lt_of_lt_of_le g1 h2.1)).trans (h2.2.1 q g1 g2), h2.2.2⟩ (by rw [Stab_mapl hkeep hlv]; exact h3) (by rw [c2]; show _ = (kC κ).1 + 1; omega) (by rw [c2]; show _ = (kC κ).2 + n1; omega)
  rw [List.map_cons, Stab_map hkeep hrs] at hgo
  have e9 : emb (adp ad (8, (eR E).length, 0) H.size) (.inr (some (8, (eR E).length, 0))) = .ref H.size := congrArg Value.ref adp_eq
  rw [e9] at hgo
  exact hgo
theorem J_newO (O : CK l0 X B g cc own F L) (hKP : KPok B E) (hR : rawOK E) {kd0 : Nat} {C : String} {T : u_T} {N : Nat} (hc : vwCl[kd0]? = some (C, T, N)) (hN : nfl kd0 = N) (hin : ∀ w ∈ u_ws C T N, w ∈ gwl) (ty0 : Nat → FieldType) (hty : ∀ k, k < N → parseFieldDescriptor (T k).2.2.1 = some (ty0 k)) {index : Nat} (w1 : Cond.classLink own index C ∈ gwl) (w2 : Cond.instantiable C N ∈ gwl) (w3 : Cond.initialized C ∈ gwl) (hlv : ∀ q ∈ lv, Stab E q.2) (hrs : ∀ v ∈ rest, Stab E v) (hd : decode cc pc = .ok (.new index, 3))
    (kk : rawOK (upR E (eR E ++ [.inl (kd0, fun j => dv (ty0 j))])) → J X B (upR E (eR E ++ [.inl (kd0, fun j => dv (ty0 j))]), addC κ 1 N) (pc + 3) lv (.inr (some (8, (eR E).length, 0)) :: rest)) : J X B (E, κ) pc lv rest := by
  refine J_push (r := .inl (kd0, fun j => dv (ty0 j))) O hKP hR (show ∀ j, clA _ (dv (ty0 j)) from fun j => dv_cl _ _) (fun p l e R s m args below meth c Q hX O1 ad H locs ls cells slots hc1 hc2 k2 => ?_) hlv hrs kk
  subst hX
  have hMO := O1.1
  have hKn := hMO.2.2.2.2.2.1.1 _ _ hc
  refine W.newcK hMO.1 hMO.2.1 hMO.2.2.2.1 (hMO.2.2.2.2.1 _ w1) (hMO.2.2.2.2.1 _ w2) (hMO.2.2.2.2.1 _ w3) rfl hd hc1 hc2 hKn.2.1 rfl fun H1 kC hkC e1 z1 o1 => ?_
  refine k2 H1 z1 o1 fun ad' => ⟨_, hc, (u_born ty0 (fun w hw => hMO.2.2.2.2.1 w (hin w hw)) (fun w hw => hw) hKn hkC e1 hty).to fun j hj => ?_⟩
  show _ = ((List.range (nfl kd0)).map fun j => emb ad' (san g.2.2.1 (dv (ty0 j)))).getD j .null
  rw [hN, List.getD_eq_getElem?_getD, fld_at hj, dv_emb]
  rfl
/-- 'new int[n]', 'new boolean[n]', 'new long[n]' -/
theorem J_newaR (O : CK l0 X B g cc own F L) (hKP : KPok B E) (hR : rawOK E) {atype : ArrayType} {ty : FieldType} (hat : newarray.typeOf atype = ty) {ai : Nat} (hai : ∀ ca : Nat → ClassId, (tysOf ca)[ai]? = some (ca ai, ty)) {n : Int32} {N : Nat} {ct : (Nat → Int32) ⊕ (Nat → Int64) ⊕ (Nat → Option Pl)} (hct : ∀ (ca : Nat → ClassId) (e0 : Nat) (ad : Pl → Nat), ∃ a : vp_A, rcE ca e0 ad (.inr (ai, N, ct)) = .inl (ca ai, a) ∧ vp_cell (ca ai) a = arrV (ca ai) N (fun _ => defaultValue ty)) (hcl : rcOK ((eR E).length + 1) (.inr (ai, N, ct)))
    (w1 : Cond.arrayClass ty ∈ gwl) (hn : ¬ n < 0) (hN : n.toNatClampNeg = N) (hb : N * componentBytes ty ≤ 536870912) (hlv : ∀ q ∈ lv, Stab E q.2) (hrs : ∀ v ∈ rest, Stab E v) (hd : decode cc pc = .ok (.newarray atype, 2))
    (kk : rawOK (upR E (eR E ++ [.inr (ai, N, ct)])) → J X B (upR E (eR E ++ [.inr (ai, N, ct)]), addC κ 1 N) (pc + 2) lv (.inr (some (8, (eR E).length, 0)) :: rest)) : J X B (E, κ) pc lv (.inl (.int n) :: rest) := by
  refine J_push O hKP hR hcl (fun p l e R s m args below meth c Q hX O1 ad H locs ls cells slots hc1 hc2 k2 => ?_) hlv hrs kk
  subst hX
  have hMO := O1.1
  subst hat
  refine va_newaK hMO.1 hMO.2.1 (atype := atype) (hMO.2.2.2.2.1 _ w1) rfl hd rfl hn hN hb hc1 hc2 rfl fun H1 cA e1 z1 o1 hAr hNm => ?_
  have hcA : cA = g.2.1 ai := by
    have h8 := (hMO.2.2.2.2.2.1.2 ai _ (hai g.2.1)).2
    have h9 : s.vm.findClass ("[" ++ (newarray.typeOf atype).toString) = some (g.2.1 ai) := by
      revert h8
      cases atype <;> exact fun h => h
    exact Option.some.inj (hNm.symm.trans h9)
  subst hcA
  refine k2 H1 z1 o1 fun ad' => ?_
  obtain ⟨a, h1, h2⟩ := hct g.2.1 g.2.2.1 ad'
  rw [h1]
  show H1[H.size]? = some (vp_cell _ _)
  rw [h2]
  exact e1
theorem J_getR (O : CK l0 X B g cc own F L) {j kd0 : Nat} {fs : Nat → AV} (hj : (eR E)[j]? = some (.inl (kd0, fs))) {C : String} {T : u_T} {N : Nat} (hc : vwCl[kd0]? = some (C, T, N)) (hN : nfl kd0 = N) (hin : ∀ w ∈ u_ws C T N, w ∈ gwl) {index : Nat} (k : Nat) (hk : k < N) {v : AV} (hv : ∀ e0, san e0 (fs k) = v) {rf nm ds : String} (hlink : Cond.fieldLink own index rf nm ds ∈ gwl) (hT : T k = (rf, nm, ds, (T k).2.2.2)) (hd : decode cc pc = .ok (.getfield index, 3)) (kk : J X B (E, κ) (pc + 3) lv (v :: rest)) : J X B (E, κ) pc lv (.inr (some (8, j, 0)) :: rest) := by
  obtain ⟨OO, hB, hCst, hD⟩ := O
  obtain ⟨p, l, e, R, s, m, args, below, meth, c0, Q⟩ := X
  refine ⟨kk.1, fun fx ad H locs ls cells slots h1 h2 h3 h4 h5 => ?_⟩
  have O1 := (OO fx).1
  have h6 := (h1.1.at hB (ct_8 hj)).1
  have e1 : (T k).1 = rf := by rw [hT]
  have e2 : (T k).2.1 = nm := by rw [hT]
  have e3 : (T k).2.2.1 = ds := by rw [hT]
  refine va_get (T := T) O1.1 O1.2.1 O1.2.2.2.2.1 hin O1.2.2.2.1 O1.2.2.2.2.2.1 (va_P1 h6) 0 rfl hc k hk (ref := rf) (by rw [e2, e3]; exact O1.2.2.2.2.1 _ hlink) (by rw [← e1]; exact fun _ h => h) (v := emb ad v) ?_ hd (kk.2 fx ad H locs ls cells slots h1 h2 h3 h4 h5)
  show ((List.range (nfl kd0)).map fun j => emb ad (san g.2.2.1 (fs j)))[k]? = _
  rw [hN, fld_at hk, hv]
theorem J_putR (O : CK l0 X B g cc own F L) (hname : B.2.2.2.2.2.2.2.2 X → MXn X = "<init>") {j kd0 : Nat} {fs : Nat → AV} (hR : rawOK E) (hj : (eR E)[j]? = some (.inl (kd0, fs))) {C : String} {T : u_T} {N : Nat} (hc : vwCl[kd0]? = some (C, T, N)) (hN : nfl kd0 = N) (hin : ∀ w ∈ u_ws C T N, w ∈ gwl) (ty0 : Nat → FieldType) (hty : ∀ k, k < N → parseFieldDescriptor (T k).2.2.1 = some (ty0 k)) (hnm : ∀ a, a < N → ∀ b, b < N → a ≠ b → (T a).2.1 ≠ (T b).2.1) {index : Nat} (k : Nat) (hk : k < N) {v v' : AV} (hcl : clA (eR E).length v') (hvv : san g.2.2.1 v' = v) (hnf : ∀ ad : Pl → Nat, narrow (ty0 k) (emb ad v) = emb ad v ∧ fits (ty0 k) (emb ad v) = true) {rf nm ds : String} (hfin : (T k).2.2.2 = false ∨ rf = own) (hlink : Cond.fieldLink own index rf nm ds ∈ gwl) (hT : T k = (rf, nm, ds, (T k).2.2.2)) (hd : decode cc pc = .ok (.putfield index, 3))
    (kk : rawOK (upR E ((eR E).set j (.inl (kd0, updf fs k v')))) → J X B (upR E ((eR E).set j (.inl (kd0, updf fs k v'))), κ) (pc + 3) lv rest) : J X B (E, κ) pc lv (v :: .inr (some (8, j, 0)) :: rest) := by
  have kk := kk (rawOK_set hR (fun q => by
    by_cases hq : q = k
    · subst hq; simp only [updf, if_true]; exact hcl
    · simp only [updf, if_neg hq]; exact hR _ (List.mem_of_getElem? hj) q))
  obtain ⟨OO, hB, hCst, hD⟩ := O
  obtain ⟨p, l, e, R, s, m, args, below, meth, c0, Q⟩ := X
  have hcst : B.2.2.2.2.1 (upR E ((eR E).set j (.inl (kd0, updf fs k v'))), κ) = B.2.2.2.2.1 (E, κ) := by rw [hCst]
  refine ⟨by rw [← hcst]; exact kk.1, fun fx ad H locs ls cells slots h1 h2 h3 h4 h5 => ?_⟩
  have O1 := (OO fx).1
  have hnam : meth.name = "<init>" := hname fx
  have hW0 := h1.1
  rw [hB] at hW0
  have h6 := hW0.1 _ _ (ct_8 hj)
  have e1 : (T k).1 = rf := by rw [hT]
  have e2 : (T k).2.1 = nm := by rw [hT]
  have e3 : (T k).2.2.1 = ds := by rw [hT]
  have hcell : rcE g.2.1 g.2.2.1 ad (.inl (kd0, fs)) = .inr (kd0, (List.range N).map fun q => emb ad (san g.2.2.1 (fs q))) := by simp only [rcE, hN]
  rw [hcell] at h6
  have hset : rcE g.2.1 g.2.2.1 ad (.inl (kd0, updf fs k v')) = .inr (kd0, ((List.range N).map fun q => emb ad (san g.2.2.1 (fs q))).set k (emb ad v)) := by
    simp only [rcE, hN]
    rw [range_map_set (k := k) N _ _ (emb ad v) ?_ (fun q hq => ?_)]
    · simp only [updf, if_true, hvv]
    · simp only [updf, if_neg hq]
  have hgo : ∀ (H1 : Heap) (locs1 : List Loc), va_at B.1 vwCl (ad (8, j, 0), .inr (kd0, ((List.range N).map fun q => emb ad (san g.2.2.1 (fs q))).set k (emb ad v))) H1 → (∀ q : Nat, q ≠ ad (8, j, 0) → H1[q]? = H[q]?) → va_S B.2.2.1 s.heap H1 locs1 → W p l e R s m args below meth c0 H1 locs1 cells slots Q (F0 m (pc + 3) ls (rest.map (emb ad))) := by
    intro H1 locs1 g1 g2 g3
    refine kk.2 fx ad H1 locs1 ls cells slots ⟨?_, h1.2⟩ g3 h3 (by rw [hcst]; exact h4) (by rw [hcst]; exact h5)
    rw [hB]
    refine Wd_setR hW0 hj ?_ g2
    rw [hset]
    exact g1
  cases hf : (T k).2.2.2 with
  | false =>
    exact put_one (T := T) (A := B.2.2.1) O1.1 O1.2.1 O1.2.2.2.2.1 hin ty0 hty hnm O1.2.2.2.1 O1.2.2.2.2.2.1 h6.1 h6.2 h2 hc k hk (ref := rf) (by rw [e2, e3]; exact O1.2.2.2.2.1 _ hlink) (by rw [← e1]; exact fun _ h => h) hf (hty k hk) (hnf ad).1 (hnf ad).2 (by rw [fld_len]; exact hk) hd hgo
  | true =>
    have hown : rf = own := hfin.resolve_left (by rw [hf]; decide)
    have hPw := va_P1 h6.1
    have hDw : va_D B.2.2.1 [(ad (8, j, 0), (.inr (kd0, (List.range N).map fun q => emb ad (san g.2.2.1 (fs q))) : va_E))] := ⟨fun a b p q ha hb _ => by
      have z1 : a < 1 := (List.getElem?_eq_some_iff.mp ha).1
      have z2 : b < 1 := (List.getElem?_eq_some_iff.mp hb).1
      omega, fun a q ha => by
      have z1 : a < 1 := (List.getElem?_eq_some_iff.mp ha).1
      rw [show a = 0 by omega] at ha
      cases ha
      exact h6.2⟩
    exact put_oneF (T := T) (A := B.2.2.1) O1.1 O1.2.1 O1.2.2.2.2.1 hin ty0 hty hnm O1.2.2.2.1 O1.2.2.2.2.2.1 h6.1 h6.2 h2 hc k hk (ref := rf) (by rw [e2, e3]; exact O1.2.2.2.2.1 _ hlink) (by rw [← e1]; exact fun _ h => h) hf hnam (by rw [e1]; exact hown) (hty k hk) (hnf ad).1 (hnf ad).2 (by rw [fld_len]; exact hk) hd hgo
/-- 'a[j] = x' of a raw array of numbers -/
theorem J_iastR (O : CK l0 X B g cc own F L) (hR : rawOK E) {j n : Nat} {a : Nat → Int32} (hj : (eR E)[j]? = some (.inr (0, n, .inl a))) {q x : Int32} (hq : vp_in q n) (hd : decode cc pc = .ok (.iastore, 1))
    (kk : rawOK (upR E ((eR E).set j (.inr (0, n, .inl (upd a q.toNatClampNeg x))))) → J X B (upR E ((eR E).set j (.inr (0, n, .inl (upd a q.toNatClampNeg x)))), κ) (pc + 1) lv rest) : J X B (E, κ) pc lv (.inl (.int x) :: .inl (.int q) :: .inr (some (8, j, 0)) :: rest) := by
  have kk := kk (rawOK_set hR trivial)
  obtain ⟨OO, hB, hCst, hD⟩ := O
  obtain ⟨p0, l, e, R, s, m, args, below, meth, c0, Q⟩ := X
  have hcst : B.2.2.2.2.1 (upR E ((eR E).set j (.inr (0, n, .inl (upd a q.toNatClampNeg x)))), κ) = B.2.2.2.2.1 (E, κ) := by rw [hCst]
  refine ⟨by rw [← hcst]; exact kk.1, fun fx ad H locs ls cells slots h1 h2 h3 h4 h5 => ?_⟩
  have O1 := (OO fx).1
  have hW0 := h1.1
  rw [hB] at hW0
  have h6 := hW0.1 _ _ (ct_8 hj)
  refine W.iast O1.1 O1.2.1 h6.1 ((O1.2.2.2.2.2.1.2 0 _ rfl).1 n (fun q => .int (a q))) (fun q => by cases q) (by show ¬ (q < 0 ∨ (arrV _ _ _).slots.size ≤ _); rw [arrV_size]; exact hq) rfl rfl hd fun H1 g1 z oq => ?_
  refine kk.2 fx ad H1 _ ls cells slots ⟨?_, h1.2⟩ (h2.put z oq h6.2) h3 (by rw [hcst]; exact h4) (by rw [hcst]; exact h5)
  rw [hB]
  refine Wd_setR hW0 hj ?_ oq
  show H1[ad (8, j, 0)]? = some (vp_cell _ _)
  rw [g1]
  rw [vp_cell_i, vp_cell_i, arrV_store]
  congr 2
  funext z
  by_cases hz : z = q.toNatClampNeg
  · subst hz; simp [updV, upd]
  · simp [updV, upd, hz]
/-- a constructor's call -/
theorem J_callI (O : CK l0 X B g cc own F L) (hKP : KPok B E) {y : MethodName} {b : ByteArray} {mL fr lo index n : Nat} {p0 : Pl} (hC : Con l0 y b mL none fr lo (.inr (some p0) :: as) (E, κ) (E', κ') none) (hst : st0 = as.reverse ++ .inr (some p0) :: rest) (hy1 : y.name = "<init>")
    (w1 : Cond.methodLink own index y ∈ gwl ∨ Cond.methodLinkNest own index y "GuestHall" ∈ nwl) (w2 : Cond.instanceMethod y ∈ gwl) (w4 : Cond.initialized y.cls ∈ gwl) (w5 : Cond.code y b mL none ∈ gwl) (hpd : y.cls ≠ "java/lang/invoke/MethodHandle" ∧ y.cls ≠ "java/lang/invoke/VarHandle" ∧ (parseMethodDescriptor y.desc).map (fun d => d.parameters.length) = some n) (hn : as.length = n)
    (hR : fr + 1 ≤ F ∧ 8 + (mL + 11) + lo ≤ L) (hrc : rest.all cat1 = true) (hrl : rest.length ≤ 8) (hlv : ∀ q ∈ lv, Stab E q.2) (hrs : ∀ v ∈ rest, Stab E v) (hd : decode cc pc = .ok (.invokespecial index, 3))
    (kk : J X B (E', κ') (pc + 3) lv rest) : J X B (E, κ) pc lv st0 := by
  refine J_core O hKP (r := none) (hC.1 X) hlv hrs (fun p l e R s m args below meth c0 Q hX O1 ad H locs ls cells slots h1 h2 h3 h4 h5 => ?_) kk
  subst hX
  obtain ⟨-, hB, hCst, hD⟩ := O
  obtain ⟨hMO, hST, hSH, hF, hL, hl0, -⟩ := id O1
  subst hl0; subst hst
  have hmap : (as.reverse ++ .inr (some p0) :: rest).map (emb ad) = (as.map (emb ad)).reverse ++ Value.ref (ad p0) :: rest.map (emb ad) := by
    rw [List.map_append, List.map_reverse]; rfl
  have hgood : ∀ w ∈ (Cond.code y b mL none :: gwl), w ∈ gwl := by
    intro w hw
    rcases List.mem_cons.mp hw with rfl | hw <;> assumption
  rw [hmap]
  rcases w1 with w1' | w1'
  · exact ⟨_, va_runI (b := ad p0) (As := as.map (emb ad)) (n := n) ⟨hMO.1, hMO.2.1, hMO.2.2.1, hMO.2.2.2.1, hMO.2.2.2.2.1⟩ (hC.2 g ad H.size) (cwI n hMO.2.2.2.2.1 (goodIn_gwl hgood) rfl rfl rfl (hMO.2.2.2.2.1 _ w4) (hMO.2.2.2.2.1 _ w1') (hMO.2.2.2.2.1 _ w2) hy1 hpd (by rw [hF, hL]; exact hR))
      ⟨PcC.blind, PcC_of O1 hB hD h1 h2⟩ rfl (by rw [List.length_map]; exact hn) h3 rfl (by rw [cat_sum ad rest hrc]; show 2 * 0 + _ ≤ 8; omega) hd ⟨h4, h5⟩⟩
  · exact ⟨_, va_runIN (b := ad p0) (As := as.map (emb ad)) (n := n) (host := "GuestHall") ⟨hMO.1, hMO.2.1, hMO.2.2.1, hMO.2.2.2.1, hMO.2.2.2.2.1⟩ (hC.2 g ad H.size) ⟨va_cnB n hMO.2.2.2.2.1 (goodIn_gwl hgood) rfl rfl rfl (hST.1 _ w1') (hMO.2.2.2.2.1 _ w4) hpd (by rw [hF, hL]; exact hR), hy1, hMO.2.2.2.2.1 _ w2⟩
      ⟨PcC.blind, PcC_of O1 hB hD h1 h2⟩ rfl (by rw [List.length_map]; exact hn) h3 rfl (by rw [cat_sum ad rest hrc]; show 2 * 0 + _ ≤ 8; omega) hd ⟨h4, h5⟩⟩
/-! places get other names: what was made becomes a member's parts -/
def rnA (ρ : Pl → Pl) : AV → AV
  | .inr (some p) => .inr (some (ρ p))
  | v => v
theorem emb_rn (ρ : Pl → Pl) (ad : Pl → Nat) (v : AV) : emb ad (rnA ρ v) = emb (fun p => ad (ρ p)) v := by
  match v with
  | .inl _ => rfl
  | .inr none => rfl
  | .inr (some _) => rfl
theorem J_rename (O : CK l0 X B g cc own F L) {E0 : EE} (hKP : KPok B E0) (ρ : Pl → Pl) (hfix : ∀ f i c : Nat, liveC E0 f i c = true → kd f c ≠ 21 → ρ (f, i, c) = (f, i, c)) (hcost : kC κ' = kC κ) (hct : ∀ (ca : Nat → ClassId) (e0 : Nat) (ad : Pl → Nat) (p : Pl) (e : va_E), ctC ca e0 (fun p => ad (ρ p)) (E', κ') p = some e → ctC ca e0 ad (E, κ) (ρ p) = some e)
    (hinj : ∀ (ca : Nat → ClassId) (e0 : Nat) (ad : Pl → Nat) (p q : Pl) (e e' : va_E), ctC ca e0 ad (E', κ') p = some e → ctC ca e0 ad (E', κ') q = some e' → ρ p = ρ q → p = q) {lv' : List (Nat × AV)} {st' : List AV} (hl : lv = lv'.map fun q => (q.1, rnA ρ q.2)) (hs : st0 = st'.map (rnA ρ)) (kk : J X B (E', κ') pc lv' st') : J X B (E, κ) pc lv st0 := by
  obtain ⟨OO, hB, hCst, hD⟩ := O
  obtain ⟨p, l, e, R, s, m, args, below, meth, c0, Q⟩ := X
  have hcst : B.2.2.2.2.1 (E', κ') = B.2.2.2.2.1 (E, κ) := by rw [hCst]; exact hcost
  refine ⟨by rw [← hcst]; exact kk.1, fun fx ad H locs ls cells slots h1 h2 h3 h4 h5 => ?_⟩
  subst hl; subst hs
  have hW0 := h1.1
  rw [hB] at hW0
  have hgo := kk.2 fx (fun p => ad (ρ p)) H locs ls cells slots ⟨?_, hKP ad _ h1.2 fun f i c hl hk => by show ad (ρ (f, i, c)) = _; rw [hfix f i c hl hk]⟩ h2 ?_ (by rw [hcst]; exact h4) (by rw [hcst]; exact h5)
  · have e1 : (st'.map (rnA ρ)).map (emb ad) = st'.map (emb fun p => ad (ρ p)) := by
      rw [List.map_map]; exact List.map_congr_left fun v _ => emb_rn ρ ad v
    rw [e1]
    exact hgo
  · rw [hB]
    refine ⟨fun p e hp => hW0.1 (ρ p) e (hct _ _ _ _ _ hp), fun p q e e' hp hq hpq => ?_⟩
    exact hinj _ _ _ _ _ _ _ hp hq (hW0.2 _ _ _ _ (hct _ _ _ _ _ hp) (hct _ _ _ _ _ hq) hpq)
  · have e1 : (lv'.map fun q => (q.1, rnA ρ q.2)).map (eml ad) = lv'.map (eml fun p => ad (ρ p)) := by
      rw [List.map_map]; exact List.map_congr_left fun v _ => by show (v.1, _) = (v.1, _); rw [emb_rn ρ ad v.2]
    rw [e1] at h3
    exact h3
end RAWROWS
