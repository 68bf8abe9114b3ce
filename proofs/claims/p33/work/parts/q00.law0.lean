/-! THE LAW: rows of its own -/
/-- the table of handlers that a body has -/
def XT (hh : List (Nat × Nat × Nat × Nat)) (X : MX) : Prop := match X with
  | (_, _, _, _, _, _, _, _, _, c, _) => c.exceptionTable.toList = tableOf hh
/-- the script's cell, which nobody writes -/
def LWX (b L : Nat) (xs : Nat → Int32) (A : Nat → Prop) (X : MX) : Prop := match X with
  | (_, _, _, _, s, _, _, _, _, _, _) => va_X b L xs s s.heap ∧ b < s.heap.size ∧ ¬ A b
section LAW0
variable {l0 : Launch} {X : MX} {B : BX (EE × K)} {g : GP} {cc : ByteArray} {own : String} {F Lo : Nat} {E E' : EE} {κ κ' : K} {pc : Nat} {lv : List (Nat × AV)} {rest st0 as : List AV} {f i c : Nat}
theorem J_sld (O : CK l0 X B g cc own F Lo) {b L : Nat} {xs : Nat → Int32} (hs : B.2.2.2.2.2.2.2.2 X → LWX b L xs B.2.2.1 X) {j : Int32} (hj : vp_in j L) (hd : decode cc pc = .ok (.iaload, 1)) (kk : J X B (E, κ) (pc + 1) lv (.inl (.int (xs j.toNatClampNeg)) :: rest)) : J X B (E, κ) pc lv (.inl (.int j) :: .inl (.ref b) :: rest) := by
  obtain ⟨OO, hB, hCst, hD⟩ := O
  obtain ⟨p0, l, e, R, s, m, args, below, meth, c0, Q⟩ := X
  refine ⟨kk.1, fun fx ad H locs ls cells slots h1 h2 h3 h4 h5 => ?_⟩
  have O1 := (OO fx).1
  obtain ⟨q1, q2, q3⟩ := hs fx
  exact va_sld O1.1 O1.2.1 q1 q2 q3 h2 hj hd (kk.2 fx ad H locs ls cells slots h1 h2 h3 h4 h5)
theorem J_slen (O : CK l0 X B g cc own F Lo) {b L : Nat} {xs : Nat → Int32} (hs : B.2.2.2.2.2.2.2.2 X → LWX b L xs B.2.2.1 X) (hd : decode cc pc = .ok (.arraylength, 1)) (kk : J X B (E, κ) (pc + 1) lv (.inl (.int (nI L)) :: rest)) : J X B (E, κ) pc lv (.inl (.ref b) :: rest) := by
  obtain ⟨OO, hB, hCst, hD⟩ := O
  obtain ⟨p0, l, e, R, s, m, args, below, meth, c0, Q⟩ := X
  refine ⟨kk.1, fun fx ad H locs ls cells slots h1 h2 h3 h4 h5 => ?_⟩
  have O1 := (OO fx).1
  obtain ⟨q1, q2, q3⟩ := hs fx
  exact va_slen O1.1 O1.2.1 q1 q2 q3 h2 hd (kk.2 fx ad H locs ls cells slots h1 h2 h3 h4 h5)
end LAW0
/-! CONTRACTS of bodies with handlers, that return whatever happens -/
def ConW (l : Launch) (y : MethodName) (b : ByteArray) (mL : Nat) (ret : Option FieldType) (hh : List (Nat × Nat × Nat × Nat)) (fr lo : Nat) (as : List AV) (x x' : EE × K) (r : Option AV) : Prop :=
  (MX → (kC x.2).1 ≤ (kC x'.2).1 ∧ (kC x.2).2 ≤ (kC x'.2).2) ∧ ∀ (g : GP) (ad : Pl → Nat) (sz : Nat),
    Met l y (Cond.codeWith y b mL ret hh :: gwl) ({ frames := fr, cells := (kC x'.2).1 - (kC x.2).1, slots := (kC x'.2).2 - (kC x.2).2, locals := lo }) (PcC g ad x sz as) (QcC g ad x sz x' r) ((kC x'.2).1 - (kC x.2).1) ((kC x'.2).2 - (kC x.2).2) (Aof g ad x sz)
set_option maxHeartbeats 1000000 in
theorem ConW_of {l : Launch} {y : MethodName} {b : ByteArray} {mL : Nat} {ret : Option FieldType} {hh : List (Nat × Nat × Nat × Nat)} {fr lo : Nat} {as : List AV} {x x' : EE × K} {r : Option AV} (hfl : l.stackTraces = false) (hy : plainName y.cls = true) (hlen : as.length ≤ mL) (hcat : as.all cat1 = true) (hret : RetOK ret r)
    (body : ∀ (X : MX) (B : BX (EE × K)) (g : GP), CK l X B g b y.cls fr lo → KPok B x.1 → B.2.2.2.1 = mL → (B.2.2.2.2.2.2.2.2 X → XT hh X) → EndOK X B b x' r → J X B x 0 (argl 0 as) []) : ConW l y b mL ret hh fr lo as x x' r := by
  refine ⟨fun X => ?_, fun g ad sz => ?_⟩
  · exact (body X (Bof ((fun _ => 0, fun _ _ => 0), fun _ => 0, (0, 0, 0)) (fun _ => 0) x 0 mL (kC x'.2) (fun _ => False)) ((fun _ => 0, fun _ _ => 0), fun _ => 0, (0, 0, 0)) ⟨fun o => o.elim, rfl, rfl, rfl⟩ kpok rfl (fun o => o.elim) (end_false rfl (fun o => o) r)).1
  · refine va_MetW (cc := b) (maxL := mL) (ret := ret) (hh := hh) hy rfl ?_
    intro p e s m args below meth c s₁ B0 hml hv
    obtain ⟨rfl, hsz, hK, hST, hSH, hWd⟩ := hv
    have hts := atoms_spec (ws := Cond.codeWith y b mL ret hh :: gwl) B0.pre
    have htab : c.exceptionTable.toList = tableOf hh := vx_table (x := y) B0 (hts _ List.mem_cons_self)
    have hmono := (body (p, l, e, { frames := 0, cells := 0, slots := 0, locals := 0 }, s, m, #[], below, meth, c, fun _ => True) (Bof ((fun _ => 0, fun _ _ => 0), fun _ => 0, (0, 0, 0)) (fun _ => 0) x 0 mL (kC x'.2) (fun _ => False)) ((fun _ => 0, fun _ _ => 0), fun _ => 0, (0, 0, 0)) ⟨fun o => o.elim, rfl, rfl, rfl⟩ kpok rfl (fun o => o.elim) (end_false rfl (fun o => o) r)).1
    have hm1 : (kC x.2).1 ≤ (kC x'.2).1 := hmono.1
    have hm2 : (kC x.2).2 ≤ (kC x'.2).2 := hmono.2
    have hl := lv_entry (as.map (emb ad)) (n := mL) (by rw [lg_len ad as hcat]; exact hlen)
    rw [lv_argl ad as 0 hcat] at hl
    rw [lg_entry_eq]
    generalize hfx : (fun X : MX => MO X (Bof g ad x sz mL (kC x'.2) (fun _ => True)) g.2.1 b y.cls ∧ QN g ad x sz x' r ret X ∧ CX l X (Bof g ad x sz mL (kC x'.2) (fun _ => True)) g b y.cls fr lo ∧ XT hh X) = fx
    have hX : fx (p, l, e, { frames := fr, cells := (kC x'.2).1 - (kC x.2).1, slots := (kC x'.2).2 - (kC x.2).2, locals := lo }, s, m, (as.map (emb ad)).toArray, below, meth, c, MQ below (QcC g ad x sz x' r) (as.map (emb ad)).toArray s ((kC x'.2).1 - (kC x.2).1) ((kC x'.2).2 - (kC x.2).2) (Aof g ad x sz)) := by
      have hMO : MO (p, l, e, ({ frames := fr, cells := (kC x'.2).1 - (kC x.2).1, slots := (kC x'.2).2 - (kC x.2).2, locals := lo } : Room), s, m, (as.map (emb ad)).toArray, below, meth, c, MQ below (QcC g ad x sz x' r) (as.map (emb ad)).toArray s ((kC x'.2).1 - (kC x.2).1) ((kC x'.2).2 - (kC x.2).2) (Aof g ad x sz)) (Bof g ad x sz mL (kC x'.2) (fun _ => True)) g.2.1 b y.cls :=
        ⟨B0.exec, B0.bytes, hml, findClass_of_methodNamed B0.named, fun w hw => hts w (List.mem_cons_of_mem _ hw), hK, B0.notSynchronized, fun q hq => Or.inr (by rw [← hsz]; exact hq), by show (kC x.2).1 + ((kC x'.2).1 - (kC x.2).1) = _; exact Nat.add_sub_cancel' hm1, by show (kC x.2).2 + ((kC x'.2).2 - (kC x.2).2) = _; exact Nat.add_sub_cancel' hm2⟩
      rw [← hfx]
      exact ⟨hMO, ⟨rfl, B0.returns, hsz⟩, ⟨hMO, hST, ⟨by rw [← hsz] at hSH; rw [← hsz]; exact hSH, rfl, rfl, rfl, hfl⟩⟩, htab⟩
    have hMOfx : ∀ X, fx X → MO X (Bof g ad x sz mL (kC x'.2) fx) g.2.1 b y.cls ∧ QN g ad x sz x' r ret X := by
      intro X h; rw [← hfx] at h; exact ⟨h.1, h.2.1⟩
    have hCX : ∀ X, fx X → CX l X (Bof g ad x sz mL (kC x'.2) fx) g b y.cls fr lo := by
      intro X h; rw [← hfx] at h; exact h.2.2.1
    have hXT : ∀ X, fx X → XT hh X := by
      intro X h; rw [← hfx] at h; exact h.2.2.2
    have hJ := fun X : MX => body X (Bof g ad x sz mL (kC x'.2) fx) g ⟨hCX X, rfl, rfl, rfl⟩ kpok rfl (hXT X) (end_true (X := X) (b := b) (own := y.cls) hret hMOfx)
    exact (hJ _).2 hX ad s.heap [] _ 0 0 ⟨hWd, fun _ _ _ _ _ => rfl⟩ va_S.rf hl rfl rfl
section CALLH
variable {l0 : Launch} {X : MX} {B : BX (EE × K)} {g : GP} {cc : ByteArray} {own : String} {F L : Nat} {E E' : EE} {κ κ' : K} {pc : Nat} {lv : List (Nat × AV)} {st0 rest as : List AV}
/-- a handler of the table for what is thrown: past the rows ahead of it -/
def HOK (own : String) (hh : List (Nat × Nat × Nat × Nat)) (pc : Nat) (s : String) (h : Nat) : Prop :=
  ∃ (pre : List ExceptionTableEntry) (x : ExceptionTableEntry) (suf : List ExceptionTableEntry), tableOf hh = pre ++ x :: suf ∧ (∀ z ∈ pre, z.catchType ≠ 0 ∧ ∃ nm : String, Cond.classLink own z.catchType nm ∈ gwl ∧ (s, nm) ∈ ncs) ∧ covers x pc = true ∧ x.catchType ≠ 0 ∧ (∃ nm : String, Cond.classLink own x.catchType nm ∈ gwl ∧ Cond.castable s nm ∈ nwl) ∧ x.handlerPc = h
theorem J_coreXH (O : CK l0 X B g cc own F L) (hKP : KPok B E) {r : Option AV ⊕ String} (hmono : (kC κ).1 ≤ (kC κ').1 ∧ (kC κ).2 ≤ (kC κ').2) (hlv : ∀ q ∈ lv, Stab E q.2) (hrs : ∀ v ∈ rest, Stab E v)
    (hrun : ∀ (p : Program) (l : Launch) (e : Env) (R : Room) (s : State) (m : MethodId) (args : Array Value) (below : List Frame) (meth : Method) (c : Code) (Q : State → Prop), X = (p, l, e, R, s, m, args, below, meth, c, Q) → CX l0 X B g cc own F L →
      ∀ (ad : Pl → Nat) (H : Heap) (locs : List Loc) (ls : Array Slot) (cells slots : Nat), Wd B.1 B.2.1 B.2.2.1 ad (E, κ) H → va_S B.2.2.1 s.heap H locs → ls.size = B.2.2.2.1 → cells + ((kC κ').1 - (kC κ).1) ≤ R.cells → slots + ((kC κ').2 - (kC κ).2) ≤ R.slots →
      ∃ a : Array Value, vx_Run p l e R s m args below meth c H locs cells slots ((kC κ').1 - (kC κ).1) ((kC κ').2 - (kC κ).2) (F0 m pc ls (st0.map (emb ad))) (rest.map (emb ad)) (QcX g ad (E, κ) H.size (E', κ') r a) (XcX g ad (E, κ) H.size (E', κ') r) (Aof g ad (E, κ) H.size))
    {hh : List (Nat × Nat × Nat × Nat)} (hxt : B.2.2.2.2.2.2.2.2 X → XT hh X)
    (kx : ∀ s : String, r = .inr s → ∃ h : Nat, HOK own hh pc s h ∧ ∀ q : Nat, J X B (E', κ') h lv [.inl (.ref q)])
    (kk : ∀ v : Option AV, r = .inl v → J X B (E', κ') (pc + 3) lv (v.toList ++ rest)) : J X B (E, κ) pc lv st0 := by
  obtain ⟨OO, hB, hCst, hD⟩ := O
  obtain ⟨p, l, e, R, s, m, args, below, meth, c, Q⟩ := X
  have c1 : B.2.2.2.2.1 (E, κ) = kC κ := by rw [hCst]
  have c2 : B.2.2.2.2.1 (E', κ') = kC κ' := by rw [hCst]
  have kk1 : (kC κ').1 ≤ B.2.2.2.2.2.2.1.1 ∧ (kC κ').2 ≤ B.2.2.2.2.2.2.1.2 := by
    cases r with
    | inl v => have h := (kk v rfl).1; rw [c2] at h; exact h
    | inr z => obtain ⟨_, _, h⟩ := kx z rfl; have h := (h 0).1; rw [c2] at h; exact h
  refine ⟨by rw [c1]; exact ⟨Nat.le_trans hmono.1 kk1.1, Nat.le_trans hmono.2 kk1.2⟩, fun fx ad H locs ls cells slots h1 h2 h3 h4 h5 => ?_⟩
  rw [c1] at h4 h5
  have O1 := OO fx
  obtain ⟨hb1, hb2⟩ := O1.1.2.2.2.2.2.2.2.2
  obtain ⟨a, hr⟩ := hrun p l e R s m args below meth c Q rfl O1 ad H locs ls cells slots h1.1 h2 h3.1 (by have := kk1.1; omega) (by have := kk1.2; omega)
  have hW0 : Wd g.1 (ctC g.2.1 g.2.2.1) B.2.2.1 ad (E, κ) H := by rw [← hD, ← hB]; exact h1.1
  have hsub := Aof.sub hW0 h2.1 O1.1.2.2.2.2.2.2.2.1
  intro T hT X0
  rcases hr T hT X0 with ⟨v, st₀, t, T', Ls, h0, X', hL, e1, e2, hQr, hst⟩ | ⟨q, st₀, t, T', Ls, En, ce, h0, X', hL, e1, e2, hXr, hce, hcv, hcl, hst⟩
  · cases r with
    | inr _ => exact hQr.elim
    | inl r =>
      obtain ⟨⟨ad', hkeep, hv, hW'⟩, hz, hk⟩ := hQr
      have hv' : v = r.map (emb ad') := by injection hv
      subst hv'
      rw [h0] at hz hk
      have hS' : va_S B.2.2.1 s.heap T'.heap (locs ++ Ls) := ⟨Nat.le_trans h2.1 (by rw [e1]; exact hz), fun q g1 g2 => by rw [e1, hk q (Nat.lt_of_lt_of_le g1 h2.1) (fun z => g2 (hsub q z))]; exact h2.2.1 q g1 g2, fun q hq => by
        rcases List.mem_append.mp hq with h | h
        · exact h2.2.2 q h
        · exact hsub _ (hL q h)⟩
      have hmap : (r.toList ++ rest).map (emb ad') = (r.map (emb ad')).toList ++ rest.map (emb ad) := by
        rw [List.map_append, Stab_map hkeep hrs]
        cases r <;> rfl
      have hW2 : Wd B.1 B.2.1 B.2.2.1 ad' (E', κ') T'.heap := by rw [hD, hB, e1]; exact hW'.wide hsub
      have hgo := (kk r rfl).2 fx ad' T'.heap (locs ++ Ls) ls (cells + ((kC κ').1 - (kC κ).1)) (slots + ((kC κ').2 - (kC κ).2)) ⟨hW2, hKP ad ad' h1.2 hkeep⟩ hS' (by rw [Stab_mapl hkeep hlv]; exact h3) (by rw [c2]; have := hmono.1; omega) (by rw [c2]; have := hmono.2; omega)
      rw [hmap] at hgo
      obtain ⟨t2, a1, b1⟩ := hgo T' rfl X'
      exact ⟨t2, hst t2 a1, b1⟩
  · cases r with
    | inl _ => exact hXr.elim
    | inr z =>
      obtain ⟨rfl, ⟨ad', hkeep, hW'⟩, hz, hk⟩ := hXr
      obtain ⟨h, ⟨pre, x, suf, t1, t2, t3, t4, ⟨nm, t5, t6⟩, t7⟩, t8⟩ := kx En rfl
      subst t7
      rw [h0] at hz hk
      have hS' : va_S B.2.2.1 s.heap T'.heap (locs ++ Ls) := ⟨Nat.le_trans h2.1 (by rw [e1]; exact hz), fun q g1 g2 => by rw [e1, hk q (Nat.lt_of_lt_of_le g1 h2.1) (fun z => g2 (hsub q z))]; exact h2.2.1 q g1 g2, fun q hq => by
        rcases List.mem_append.mp hq with h | h
        · exact h2.2.2 q h
        · exact hsub _ (hL q h)⟩
      have hW2 : Wd B.1 B.2.1 B.2.2.1 ad' (E', κ') T'.heap := by rw [hD, hB, e1]; exact hW'.wide hsub
      have hgo := (t8 q).2 fx ad' T'.heap (locs ++ Ls) ls (cells + ((kC κ').1 - (kC κ).1)) (slots + ((kC κ').2 - (kC κ).2)) ⟨hW2, hKP ad ad' h1.2 hkeep⟩ hS' (by rw [Stab_mapl hkeep hlv]; exact h3) (by rw [c2]; have := hmono.1; omega) (by rw [c2]; have := hmono.2; omega)
      have hout := vx_catch (own := own) (name := nm) (E := En) (ce := ce) (q := q) (rest := rest.map (emb ad)) (pc := pc) O1.1.2.2.2.1 pre x suf (by rw [← t1]; exact hxt fx) (fun z hz => by
          obtain ⟨u1, nm2, u2, u3⟩ := t2 z hz
          exact Or.inr ⟨u1, nm2, O1.1.2.2.2.2.1 _ u2, O1.2.1.2.2.2.2 _ u3⟩) t3 t4 (O1.1.2.2.2.2.1 _ t5) (va_Nw.use rfl (O1.2.1.1 _ t6)) (by rw [e1]; exact hce) hcv hcl hgo
      obtain ⟨t9, a1, b1⟩ := hout T' rfl X'
      exact ⟨t9, hst.trans a1, b1⟩
theorem J_callVXH (O : CK l0 X B g cc own F L) (hKP : KPok B E) {y : MethodName} {b : ByteArray} {mL fr lo index n : Nat} {ret : Option FieldType} {f i c : Nat} {r : Option AV ⊕ String} (hC : ConX l0 y b mL ret fr lo (.inr (some (f, i, c)) :: as) (E, κ) (E', κ') r) (hst : st0 = as.reverse ++ .inr (some (f, i, c)) :: rest)
    {kd0 : Nat} (hkd : kd f c = kd0) (hl : liveC E f i c = true) {T : u_T} {N : Nat} (hc : vwCl[kd0]? = some (y.cls, T, N)) (h12 : kd0 < 12)
    (w1 : Cond.methodLink own index y ∈ gwl) (w2 : Cond.instanceMethod y ∈ gwl) (w3 : Cond.selects y.cls y y ∈ gwl) (w4 : Cond.initialized y.cls ∈ gwl) (w5 : Cond.code y b mL ret ∈ gwl) (hpd : y.cls ≠ "java/lang/invoke/MethodHandle" ∧ y.cls ≠ "java/lang/invoke/VarHandle" ∧ (parseMethodDescriptor y.desc).map (fun d => d.parameters.length) = some n) (hn : as.length = n)
    (hR : fr + 1 ≤ F ∧ 8 + (mL + 11) + lo ≤ L) (hrc : rest.all cat1 = true) (hrl : rest.length ≤ 8) (hlv : ∀ q ∈ lv, Stab E q.2) (hrs : ∀ v ∈ rest, Stab E v) (hd : decode cc pc = .ok (.invokevirtual index, 3)) {hh : List (Nat × Nat × Nat × Nat)} (hxt : B.2.2.2.2.2.2.2.2 X → XT hh X)
    (kx : ∀ s : String, r = .inr s → ∃ h : Nat, HOK own hh pc s h ∧ ∀ q : Nat, J X B (E', κ') h lv [.inl (.ref q)]) (kk : ∀ v : Option AV, r = .inl v → J X B (E', κ') (pc + 3) lv (v.toList ++ rest)) : J X B (E, κ) pc lv st0 := by
  refine J_coreXH O hKP (hC.1 X) hlv hrs (fun p l e R s m args below meth c0 Q hX O1 ad H locs ls cells slots h1 h2 h3 h4 h5 => ?_) hxt kx kk
  subst hX
  obtain ⟨-, hB, hCst, hD⟩ := O
  obtain ⟨hMO, hST, hSH, hF, hL, hl0, -⟩ := id O1
  subst hl0; subst hst
  have h6 := (h1.at hB (ctC_live hl)).1
  rw [cell_obj (by rw [hkd]; exact h12), hkd] at h6
  have hmap : (as.reverse ++ .inr (some (f, i, c)) :: rest).map (emb ad) = (as.map (emb ad)).reverse ++ Value.ref (ad (f, i, c)) :: rest.map (emb ad) := by
    rw [List.map_append, List.map_reverse]; rfl
  have hgood : ∀ w ∈ wsV own index y.cls y (Cond.code y b mL ret :: gwl), w ∈ gwl := by
    intro w hw
    simp only [wsV, List.mem_append, List.mem_cons, List.not_mem_nil, or_false] at hw
    rcases hw with (rfl | rfl | rfl | rfl) | rfl | hw <;> assumption
  rw [hmap]
  exact ⟨_, vx_runV (As := as.map (emb ad)) (n := n) ⟨hMO.1, hMO.2.1, hMO.2.2.1, hMO.2.2.2.1, hMO.2.2.2.2.1⟩ (hC.2 g ad H.size) (cwV n hMO.2.2.2.2.1 (goodIn_gwl hgood) rfl rfl rfl ⟨rfl, hpd⟩ (by rw [hF, hL]; exact hR))
    ⟨PcC.blind, va_recv hMO.2.2.2.2.2.1 (va_P1 h6) hc (q0 := 0) rfl, PcC_of O1 hB hD h1 h2⟩ rfl (by rw [List.length_map]; exact hn) h3 rfl (by rw [cat_sum ad rest hrc]; show 2 * 0 + _ ≤ 8; omega) hd ⟨h4, h5⟩⟩
/-- a call of a static method with handlers -/
theorem J_callSW (O : CK l0 X B g cc own F L) (hKP : KPok B E) {y : MethodName} {b : ByteArray} {mL fr lo index n : Nat} {ret : Option FieldType} {hh : List (Nat × Nat × Nat × Nat)} {r : Option AV} (hC : ConW l0 y b mL ret hh fr lo as (E, κ) (E', κ') r) (hst : st0 = as.reverse ++ rest)
    (w1 : Cond.methodLink own index y ∈ gwl) (w2 : Cond.static y ∈ gwl) (w4 : Cond.initialized y.cls ∈ gwl) (w5 : Cond.codeWith y b mL ret hh ∈ gwl) (hpd : y.cls ≠ "java/lang/invoke/MethodHandle" ∧ y.cls ≠ "java/lang/invoke/VarHandle" ∧ (parseMethodDescriptor y.desc).map (fun d => d.parameters.length) = some n) (hn : as.length = n)
    (hR : fr + 1 ≤ F ∧ 8 + (mL + 11) + lo ≤ L) (hrc : rest.all cat1 = true) (hrl : rest.length ≤ 8) (hlv : ∀ q ∈ lv, Stab E q.2) (hrs : ∀ v ∈ rest, Stab E v) (hd : decode cc pc = .ok (.invokestatic index, 3))
    (kk : J X B (E', κ') (pc + 3) lv (r.toList ++ rest)) : J X B (E, κ) pc lv st0 := by
  refine J_core O hKP (hC.1 X) hlv hrs (fun p l e R s m args below meth c0 Q hX O1 ad H locs ls cells slots h1 h2 h3 h4 h5 => ?_) kk
  subst hX
  obtain ⟨-, hB, hCst, hD⟩ := O
  obtain ⟨hMO, hST, hSH, hF, hL, hl0, -⟩ := id O1
  subst hl0; subst hst
  have hmap : (as.reverse ++ rest).map (emb ad) = (as.map (emb ad)).reverse ++ rest.map (emb ad) := by
    rw [List.map_append, List.map_reverse]
  have hgood : ∀ w ∈ va_wsS own index y (Cond.codeWith y b mL ret hh :: gwl), w ∈ gwl := by
    intro w hw
    simp only [va_wsS, List.mem_append, List.mem_cons, List.not_mem_nil, or_false] at hw
    rcases hw with (rfl | rfl | rfl) | rfl | hw <;> assumption
  rw [hmap]
  exact ⟨_, vx_runSW (hh := hh) (As := as.map (emb ad)) (n := n) ⟨hMO.1, hMO.2.1, hMO.2.2.1, hMO.2.2.2.1, hMO.2.2.2.2.1⟩ (hC.2 g ad H.size) (vx_cwSW n hMO.2.2.2.2.1 (goodIn_gwl hgood) rfl rfl rfl hpd (by rw [hF, hL]; exact hR))
    ⟨PcC.blind, PcC_of O1 hB hD h1 h2⟩ rfl (by rw [List.length_map]; exact hn) h3 rfl (by rw [cat_sum ad rest hrc]; show 2 * 0 + _ ≤ 8; omega) hd ⟨h4, h5⟩⟩
end CALLH