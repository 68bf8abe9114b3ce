/-! ENTRY, END AND CALLS over the store -/
def argl : Nat → List AV → List (Nat × AV)
  | _, [] => []
  | i, v :: vs => (i, v) :: argl (i + 1) vs
theorem lv_argl (ad : Pl → Nat) : ∀ (vs : List AV) (i : Nat), vs.all cat1 = true → lv_args i (vs.map (emb ad)) = (argl i vs).map (eml ad)
  | [], _, _ => rfl
  | v :: vs, i, h => by
    simp only [List.all_cons, Bool.and_eq_true] at h
    simp only [List.map_cons, lv_args, argl, cat1_emb ad h.1]
    rw [if_neg (by decide), lv_argl ad vs (i + 1) h.2]
theorem lg_len (ad : Pl → Nat) : ∀ vs : List AV, vs.all cat1 = true → (lg_sl (vs.map (emb ad))).length = vs.length
  | [], _ => rfl
  | v :: vs, h => by
    simp only [List.all_cons, Bool.and_eq_true] at h
    have h1 := lg_len ad vs h.2
    unfold lg_sl at h1 ⊢
    simp only [List.map_cons, List.flatMap_cons, cat1_emb ad h.1]
    rw [if_neg (by decide), List.length_append, h1, List.length_cons, List.length_cons, List.length_nil]
    omega
def EndOK (X : MX) (B : BX (EE × K)) (b : ByteArray) (x' : EE × K) : Option AV → Prop
  | none => ∀ (pc : Nat) (lv : List (Nat × AV)), decode b pc = .ok (.return_, 1) → J X B x' pc lv []
  | some (.inl (.int v)) => ∀ (pc : Nat) (lv : List (Nat × AV)), decode b pc = .ok (.ireturn, 1) → J X B x' pc lv [.inl (.int v)]
  | some (.inr o) => ∀ (pc : Nat) (lv : List (Nat × AV)), decode b pc = .ok (.areturn, 1) → J X B x' pc lv [.inr o]
  | _ => True
def RetOK (ret : Option FieldType) : Option AV → Prop
  | none => ret = none
  | some (.inl (.int v)) => ∃ ty, ret = some ty ∧ narrow ty (.int v) = .int v
  | some (.inr _) => ∃ rt, ret = some rt ∧ ((∃ n, rt = .object n) ∨ ∃ t, rt = .array t)
  | _ => False
def Bof (g : GP) (ad : Pl → Nat) (x : EE × K) (sz mL : Nat) (nf : Nat × Nat) (fx : MX → Prop) : BX (EE × K) := (g.1, ctC g.2.1 g.2.2.1, Aof g ad x sz, mL, (fun y => kC y.2), kC x.2, nf, Keep x.1 ad, fx)
/-- the maps of addresses that may come go on being so behind a call -/
def KPok (B : BX (EE × K)) (E : EE) : Prop := ∀ ad ad' : Pl → Nat, B.2.2.2.2.2.2.2.1 ad → Keep E ad ad' → B.2.2.2.2.2.2.2.1 ad'
theorem kpok {g : GP} {ad : Pl → Nat} {x : EE × K} {sz mL : Nat} {nf : Nat × Nat} {fx : MX → Prop} : KPok (Bof g ad x sz mL nf fx) x.1 := fun _ _ h1 h2 f i c hl hk => (h2 f i c hl hk).trans (h1 f i c hl hk)
def QN (g : GP) (ad0 : Pl → Nat) (x0 : EE × K) (sz : Nat) (x' : EE × K) (r : Option AV) (ret : Option FieldType) (X : MX) : Prop := match X with
  | (_, _, _, R, s, _, args, below, meth, _, Q) => Q = MQ below (QcC g ad0 x0 sz x' r) args s R.cells R.slots (Aof g ad0 x0 sz) ∧ meth.sig.returnType = ret ∧ s.heap.size = sz
theorem end_false {X : MX} {B : BX (EE × K)} {b : ByteArray} {x' : EE × K} (h1 : B.2.2.2.2.1 x' = B.2.2.2.2.2.2.1) (h2 : ¬ B.2.2.2.2.2.2.2.2 X) : ∀ r : Option AV, EndOK X B b x' r := by
  have st : (B.2.2.2.2.1 x').1 ≤ B.2.2.2.2.2.2.1.1 ∧ (B.2.2.2.2.1 x').2 ≤ B.2.2.2.2.2.2.1.2 := by rw [h1]; exact ⟨Nat.le_refl _, Nat.le_refl _⟩
  intro r
  match r with
  | none => exact fun _ _ _ => ⟨st, fun o => absurd o h2⟩
  | some (.inl (.int v)) => exact fun _ _ _ => ⟨st, fun o => absurd o h2⟩
  | some (.inr o) => exact fun _ _ _ => ⟨st, fun o => absurd o h2⟩
  | some (.inl (.long v)) => trivial
  | some (.inl (.float v)) => trivial
  | some (.inl (.double v)) => trivial
  | some (.inl .null) => trivial
  | some (.inl (.ref v)) => trivial
  | some (.inl (.retAddr v)) => trivial
theorem end_true {X : MX} {g : GP} {ad0 : Pl → Nat} {x0 x' : EE × K} {sz mL : Nat} {fx : MX → Prop} {b : ByteArray} {own : String} {r : Option AV} {ret : Option FieldType} (hret : RetOK ret r)
    (hfx : ∀ X, fx X → MO X (Bof g ad0 x0 sz mL (kC x'.2) fx) g.2.1 b own ∧ QN g ad0 x0 sz x' r ret X) : EndOK X (Bof g ad0 x0 sz mL (kC x'.2) fx) b x' r := by
  obtain ⟨p, l, e, R, s, m, args, below, meth, c, Q⟩ := X
  have st : ((fun y : EE × K => kC y.2) x').1 ≤ (kC x'.2).1 ∧ ((fun y : EE × K => kC y.2) x').2 ≤ (kC x'.2).2 := ⟨Nat.le_refl _, Nat.le_refl _⟩
  match r, hret, hfx with
  | none, hret, hfx =>
    refine fun pc lv hd => ⟨st, fun o ad H locs ls cells slots h1 h2 h3 h4 h5 => ?_⟩
    obtain ⟨O, hQ, hr, hz⟩ := hfx _ o
    obtain ⟨hx, hb, -, -, -, -, hlk, -, hc1, hc2⟩ := O
    have e1 : cells = R.cells := by have h4' : (kC x0.2).1 + cells = (kC x'.2).1 := h4; have hc1' : (kC x0.2).1 + R.cells = (kC x'.2).1 := hc1; omega
    have e2 : slots = R.slots := by have h5' : (kC x0.2).2 + slots = (kC x'.2).2 := h5; have hc2' : (kC x0.2).2 + R.slots = (kC x'.2).2 := hc2; omega
    subst e1; subst e2; subst hQ
    exact W.vret hx hb (hr.trans hret) (fun t ht _ => ⟨⟨ad, h1.2, rfl, by rw [ht]; exact h1.1⟩, va_S.F h2 ht⟩) h2.2.2 hd hlk
  | some (.inl (.int v)), hret, hfx =>
    refine fun pc lv hd => ⟨st, fun o ad H locs ls cells slots h1 h2 h3 h4 h5 => ?_⟩
    obtain ⟨O, hQ, hr, hz⟩ := hfx _ o
    obtain ⟨hx, hb, -, -, -, -, hlk, -, hc1, hc2⟩ := O
    obtain ⟨ty, hty, hn⟩ := hret
    have e1 : cells = R.cells := by have h4' : (kC x0.2).1 + cells = (kC x'.2).1 := h4; have hc1' : (kC x0.2).1 + R.cells = (kC x'.2).1 := hc1; omega
    have e2 : slots = R.slots := by have h5' : (kC x0.2).2 + slots = (kC x'.2).2 := h5; have hc2' : (kC x0.2).2 + R.slots = (kC x'.2).2 := hc2; omega
    subst e1; subst e2; subst hQ
    exact W.zret hx hb (hr.trans hty) hn (fun t ht _ => ⟨⟨ad, h1.2, rfl, by rw [ht]; exact h1.1⟩, va_S.F h2 ht⟩) h2.2.2 hd hlk
  | some (.inr w), hret, hfx =>
    refine fun pc lv hd => ⟨st, fun o ad H locs ls cells slots h1 h2 h3 h4 h5 => ?_⟩
    obtain ⟨O, hQ, hr, hz⟩ := hfx _ o
    obtain ⟨hx, hb, -, -, -, -, hlk, -, hc1, hc2⟩ := O
    obtain ⟨rt, hty, hrt⟩ := hret
    have e1 : cells = R.cells := by have h4' : (kC x0.2).1 + cells = (kC x'.2).1 := h4; have hc1' : (kC x0.2).1 + R.cells = (kC x'.2).1 := hc1; omega
    have e2 : slots = R.slots := by have h5' : (kC x0.2).2 + slots = (kC x'.2).2 := h5; have hc2' : (kC x0.2).2 + R.slots = (kC x'.2).2 := hc2; omega
    subst e1; subst e2; subst hQ
    exact W.aret hx hb (hr.trans hty) hrt (by cases w <;> first | exact Or.inl rfl | exact Or.inr ⟨_, rfl⟩) (fun t ht _ => ⟨⟨ad, h1.2, rfl, by rw [ht]; exact h1.1⟩, va_S.F h2 ht⟩) h2.2.2 hd hlk
  | some (.inl (.long v)), hret, hfx => trivial
  | some (.inl (.float v)), hret, hfx => trivial
  | some (.inl (.double v)), hret, hfx => trivial
  | some (.inl .null), hret, hfx => trivial
  | some (.inl (.ref v)), hret, hfx => trivial
  | some (.inl (.retAddr v)), hret, hfx => trivial
set_option maxHeartbeats 1000000 in
/-- a contract out of its body's walk -/
theorem Con_of {l : Launch} {y : MethodName} {b : ByteArray} {mL : Nat} {ret : Option FieldType} {fr lo : Nat} {as : List AV} {x x' : EE × K} {r : Option AV} (hfl : l.stackTraces = false) (hy : plainName y.cls = true) (hlen : as.length ≤ mL) (hcat : as.all cat1 = true) (hret : RetOK ret r)
    (body : ∀ (X : MX) (B : BX (EE × K)) (g : GP), CK l X B g b y.cls fr lo → KPok B x.1 → B.2.2.2.1 = mL → EndOK X B b x' r → J X B x 0 (argl 0 as) []) : Con l y b mL ret fr lo as x x' r := by
  refine ⟨fun X => ?_, fun g ad sz => ?_⟩
  · exact (body X (Bof ((fun _ => 0, fun _ _ => 0), fun _ => 0, (0, 0, 0)) (fun _ => 0) x 0 mL (kC x'.2) (fun _ => False)) ((fun _ => 0, fun _ _ => 0), fun _ => 0, (0, 0, 0)) ⟨fun o => o.elim, rfl, rfl, rfl⟩ kpok rfl (end_false rfl (fun o => o) r)).1
  · refine Met.ofW (cc := b) (maxL := mL) (ret := ret) hy rfl ?_
    intro p e s m args below meth c s₁ B0 hml hv
    obtain ⟨rfl, hsz, hK, hST, hSH, hWd⟩ := hv
    have hts := atoms_spec (ws := Cond.code y b mL ret :: gwl) B0.pre
    have hmono := (body (p, l, e, { frames := 0, cells := 0, slots := 0, locals := 0 }, s, m, #[], below, meth, c, fun _ => True) (Bof ((fun _ => 0, fun _ _ => 0), fun _ => 0, (0, 0, 0)) (fun _ => 0) x 0 mL (kC x'.2) (fun _ => False)) ((fun _ => 0, fun _ _ => 0), fun _ => 0, (0, 0, 0)) ⟨fun o => o.elim, rfl, rfl, rfl⟩ kpok rfl (end_false rfl (fun o => o) r)).1
    have hm1 : (kC x.2).1 ≤ (kC x'.2).1 := hmono.1
    have hm2 : (kC x.2).2 ≤ (kC x'.2).2 := hmono.2
    have hl := lv_entry (as.map (emb ad)) (n := mL) (by rw [lg_len ad as hcat]; exact hlen)
    rw [lv_argl ad as 0 hcat] at hl
    rw [lg_entry_eq]
    generalize hfx : (fun X : MX => MO X (Bof g ad x sz mL (kC x'.2) (fun _ => True)) g.2.1 b y.cls ∧ QN g ad x sz x' r ret X ∧ CX l X (Bof g ad x sz mL (kC x'.2) (fun _ => True)) g b y.cls fr lo) = fx
    have hX : fx (p, l, e, { frames := fr, cells := (kC x'.2).1 - (kC x.2).1, slots := (kC x'.2).2 - (kC x.2).2, locals := lo }, s, m, (as.map (emb ad)).toArray, below, meth, c, MQ below (QcC g ad x sz x' r) (as.map (emb ad)).toArray s ((kC x'.2).1 - (kC x.2).1) ((kC x'.2).2 - (kC x.2).2) (Aof g ad x sz)) := by
      have hMO : MO (p, l, e, ({ frames := fr, cells := (kC x'.2).1 - (kC x.2).1, slots := (kC x'.2).2 - (kC x.2).2, locals := lo } : Room), s, m, (as.map (emb ad)).toArray, below, meth, c, MQ below (QcC g ad x sz x' r) (as.map (emb ad)).toArray s ((kC x'.2).1 - (kC x.2).1) ((kC x'.2).2 - (kC x.2).2) (Aof g ad x sz)) (Bof g ad x sz mL (kC x'.2) (fun _ => True)) g.2.1 b y.cls :=
        ⟨B0.exec, B0.bytes, hml, findClass_of_methodNamed B0.named, fun w hw => hts w (List.mem_cons_of_mem _ hw), hK, B0.notSynchronized, fun q hq => Or.inr (by rw [← hsz]; exact hq), by show (kC x.2).1 + ((kC x'.2).1 - (kC x.2).1) = _; exact Nat.add_sub_cancel' hm1, by show (kC x.2).2 + ((kC x'.2).2 - (kC x.2).2) = _; exact Nat.add_sub_cancel' hm2⟩
      rw [← hfx]
      exact ⟨hMO, ⟨rfl, B0.returns, hsz⟩, hMO, hST, by rw [← hsz] at hSH; rw [← hsz]; exact hSH, rfl, rfl, rfl, hfl⟩
    have hMOfx : ∀ X, fx X → MO X (Bof g ad x sz mL (kC x'.2) fx) g.2.1 b y.cls ∧ QN g ad x sz x' r ret X := by
      intro X h; rw [← hfx] at h; exact ⟨h.1, h.2.1⟩
    have hCX : ∀ X, fx X → CX l X (Bof g ad x sz mL (kC x'.2) fx) g b y.cls fr lo := by
      intro X h; rw [← hfx] at h; exact h.2.2
    have hJ := fun X : MX => body X (Bof g ad x sz mL (kC x'.2) fx) g ⟨hCX X, rfl, rfl, rfl⟩ kpok rfl (end_true (X := X) (b := b) (own := y.cls) hret hMOfx)
    exact (hJ _).2 hX ad s.heap [] _ 0 0 ⟨hWd, fun _ _ _ _ _ => rfl⟩ va_S.rf hl rfl rfl
theorem goodIn_gwl {ws : List Cond} (h : ∀ w ∈ ws, w ∈ gwl) : GoodIn gwl ws := fun w hw => ⟨h w hw, good_of_word (List.mem_filter.mp (h w hw)).2⟩
theorem cat_sum (ad : Pl → Nat) : ∀ rest : List AV, rest.all cat1 = true → ((rest.map (emb ad)).map fun v => v.category).sum = rest.length
  | [], _ => rfl
  | v :: vs, h => by
    simp only [List.all_cons, Bool.and_eq_true] at h
    simp only [List.map_cons, List.sum_cons, cat1_emb ad h.1, cat_sum ad vs h.2, List.length_cons]
    omega
section CALLS
variable {l0 : Launch} {X : MX} {B : BX (EE × K)} {g : GP} {cc : ByteArray} {own : String} {F L : Nat} {E E' : EE} {κ κ' : K} {pc : Nat} {lv : List (Nat × AV)} {st0 rest as : List AV} {r : Option AV}
/-- what a call leaves, told of the heap: W at the next instruction -/
theorem J_core (O : CK l0 X B g cc own F L) (hKP : KPok B E) (hmono : (kC κ).1 ≤ (kC κ').1 ∧ (kC κ).2 ≤ (kC κ').2) (hlv : ∀ q ∈ lv, Stab E q.2) (hrs : ∀ v ∈ rest, Stab E v)
    (hrun : ∀ (p : Program) (l : Launch) (e : Env) (R : Room) (s : State) (m : MethodId) (args : Array Value) (below : List Frame) (meth : Method) (c : Code) (Q : State → Prop), X = (p, l, e, R, s, m, args, below, meth, c, Q) → CX l0 X B g cc own F L →
      ∀ (ad : Pl → Nat) (H : Heap) (locs : List Loc) (ls : Array Slot) (cells slots : Nat), Wd B.1 B.2.1 B.2.2.1 ad (E, κ) H → va_S B.2.2.1 s.heap H locs → ls.size = B.2.2.2.1 → cells + ((kC κ').1 - (kC κ).1) ≤ R.cells → slots + ((kC κ').2 - (kC κ).2) ≤ R.slots →
      ∃ a : Array Value, va_Run p l e R s m args below meth c H locs cells slots ((kC κ').1 - (kC κ).1) ((kC κ').2 - (kC κ).2) (F0 m pc ls (st0.map (emb ad))) (rest.map (emb ad)) (QcC g ad (E, κ) H.size (E', κ') r a) (Aof g ad (E, κ) H.size))
    (kk : J X B (E', κ') (pc + 3) lv (r.toList ++ rest)) : J X B (E, κ) pc lv st0 := by
  obtain ⟨OO, hB, hCst, hD⟩ := O
  obtain ⟨p, l, e, R, s, m, args, below, meth, c, Q⟩ := X
  have c1 : B.2.2.2.2.1 (E, κ) = kC κ := by rw [hCst]
  have c2 : B.2.2.2.2.1 (E', κ') = kC κ' := by rw [hCst]
  have kk1 := kk.1
  rw [c2] at kk1
  refine ⟨by rw [c1]; exact ⟨Nat.le_trans hmono.1 kk1.1, Nat.le_trans hmono.2 kk1.2⟩, fun fx ad H locs ls cells slots h1 h2 h3 h4 h5 => ?_⟩
  rw [c1] at h4 h5
  have O1 := OO fx
  obtain ⟨hb1, hb2⟩ := O1.1.2.2.2.2.2.2.2.2
  obtain ⟨a, hr⟩ := hrun p l e R s m args below meth c Q rfl O1 ad H locs ls cells slots h1.1 h2 h3.1 (by have := kk1.1; omega) (by have := kk1.2; omega)
  have hW0 : Wd g.1 (ctC g.2.1 g.2.2.1) B.2.2.1 ad (E, κ) H := by rw [← hD, ← hB]; exact h1.1
  have hsub := Aof.sub hW0 h2.1 O1.1.2.2.2.2.2.2.2.1
  intro T hT X0
  obtain ⟨v, st₀, t, T', Ls, h0, X', hL, e1, e2, ⟨⟨ad', hkeep, hv, hW'⟩, hz, hk⟩, hst⟩ := hr T hT X0
  have hv' : v = r.map (emb ad') := by injection hv
  subst hv'
  rw [h0] at hz hk
  have hS' : va_S B.2.2.1 s.heap T'.heap (locs ++ Ls) := ⟨Nat.le_trans h2.1 (by rw [e1]; exact hz), fun q g1 g2 => by rw [e1, hk q (Nat.lt_of_lt_of_le g1 h2.1) (fun z => g2 (hsub q z))]; exact h2.2.1 q g1 g2, fun q hq => by
    rcases List.mem_append.mp hq with h | h
    · exact h2.2.2 q h
    · exact hsub _ (hL q h)⟩
  have hmap : (r.toList ++ rest).map (emb ad') = (r.map (emb ad')).toList ++ rest.map (emb ad) := by
    rw [List.map_append, Stab_map hkeep hrs]
    cases r <;> rfl
  have hW2 : Wd B.1 B.2.1 B.2.2.1 ad' (E', κ') T'.heap := by rw [hD, hB, e1]; exact hW'.wide hsub
  have hgo := kk.2 fx ad' T'.heap (locs ++ Ls) ls (cells + ((kC κ').1 - (kC κ).1)) (slots + ((kC κ').2 - (kC κ).2)) ⟨hW2, hKP ad ad' h1.2 hkeep⟩ hS' (by rw [Stab_mapl hkeep hlv]; exact h3) (by rw [c2]; have := hmono.1; omega) (by rw [c2]; have := hmono.2; omega)
  rw [hmap] at hgo
  obtain ⟨t2, a1, b1⟩ := hgo T' rfl X'
  exact ⟨t2, hst t2 a1, b1⟩
/-- what the callee's start asks, out of the caller's world -/
theorem PcC_of {p : Program} {l : Launch} {e : Env} {R : Room} {s : State} {m : MethodId} {args : Array Value} {below : List Frame} {meth : Method} {c : Code} {Q : State → Prop} (O : CX l0 (p, l, e, R, s, m, args, below, meth, c, Q) B g cc own F L) (hB : B.2.1 = ctC g.2.1 g.2.2.1) (hD : B.1 = g.1) {ad : Pl → Nat} {H : Heap} {locs : List Loc} (hW : Wd B.1 B.2.1 B.2.2.1 ad (E, κ) H) (hS : va_S B.2.2.1 s.heap H locs) {as' : List AV} :
    ∀ U : State, U.heap = H → s.WarmedH U.vm → PcC g ad (E, κ) H.size as' (as'.map (emb ad)).toArray U := by
  intro U hU hWm
  have hW0 : Wd g.1 (ctC g.2.1 g.2.2.1) B.2.2.1 ad (E, κ) H := by rw [← hD, ← hB]; exact hW
  have hsub := Aof.sub hW0 hS.1 O.1.2.2.2.2.2.2.2.1
  refine ⟨rfl, by rw [hU], ?_, ST.warm hWm O.2.1, ?_, by rw [hU]; exact hW0.narrow⟩
  · have h := O.1.2.2.2.2.2.1
    rw [hD] at h
    exact va_K.moved hWm.alike h
  · rw [hU]
    exact SH.moved hWm.alike ((O.2.2.1.kept hS.2.1).narrow hsub)
theorem J_callV (O : CK l0 X B g cc own F L) (hKP : KPok B E) {y : MethodName} {b : ByteArray} {mL fr lo index n : Nat} {ret : Option FieldType} {f i c : Nat} (hC : Con l0 y b mL ret fr lo (.inr (some (f, i, c)) :: as) (E, κ) (E', κ') r) (hst : st0 = as.reverse ++ .inr (some (f, i, c)) :: rest)
    {kd0 : Nat} (hkd : kd f c = kd0) (hl : liveC E f i c = true) {T : u_T} {N : Nat} (hc : vwCl[kd0]? = some (y.cls, T, N)) (h12 : kd0 < 12)
    (w1 : Cond.methodLink own index y ∈ gwl) (w2 : Cond.instanceMethod y ∈ gwl) (w3 : Cond.selects y.cls y y ∈ gwl) (w4 : Cond.initialized y.cls ∈ gwl) (w5 : Cond.code y b mL ret ∈ gwl) (hpd : y.cls ≠ "java/lang/invoke/MethodHandle" ∧ y.cls ≠ "java/lang/invoke/VarHandle" ∧ (parseMethodDescriptor y.desc).map (fun d => d.parameters.length) = some n) (hn : as.length = n)
    (hR : fr + 1 ≤ F ∧ 8 + (mL + 11) + lo ≤ L) (hrc : rest.all cat1 = true) (hrl : rest.length ≤ 8) (hlv : ∀ q ∈ lv, Stab E q.2) (hrs : ∀ v ∈ rest, Stab E v) (hd : decode cc pc = .ok (.invokevirtual index, 3))
    (kk : J X B (E', κ') (pc + 3) lv (r.toList ++ rest)) : J X B (E, κ) pc lv st0 := by
  refine J_core O hKP (hC.1 X) hlv hrs (fun p l e R s m args below meth c0 Q hX O1 ad H locs ls cells slots h1 h2 h3 h4 h5 => ?_) kk
  subst hX
  obtain ⟨-, hB, hCst, hD⟩ := O
  obtain ⟨hMO, hST, hSH, hF, hL, hl0, -⟩ := id O1
  subst hl0; subst hst
  have h6 := (h1.at hB (ctC_live hl)).1
  rw [cell_obj (by rw [hkd]; exact h12), hkd] at h6
  have hmap : (as.reverse ++ .inr (some (f, i, c)) :: rest).map (emb ad) = (as.map (emb ad)).reverse ++ Value.ref (ad (f, i, c)) :: rest.map (emb ad) := by
    rw [List.map_append, List.map_reverse]; rfl
  have hgood : ∀ w ∈ wsV own index y.cls y (Cond.code y b mL ret :: gwl), w ∈ gwl := by
    intro w hw
    simp only [wsV, List.mem_append, List.mem_cons, List.not_mem_nil, or_false] at hw
    rcases hw with (rfl | rfl | rfl | rfl) | rfl | hw <;> assumption
  rw [hmap]
  exact ⟨_, va_runV (As := as.map (emb ad)) (n := n) ⟨hMO.1, hMO.2.1, hMO.2.2.1, hMO.2.2.2.1, hMO.2.2.2.2.1⟩ (hC.2 g ad H.size) (cwV n hMO.2.2.2.2.1 (goodIn_gwl hgood) rfl rfl rfl ⟨rfl, hpd⟩ (by rw [hF, hL]; exact hR))
    ⟨PcC.blind, va_recv hMO.2.2.2.2.2.1 (va_P1 h6) hc (q0 := 0) rfl, PcC_of O1 hB hD h1 h2⟩ rfl (by rw [List.length_map]; exact hn) h3 rfl (by rw [cat_sum ad rest hrc]; show 2 * 0 + _ ≤ 8; omega) hd ⟨h4, h5⟩⟩
theorem J_callS (O : CK l0 X B g cc own F L) (hKP : KPok B E) {y : MethodName} {b : ByteArray} {mL fr lo index n : Nat} {ret : Option FieldType} (hC : Con l0 y b mL ret fr lo as (E, κ) (E', κ') r) (hst : st0 = as.reverse ++ rest)
    (w1 : Cond.methodLink own index y ∈ gwl) (w2 : Cond.static y ∈ gwl) (w4 : Cond.initialized y.cls ∈ gwl) (w5 : Cond.code y b mL ret ∈ gwl) (hpd : y.cls ≠ "java/lang/invoke/MethodHandle" ∧ y.cls ≠ "java/lang/invoke/VarHandle" ∧ (parseMethodDescriptor y.desc).map (fun d => d.parameters.length) = some n) (hn : as.length = n)
    (hR : fr + 1 ≤ F ∧ 8 + (mL + 11) + lo ≤ L) (hrc : rest.all cat1 = true) (hrl : rest.length ≤ 8) (hlv : ∀ q ∈ lv, Stab E q.2) (hrs : ∀ v ∈ rest, Stab E v) (hd : decode cc pc = .ok (.invokestatic index, 3))
    (kk : J X B (E', κ') (pc + 3) lv (r.toList ++ rest)) : J X B (E, κ) pc lv st0 := by
  refine J_core O hKP (hC.1 X) hlv hrs (fun p l e R s m args below meth c0 Q hX O1 ad H locs ls cells slots h1 h2 h3 h4 h5 => ?_) kk
  subst hX
  obtain ⟨-, hB, hCst, hD⟩ := O
  obtain ⟨hMO, hST, hSH, hF, hL, hl0, -⟩ := id O1
  subst hl0; subst hst
  have hmap : (as.reverse ++ rest).map (emb ad) = (as.map (emb ad)).reverse ++ rest.map (emb ad) := by
    rw [List.map_append, List.map_reverse]
  have hgood : ∀ w ∈ va_wsS own index y (Cond.code y b mL ret :: gwl), w ∈ gwl := by
    intro w hw
    simp only [va_wsS, List.mem_append, List.mem_cons, List.not_mem_nil, or_false] at hw
    rcases hw with (rfl | rfl | rfl) | rfl | hw <;> assumption
  rw [hmap]
  exact ⟨_, va_runS (As := as.map (emb ad)) (n := n) ⟨hMO.1, hMO.2.1, hMO.2.2.1, hMO.2.2.2.1, hMO.2.2.2.2.1⟩ (hC.2 g ad H.size) (va_cwS n hMO.2.2.2.2.1 (goodIn_gwl hgood) rfl rfl rfl hpd (by rw [hF, hL]; exact hR))
    ⟨PcC.blind, PcC_of O1 hB hD h1 h2⟩ rfl (by rw [List.length_map]; exact hn) h3 rfl (by rw [cat_sum ad rest hrc]; show 2 * 0 + _ ≤ 8; omega) hd ⟨h4, h5⟩⟩
/-- a private static method of a nest mate -/
theorem J_callSN (O : CK l0 X B g cc own F L) (hKP : KPok B E) {y : MethodName} {b : ByteArray} {mL fr lo index n : Nat} {ret : Option FieldType} {host : String} (hC : Con l0 y b mL ret fr lo as (E, κ) (E', κ') r) (hst : st0 = as.reverse ++ rest)
    (w1 : Cond.methodLinkNest own index y host ∈ nwl) (w2 : Cond.static y ∈ gwl) (w4 : Cond.initialized y.cls ∈ gwl) (w5 : Cond.code y b mL ret ∈ gwl) (hpd : y.cls ≠ "java/lang/invoke/MethodHandle" ∧ y.cls ≠ "java/lang/invoke/VarHandle" ∧ (parseMethodDescriptor y.desc).map (fun d => d.parameters.length) = some n) (hn : as.length = n)
    (hR : fr + 1 ≤ F ∧ 8 + (mL + 11) + lo ≤ L) (hrc : rest.all cat1 = true) (hrl : rest.length ≤ 8) (hlv : ∀ q ∈ lv, Stab E q.2) (hrs : ∀ v ∈ rest, Stab E v) (hd : decode cc pc = .ok (.invokestatic index, 3))
    (kk : J X B (E', κ') (pc + 3) lv (r.toList ++ rest)) : J X B (E, κ) pc lv st0 := by
  refine J_core O hKP (hC.1 X) hlv hrs (fun p l e R s m args below meth c0 Q hX O1 ad H locs ls cells slots h1 h2 h3 h4 h5 => ?_) kk
  subst hX
  obtain ⟨-, hB, hCst, hD⟩ := O
  obtain ⟨hMO, hST, hSH, hF, hL, hl0, -⟩ := id O1
  subst hl0; subst hst
  have hmap : (as.reverse ++ rest).map (emb ad) = (as.map (emb ad)).reverse ++ rest.map (emb ad) := by
    rw [List.map_append, List.map_reverse]
  have hgood : ∀ w ∈ (Cond.code y b mL ret :: gwl), w ∈ gwl := by
    intro w hw
    rcases List.mem_cons.mp hw with rfl | hw <;> assumption
  rw [hmap]
  exact ⟨_, va_runSN (As := as.map (emb ad)) (n := n) ⟨hMO.1, hMO.2.1, hMO.2.2.1, hMO.2.2.2.1, hMO.2.2.2.2.1⟩ (hC.2 g ad H.size) ⟨va_cnB n hMO.2.2.2.2.1 (goodIn_gwl hgood) rfl rfl rfl (hST.1 _ w1) (hMO.2.2.2.2.1 _ w4) hpd (by rw [hF, hL]; exact hR), hMO.2.2.2.2.1 _ w2, trivial⟩
    ⟨PcC.blind, PcC_of O1 hB hD h1 h2⟩ rfl (by rw [List.length_map]; exact hn) h3 rfl (by rw [cat_sum ad rest hrc]; show 2 * 0 + _ ≤ 8; omega) hd ⟨h4, h5⟩⟩
/-- a method of a class above, abstract there, found by the receiver -/
theorem J_callU (O : CK l0 X B g cc own F L) (hKP : KPok B E) {x y : MethodName} {b : ByteArray} {mL fr lo index n : Nat} {ret : Option FieldType} {f i c : Nat} {owner : String} (hC : Con l0 y b mL ret fr lo (.inr (some (f, i, c)) :: as) (E, κ) (E', κ') r) (hst : st0 = as.reverse ++ .inr (some (f, i, c)) :: rest)
    {kd0 : Nat} (hkd : kd f c = kd0) (hl : liveC E f i c = true) {T : u_T} {N : Nat} (hc : vwCl[kd0]? = some (y.cls, T, N)) (h12 : kd0 < 12)
    (w1 : Cond.methodLink own index x ∈ gwl) (w6 : Cond.sameMethod x.cls owner x.name x.desc ∈ gwl) (w2 : Cond.instanceMethod y ∈ gwl) (w3 : Cond.selects y.cls x y ∈ gwl) (w4 : Cond.initialized y.cls ∈ gwl) (w5 : Cond.code y b mL ret ∈ gwl) (w7 : Cond.declares ⟨owner, x.name, x.desc⟩ ∈ nwl) (hpd : owner ≠ "java/lang/invoke/MethodHandle" ∧ owner ≠ "java/lang/invoke/VarHandle" ∧ (parseMethodDescriptor x.desc).map (fun d => d.parameters.length) = some n) (hn : as.length = n)
    (hR : fr + 1 ≤ F ∧ 8 + (mL + 11) + lo ≤ L) (hrc : rest.all cat1 = true) (hrl : rest.length ≤ 8) (hlv : ∀ q ∈ lv, Stab E q.2) (hrs : ∀ v ∈ rest, Stab E v) (hd : decode cc pc = .ok (.invokevirtual index, 3))
    (kk : J X B (E', κ') (pc + 3) lv (r.toList ++ rest)) : J X B (E, κ) pc lv st0 := by
  refine J_core O hKP (hC.1 X) hlv hrs (fun p l e R s m args below meth c0 Q hX O1 ad H locs ls cells slots h1 h2 h3 h4 h5 => ?_) kk
  subst hX
  obtain ⟨-, hB, hCst, hD⟩ := O
  obtain ⟨hMO, hST, hSH, hF, hL, hl0, -⟩ := id O1
  subst hl0; subst hst
  have h6 := (h1.at hB (ctC_live hl)).1
  rw [cell_obj (by rw [hkd]; exact h12), hkd] at h6
  have hmap : (as.reverse ++ .inr (some (f, i, c)) :: rest).map (emb ad) = (as.map (emb ad)).reverse ++ Value.ref (ad (f, i, c)) :: rest.map (emb ad) := by
    rw [List.map_append, List.map_reverse]; rfl
  have hgood : ∀ w ∈ va_wsU own index y.cls owner x y (Cond.code y b mL ret :: gwl), w ∈ gwl := by
    intro w hw
    simp only [va_wsU, List.mem_append, List.mem_cons, List.not_mem_nil, or_false] at hw
    rcases hw with (rfl | rfl | rfl | rfl | rfl) | rfl | hw <;> assumption
  rw [hmap]
  exact ⟨_, va_runU (C := y.cls) (owner := owner) (As := as.map (emb ad)) (n := n) ⟨hMO.1, hMO.2.1, hMO.2.2.1, hMO.2.2.2.1, hMO.2.2.2.2.1⟩ (hC.2 g ad H.size) (va_cwA n hMO.2.2.2.2.1 (goodIn_gwl hgood) rfl rfl rfl (hST.1 _ w7) hpd (by rw [hF, hL]; exact hR))
    ⟨PcC.blind, va_recv hMO.2.2.2.2.2.1 (va_P1 h6) hc (q0 := 0) rfl, PcC_of O1 hB hD h1 h2⟩ rfl (by rw [List.length_map]; exact hn) h3 rfl (by rw [cat_sum ad rest hrc]; show 2 * 0 + _ ≤ 8; omega) hd ⟨h4, h5⟩⟩
end CALLS
