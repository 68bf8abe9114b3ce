/-! ENTRY, END AND CALLS over the store -/
def argl : Nat → List AV → List (Nat × AV)
  | _, [] => []
  | i, v :: vs => (i, v) :: argl (i + 1) vs
theorem lv_argl (ad : Pl → Nat) : ∀ (vs : List AV) (i : Nat), vs.all cat1 = true → lv_args i (vs.map (emb ad)) = (argl i vs).map (eml ad)
  | [], _, _ => rfl
  | v :: vs, i, h => by
    simp only [List.all_cons, Bool.and_eq_true] at h
    simp only [List.map_cons, lv_args, argl, cat1_emb ad h.1]
    rw [if_neg (by decide), lv_argl ad vs (i + 1) h.2]
theorem lg_len (ad : Pl → Nat) : ∀ vs : List AV, vs.all cat1 = true → (lg_sl (vs.map (emb ad))).length = vs.length
  | [], _ => rfl
  | v :: vs, h => by
    simp only [List.all_cons, Bool.and_eq_true] at h
    have h1 := lg_len ad vs h.2
    unfold lg_sl at h1 ⊢
    simp only [List.map_cons, List.flatMap_cons, cat1_emb ad h.1]
    rw [if_neg (by decide), List.length_append, h1, List.length_cons, List.length_cons, List.length_nil]
    omega
def EndOK (X : MX) (B : BX (EE × K)) (b : ByteArray) (x' : EE × K) : Option AV → Prop
  | none => ∀ (pc : Nat) (lv : List (Nat × AV)), decode b pc = .ok (.return_, 1) → J X B x' pc lv []
  | some (.inl (.int v)) => ∀ (pc : Nat) (lv : List (Nat × AV)), decode b pc = .ok (.ireturn, 1) → J X B x' pc lv [.inl (.int v)]
  | some (.inr o) => ∀ (pc : Nat) (lv : List (Nat × AV)), decode b pc = .ok (.areturn, 1) → J X B x' pc lv [.inr o]
  | _ => True
def RetOK (ret : Option FieldType) : Option AV → Prop
  | none => ret = none
  | some (.inl (.int v)) => ∃ ty, ret = some ty ∧ narrow ty (.int v) = .int v
  | some (.inr _) => ∃ n, ret = some (.object n)
  | _ => False
def Bof (g : GP) (ad : Pl → Nat) (x : EE × K) (sz mL : Nat) (nf : Nat × Nat) (fx : MX → Prop) : BX (EE × K) := (g.1, ctC g.2.1 g.2.2.1, Aof g ad x sz, mL, (fun y => kC y.2), kC x.2, nf, Keep x.1 ad, fx)
def QN (g : GP) (ad0 : Pl → Nat) (x0 : EE × K) (sz : Nat) (x' : EE × K) (r : Option AV) (ret : Option FieldType) (X : MX) : Prop := match X with
  | (_, _, _, R, s, _, args, below, meth, _, Q) => Q = MQ below (QcC g ad0 x0 sz x' r) args s R.cells R.slots (Aof g ad0 x0 sz) ∧ meth.sig.returnType = ret ∧ s.heap.size = sz
theorem end_false {X : MX} {B : BX (EE × K)} {b : ByteArray} {x' : EE × K} (h1 : B.2.2.2.2.1 x' = B.2.2.2.2.2.2.1) (h2 : ¬ B.2.2.2.2.2.2.2.2 X) : ∀ r : Option AV, EndOK X B b x' r := by
  have st : (B.2.2.2.2.1 x').1 ≤ B.2.2.2.2.2.2.1.1 ∧ (B.2.2.2.2.1 x').2 ≤ B.2.2.2.2.2.2.1.2 := by rw [h1]; exact ⟨Nat.le_refl _, Nat.le_refl _⟩
  intro r
  match r with
  | none => exact fun _ _ _ => ⟨st, fun o => absurd o h2⟩
  | some (.inl (.int v)) => exact fun _ _ _ => ⟨st, fun o => absurd o h2⟩
  | some (.inr o) => exact fun _ _ _ => ⟨st, fun o => absurd o h2⟩
  | some (.inl (.long v)) => trivial
  | some (.inl (.float v)) => trivial
  | some (.inl (.double v)) => trivial
  | some (.inl .null) => trivial
  | some (.inl (.ref v)) => trivial
  | some (.inl (.retAddr v)) => trivial
theorem end_true {X : MX} {g : GP} {ad0 : Pl → Nat} {x0 x' : EE × K} {sz mL : Nat} {fx : MX → Prop} {b : ByteArray} {own : String} {r : Option AV} {ret : Option FieldType} (hret : RetOK ret r)
    (hfx : ∀ X, fx X → MO X (Bof g ad0 x0 sz mL (kC x'.2) fx) g.2.1 b own ∧ QN g ad0 x0 sz x' r ret X) : EndOK X (Bof g ad0 x0 sz mL (kC x'.2) fx) b x' r := by
  obtain ⟨p, l, e, R, s, m, args, below, meth, c, Q⟩ := X
  have st : ((fun y : EE × K => kC y.2) x').1 ≤ (kC x'.2).1 ∧ ((fun y : EE × K => kC y.2) x').2 ≤ (kC x'.2).2 := ⟨Nat.le_refl _, Nat.le_refl _⟩
  match r, hret, hfx with
  | none, hret, hfx =>
    refine fun pc lv hd => ⟨st, fun o ad H locs ls cells slots h1 h2 h3 h4 h5 => ?_⟩
    obtain ⟨O, hQ, hr, hz⟩ := hfx _ o
    obtain ⟨hx, hb, -, -, -, -, hlk, -, hc1, hc2⟩ := O
    have e1 : cells = R.cells := by have h4' : (kC x0.2).1 + cells = (kC x'.2).1 := h4; have hc1' : (kC x0.2).1 + R.cells = (kC x'.2).1 := hc1; omega
    have e2 : slots = R.slots := by have h5' : (kC x0.2).2 + slots = (kC x'.2).2 := h5; have hc2' : (kC x0.2).2 + R.slots = (kC x'.2).2 := hc2; omega
    subst e1; subst e2; subst hQ
    exact W.vret hx hb (hr.trans hret) (fun t ht _ => ⟨⟨ad, h1.2, rfl, by rw [ht]; exact h1.1⟩, va_S.F h2 ht⟩) h2.2.2 hd hlk
  | some (.inl (.int v)), hret, hfx =>
    refine fun pc lv hd => ⟨st, fun o ad H locs ls cells slots h1 h2 h3 h4 h5 => ?_⟩
    obtain ⟨O, hQ, hr, hz⟩ := hfx _ o
    obtain ⟨hx, hb, -, -, -, -, hlk, -, hc1, hc2⟩ := O
    obtain ⟨ty, hty, hn⟩ := hret
    have e1 : cells = R.cells := by have h4' : (kC x0.2).1 + cells = (kC x'.2).1 := h4; have hc1' : (kC x0.2).1 + R.cells = (kC x'.2).1 := hc1; omega
    have e2 : slots = R.slots := by have h5' : (kC x0.2).2 + slots = (kC x'.2).2 := h5; have hc2' : (kC x0.2).2 + R.slots = (kC x'.2).2 := hc2; omega
    subst e1; subst e2; subst hQ
    exact W.zret hx hb (hr.trans hty) hn (fun t ht _ => ⟨⟨ad, h1.2, rfl, by rw [ht]; exact h1.1⟩, va_S.F h2 ht⟩) h2.2.2 hd hlk
  | some (.inr w), hret, hfx =>
    refine fun pc lv hd => ⟨st, fun o ad H locs ls cells slots h1 h2 h3 h4 h5 => ?_⟩
    obtain ⟨O, hQ, hr, hz⟩ := hfx _ o
    obtain ⟨hx, hb, -, -, -, -, hlk, -, hc1, hc2⟩ := O
    obtain ⟨n, hty⟩ := hret
    have e1 : cells = R.cells := by have h4' : (kC x0.2).1 + cells = (kC x'.2).1 := h4; have hc1' : (kC x0.2).1 + R.cells = (kC x'.2).1 := hc1; omega
    have e2 : slots = R.slots := by have h5' : (kC x0.2).2 + slots = (kC x'.2).2 := h5; have hc2' : (kC x0.2).2 + R.slots = (kC x'.2).2 := hc2; omega
    subst e1; subst e2; subst hQ
    exact W.aret hx hb (hr.trans hty) (Or.inl ⟨n, rfl⟩) (by cases w <;> first | exact Or.inl rfl | exact Or.inr ⟨_, rfl⟩) (fun t ht _ => ⟨⟨ad, h1.2, rfl, by rw [ht]; exact h1.1⟩, va_S.F h2 ht⟩) h2.2.2 hd hlk
  | some (.inl (.long v)), hret, hfx => trivial
  | some (.inl (.float v)), hret, hfx => trivial
  | some (.inl (.double v)), hret, hfx => trivial
  | some (.inl .null), hret, hfx => trivial
  | some (.inl (.ref v)), hret, hfx => trivial
  | some (.inl (.retAddr v)), hret, hfx => trivial
set_option maxHeartbeats 1000000 in
/-- a contract out of its body's walk -/
theorem Con_of {l : Launch} {y : MethodName} {b : ByteArray} {mL : Nat} {ret : Option FieldType} {fr lo : Nat} {as : List AV} {x x' : EE × K} {r : Option AV} (hfl : l.stackTraces = false) (hy : plainName y.cls = true) (hlen : as.length ≤ mL) (hcat : as.all cat1 = true) (hret : RetOK ret r)
    (body : ∀ (X : MX) (B : BX (EE × K)) (g : GP), CK X B g b y.cls fr lo → B.2.2.2.1 = mL → EndOK X B b x' r → J X B x 0 (argl 0 as) []) : Con l y b mL ret fr lo as x x' r := by
  refine ⟨fun X => ?_, fun g ad sz => ?_⟩
  · exact (body X (Bof ((fun _ => 0, fun _ _ => 0), fun _ => 0, (0, 0, 0)) (fun _ => 0) x 0 mL (kC x'.2) (fun _ => False)) ((fun _ => 0, fun _ _ => 0), fun _ => 0, (0, 0, 0)) ⟨fun o => o.elim, rfl, rfl, rfl⟩ rfl (end_false rfl (fun o => o) r)).1
  · refine Met.ofW (cc := b) (maxL := mL) (ret := ret) hy rfl ?_
    intro p e s m args below meth c s₁ B0 hml hv
    obtain ⟨rfl, hsz, hK, hST, hSH, hWd⟩ := hv
    have hts := atoms_spec (ws := Cond.code y b mL ret :: gwl) B0.pre
    have hmono := (body (p, l, e, { frames := 0, cells := 0, slots := 0, locals := 0 }, s, m, #[], below, meth, c, fun _ => True) (Bof ((fun _ => 0, fun _ _ => 0), fun _ => 0, (0, 0, 0)) (fun _ => 0) x 0 mL (kC x'.2) (fun _ => False)) ((fun _ => 0, fun _ _ => 0), fun _ => 0, (0, 0, 0)) ⟨fun o => o.elim, rfl, rfl, rfl⟩ rfl (end_false rfl (fun o => o) r)).1
    have hm1 : (kC x.2).1 ≤ (kC x'.2).1 := hmono.1
    have hm2 : (kC x.2).2 ≤ (kC x'.2).2 := hmono.2
    have hl := lv_entry (as.map (emb ad)) (n := mL) (by rw [lg_len ad as hcat]; exact hlen)
    rw [lv_argl ad as 0 hcat] at hl
    rw [lg_entry_eq]
    generalize hfx : (fun X : MX => MO X (Bof g ad x sz mL (kC x'.2) (fun _ => True)) g.2.1 b y.cls ∧ QN g ad x sz x' r ret X ∧ CX X (Bof g ad x sz mL (kC x'.2) (fun _ => True)) g b y.cls fr lo) = fx
    have hX : fx (p, l, e, { frames := fr, cells := (kC x'.2).1 - (kC x.2).1, slots := (kC x'.2).2 - (kC x.2).2, locals := lo }, s, m, (as.map (emb ad)).toArray, below, meth, c, MQ below (QcC g ad x sz x' r) (as.map (emb ad)).toArray s ((kC x'.2).1 - (kC x.2).1) ((kC x'.2).2 - (kC x.2).2) (Aof g ad x sz)) := by
      have hMO : MO (p, l, e, ({ frames := fr, cells := (kC x'.2).1 - (kC x.2).1, slots := (kC x'.2).2 - (kC x.2).2, locals := lo } : Room), s, m, (as.map (emb ad)).toArray, below, meth, c, MQ below (QcC g ad x sz x' r) (as.map (emb ad)).toArray s ((kC x'.2).1 - (kC x.2).1) ((kC x'.2).2 - (kC x.2).2) (Aof g ad x sz)) (Bof g ad x sz mL (kC x'.2) (fun _ => True)) g.2.1 b y.cls :=
        ⟨B0.exec, B0.bytes, hml, findClass_of_methodNamed B0.named, fun w hw => hts w (List.mem_cons_of_mem _ hw), hK, B0.notSynchronized, fun q hq => Or.inr (by rw [← hsz]; exact hq), by show (kC x.2).1 + ((kC x'.2).1 - (kC x.2).1) = _; exact Nat.add_sub_cancel' hm1, by show (kC x.2).2 + ((kC x'.2).2 - (kC x.2).2) = _; exact Nat.add_sub_cancel' hm2⟩
      rw [← hfx]
      exact ⟨hMO, ⟨rfl, B0.returns, hsz⟩, hMO, hST, hSH, rfl, rfl, hfl⟩
    have hMOfx : ∀ X, fx X → MO X (Bof g ad x sz mL (kC x'.2) fx) g.2.1 b y.cls ∧ QN g ad x sz x' r ret X := by
      intro X h; rw [← hfx] at h; exact ⟨h.1, h.2.1⟩
    have hCX : ∀ X, fx X → CX X (Bof g ad x sz mL (kC x'.2) fx) g b y.cls fr lo := by
      intro X h; rw [← hfx] at h; exact h.2.2
    have hJ := fun X : MX => body X (Bof g ad x sz mL (kC x'.2) fx) g ⟨hCX X, rfl, rfl, rfl⟩ rfl (end_true (X := X) (b := b) (own := y.cls) hret hMOfx)
    exact (hJ _).2 hX ad s.heap [] _ 0 0 ⟨hWd, fun _ _ _ _ _ => rfl⟩ va_S.rf hl rfl rfl
