/-! TWO HALLS and the law's own row: the place p of the hall h is called (3 * p.1 + h, ..); the row of 12 numbers stands at (2, 0, 0). What has been spent is counted apart, so that two halls that do the same hold the same -/
abbrev S2 : Type := (Nat → EE × K) × Option (Nat → Int32) × (Nat × Nat)
def shP (h : Nat) (p : Pl) : Pl := (3 * p.1 + h, p.2)
/-- a hall's map of addresses -/
def adH (h : Nat) (ad : Pl → Nat) : Pl → Nat := fun p => ad (shP h p)
def ctM (ca : Nat → ClassId) (e0 : Nat) : CtF S2 := fun ad s p =>
  if p.1 % 3 < 2 then ctC ca e0 (adH (p.1 % 3) ad) (s.1 (p.1 % 3)) (p.1 / 3, p.2)
  else if p = (2, 0, 0) then s.2.1.map fun a => .inl (ca 0, 12, .inl a) else none
theorem sh_mod {h : Nat} (hh : h < 2) {p : Pl} : (shP h p).1 % 3 = h := by show (3 * p.1 + h) % 3 = h; omega
theorem sh_div {h : Nat} (hh : h < 2) {p : Pl} : ((shP h p).1 / 3, (shP h p).2) = p := Prod.ext (by show (3 * p.1 + h) / 3 = p.1; omega) rfl
theorem sh_of {p : Pl} : shP (p.1 % 3) (p.1 / 3, p.2) = p := Prod.ext (by show 3 * (p.1 / 3) + p.1 % 3 = p.1; omega) rfl
theorem ctM_h {ca : Nat → ClassId} {e0 : Nat} {ad : Pl → Nat} {s : S2} {h : Nat} (hh : h < 2) {p : Pl} : ctM ca e0 ad s (shP h p) = ctC ca e0 (adH h ad) (s.1 h) p := by
  unfold ctM
  rw [sh_mod hh, if_pos hh, sh_div hh]
theorem ctM_n {ca : Nat → ClassId} {e0 : Nat} {ad : Pl → Nat} {s : S2} : ctM ca e0 ad s (2, 0, 0) = s.2.1.map fun a => .inl (ca 0, 12, .inl a) := by
  unfold ctM
  rw [if_neg (by decide), if_pos rfl]
/-- what a place of the two halls' world is -/
theorem ctM_cases {ca : Nat → ClassId} {e0 : Nat} {ad : Pl → Nat} {s : S2} {p : Pl} {e : va_E} (h : ctM ca e0 ad s p = some e) : (∃ k q, k < 2 ∧ p = shP k q ∧ ctC ca e0 (adH k ad) (s.1 k) q = some e) ∨ (p = (2, 0, 0) ∧ ∃ a, s.2.1 = some a ∧ e = .inl (ca 0, 12, .inl a)) := by
  unfold ctM at h
  split at h
  · rename_i h2
    exact Or.inl ⟨p.1 % 3, (p.1 / 3, p.2), h2, sh_of.symm, h⟩
  · split at h
    · rename_i h2
      refine Or.inr ⟨h2, ?_⟩
      cases ha : s.2.1 with
      | none => rw [ha] at h; cases h
      | some a => rw [ha] at h; cases h; exact ⟨a, rfl, rfl⟩
    · cases h
theorem shP_inj {h k : Nat} {p q : Pl} (hh : h < 2) (hk : k < 2) (e : shP h p = shP k q) : h = k ∧ p = q := by
  have e1 : 3 * p.1 + h = 3 * q.1 + k := congrArg (fun z : Pl => z.1) e
  have e2 : (shP h p).2 = (shP k q).2 := by rw [e]
  exact ⟨by omega, Prod.ext (by omega) e2⟩
theorem shP_n {h : Nat} {p : Pl} (hh : h < 2) : shP h p ≠ (2, 0, 0) := fun e => by
  have e1 : 3 * p.1 + h = 2 := congrArg (fun z : Pl => z.1) e
  omega
/-- one hall's world out of both -/
theorem WdM_hall {D : va_G} {ca : Nat → ClassId} {e0 : Nat} {A : Nat → Prop} {ad : Pl → Nat} {s : S2} {H : Heap} {h : Nat} (hh : h < 2) (hW : Wd D (ctM ca e0) A ad s H) : Wd D (ctC ca e0) A (adH h ad) (s.1 h) H := by
  refine ⟨fun p e he => ?_, fun p q e e' hp hq hpq => ?_⟩
  · exact hW.1 (shP h p) e (by rw [ctM_h hh]; exact he)
  · exact (shP_inj hh hh (hW.2 (shP h p) (shP h q) e e' (by rw [ctM_h hh]; exact hp) (by rw [ctM_h hh]; exact hq) hpq)).2
/-- y is told by what x tells -/
def Cov (x y : EE × K) : Prop := ∀ (ca : Nat → ClassId) (e0 : Nat) (ad : Pl → Nat) (p : Pl) (e : va_E), ctC ca e0 ad y p = some e → ctC ca e0 ad x p = some e
theorem Cov.rf {x : EE × K} : Cov x x := fun _ _ _ _ _ h => h
theorem Cov.tr {x y z : EE × K} (h : Cov x y) (k : Cov y z) : Cov x z := fun a b c d e w => h a b c d e (k a b c d e w)
theorem Cov_c {E : EE} {κ κ' : K} (hV : kV κ' = kV κ) (hN : kN κ' = kN κ) (hP : kP κ' = kP κ) (hT : kT κ' = kT κ) : Cov (E, κ') (E, κ) := by
  intro ca e0 ad p e h
  unfold ctC at h ⊢
  dsimp only at h ⊢
  rw [hV, hN, hP, hT]
  exact h
/-- a hall's state and what has been spent, behind a call -/
def upH (s : S2) (h : Nat) (y : EE × K) (a b : Nat) : S2 := (fun j => if j = h then y else s.1 j, s.2.1, (s.2.2.1 + a, s.2.2.2 + b))
theorem upH_s {s : S2} {h : Nat} {y : EE × K} {a b : Nat} : (upH s h y a b).1 h = y := if_pos rfl
theorem upH_n {s : S2} {h k : Nat} {y : EE × K} {a b : Nat} (hk : k ≠ h) : (upH s h y a b).1 k = s.1 k := if_neg hk
/-- the cells of a world, and all new ones -/
def AofM (g : GP) (ad : Pl → Nat) (x : S2) (sz : Nat) : Nat → Prop := fun q => (∃ (p : Pl) (e : va_E), ctM g.2.1 g.2.2.1 ad x p = some e ∧ ad p = q) ∨ sz ≤ q
def PcM (g : GP) (ad : Pl → Nat) (x : S2) (sz : Nat) (as : List AV) : Array Value → State → Prop := fun v U =>
  v = (as.map (emb ad)).toArray ∧ U.heap.size = sz ∧ va_K g.1 vwCl (tysOf g.2.1) U ∧ ST U ∧ SH g (AofM g ad x sz) U U.heap ∧ Wd g.1 (ctM g.2.1 g.2.2.1) (AofM g ad x sz) ad x U.heap
/-- the halls and the law's row keep their addresses -/
def KeepM (ad ad' : Pl → Nat) : Prop := ad' (12, 0, 0) = ad (12, 0, 0) ∧ ad' (13, 0, 0) = ad (13, 0, 0) ∧ ad' (2, 0, 0) = ad (2, 0, 0)
theorem KeepM.rf {ad : Pl → Nat} : KeepM ad ad := ⟨rfl, rfl, rfl⟩
theorem KeepM.tr {a b c : Pl → Nat} (h : KeepM a b) (k : KeepM b c) : KeepM a c := ⟨k.1.trans h.1, k.2.1.trans h.2.1, k.2.2.trans h.2.2⟩
def QcM (g : GP) (ad : Pl → Nat) (x : S2) (sz : Nat) (x' : S2) (r : Option AV) : Array Value → State → Outcome → State → Prop := fun _ st o t =>
  (∃ ad' : Pl → Nat, KeepM ad ad' ∧ o = .returned (r.map (emb ad')) ∧ Wd g.1 (ctM g.2.1 g.2.2.1) (AofM g ad x sz) ad' x' t.heap) ∧ va_F (AofM g ad x sz) st t
def ConM (l : Launch) (y : MethodName) (b : ByteArray) (mL : Nat) (ret : Option FieldType) (fr lo : Nat) (as : List AV) (x x' : S2) (r : Option AV) : Prop :=
  (MX → (x.2.2).1 ≤ (x'.2.2).1 ∧ (x.2.2).2 ≤ (x'.2.2).2) ∧ ∀ (g : GP) (ad : Pl → Nat) (sz : Nat),
    Met l y (Cond.code y b mL ret :: gwl) ({ frames := fr, cells := (x'.2.2).1 - (x.2.2).1, slots := (x'.2.2).2 - (x.2.2).2, locals := lo }) (PcM g ad x sz as) (QcM g ad x sz x' r) ((x'.2.2).1 - (x.2.2).1) ((x'.2.2).2 - (x.2.2).2) (AofM g ad x sz)
theorem PcM.blind {g : GP} {ad : Pl → Nat} {x : S2} {sz : Nat} {as : List AV} : FrameBlind (PcM g ad x sz as) := by
  intro a U fr mk h
  obtain ⟨h1, h2, h3, h4, h5, h6⟩ := h
  exact ⟨h1, h2, va_K.moved (u := U) (U := U.calling fr mk a) (Vm.Alike.refl U.vm) h3, ST.same (s := U) rfl h4, SH.moved (u := U) (U := U.calling fr mk a) (Vm.Alike.refl U.vm) h5, h6⟩
/-- what a body over the store knows: as CO, and what the statics hold -/
def CXM (l0 : Launch) (X : MX) (B : BX S2) (g : GP) (cc : ByteArray) (own : String) (F L : Nat) : Prop := match X with
  | (p, l, e, R, s, m, args, below, meth, c, Q) => MO (p, l, e, R, s, m, args, below, meth, c, Q) B g.2.1 cc own ∧ ST s ∧ SH g B.2.2.1 s s.heap ∧ R.frames = F ∧ R.locals = L ∧ l = l0 ∧ l0.stackTraces = false
def CKM (l0 : Launch) (X : MX) (B : BX S2) (g : GP) (cc : ByteArray) (own : String) (F L : Nat) : Prop := (B.2.2.2.2.2.2.2.2 X → CXM l0 X B g cc own F L) ∧ B.2.1 = ctM g.2.1 g.2.2.1 ∧ B.2.2.2.2.1 = (fun x => x.2.2) ∧ B.1 = g.1
theorem CKM.mo {X : MX} {B : BX S2} {g : GP} {cc : ByteArray} {own : String} {F L : Nat} {l0 : Launch} (h : CKM l0 X B g cc own F L) : B.2.2.2.2.2.2.2.2 X → MO X B g.2.1 cc own := fun o => (h.1 o).1
def StabM : AV → Prop
  | .inr (some p) => p = (12, 0, 0) ∨ p = (13, 0, 0) ∨ p = (2, 0, 0)
  | _ => True
theorem StabM_emb {ad ad' : Pl → Nat} (hk : KeepM ad ad') {v : AV} (h : StabM v) : emb ad' v = emb ad v := by
  match v, h with
  | .inl _, _ => rfl
  | .inr none, _ => rfl
  | .inr (some p), h =>
    rcases h with rfl | rfl | rfl
    · exact congrArg Value.ref hk.1
    · exact congrArg Value.ref hk.2.1
    · exact congrArg Value.ref hk.2.2
theorem StabM_map {ad ad' : Pl → Nat} (hk : KeepM ad ad') : ∀ {st : List AV}, (∀ v ∈ st, StabM v) → st.map (emb ad') = st.map (emb ad) := by
  intro st h
  exact List.map_congr_left fun v hv => StabM_emb hk (h v hv)
theorem StabM_mapl {ad ad' : Pl → Nat} (hk : KeepM ad ad') : ∀ {lv : List (Nat × AV)}, (∀ q ∈ lv, StabM q.2) → lv.map (eml ad') = lv.map (eml ad) := by
  intro lv h
  exact List.map_congr_left fun q hq => by show (q.1, _) = (q.1, _); rw [StabM_emb hk (h q hq)]
/-- the callee's cells are the caller's -/
theorem AofM.sub {g : GP} {ad : Pl → Nat} {x : S2} {A : Nat → Prop} {H0 H : Heap} (hW : Wd g.1 (ctM g.2.1 g.2.2.1) A ad x H) (hz : H0.size ≤ H.size) (hA : ∀ q, H0.size ≤ q → A q) : ∀ q, AofM g ad x H.size q → A q := by
  intro q h
  rcases h with ⟨p, e, h1, h2⟩ | h
  · rw [← h2]; exact (hW.1 p e h1).2
  · exact hA q (Nat.le_trans hz h)
theorem WdM_narrow {g : GP} {ad : Pl → Nat} {x : S2} {A : Nat → Prop} {H : Heap} (hW : Wd g.1 (ctM g.2.1 g.2.2.1) A ad x H) : Wd g.1 (ctM g.2.1 g.2.2.1) (AofM g ad x H.size) ad x H :=
  ⟨fun p e h => ⟨(hW.1 p e h).1, Or.inl ⟨p, e, h, rfl⟩⟩, hW.2⟩
def EndOKM (X : MX) (B : BX S2) (b : ByteArray) (x' : S2) : Option AV → Prop
  | none => ∀ (pc : Nat) (lv : List (Nat × AV)), decode b pc = .ok (.return_, 1) → J X B x' pc lv []
  | some (.inl (.int v)) => ∀ (pc : Nat) (lv : List (Nat × AV)), decode b pc = .ok (.ireturn, 1) → J X B x' pc lv [.inl (.int v)]
  | some (.inr o) => ∀ (pc : Nat) (lv : List (Nat × AV)), decode b pc = .ok (.areturn, 1) → J X B x' pc lv [.inr o]
  | _ => True
def BofM (g : GP) (ad : Pl → Nat) (x : S2) (sz mL : Nat) (nf : Nat × Nat) (fx : MX → Prop) : BX S2 := (g.1, ctM g.2.1 g.2.2.1, AofM g ad x sz, mL, (fun y => y.2.2), x.2.2, nf, KeepM ad, fx)
/-- the maps of addresses that may come go on being so behind a call -/
def KPokM (B : BX S2) : Prop := ∀ ad ad' : Pl → Nat, B.2.2.2.2.2.2.2.1 ad → KeepM ad ad' → B.2.2.2.2.2.2.2.1 ad'
theorem kpokM {g : GP} {ad : Pl → Nat} {x : S2} {sz mL : Nat} {nf : Nat × Nat} {fx : MX → Prop} : KPokM (BofM g ad x sz mL nf fx) := fun _ _ h1 h2 => h1.tr h2
def QNM (g : GP) (ad0 : Pl → Nat) (x0 : S2) (sz : Nat) (x' : S2) (r : Option AV) (ret : Option FieldType) (X : MX) : Prop := match X with
  | (_, _, _, R, s, _, args, below, meth, _, Q) => Q = MQ below (QcM g ad0 x0 sz x' r) args s R.cells R.slots (AofM g ad0 x0 sz) ∧ meth.sig.returnType = ret ∧ s.heap.size = sz
theorem end_falseM {X : MX} {B : BX S2} {b : ByteArray} {x' : S2} (h1 : B.2.2.2.2.1 x' = B.2.2.2.2.2.2.1) (h2 : ¬ B.2.2.2.2.2.2.2.2 X) : ∀ r : Option AV, EndOKM X B b x' r := by
  have st : (B.2.2.2.2.1 x').1 ≤ B.2.2.2.2.2.2.1.1 ∧ (B.2.2.2.2.1 x').2 ≤ B.2.2.2.2.2.2.1.2 := by rw [h1]; exact ⟨Nat.le_refl _, Nat.le_refl _⟩
  intro r
  match r with
  | none => exact fun _ _ _ => ⟨st, fun o => absurd o h2⟩
  | some (.inl (.int v)) => exact fun _ _ _ => ⟨st, fun o => absurd o h2⟩
  | some (.inr o) => exact fun _ _ _ => ⟨st, fun o => absurd o h2⟩
  | some (.inl (.long v)) => trivial
  | some (.inl (.float v)) => trivial
  | some (.inl (.double v)) => trivial
  | some (.inl .null) => trivial
  | some (.inl (.ref v)) => trivial
  | some (.inl (.retAddr v)) => trivial
theorem end_trueM {X : MX} {g : GP} {ad0 : Pl → Nat} {x0 x' : S2} {sz mL : Nat} {fx : MX → Prop} {b : ByteArray} {own : String} {r : Option AV} {ret : Option FieldType} (hret : RetOK ret r)
    (hfx : ∀ X, fx X → MO X (BofM g ad0 x0 sz mL (x'.2.2) fx) g.2.1 b own ∧ QNM g ad0 x0 sz x' r ret X) : EndOKM X (BofM g ad0 x0 sz mL (x'.2.2) fx) b x' r := by
  obtain ⟨p, l, e, R, s, m, args, below, meth, c, Q⟩ := X
  have st : ((fun y : S2 => y.2.2) x').1 ≤ (x'.2.2).1 ∧ ((fun y : S2 => y.2.2) x').2 ≤ (x'.2.2).2 := ⟨Nat.le_refl _, Nat.le_refl _⟩
  match r, hret, hfx with
  | none, hret, hfx =>
    refine fun pc lv hd => ⟨st, fun o ad H locs ls cells slots h1 h2 h3 h4 h5 => ?_⟩
    obtain ⟨O, hQ, hr, hz⟩ := hfx _ o
    obtain ⟨hx, hb, -, -, -, -, hlk, -, hc1, hc2⟩ := O
    have e1 : cells = R.cells := by have h4' : (x0.2.2).1 + cells = (x'.2.2).1 := h4; have hc1' : (x0.2.2).1 + R.cells = (x'.2.2).1 := hc1; omega
    have e2 : slots = R.slots := by have h5' : (x0.2.2).2 + slots = (x'.2.2).2 := h5; have hc2' : (x0.2.2).2 + R.slots = (x'.2.2).2 := hc2; omega
    subst e1; subst e2; subst hQ
    exact W.vret hx hb (hr.trans hret) (fun t ht _ => ⟨⟨ad, h1.2, rfl, by rw [ht]; exact h1.1⟩, va_S.F h2 ht⟩) h2.2.2 hd hlk
  | some (.inl (.int v)), hret, hfx =>
    refine fun pc lv hd => ⟨st, fun o ad H locs ls cells slots h1 h2 h3 h4 h5 => ?_⟩
    obtain ⟨O, hQ, hr, hz⟩ := hfx _ o
    obtain ⟨hx, hb, -, -, -, -, hlk, -, hc1, hc2⟩ := O
    obtain ⟨ty, hty, hn⟩ := hret
    have e1 : cells = R.cells := by have h4' : (x0.2.2).1 + cells = (x'.2.2).1 := h4; have hc1' : (x0.2.2).1 + R.cells = (x'.2.2).1 := hc1; omega
    have e2 : slots = R.slots := by have h5' : (x0.2.2).2 + slots = (x'.2.2).2 := h5; have hc2' : (x0.2.2).2 + R.slots = (x'.2.2).2 := hc2; omega
    subst e1; subst e2; subst hQ
    exact W.zret hx hb (hr.trans hty) hn (fun t ht _ => ⟨⟨ad, h1.2, rfl, by rw [ht]; exact h1.1⟩, va_S.F h2 ht⟩) h2.2.2 hd hlk
  | some (.inr w), hret, hfx =>
    refine fun pc lv hd => ⟨st, fun o ad H locs ls cells slots h1 h2 h3 h4 h5 => ?_⟩
    obtain ⟨O, hQ, hr, hz⟩ := hfx _ o
    obtain ⟨hx, hb, -, -, -, -, hlk, -, hc1, hc2⟩ := O
    obtain ⟨rt, hty, hrt⟩ := hret
    have e1 : cells = R.cells := by have h4' : (x0.2.2).1 + cells = (x'.2.2).1 := h4; have hc1' : (x0.2.2).1 + R.cells = (x'.2.2).1 := hc1; omega
    have e2 : slots = R.slots := by have h5' : (x0.2.2).2 + slots = (x'.2.2).2 := h5; have hc2' : (x0.2.2).2 + R.slots = (x'.2.2).2 := hc2; omega
    subst e1; subst e2; subst hQ
    exact W.aret hx hb (hr.trans hty) hrt (by cases w <;> first | exact Or.inl rfl | exact Or.inr ⟨_, rfl⟩) (fun t ht _ => ⟨⟨ad, h1.2, rfl, by rw [ht]; exact h1.1⟩, va_S.F h2 ht⟩) h2.2.2 hd hlk
  | some (.inl (.long v)), hret, hfx => trivial
  | some (.inl (.float v)), hret, hfx => trivial
  | some (.inl (.double v)), hret, hfx => trivial
  | some (.inl .null), hret, hfx => trivial
  | some (.inl (.ref v)), hret, hfx => trivial
  | some (.inl (.retAddr v)), hret, hfx => trivial
set_option maxHeartbeats 1000000 in
/-- a contract out of its body's walk -/
theorem ConM_of {l : Launch} {y : MethodName} {b : ByteArray} {mL : Nat} {ret : Option FieldType} {fr lo : Nat} {as : List AV} {x x' : S2} {r : Option AV} (hfl : l.stackTraces = false) (hy : plainName y.cls = true) (hlen : as.length ≤ mL) (hcat : as.all cat1 = true) (hret : RetOK ret r)
    (body : ∀ (X : MX) (B : BX S2) (g : GP), CKM l X B g b y.cls fr lo → KPokM B → B.2.2.2.1 = mL → EndOKM X B b x' r → J X B x 0 (argl 0 as) []) : ConM l y b mL ret fr lo as x x' r := by
  refine ⟨fun X => ?_, fun g ad sz => ?_⟩
  · exact (body X (BofM ((fun _ => 0, fun _ _ => 0), fun _ => 0, (0, 0, 0)) (fun _ => 0) x 0 mL (x'.2.2) (fun _ => False)) ((fun _ => 0, fun _ _ => 0), fun _ => 0, (0, 0, 0)) ⟨fun o => o.elim, rfl, rfl, rfl⟩ kpokM rfl (end_falseM rfl (fun o => o) r)).1
  · refine Met.ofW (cc := b) (maxL := mL) (ret := ret) hy rfl ?_
    intro p e s m args below meth c s₁ B0 hml hv
    obtain ⟨rfl, hsz, hK, hST, hSH, hWd⟩ := hv
    have hts := atoms_spec (ws := Cond.code y b mL ret :: gwl) B0.pre
    have hmono := (body (p, l, e, { frames := 0, cells := 0, slots := 0, locals := 0 }, s, m, #[], below, meth, c, fun _ => True) (BofM ((fun _ => 0, fun _ _ => 0), fun _ => 0, (0, 0, 0)) (fun _ => 0) x 0 mL (x'.2.2) (fun _ => False)) ((fun _ => 0, fun _ _ => 0), fun _ => 0, (0, 0, 0)) ⟨fun o => o.elim, rfl, rfl, rfl⟩ kpokM rfl (end_falseM rfl (fun o => o) r)).1
    have hm1 : (x.2.2).1 ≤ (x'.2.2).1 := hmono.1
    have hm2 : (x.2.2).2 ≤ (x'.2.2).2 := hmono.2
    have hl := lv_entry (as.map (emb ad)) (n := mL) (by rw [lg_len ad as hcat]; exact hlen)
    rw [lv_argl ad as 0 hcat] at hl
    rw [lg_entry_eq]
    generalize hfx : (fun X : MX => MO X (BofM g ad x sz mL (x'.2.2) (fun _ => True)) g.2.1 b y.cls ∧ QNM g ad x sz x' r ret X ∧ CXM l X (BofM g ad x sz mL (x'.2.2) (fun _ => True)) g b y.cls fr lo) = fx
    have hX : fx (p, l, e, { frames := fr, cells := (x'.2.2).1 - (x.2.2).1, slots := (x'.2.2).2 - (x.2.2).2, locals := lo }, s, m, (as.map (emb ad)).toArray, below, meth, c, MQ below (QcM g ad x sz x' r) (as.map (emb ad)).toArray s ((x'.2.2).1 - (x.2.2).1) ((x'.2.2).2 - (x.2.2).2) (AofM g ad x sz)) := by
      have hMO : MO (p, l, e, ({ frames := fr, cells := (x'.2.2).1 - (x.2.2).1, slots := (x'.2.2).2 - (x.2.2).2, locals := lo } : Room), s, m, (as.map (emb ad)).toArray, below, meth, c, MQ below (QcM g ad x sz x' r) (as.map (emb ad)).toArray s ((x'.2.2).1 - (x.2.2).1) ((x'.2.2).2 - (x.2.2).2) (AofM g ad x sz)) (BofM g ad x sz mL (x'.2.2) (fun _ => True)) g.2.1 b y.cls :=
        ⟨B0.exec, B0.bytes, hml, findClass_of_methodNamed B0.named, fun w hw => hts w (List.mem_cons_of_mem _ hw), hK, B0.notSynchronized, fun q hq => Or.inr (by rw [← hsz]; exact hq), by show (x.2.2).1 + ((x'.2.2).1 - (x.2.2).1) = _; exact Nat.add_sub_cancel' hm1, by show (x.2.2).2 + ((x'.2.2).2 - (x.2.2).2) = _; exact Nat.add_sub_cancel' hm2⟩
      rw [← hfx]
      exact ⟨hMO, ⟨rfl, B0.returns, hsz⟩, hMO, hST, by rw [← hsz] at hSH; rw [← hsz]; exact hSH, rfl, rfl, rfl, hfl⟩
    have hMOfx : ∀ X, fx X → MO X (BofM g ad x sz mL (x'.2.2) fx) g.2.1 b y.cls ∧ QNM g ad x sz x' r ret X := by
      intro X h; rw [← hfx] at h; exact ⟨h.1, h.2.1⟩
    have hCX : ∀ X, fx X → CXM l X (BofM g ad x sz mL (x'.2.2) fx) g b y.cls fr lo := by
      intro X h; rw [← hfx] at h; exact h.2.2
    have hJ := fun X : MX => body X (BofM g ad x sz mL (x'.2.2) fx) g ⟨hCX X, rfl, rfl, rfl⟩ kpokM rfl (end_trueM (X := X) (b := b) (own := y.cls) hret hMOfx)
    exact (hJ _).2 hX ad s.heap [] _ 0 0 ⟨hWd, KeepM.rf⟩ va_S.rf hl rfl rfl
section CALLSM
variable {l0 : Launch} {X : MX} {B : BX S2} {g : GP} {cc : ByteArray} {own : String} {F L : Nat} {s2 s2' : S2} {pc : Nat} {lv : List (Nat × AV)} {st0 rest as : List AV} {r : Option AV}
/-- what a call leaves, told of the heap: W at the next instruction -/
theorem J_coreM (O : CKM l0 X B g cc own F L) (hKP : KPokM B) (hmono : (s2.2.2).1 ≤ (s2'.2.2).1 ∧ (s2.2.2).2 ≤ (s2'.2.2).2) (hlv : ∀ q ∈ lv, StabM q.2) (hrs : ∀ v ∈ rest, StabM v)
    (hrun : ∀ (p : Program) (l : Launch) (e : Env) (R : Room) (s : State) (m : MethodId) (args : Array Value) (below : List Frame) (meth : Method) (c : Code) (Q : State → Prop), X = (p, l, e, R, s, m, args, below, meth, c, Q) → CXM l0 X B g cc own F L →
      ∀ (ad : Pl → Nat) (H : Heap) (locs : List Loc) (ls : Array Slot) (cells slots : Nat), Wd B.1 B.2.1 B.2.2.1 ad s2 H → va_S B.2.2.1 s.heap H locs → ls.size = B.2.2.2.1 → cells + ((s2'.2.2).1 - (s2.2.2).1) ≤ R.cells → slots + ((s2'.2.2).2 - (s2.2.2).2) ≤ R.slots →
      ∃ a : Array Value, va_Run p l e R s m args below meth c H locs cells slots ((s2'.2.2).1 - (s2.2.2).1) ((s2'.2.2).2 - (s2.2.2).2) (F0 m pc ls (st0.map (emb ad))) (rest.map (emb ad)) (QcM g ad s2 H.size s2' r a) (AofM g ad s2 H.size))
    (kk : J X B s2' (pc + 3) lv (r.toList ++ rest)) : J X B s2 pc lv st0 := by
  obtain ⟨OO, hB, hCst, hD⟩ := O
  obtain ⟨p, l, e, R, s, m, args, below, meth, c, Q⟩ := X
  have c1 : B.2.2.2.2.1 s2 = s2.2.2 := by rw [hCst]
  have c2 : B.2.2.2.2.1 s2' = s2'.2.2 := by rw [hCst]
  have kk1 := kk.1
  rw [c2] at kk1
  refine ⟨by rw [c1]; exact ⟨Nat.le_trans hmono.1 kk1.1, Nat.le_trans hmono.2 kk1.2⟩, fun fx ad H locs ls cells slots h1 h2 h3 h4 h5 => ?_⟩
  rw [c1] at h4 h5
  have O1 := OO fx
  obtain ⟨hb1, hb2⟩ := O1.1.2.2.2.2.2.2.2.2
  obtain ⟨a, hr⟩ := hrun p l e R s m args below meth c Q rfl O1 ad H locs ls cells slots h1.1 h2 h3.1 (by have := kk1.1; omega) (by have := kk1.2; omega)
  have hW0 : Wd g.1 (ctM g.2.1 g.2.2.1) B.2.2.1 ad s2 H := by rw [← hD, ← hB]; exact h1.1
  have hsub := AofM.sub hW0 h2.1 O1.1.2.2.2.2.2.2.2.1
  intro T hT X0
  obtain ⟨v, st₀, t, T', Ls, h0, X', hL, e1, e2, ⟨⟨ad', hkeep, hv, hW'⟩, hz, hk⟩, hst⟩ := hr T hT X0
  have hv' : v = r.map (emb ad') := by injection hv
  subst hv'
  rw [h0] at hz hk
  have hS' : va_S B.2.2.1 s.heap T'.heap (locs ++ Ls) := ⟨Nat.le_trans h2.1 (by rw [e1]; exact hz), fun q g1 g2 => by rw [e1, hk q (Nat.lt_of_lt_of_le g1 h2.1) (fun z => g2 (hsub q z))]; exact h2.2.1 q g1 g2, fun q hq => by
    rcases List.mem_append.mp hq with h | h
    · exact h2.2.2 q h
    · exact hsub _ (hL q h)⟩
  have hmap : (r.toList ++ rest).map (emb ad') = (r.map (emb ad')).toList ++ rest.map (emb ad) := by
    rw [List.map_append, StabM_map hkeep hrs]
    cases r <;> rfl
  have hW2 : Wd B.1 B.2.1 B.2.2.1 ad' s2' T'.heap := by rw [hD, hB, e1]; exact hW'.wide hsub
  have hgo := kk.2 fx ad' T'.heap (locs ++ Ls) ls (cells + ((s2'.2.2).1 - (s2.2.2).1)) (slots + ((s2'.2.2).2 - (s2.2.2).2)) ⟨hW2, hKP ad ad' h1.2 hkeep⟩ hS' (by rw [StabM_mapl hkeep hlv]; exact h3) (by rw [c2]; have := hmono.1; omega) (by rw [c2]; have := hmono.2; omega)
  rw [hmap] at hgo
  obtain ⟨t2, a1, b1⟩ := hgo T' rfl X'
  exact ⟨t2, hst t2 a1, b1⟩
/-- what the callee's start asks, out of the caller's world -/
theorem PcM_of {p : Program} {l : Launch} {e : Env} {R : Room} {s : State} {m : MethodId} {args : Array Value} {below : List Frame} {meth : Method} {c : Code} {Q : State → Prop} (O : CXM l0 (p, l, e, R, s, m, args, below, meth, c, Q) B g cc own F L) (hB : B.2.1 = ctM g.2.1 g.2.2.1) (hD : B.1 = g.1) {ad : Pl → Nat} {H : Heap} {locs : List Loc} (hW : Wd B.1 B.2.1 B.2.2.1 ad s2 H) (hS : va_S B.2.2.1 s.heap H locs) {as' : List AV} :
    ∀ U : State, U.heap = H → s.WarmedH U.vm → PcM g ad s2 H.size as' (as'.map (emb ad)).toArray U := by
  intro U hU hWm
  have hW0 : Wd g.1 (ctM g.2.1 g.2.2.1) B.2.2.1 ad s2 H := by rw [← hD, ← hB]; exact hW
  have hsub := AofM.sub hW0 hS.1 O.1.2.2.2.2.2.2.2.1
  refine ⟨rfl, by rw [hU], ?_, ST.warm hWm O.2.1, ?_, by rw [hU]; exact WdM_narrow hW0⟩
  · have h := O.1.2.2.2.2.2.1
    rw [hD] at h
    exact va_K.moved hWm.alike h
  · rw [hU]
    exact SH.moved hWm.alike ((O.2.2.1.kept hS.2.1).narrow hsub)
theorem J_callSM (O : CKM l0 X B g cc own F L) (hKP : KPokM B) {y : MethodName} {b : ByteArray} {mL fr lo index n : Nat} {ret : Option FieldType} (hC : ConM l0 y b mL ret fr lo as s2 s2' r) (hst : st0 = as.reverse ++ rest)
    (w1 : Cond.methodLink own index y ∈ gwl) (w2 : Cond.static y ∈ gwl) (w4 : Cond.initialized y.cls ∈ gwl) (w5 : Cond.code y b mL ret ∈ gwl) (hpd : y.cls ≠ "java/lang/invoke/MethodHandle" ∧ y.cls ≠ "java/lang/invoke/VarHandle" ∧ (parseMethodDescriptor y.desc).map (fun d => d.parameters.length) = some n) (hn : as.length = n)
    (hR : fr + 1 ≤ F ∧ 8 + (mL + 11) + lo ≤ L) (hrc : rest.all cat1 = true) (hrl : rest.length ≤ 8) (hlv : ∀ q ∈ lv, StabM q.2) (hrs : ∀ v ∈ rest, StabM v) (hd : decode cc pc = .ok (.invokestatic index, 3))
    (kk : J X B s2' (pc + 3) lv (r.toList ++ rest)) : J X B s2 pc lv st0 := by
  refine J_coreM O hKP (hC.1 X) hlv hrs (fun p l e R s m args below meth c0 Q hX O1 ad H locs ls cells slots h1 h2 h3 h4 h5 => ?_) kk
  subst hX
  obtain ⟨-, hB, hCst, hD⟩ := O
  obtain ⟨hMO, hST, hSH, hF, hL, hl0, -⟩ := id O1
  subst hl0; subst hst
  have hmap : (as.reverse ++ rest).map (emb ad) = (as.map (emb ad)).reverse ++ rest.map (emb ad) := by
    rw [List.map_append, List.map_reverse]
  have hgood : ∀ w ∈ va_wsS own index y (Cond.code y b mL ret :: gwl), w ∈ gwl := by
    intro w hw
    simp only [va_wsS, List.mem_append, List.mem_cons, List.not_mem_nil, or_false] at hw
    rcases hw with (rfl | rfl | rfl) | rfl | hw <;> assumption
  rw [hmap]
  exact ⟨_, va_runS (As := as.map (emb ad)) (n := n) ⟨hMO.1, hMO.2.1, hMO.2.2.1, hMO.2.2.2.1, hMO.2.2.2.2.1⟩ (hC.2 g ad H.size) (va_cwS n hMO.2.2.2.2.1 (goodIn_gwl hgood) rfl rfl rfl hpd (by rw [hF, hL]; exact hR))
    ⟨PcM.blind, PcM_of O1 hB hD h1 h2⟩ rfl (by rw [List.length_map]; exact hn) h3 rfl (by rw [cat_sum ad rest hrc]; show 2 * 0 + _ ≤ 8; omega) hd ⟨h4, h5⟩⟩
end CALLSM
/-- the map of addresses behind a call upon the hall h -/
def adU (h : Nat) (ad ad' : Pl → Nat) : Pl → Nat := fun p => if p.1 % 3 = h then ad' (p.1 / 3, p.2) else ad p
theorem adU_h {h : Nat} (hh : h < 2) {ad ad' : Pl → Nat} : adH h (adU h ad ad') = ad' := by
  funext p
  show (if (shP h p).1 % 3 = h then ad' ((shP h p).1 / 3, (shP h p).2) else _) = _
  rw [if_pos (sh_mod hh), sh_div hh]
theorem adU_k {h k : Nat} (hk2 : k < 2) (hk : k ≠ h) {ad ad' : Pl → Nat} : adH k (adU h ad ad') = adH k ad := by
  funext p
  show (if (shP k p).1 % 3 = h then _ else _) = _
  rw [if_neg (by rw [sh_mod hk2]; exact hk)]
  rfl
theorem adU_n {h : Nat} (hh : h < 2) {ad ad' : Pl → Nat} : adU h ad ad' (2, 0, 0) = ad (2, 0, 0) := if_neg (fun z => by
  have z' : (2 : Nat) % 3 = h := z
  omega)
/-- both halls behind a call upon one of them -/
theorem WdM_join {g : GP} {ad ad' : Pl → Nat} {s : S2} {h : Nat} (hh : h < 2) {x' y : EE × K} {a b : Nat} {A : Nat → Prop} {H H' : Heap} (hW : Wd g.1 (ctM g.2.1 g.2.2.1) A ad s H) (hA : ∀ q, H.size ≤ q → A q) (hW' : Wd g.1 (ctC g.2.1 g.2.2.1) (Aof g (adH h ad) (s.1 h) H.size) ad' x' H') (hk : ∀ q : Nat, q < H.size → ¬ Aof g (adH h ad) (s.1 h) H.size q → H'[q]? = H[q]?) (hc : Cov x' y) : Wd g.1 (ctM g.2.1 g.2.2.1) A (adU h ad ad') (upH s h y a b) H' := by
  -- an old cell of what isn't the hall's
  have old : ∀ (p : Pl) (e : va_E), ctM g.2.1 g.2.2.1 ad s p = some e → (∀ q, p ≠ shP h q) → ad p < H.size ∧ ¬ Aof g (adH h ad) (s.1 h) H.size (ad p) := fun p e hp hn => by
    have h1 := (hW.1 p e hp).1
    have h2 : ad p < H.size := va_at.lt h1
    refine ⟨h2, fun z => ?_⟩
    rcases z with ⟨q, e', hq, hqa⟩ | z
    · exact hn q (hW.2 p (shP h q) e e' hp (by rw [ctM_h hh]; exact hq) hqa.symm)
    · omega
  -- what a place of the new world is
  have new : ∀ (p : Pl) (e : va_E), ctM g.2.1 g.2.2.1 (adU h ad ad') (upH s h y a b) p = some e → (∃ q, p = shP h q ∧ ctC g.2.1 g.2.2.1 ad' x' q = some e ∧ adU h ad ad' p = ad' q) ∨ ((∀ q, p ≠ shP h q) ∧ ctM g.2.1 g.2.2.1 ad s p = some e ∧ adU h ad ad' p = ad p) := fun p e hp => by
    rcases ctM_cases hp with ⟨k, q, hk2, rfl, hq⟩ | ⟨rfl, a1, ha, rfl⟩
    · by_cases e1 : k = h
      · subst e1
        rw [adU_h hh, upH_s] at hq
        exact Or.inl ⟨q, rfl, hc _ _ _ _ _ hq, congrFun (adU_h hh) q⟩
      · rw [adU_k hk2 e1, upH_n e1] at hq
        exact Or.inr ⟨fun z hz => e1 (shP_inj hk2 hh hz).1, by rw [ctM_h hk2]; exact hq, congrFun (adU_k hk2 e1) q⟩
    · exact Or.inr ⟨fun z hz => shP_n hh hz.symm, by rw [ctM_n, show s.2.1 = some a1 from ha]; rfl, adU_n hh⟩
  refine ⟨fun p e hp => ?_, fun p q e e' hp hq hpq => ?_⟩
  · rcases new p e hp with ⟨q, rfl, h1, h2⟩ | ⟨h0, h1, h2⟩
    · have h3 := hW'.1 q e h1
      rw [h2]
      refine ⟨h3.1, ?_⟩
      rcases h3.2 with ⟨q', e', h4, h5⟩ | h4
      · rw [← h5]; exact (hW.1 (shP h q') e' (by rw [ctM_h hh]; exact h4)).2
      · exact hA _ h4
    · rw [h2]
      obtain ⟨o1, o2⟩ := old p e h1 h0
      exact ⟨(hW.1 p e h1).1.kept (hk _ o1 o2), (hW.1 p e h1).2⟩
  · rcases new p e hp with ⟨p1, rfl, h1, h2⟩ | ⟨h0, h1, h2⟩
    · rcases new q e' hq with ⟨q1, rfl, k1, k2⟩ | ⟨k0, k1, k2⟩
      · rw [h2, k2] at hpq
        rw [hW'.2 p1 q1 e e' h1 k1 hpq]
      · rw [h2, k2] at hpq
        exact absurd (hpq ▸ (hW'.1 p1 e h1).2) (old q e' k1 k0).2
    · rcases new q e' hq with ⟨q1, rfl, k1, k2⟩ | ⟨k0, k1, k2⟩
      · rw [h2, k2] at hpq
        exact absurd (hpq ▸ (hW'.1 q1 e' k1).2) (old p e h1 h0).2
      · rw [h2, k2] at hpq
        exact hW.2 p q e e' h1 k1 hpq
/-- a hall's own value, as the law has it -/
def shA (h : Nat) : AV → AV
  | .inr (some p) => .inr (some (shP h p))
  | v => v
theorem emb_sh {h : Nat} {ad : Pl → Nat} {v : AV} : emb (adH h ad) v = emb ad (shA h v) := by
  match v with
  | .inl _ => rfl
  | .inr none => rfl
  | .inr (some p) => rfl
theorem map_sh {h : Nat} {ad : Pl → Nat} {l : List AV} : l.map (emb (adH h ad)) = (l.map (shA h)).map (emb ad) := by
  rw [List.map_map]
  exact List.map_congr_left fun v _ => emb_sh
/-- answers that are numbers, or none -/
def numR : Option AV → Prop
  | none => True
  | some (.inl _) => True
  | some (.inr _) => False
theorem numR_emb {r : Option AV} (h : numR r) (ad ad' : Pl → Nat) : r.map (emb ad) = r.map (emb ad') := by
  match r, h with
  | none, _ => rfl
  | some (.inl _), _ => rfl
section CALL1
variable {l0 : Launch} {X : MX} {B : BX S2} {g : GP} {cc : ByteArray} {own : String} {F L : Nat} {s2 : S2} {h : Nat} {x' y : EE × K} {pc : Nat} {lv : List (Nat × AV)} {st0 rest as : List AV} {r : Option AV}
/-- what a call upon one hall leaves -/
theorem J_core1 (O : CKM l0 X B g cc own F L) (hKP : KPokM B) (hh : h < 2) (hl : liveC (s2.1 h).1 4 0 0 = true) (hr0 : numR r) (hc : Cov x' y) (hmono : (kC (s2.1 h).2).1 ≤ (kC x'.2).1 ∧ (kC (s2.1 h).2).2 ≤ (kC x'.2).2) (hlv : ∀ q ∈ lv, StabM q.2) (hrs : ∀ v ∈ rest, StabM v)
    (hrun : ∀ (p : Program) (l : Launch) (e : Env) (R : Room) (s : State) (m : MethodId) (args : Array Value) (below : List Frame) (meth : Method) (c : Code) (Q : State → Prop), X = (p, l, e, R, s, m, args, below, meth, c, Q) → CXM l0 X B g cc own F L →
      ∀ (ad : Pl → Nat) (H : Heap) (locs : List Loc) (ls : Array Slot) (cells slots : Nat), Wd B.1 B.2.1 B.2.2.1 ad s2 H → va_S B.2.2.1 s.heap H locs → ls.size = B.2.2.2.1 → cells + ((kC x'.2).1 - (kC (s2.1 h).2).1) ≤ R.cells → slots + ((kC x'.2).2 - (kC (s2.1 h).2).2) ≤ R.slots →
      ∃ a : Array Value, va_Run p l e R s m args below meth c H locs cells slots ((kC x'.2).1 - (kC (s2.1 h).2).1) ((kC x'.2).2 - (kC (s2.1 h).2).2) (F0 m pc ls (st0.map (emb ad))) (rest.map (emb ad)) (QcC g (adH h ad) (s2.1 h) H.size x' r a) (Aof g (adH h ad) (s2.1 h) H.size))
    (kk : J X B (upH s2 h y ((kC x'.2).1 - (kC (s2.1 h).2).1) ((kC x'.2).2 - (kC (s2.1 h).2).2)) (pc + 3) lv (r.toList ++ rest)) : J X B s2 pc lv st0 := by
  obtain ⟨OO, hB, hCst, hD⟩ := O
  obtain ⟨p, l, e, R, s, m, args, below, meth, c, Q⟩ := X
  have c1 : B.2.2.2.2.1 s2 = s2.2.2 := by rw [hCst]
  have c2 : B.2.2.2.2.1 (upH s2 h y ((kC x'.2).1 - (kC (s2.1 h).2).1) ((kC x'.2).2 - (kC (s2.1 h).2).2)) = (s2.2.2.1 + ((kC x'.2).1 - (kC (s2.1 h).2).1), s2.2.2.2 + ((kC x'.2).2 - (kC (s2.1 h).2).2)) := by rw [hCst]; rfl
  have kk1 := kk.1
  rw [c2] at kk1
  have k1 : s2.2.2.1 + ((kC x'.2).1 - (kC (s2.1 h).2).1) ≤ B.2.2.2.2.2.2.1.1 := kk1.1
  have k2 : s2.2.2.2 + ((kC x'.2).2 - (kC (s2.1 h).2).2) ≤ B.2.2.2.2.2.2.1.2 := kk1.2
  refine ⟨by rw [c1]; exact ⟨by omega, by omega⟩, fun fx ad H locs ls cells slots h1 h2 h3 h4 h5 => ?_⟩
  rw [c1] at h4 h5
  have O1 := OO fx
  obtain ⟨hb1, hb2⟩ := O1.1.2.2.2.2.2.2.2.2
  obtain ⟨a, hr⟩ := hrun p l e R s m args below meth c Q rfl O1 ad H locs ls cells slots h1.1 h2 h3.1 (by omega) (by omega)
  have hW0 : Wd g.1 (ctM g.2.1 g.2.2.1) B.2.2.1 ad s2 H := by rw [← hD, ← hB]; exact h1.1
  have hWh := WdM_hall hh hW0
  have hAz : ∀ q, H.size ≤ q → B.2.2.1 q := fun q hq => O1.1.2.2.2.2.2.2.2.1 q (Nat.le_trans h2.1 hq)
  have hsub := Aof.sub (H0 := H) hWh (Nat.le_refl _) hAz
  intro T hT X0
  obtain ⟨v, st₀, t, T', Ls, h0, X', hL, e1, e2, ⟨⟨ad', hkeep, hv, hW'⟩, hz, hk⟩, hst⟩ := hr T hT X0
  have hv' : v = r.map (emb ad') := by injection hv
  subst hv'
  rw [h0] at hz hk
  have hS' : va_S B.2.2.1 s.heap T'.heap (locs ++ Ls) := ⟨Nat.le_trans h2.1 (by rw [e1]; exact hz), fun q g1 g2 => by rw [e1, hk q (Nat.lt_of_lt_of_le g1 h2.1) (fun z => g2 (hsub q z))]; exact h2.2.1 q g1 g2, fun q hq => by
    rcases List.mem_append.mp hq with h | h
    · exact h2.2.2 q h
    · exact hsub _ (hL q h)⟩
  have hkM : KeepM ad (adU h ad ad') := by
    have k4 : ad' (4, 0, 0) = ad (shP h (4, 0, 0)) := hkeep 4 0 0 hl (by decide)
    have hkk : ∀ k, k < 2 → adU h ad ad' (shP k (4, 0, 0)) = ad (shP k (4, 0, 0)) := fun k hk2 => by
      by_cases e3 : k = h
      · subst e3
        exact (congrFun (adU_h hh) (4, 0, 0)).trans k4
      · exact congrFun (adU_k hk2 e3) (4, 0, 0)
    exact ⟨hkk 0 (by omega), hkk 1 (by omega), adU_n hh⟩
  have hmap : (r.toList ++ rest).map (emb (adU h ad ad')) = (r.map (emb ad')).toList ++ rest.map (emb ad) := by
    rw [List.map_append, StabM_map hkM hrs, numR_emb hr0 ad' (adU h ad ad')]
    cases r <;> rfl
  have hW2 : Wd B.1 B.2.1 B.2.2.1 (adU h ad ad') (upH s2 h y ((kC x'.2).1 - (kC (s2.1 h).2).1) ((kC x'.2).2 - (kC (s2.1 h).2).2)) T'.heap := by
    rw [hD, hB, e1]
    exact WdM_join hh hW0 hAz hW' hk hc
  have hgo := kk.2 fx (adU h ad ad') T'.heap (locs ++ Ls) ls (cells + ((kC x'.2).1 - (kC (s2.1 h).2).1)) (slots + ((kC x'.2).2 - (kC (s2.1 h).2).2)) ⟨hW2, hKP ad _ h1.2 hkM⟩ hS' (by rw [StabM_mapl hkM hlv]; exact h3) (by rw [c2]; dsimp only; omega) (by rw [c2]; dsimp only; omega)
  rw [hmap] at hgo
  obtain ⟨t2, a1, b1⟩ := hgo T' rfl X'
  exact ⟨t2, hst t2 a1, b1⟩
/-- what the start of a call upon one hall asks -/
theorem PcC_ofM {p : Program} {l : Launch} {e : Env} {R : Room} {s : State} {m : MethodId} {args : Array Value} {below : List Frame} {meth : Method} {c : Code} {Q : State → Prop} (hh : h < 2) (O : CXM l0 (p, l, e, R, s, m, args, below, meth, c, Q) B g cc own F L) (hB : B.2.1 = ctM g.2.1 g.2.2.1) (hD : B.1 = g.1) {ad : Pl → Nat} {H : Heap} {locs : List Loc} (hW : Wd B.1 B.2.1 B.2.2.1 ad s2 H) (hS : va_S B.2.2.1 s.heap H locs) {as' : List AV} :
    ∀ U : State, U.heap = H → s.WarmedH U.vm → PcC g (adH h ad) (s2.1 h) H.size as' (as'.map (emb (adH h ad))).toArray U := by
  intro U hU hWm
  have hW0 : Wd g.1 (ctM g.2.1 g.2.2.1) B.2.2.1 ad s2 H := by rw [← hD, ← hB]; exact hW
  have hWh := WdM_hall hh hW0
  have hAz : ∀ q, H.size ≤ q → B.2.2.1 q := fun q hq => O.1.2.2.2.2.2.2.2.1 q (Nat.le_trans hS.1 hq)
  have hsub := Aof.sub (H0 := H) hWh (Nat.le_refl _) hAz
  refine ⟨rfl, by rw [hU], ?_, ST.warm hWm O.2.1, ?_, by rw [hU]; exact hWh.narrow⟩
  · have h := O.1.2.2.2.2.2.1
    rw [hD] at h
    exact va_K.moved hWm.alike h
  · rw [hU]
    exact SH.moved hWm.alike ((O.2.2.1.kept hS.2.1).narrow hsub)
/-- a static method of the law, with handlers, upon one hall -/
theorem J_callW1 (O : CKM l0 X B g cc own F L) (hKP : KPokM B) (hh : h < 2) (hl : liveC (s2.1 h).1 4 0 0 = true) {ym : MethodName} {b : ByteArray} {mL fr lo index n : Nat} {ret : Option FieldType} {hhs : List (Nat × Nat × Nat × Nat)} (hC : ConW l0 ym b mL ret hhs fr lo as (s2.1 h) x' r) (hr0 : numR r) (hc : Cov x' y) (hst : st0 = (as.map (shA h)).reverse ++ rest)
    (w1 : Cond.methodLink own index ym ∈ gwl) (w2 : Cond.static ym ∈ gwl) (w4 : Cond.initialized ym.cls ∈ gwl) (w5 : Cond.codeWith ym b mL ret hhs ∈ gwl) (hpd : ym.cls ≠ "java/lang/invoke/MethodHandle" ∧ ym.cls ≠ "java/lang/invoke/VarHandle" ∧ (parseMethodDescriptor ym.desc).map (fun d => d.parameters.length) = some n) (hn : as.length = n)
    (hR : fr + 1 ≤ F ∧ 8 + (mL + 11) + lo ≤ L) (hrc : rest.all cat1 = true) (hrl : rest.length ≤ 8) (hlv : ∀ q ∈ lv, StabM q.2) (hrs : ∀ v ∈ rest, StabM v) (hd : decode cc pc = .ok (.invokestatic index, 3))
    (kk : J X B (upH s2 h y ((kC x'.2).1 - (kC (s2.1 h).2).1) ((kC x'.2).2 - (kC (s2.1 h).2).2)) (pc + 3) lv (r.toList ++ rest)) : J X B s2 pc lv st0 := by
  refine J_core1 O hKP hh hl hr0 hc (hC.1 X) hlv hrs (fun p l e R s m args below meth c0 Q hX O1 ad H locs ls cells slots h1 h2 h3 h4 h5 => ?_) kk
  subst hX
  obtain ⟨-, hB, hCst, hD⟩ := O
  obtain ⟨hMO, hST, hSH, hF, hL, hl0, -⟩ := id O1
  subst hl0; subst hst
  have hmap : ((as.map (shA h)).reverse ++ rest).map (emb ad) = (as.map (emb (adH h ad))).reverse ++ rest.map (emb ad) := by
    rw [List.map_append, List.map_reverse, map_sh]
  have hgood : ∀ w ∈ va_wsS own index ym (Cond.codeWith ym b mL ret hhs :: gwl), w ∈ gwl := by
    intro w hw
    simp only [va_wsS, List.mem_append, List.mem_cons, List.not_mem_nil, or_false] at hw
    rcases hw with (rfl | rfl | rfl) | rfl | hw <;> assumption
  rw [hmap]
  exact ⟨_, vx_runSW (hh := hhs) (As := as.map (emb (adH h ad))) (n := n) ⟨hMO.1, hMO.2.1, hMO.2.2.1, hMO.2.2.2.1, hMO.2.2.2.2.1⟩ (hC.2 g (adH h ad) H.size) (vx_cwSW n hMO.2.2.2.2.1 (goodIn_gwl hgood) rfl rfl rfl hpd (by rw [hF, hL]; exact hR))
    ⟨PcC.blind, PcC_ofM hh O1 hB hD h1 h2⟩ rfl (by rw [List.length_map]; exact hn) h3 rfl (by rw [cat_sum ad rest hrc]; show 2 * 0 + _ ≤ 8; omega) hd ⟨h4, h5⟩⟩
/-- a static method of the law upon one hall -/
theorem J_callS1 (O : CKM l0 X B g cc own F L) (hKP : KPokM B) (hh : h < 2) (hl : liveC (s2.1 h).1 4 0 0 = true) {ym : MethodName} {b : ByteArray} {mL fr lo index n : Nat} {ret : Option FieldType} (hC : Con l0 ym b mL ret fr lo as (s2.1 h) x' r) (hr0 : numR r) (hc : Cov x' y) (hst : st0 = (as.map (shA h)).reverse ++ rest)
    (w1 : Cond.methodLink own index ym ∈ gwl) (w2 : Cond.static ym ∈ gwl) (w4 : Cond.initialized ym.cls ∈ gwl) (w5 : Cond.code ym b mL ret ∈ gwl) (hpd : ym.cls ≠ "java/lang/invoke/MethodHandle" ∧ ym.cls ≠ "java/lang/invoke/VarHandle" ∧ (parseMethodDescriptor ym.desc).map (fun d => d.parameters.length) = some n) (hn : as.length = n)
    (hR : fr + 1 ≤ F ∧ 8 + (mL + 11) + lo ≤ L) (hrc : rest.all cat1 = true) (hrl : rest.length ≤ 8) (hlv : ∀ q ∈ lv, StabM q.2) (hrs : ∀ v ∈ rest, StabM v) (hd : decode cc pc = .ok (.invokestatic index, 3))
    (kk : J X B (upH s2 h y ((kC x'.2).1 - (kC (s2.1 h).2).1) ((kC x'.2).2 - (kC (s2.1 h).2).2)) (pc + 3) lv (r.toList ++ rest)) : J X B s2 pc lv st0 := by
  refine J_core1 O hKP hh hl hr0 hc (hC.1 X) hlv hrs (fun p l e R s m args below meth c0 Q hX O1 ad H locs ls cells slots h1 h2 h3 h4 h5 => ?_) kk
  subst hX
  obtain ⟨-, hB, hCst, hD⟩ := O
  obtain ⟨hMO, hST, hSH, hF, hL, hl0, -⟩ := id O1
  subst hl0; subst hst
  have hmap : ((as.map (shA h)).reverse ++ rest).map (emb ad) = (as.map (emb (adH h ad))).reverse ++ rest.map (emb ad) := by
    rw [List.map_append, List.map_reverse, map_sh]
  have hgood : ∀ w ∈ va_wsS own index ym (Cond.code ym b mL ret :: gwl), w ∈ gwl := by
    intro w hw
    simp only [va_wsS, List.mem_append, List.mem_cons, List.not_mem_nil, or_false] at hw
    rcases hw with (rfl | rfl | rfl) | rfl | hw <;> assumption
  rw [hmap]
  exact ⟨_, va_runS (As := as.map (emb (adH h ad))) (n := n) ⟨hMO.1, hMO.2.1, hMO.2.2.1, hMO.2.2.2.1, hMO.2.2.2.2.1⟩ (hC.2 g (adH h ad) H.size) (va_cwS n hMO.2.2.2.2.1 (goodIn_gwl hgood) rfl rfl rfl hpd (by rw [hF, hL]; exact hR))
    ⟨PcC.blind, PcC_ofM hh O1 hB hD h1 h2⟩ rfl (by rw [List.length_map]; exact hn) h3 rfl (by rw [cat_sum ad rest hrc]; show 2 * 0 + _ ≤ 8; omega) hd ⟨h4, h5⟩⟩
/-- a hall's own method that asks nothing -/
theorem J_callV1 (O : CKM l0 X B g cc own F L) (hKP : KPokM B) (hh : h < 2) {ym : MethodName} {b : ByteArray} {mL fr lo index n : Nat} {ret : Option FieldType} (hC : Con l0 ym b mL ret fr lo (.inr (some (4, 0, 0)) :: as) (s2.1 h) x' r) (hr0 : numR r) (hc : Cov x' y) (hst : st0 = (as.map (shA h)).reverse ++ .inr (some (shP h (4, 0, 0))) :: rest)
    (hl : liveC (s2.1 h).1 4 0 0 = true) {T : u_T} {N : Nat} (hcl : vwCl[10]? = some (ym.cls, T, N))
    (w1 : Cond.methodLink own index ym ∈ gwl) (w2 : Cond.instanceMethod ym ∈ gwl) (w3 : Cond.selects ym.cls ym ym ∈ gwl) (w4 : Cond.initialized ym.cls ∈ gwl) (w5 : Cond.code ym b mL ret ∈ gwl) (hpd : ym.cls ≠ "java/lang/invoke/MethodHandle" ∧ ym.cls ≠ "java/lang/invoke/VarHandle" ∧ (parseMethodDescriptor ym.desc).map (fun d => d.parameters.length) = some n) (hn : as.length = n)
    (hR : fr + 1 ≤ F ∧ 8 + (mL + 11) + lo ≤ L) (hrc : rest.all cat1 = true) (hrl : rest.length ≤ 8) (hlv : ∀ q ∈ lv, StabM q.2) (hrs : ∀ v ∈ rest, StabM v) (hd : decode cc pc = .ok (.invokevirtual index, 3))
    (kk : J X B (upH s2 h y ((kC x'.2).1 - (kC (s2.1 h).2).1) ((kC x'.2).2 - (kC (s2.1 h).2).2)) (pc + 3) lv (r.toList ++ rest)) : J X B s2 pc lv st0 := by
  refine J_core1 O hKP hh hl hr0 hc (hC.1 X) hlv hrs (fun p l e R s m args below meth c0 Q hX O1 ad H locs ls cells slots h1 h2 h3 h4 h5 => ?_) kk
  subst hX
  obtain ⟨-, hB, hCst, hD⟩ := O
  obtain ⟨hMO, hST, hSH, hF, hL, hl0, -⟩ := id O1
  subst hl0; subst hst
  have hWh : Wd B.1 (ctC g.2.1 g.2.2.1) B.2.2.1 (adH h ad) (s2.1 h) H := WdM_hall hh (by rw [← hB]; exact h1)
  have h6 := (hWh.1 (4, 0, 0) _ (ctC_live (κ := (s2.1 h).2) (E := (s2.1 h).1) hl)).1
  rw [cell_obj (by decide)] at h6
  have hmap : ((as.map (shA h)).reverse ++ .inr (some (shP h (4, 0, 0))) :: rest).map (emb ad) = (as.map (emb (adH h ad))).reverse ++ Value.ref (adH h ad (4, 0, 0)) :: rest.map (emb ad) := by
    rw [List.map_append, List.map_reverse, map_sh]; rfl
  have hgood : ∀ w ∈ wsV own index ym.cls ym (Cond.code ym b mL ret :: gwl), w ∈ gwl := by
    intro w hw
    simp only [wsV, List.mem_append, List.mem_cons, List.not_mem_nil, or_false] at hw
    rcases hw with (rfl | rfl | rfl | rfl) | rfl | hw <;> assumption
  rw [hmap]
  exact ⟨_, va_runV (As := as.map (emb (adH h ad))) (n := n) ⟨hMO.1, hMO.2.1, hMO.2.2.1, hMO.2.2.2.1, hMO.2.2.2.2.1⟩ (hC.2 g (adH h ad) H.size) (cwV n hMO.2.2.2.2.1 (goodIn_gwl hgood) rfl rfl rfl ⟨rfl, hpd⟩ (by rw [hF, hL]; exact hR))
    ⟨PcC.blind, va_recv hMO.2.2.2.2.2.1 (va_P1 h6) hcl (q0 := 0) rfl, PcC_ofM hh O1 hB hD h1 h2⟩ rfl (by rw [List.length_map]; exact hn) h3 rfl (by rw [cat_sum ad rest hrc]; show 2 * 0 + _ ≤ 8; omega) hd ⟨h4, h5⟩⟩
/-- a number out of the class's tables of constants -/
theorem J_ldcM (O : CKM l0 X B g cc own F L) {index : Nat} {v : Int32} (w1 : Cond.constant own index v ∈ gwl) (hd : decode cc pc = .ok (.ldc index, 2)) (kk : J X B s2 (pc + 2) lv (.inl (.int v) :: rest)) : J X B s2 pc lv rest := by
  obtain ⟨OO, hB, hCst, hD⟩ := O
  obtain ⟨p, l, e, R, s, m, args, below, meth, c, Q⟩ := X
  refine ⟨kk.1, fun fx ad H locs ls cells slots h1 h2 h3 h4 h5 => ?_⟩
  have hMO := (OO fx).1
  exact lv_ldc hMO.1 hMO.2.1 hMO.2.2.2.1 (hMO.2.2.2.2.1 _ w1) hd (kk.2 fx ad H locs ls cells slots h1 h2 h3 h4 h5)
theorem J_inegM (O : B.2.2.2.2.2.2.2.2 X → MO X B g.2.1 cc own) {a : Int32} (hd : decode cc pc = .ok (.ineg, 1)) (k : J X B s2 (pc + 1) lv (.inl (.int (-a)) :: rest)) : J X B s2 pc lv (.inl (.int a) :: rest) :=
  ⟨k.1, fun o ad H locs ls cells slots h1 h2 h3 h4 h5 => lv_ineg (O o).1 (O o).2.1 hd (k.2 o ad H locs ls cells slots h1 h2 h3 h4 h5)⟩
/-- a number of the law's row -/
theorem J_nld (O : CKM l0 X B g cc own F L) {a : Nat → Int32} (ha : s2.2.1 = some a) {j : Int32} (hj : vp_in j 12) (hd : decode cc pc = .ok (.iaload, 1)) (kk : J X B s2 (pc + 1) lv (.inl (.int (a j.toNatClampNeg)) :: rest)) : J X B s2 pc lv (.inl (.int j) :: .inr (some (2, 0, 0)) :: rest) := by
  obtain ⟨OO, hB, hCst, hD⟩ := O
  obtain ⟨p0, l, e, R, s, m, args, below, meth, c0, Q⟩ := X
  refine ⟨kk.1, fun fx ad H locs ls cells slots h1 h2 h3 h4 h5 => ?_⟩
  have O1 := (OO fx).1
  have hct : ctM g.2.1 g.2.2.1 ad s2 (2, 0, 0) = some (.inl (g.2.1 0, 12, .inl a)) := by rw [ctM_n, ha]; rfl
  exact va_iald O1.1 O1.2.1 O1.2.2.2.2.2.1 (va_P1 (h1.1.1 _ _ (by rw [hB]; exact hct)).1) 0 0 rfl rfl hj hd (kk.2 fx ad H locs ls cells slots h1 h2 h3 h4 h5)
def setNr (s : S2) (k : Nat) (x : Int32) : S2 := (s.1, s.2.1.map (fun a => upd a k x), s.2.2)
theorem J_nst (O : CKM l0 X B g cc own F L) {a : Nat → Int32} (ha : s2.2.1 = some a) {j : Int32} (hj : vp_in j 12) {kj : Nat} (hkj : j.toNatClampNeg = kj) {x : Int32} (hd : decode cc pc = .ok (.iastore, 1)) (kk : J X B (setNr s2 kj x) (pc + 1) lv rest) : J X B s2 pc lv (.inl (.int x) :: .inl (.int j) :: .inr (some (2, 0, 0)) :: rest) := by
  subst hkj
  obtain ⟨OO, hB, hCst, hD⟩ := O
  obtain ⟨p0, l, e, R, s, m, args, below, meth, c0, Q⟩ := X
  have hcst : B.2.2.2.2.1 (setNr s2 j.toNatClampNeg x) = B.2.2.2.2.1 s2 := by rw [hCst]; rfl
  refine ⟨by rw [← hcst]; exact kk.1, fun fx ad H locs ls cells slots h1 h2 h3 h4 h5 => ?_⟩
  have O1 := (OO fx).1
  have hc0 : ctM g.2.1 g.2.2.1 ad s2 (2, 0, 0) = some (.inl (g.2.1 0, 12, .inl a)) := by rw [ctM_n, ha]; rfl
  have hc1 : ctM g.2.1 g.2.2.1 ad (setNr s2 j.toNatClampNeg x) (2, 0, 0) = some (.inl (g.2.1 0, 12, .inl (upd a j.toNatClampNeg x))) := by rw [ctM_n]; show (s2.2.1.map _).map _ = _; rw [ha]; rfl
  have h6 := h1.1.1 _ _ (show B.2.1 ad s2 (2, 0, 0) = _ by rw [hB]; exact hc0)
  refine W.iast O1.1 O1.2.1 h6.1 ((O1.2.2.2.2.2.1.2 0 _ rfl).1 12 (fun q => .int (a q))) (fun q => by cases q) (by show ¬ (j < 0 ∨ (arrV _ _ _).slots.size ≤ _); rw [arrV_size]; exact hj) rfl rfl hd fun H1 g1 z oq => ?_
  refine kk.2 fx ad H1 _ ls cells slots ⟨?_, h1.2⟩ (h2.put z oq h6.2) h3 (by rw [hcst]; exact h4) (by rw [hcst]; exact h5)
  refine Wd.set (p0 := (2, 0, 0)) h1.1 (by rw [hB]; exact hc0) (by rw [hB]; exact hc1) (fun q hq => ?_) ?_ oq
  · rw [hB]
    unfold ctM
    split
    · rfl
    · rfl
  · show H1[ad (2, 0, 0)]? = some (vp_cell _ _)
    rw [g1]
    rw [vp_cell_i, vp_cell_i, arrV_store]
    congr 2
    funext q
    by_cases hq : q = j.toNatClampNeg
    · subst hq; simp [updV, upd]
    · simp [updV, upd, hq]
end CALL1
