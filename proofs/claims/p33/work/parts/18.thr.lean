section ACOPY
variable {p : Program} {l : Launch} {e : Env} {R : Room} {s : State} {m : MethodId} {args : Array Value} {below : List Frame} {meth : Method} {c : Code} {H : Heap} {locs : List Loc} {cells slots : Nat} {Q : State → Prop}
variable {pc : Nat} {ls : Array Slot} {rest : List Value} {A : Nat → Prop} {a a0 : Nat} {H0 : Heap}
/-- System.arraycopy of ints, the rest of the heap as it was (follows the kit's va_copyi) -/
theorem copy_one {cc : ByteArray} (hexec : p.tables.exec = Jvm.exec) (hb : c.code = cc) (hml : c.maxLocals = ls.size) {own : String} {index : Nat} (hown : s.vm.findClass own = some m.cls) (hlink : (Cond.methodLink own index arraycopyName).before args s = true) (hnat : (Cond.native arraycopyName).before args s = true) (hstat : (Cond.static arraycopyName).before args s = true) (hini : (Cond.initialized "java/lang/System").before args s = true)
    {cA : ClassId} (hty : ArrOfT s cA .int) (hS : va_S A H0 H locs) {n0 n1 : Nat} {f g : Nat → Int32} (hc0 : H[a0]? = some (vp_cell cA (n0, .inl f))) (hc1 : H[a]? = some (vp_cell cA (n1, .inl g))) (hAa : A a)
    {sp dp n : Int32} (h1 : ¬ sp < 0) (h2 : ¬ dp < 0) (h3 : ¬ n < 0) (h4 : sp.toNatClampNeg + n.toNatClampNeg ≤ n0) (h5 : dp.toNatClampNeg + n.toNatClampNeg ≤ n1)
    (hframes : 1 ≤ R.frames) (hlocals : (rest.map fun v => v.category).sum + (nativeFrameWords "java/lang/System" "arraycopy" 5 + 11) ≤ R.locals) (hdg : decode cc pc = .ok (.invokestatic index, 3))
    (kk : ∀ (H1 : Heap) (locs1 : List Loc), H1[a]? = some (vp_cell cA (n1, .inl (va_cpy f g sp.toNatClampNeg dp.toNatClampNeg n.toNatClampNeg))) → (∀ q : Nat, q ≠ a → H1[q]? = H[q]?) → va_S A H0 H1 locs1 → W p l e R s m args below meth c H1 locs1 cells slots Q (F0 m (pc + 3) ls rest)) : W p l e R s m args below meth c H locs cells slots Q (F0 m pc ls (.int n :: .int dp :: .ref a :: .int sp :: .ref a0 :: rest)) := by
  have nn : ∀ z : Int32, ¬ z < 0 → z.toInt = (z.toNatClampNeg : Int) := by
    intro z hz
    have hz0 : (0 : Int) ≤ z.toInt := by
      have := Int32.not_lt.mp hz
      simpa using Int32.le_iff_toInt_le.mp this
    show z.toInt = ((z.toInt.toNat : Nat) : Int)
    omega
  intro T hT X
  obtain ⟨-, k0, hk0, cm0, hkk0⟩ := hty n0 (fun j => .int (f j))
  obtain ⟨-, k1, hk1, cm1, hkk1⟩ := hty n1 (fun j => .int (g j))
  obtain ⟨vm', X', step⟩ := X.arraycopy hexec hown hlink hnat hstat hini (src := a0) (dst := a) (cs := vp_cell cA (n0, .inl f)) (cd := vp_cell cA (n1, .inl g)) (srcPos := sp) (destPos := dp) (n := n) (by rw [hT]; exact hc0) (by rw [hT]; exact hc1)
    (fun _ h => by cases h) (fun _ h => by cases h) (fun h => by cases h) (fun h => by cases h) hk0 hk1 hkk0 hkk1 (by simp [refKind]) h1 h2 h3
    (by rw [nn sp h1, nn n h3]; show ¬ _ > ((arrV cA n0 (fun j => .int (f j))).slots.size : Int); rw [arrV_size]; omega)
    (by rw [nn dp h2, nn n h3]; show ¬ _ > ((arrV cA n1 (fun j => .int (g j))).slots.size : Int); rw [arrV_size]; omega)
    (fun vm₁ _ i hi => by
      have e : (vp_cell cA (n0, .inl f)).slots.getD (sp.toNatClampNeg + i) .null = .int (f (sp.toNatClampNeg + i)) := by
        show (arrV cA n0 (fun j => .int (f j))).slots.getD _ _ = _
        rw [Array.getD_eq_getD_getElem?, arrV_read _ _ (by omega)]
        rfl
      refine ⟨?_, ?_⟩
      · rw [e]
        rfl
      · rw [e]
        exact trivial)
    (g := F0 m pc ls (.int n :: .int dp :: .ref a :: .int sp :: .ref a0 :: rest)) rfl (by rw [hml]) (rest := rest) rfl (by rw [hb]; exact hdg) hframes (by show 2 * 0 + _ + _ ≤ _; omega)
  have e1 : copied (vp_cell cA (n0, .inl f)) (vp_cell cA (n1, .inl g)) sp dp n = vp_cell cA (n1, .inl (va_cpy f g sp.toNatClampNeg dp.toNatClampNeg n.toNatClampNeg)) := va_copied (fun z => .int z) cA cA f g h4
  rw [e1] at X' step
  have hl : a < H.size := (Array.getElem?_eq_some_iff.mp hc1).1
  have hheap : ((T.setVm vm').setCell a (vp_cell cA (n1, .inl (va_cpy f g sp.toNatClampNeg dp.toNatClampNeg n.toNatClampNeg)))).heap = H.setIfInBounds a (vp_cell cA (n1, .inl (va_cpy f g sp.toNatClampNeg dp.toNatClampNeg n.toNatClampNeg))) := by rw [← hT]; rfl
  have oq : ∀ q : Nat, q ≠ a → (H.setIfInBounds a (vp_cell cA (n1, .inl (va_cpy f g sp.toNatClampNeg dp.toNatClampNeg n.toNatClampNeg))))[q]? = H[q]? := fun q hq => by simp [Array.getElem?_setIfInBounds, Ne.symm hq]
  obtain ⟨t, a1, b1⟩ := kk _ _ (show (H.setIfInBounds a _)[a]? = some _ by simp [Array.getElem?_setIfInBounds, hl]) oq ⟨by simp; exact hS.1, fun q g1 g2 => by
      rw [oq q (fun e => g2 (by rw [e]; exact hAa))]
      exact hS.2.1 q g1 g2, fun q hq => by
      rcases List.mem_append.mp hq with h | h
      · exact hS.2.2 q h
      · obtain ⟨z, -, hz⟩ := List.mem_map.mp h
        rw [← hz]
        exact hAa⟩ _ hheap X'
  exact ⟨t, step t a1, b1⟩
end ACOPY
section ACOPYJ
variable {l0 : Launch} {X : MX} {B : BX (EE × K)} {g : GP} {cc : ByteArray} {own : String} {F L : Nat} {E : EE} {κ : K} {pc : Nat} {lv : List (Nat × AV)} {rest : List AV}
/-- .. of an array into one that exists for good -/
theorem J_acopy (O : CK l0 X B g cc own F L) {p : Pl} {n0 n1 : Nat} {f0 : Nat → Int32} {f i c : Nat} (hct : ∀ ad, ctC g.2.1 g.2.2.1 ad (E, κ) p = some (.inl (g.2.1 0, n0, .inl f0))) (hdt : ∀ (κ : K) (ad : Pl → Nat), ctC g.2.1 g.2.2.1 ad (E, κ) (f, i, c) = some (.inl (g.2.1 0, n1, .inl (kV κ f i c))) ∨ kN κ f i c ≠ n1) (hn1 : kN κ f i c = n1)
    {sp dp n : Int32} (h1 : ¬ sp < 0) (h2 : ¬ dp < 0) (h3 : ¬ n < 0) (h4 : sp.toNatClampNeg + n.toNatClampNeg ≤ n0) (h5 : dp.toNatClampNeg + n.toNatClampNeg ≤ n1)
    {index : Nat} (w1 : Cond.methodLink own index arraycopyName ∈ gwl) (w2 : Cond.native arraycopyName ∈ gwl) (w3 : Cond.static arraycopyName ∈ gwl) (w4 : Cond.initialized "java/lang/System" ∈ gwl) (hF : 1 ≤ F) (hL : rest.length + (nativeFrameWords "java/lang/System" "arraycopy" 5 + 11) ≤ L) (hrc : rest.all cat1 = true) (hd : decode cc pc = .ok (.invokestatic index, 3))
    (kk : J X B (E, setA κ f i c (va_cpy f0 (kV κ f i c) sp.toNatClampNeg dp.toNatClampNeg n.toNatClampNeg)) (pc + 3) lv rest) : J X B (E, κ) pc lv (.inl (.int n) :: .inl (.int dp) :: .inr (some (f, i, c)) :: .inl (.int sp) :: .inr (some p) :: rest) := by
  obtain ⟨OO, hB, hCst, hD⟩ := O
  obtain ⟨p0, l, e, R, s, m, args, below, meth, c0, Q⟩ := X
  have hcst : B.2.2.2.2.1 (E, setA κ f i c (va_cpy f0 (kV κ f i c) sp.toNatClampNeg dp.toNatClampNeg n.toNatClampNeg)) = B.2.2.2.2.1 (E, κ) := by rw [hCst]; rfl
  refine ⟨by rw [← hcst]; exact kk.1, fun fx ad H locs ls cells slots k1 k2 k3 k4 k5 => ?_⟩
  obtain ⟨O1, hST, hSH, hF', hL', -⟩ := OO fx
  have hc1 := (hdt κ ad).resolve_right (fun h => h hn1)
  have hc2 := (hdt (setA κ f i c (va_cpy f0 (kV κ f i c) sp.toNatClampNeg dp.toNatClampNeg n.toNatClampNeg)) ad).resolve_right (fun h => h hn1)
  have g0 := k1.1.at hB (hct ad)
  have g1 := k1.1.at hB hc1
  refine copy_one O1.1 O1.2.1 (by rw [O1.2.2.1, k3.1]) O1.2.2.2.1 (O1.2.2.2.2.1 _ w1) (O1.2.2.2.2.1 _ w2) (O1.2.2.2.2.1 _ w3) (O1.2.2.2.2.1 _ w4) (O1.2.2.2.2.2.1.2 0 _ rfl).1 k2 g0.1 g1.1 g1.2 h1 h2 h3 h4 h5 (by rw [hF']; exact hF) (by rw [cat_sum ad rest hrc, hL']; exact hL) hd (fun H1 locs1 e1 e2 e3 => ?_)
  refine kk.2 fx ad H1 locs1 ls cells slots ⟨?_, k1.2⟩ e3 k3 (by rw [hcst]; exact k4) (by rw [hcst]; exact k5)
  refine Wd.set (p0 := (f, i, c)) k1.1 (by rw [hB]; exact hc1) (by rw [hB]; exact hc2) (fun q hq => by rw [hB]; exact ctC_setA hq) ?_ e2
  rw [setA_eq]
  exact e1
/-- .. into the temporary array -/
theorem J_acopyT (O : CK l0 X B g cc own F L) {p : Pl} {n0 n1 : Nat} {f0 f1 : Nat → Int32} (hct : ∀ ad, ctC g.2.1 g.2.2.1 ad (E, κ) p = some (.inl (g.2.1 0, n0, .inl f0))) (ht : kT κ = some (n1, f1))
    {sp dp n : Int32} (h1 : ¬ sp < 0) (h2 : ¬ dp < 0) (h3 : ¬ n < 0) (h4 : sp.toNatClampNeg + n.toNatClampNeg ≤ n0) (h5 : dp.toNatClampNeg + n.toNatClampNeg ≤ n1)
    {index : Nat} (w1 : Cond.methodLink own index arraycopyName ∈ gwl) (w2 : Cond.native arraycopyName ∈ gwl) (w3 : Cond.static arraycopyName ∈ gwl) (w4 : Cond.initialized "java/lang/System" ∈ gwl) (hF : 1 ≤ F) (hL : rest.length + (nativeFrameWords "java/lang/System" "arraycopy" 5 + 11) ≤ L) (hrc : rest.all cat1 = true) (hd : decode cc pc = .ok (.invokestatic index, 3))
    (kk : J X B (E, setT κ (some (n1, va_cpy f0 f1 sp.toNatClampNeg dp.toNatClampNeg n.toNatClampNeg))) (pc + 3) lv rest) : J X B (E, κ) pc lv (.inl (.int n) :: .inl (.int dp) :: .inr (some (7, 0, 0)) :: .inl (.int sp) :: .inr (some p) :: rest) := by
  obtain ⟨OO, hB, hCst, hD⟩ := O
  obtain ⟨p0, l, e, R, s, m, args, below, meth, c0, Q⟩ := X
  have hcst : B.2.2.2.2.1 (E, setT κ (some (n1, va_cpy f0 f1 sp.toNatClampNeg dp.toNatClampNeg n.toNatClampNeg))) = B.2.2.2.2.1 (E, κ) := by rw [hCst]; rfl
  refine ⟨by rw [← hcst]; exact kk.1, fun fx ad H locs ls cells slots k1 k2 k3 k4 k5 => ?_⟩
  obtain ⟨O1, hST, hSH, hF', hL', -⟩ := OO fx
  have hc1 := ct_tmp (ca := g.2.1) (e0 := g.2.2.1) (E := E) ht ad
  have hc2 := ct_tmp (ca := g.2.1) (e0 := g.2.2.1) (E := E) (κ := setT κ (some (n1, va_cpy f0 f1 sp.toNatClampNeg dp.toNatClampNeg n.toNatClampNeg))) rfl ad
  have g0 := k1.1.at hB (hct ad)
  have g1 := k1.1.at hB hc1
  refine copy_one O1.1 O1.2.1 (by rw [O1.2.2.1, k3.1]) O1.2.2.2.1 (O1.2.2.2.2.1 _ w1) (O1.2.2.2.2.1 _ w2) (O1.2.2.2.2.1 _ w3) (O1.2.2.2.2.1 _ w4) (O1.2.2.2.2.2.1.2 0 _ rfl).1 k2 g0.1 g1.1 g1.2 h1 h2 h3 h4 h5 (by rw [hF']; exact hF) (by rw [cat_sum ad rest hrc, hL']; exact hL) hd (fun H1 locs1 e1 e2 e3 => ?_)
  refine kk.2 fx ad H1 locs1 ls cells slots ⟨?_, k1.2⟩ e3 k3 (by rw [hcst]; exact k4) (by rw [hcst]; exact k5)
  exact Wd.set (p0 := (7, 0, 0)) (e1 := .inl (g.2.1 0, n1, .inl (va_cpy f0 f1 sp.toNatClampNeg dp.toNatClampNeg n.toNatClampNeg))) k1.1 (by rw [hB]; exact hc1) (by rw [hB]; exact hc2) (fun q hq => by rw [hB]; exact ctC_setT hq) e1 e2
end ACOPYJ
/-! EXCEPTIONS -/
def QNX (g : GP) (ad0 : Pl → Nat) (x0 : EE × K) (sz : Nat) (x' : EE × K) (r : Option AV ⊕ String) (ret : Option FieldType) (X : MX) : Prop := match X with
  | (_, _, _, R, s, _, args, below, meth, c, Q) => Q = vx_MQ below (QcX g ad0 x0 sz x' r) (XcX g ad0 x0 sz x' r) args s R.cells R.slots (Aof g ad0 x0 sz) ∧ meth.sig.returnType = ret ∧ s.heap.size = sz ∧ ∀ x ∈ c.exceptionTable.toList, False
/-- a body that may throw: its end -/
def QXH (X : MX) (B : BX (EE × K)) (g : GP) (x' : EE × K) (r : Option AV ⊕ String) : Prop :=
  ∃ (ad0 : Pl → Nat) (x0 : EE × K) (sz : Nat) (ret : Option FieldType), B.2.2.1 = Aof g ad0 x0 sz ∧ B.2.2.2.2.2.2.2.1 = Keep x0.1 ad0 ∧ B.2.2.2.2.2.2.1 = kC x'.2 ∧ B.2.2.2.2.2.1 = kC x0.2 ∧ (B.2.2.2.2.2.2.2.2 X → QNX g ad0 x0 sz x' r ret X)
def EndX (X : MX) (B : BX (EE × K)) (b : ByteArray) (x' : EE × K) : Option AV ⊕ String → Prop
  | .inl r => EndOK X B b x' r
  | .inr _ => True
def RetX (ret : Option FieldType) : Option AV ⊕ String → Prop
  | .inl r => RetOK ret r
  | .inr _ => True
theorem endx_true {X : MX} {g : GP} {ad0 : Pl → Nat} {x0 x' : EE × K} {sz mL : Nat} {fx : MX → Prop} {b : ByteArray} {own : String} {r : Option AV} {ret : Option FieldType} (hret : RetOK ret r)
    (hfx : ∀ X, fx X → MO X (Bof g ad0 x0 sz mL (kC x'.2) fx) g.2.1 b own ∧ QNX g ad0 x0 sz x' (.inl r) ret X) : EndOK X (Bof g ad0 x0 sz mL (kC x'.2) fx) b x' r := by
  obtain ⟨p, l, e, R, s, m, args, below, meth, c, Q⟩ := X
  have st : ((fun y : EE × K => kC y.2) x').1 ≤ (kC x'.2).1 ∧ ((fun y : EE × K => kC y.2) x').2 ≤ (kC x'.2).2 := ⟨Nat.le_refl _, Nat.le_refl _⟩
  match r, hret, hfx with
  | none, hret, hfx =>
    refine fun pc lv hd => ⟨st, fun o ad H locs ls cells slots h1 h2 h3 h4 h5 => ?_⟩
    obtain ⟨O, hQ, hr, hz, -⟩ := hfx _ o
    obtain ⟨hx, hb, -, -, -, -, hlk, -, hc1, hc2⟩ := O
    have e1 : cells = R.cells := by have h4' : (kC x0.2).1 + cells = (kC x'.2).1 := h4; have hc1' : (kC x0.2).1 + R.cells = (kC x'.2).1 := hc1; omega
    have e2 : slots = R.slots := by have h5' : (kC x0.2).2 + slots = (kC x'.2).2 := h5; have hc2' : (kC x0.2).2 + R.slots = (kC x'.2).2 := hc2; omega
    subst e1; subst e2; subst hQ
    exact vx_ret (W.vret hx hb (hr.trans hret) (fun t ht _ => ⟨⟨ad, h1.2, rfl, by rw [ht]; exact h1.1⟩, va_S.F h2 ht⟩) h2.2.2 hd hlk)
  | some (.inl (.int v)), hret, hfx =>
    refine fun pc lv hd => ⟨st, fun o ad H locs ls cells slots h1 h2 h3 h4 h5 => ?_⟩
    obtain ⟨O, hQ, hr, hz, -⟩ := hfx _ o
    obtain ⟨hx, hb, -, -, -, -, hlk, -, hc1, hc2⟩ := O
    obtain ⟨ty, hty, hn⟩ := hret
    have e1 : cells = R.cells := by have h4' : (kC x0.2).1 + cells = (kC x'.2).1 := h4; have hc1' : (kC x0.2).1 + R.cells = (kC x'.2).1 := hc1; omega
    have e2 : slots = R.slots := by have h5' : (kC x0.2).2 + slots = (kC x'.2).2 := h5; have hc2' : (kC x0.2).2 + R.slots = (kC x'.2).2 := hc2; omega
    subst e1; subst e2; subst hQ
    exact vx_ret (W.zret hx hb (hr.trans hty) hn (fun t ht _ => ⟨⟨ad, h1.2, rfl, by rw [ht]; exact h1.1⟩, va_S.F h2 ht⟩) h2.2.2 hd hlk)
  | some (.inr w), hret, hfx =>
    refine fun pc lv hd => ⟨st, fun o ad H locs ls cells slots h1 h2 h3 h4 h5 => ?_⟩
    obtain ⟨O, hQ, hr, hz, -⟩ := hfx _ o
    obtain ⟨hx, hb, -, -, -, -, hlk, -, hc1, hc2⟩ := O
    obtain ⟨rt, hty, hrt⟩ := hret
    have e1 : cells = R.cells := by have h4' : (kC x0.2).1 + cells = (kC x'.2).1 := h4; have hc1' : (kC x0.2).1 + R.cells = (kC x'.2).1 := hc1; omega
    have e2 : slots = R.slots := by have h5' : (kC x0.2).2 + slots = (kC x'.2).2 := h5; have hc2' : (kC x0.2).2 + R.slots = (kC x'.2).2 := hc2; omega
    subst e1; subst e2; subst hQ
    exact vx_ret (W.aret hx hb (hr.trans hty) hrt (by cases w <;> first | exact Or.inl rfl | exact Or.inr ⟨_, rfl⟩) (fun t ht _ => ⟨⟨ad, h1.2, rfl, by rw [ht]; exact h1.1⟩, va_S.F h2 ht⟩) h2.2.2 hd hlk)
  | some (.inl (.long v)), hret, hfx => trivial
  | some (.inl (.float v)), hret, hfx => trivial
  | some (.inl (.double v)), hret, hfx => trivial
  | some (.inl .null), hret, hfx => trivial
  | some (.inl (.ref v)), hret, hfx => trivial
  | some (.inl (.retAddr v)), hret, hfx => trivial
set_option maxHeartbeats 1000000 in
theorem ConX_of {l : Launch} {y : MethodName} {b : ByteArray} {mL : Nat} {ret : Option FieldType} {fr lo : Nat} {as : List AV} {x x' : EE × K} {r : Option AV ⊕ String} (hfl : l.stackTraces = false) (hy : plainName y.cls = true) (hlen : as.length ≤ mL) (hcat : as.all cat1 = true) (hret : RetX ret r)
    (body : ∀ (X : MX) (B : BX (EE × K)) (g : GP), CK l X B g b y.cls fr lo → KPok B x.1 → B.2.2.2.1 = mL → QXH X B g x' r → EndX X B b x' r → J X B x 0 (argl 0 as) []) : ConX l y b mL ret fr lo as x x' r := by
  have hmono : ∀ X : MX, (kC x.2).1 ≤ (kC x'.2).1 ∧ (kC x.2).2 ≤ (kC x'.2).2 := fun X =>
    (body X (Bof ((fun _ => 0, fun _ _ => 0), fun _ => 0, (0, 0, 0)) (fun _ => 0) x 0 mL (kC x'.2) (fun _ => False)) ((fun _ => 0, fun _ _ => 0), fun _ => 0, (0, 0, 0)) ⟨fun o => o.elim, rfl, rfl, rfl⟩ kpok rfl ⟨fun _ => 0, x, 0, ret, rfl, rfl, rfl, rfl, fun o => o.elim⟩
      (by cases r with
          | inl r => exact end_false rfl (fun o => o) r
          | inr _ => trivial)).1
  refine ⟨hmono, fun g ad sz => ?_⟩
  refine vx_ofW (cc := b) (maxL := mL) (ret := ret) hy rfl ?_
  intro p e s m args below meth c s₁ B0 hml hxt hv
  obtain ⟨rfl, hsz, hK, hST, hSH, hWd⟩ := hv
  have hts := atoms_spec (ws := Cond.code y b mL ret :: gwl) B0.pre
  obtain ⟨hm1, hm2⟩ := hmono (p, l, e, { frames := 0, cells := 0, slots := 0, locals := 0 }, s, m, #[], below, meth, c, fun _ => True)
  have hl := lv_entry (as.map (emb ad)) (n := mL) (by rw [lg_len ad as hcat]; exact hlen)
  rw [lv_argl ad as 0 hcat] at hl
  rw [lg_entry_eq]
  generalize hfx : (fun X : MX => MO X (Bof g ad x sz mL (kC x'.2) (fun _ => True)) g.2.1 b y.cls ∧ QNX g ad x sz x' r ret X ∧ CX l X (Bof g ad x sz mL (kC x'.2) (fun _ => True)) g b y.cls fr lo) = fx
  have hX : fx (p, l, e, { frames := fr, cells := (kC x'.2).1 - (kC x.2).1, slots := (kC x'.2).2 - (kC x.2).2, locals := lo }, s, m, (as.map (emb ad)).toArray, below, meth, c, vx_MQ below (QcX g ad x sz x' r) (XcX g ad x sz x' r) (as.map (emb ad)).toArray s ((kC x'.2).1 - (kC x.2).1) ((kC x'.2).2 - (kC x.2).2) (Aof g ad x sz)) := by
    have hMO : MO (p, l, e, ({ frames := fr, cells := (kC x'.2).1 - (kC x.2).1, slots := (kC x'.2).2 - (kC x.2).2, locals := lo } : Room), s, m, (as.map (emb ad)).toArray, below, meth, c, vx_MQ below (QcX g ad x sz x' r) (XcX g ad x sz x' r) (as.map (emb ad)).toArray s ((kC x'.2).1 - (kC x.2).1) ((kC x'.2).2 - (kC x.2).2) (Aof g ad x sz)) (Bof g ad x sz mL (kC x'.2) (fun _ => True)) g.2.1 b y.cls :=
      ⟨B0.exec, B0.bytes, hml, findClass_of_methodNamed B0.named, fun w hw => hts w (List.mem_cons_of_mem _ hw), hK, B0.notSynchronized, fun q hq => Or.inr (by rw [← hsz]; exact hq), by show (kC x.2).1 + ((kC x'.2).1 - (kC x.2).1) = _; exact Nat.add_sub_cancel' hm1, by show (kC x.2).2 + ((kC x'.2).2 - (kC x.2).2) = _; exact Nat.add_sub_cancel' hm2⟩
    rw [← hfx]
    exact ⟨hMO, ⟨rfl, B0.returns, hsz, hxt⟩, hMO, hST, by rw [← hsz] at hSH; rw [← hsz]; exact hSH, rfl, rfl, rfl, hfl⟩
  have hCX : ∀ X, fx X → CX l X (Bof g ad x sz mL (kC x'.2) fx) g b y.cls fr lo := by
    intro X h; rw [← hfx] at h; exact h.2.2
  have hQX : ∀ X, fx X → QNX g ad x sz x' r ret X := by
    intro X h; rw [← hfx] at h; exact h.2.1
  have hMO : ∀ X, fx X → MO X (Bof g ad x sz mL (kC x'.2) fx) g.2.1 b y.cls := by
    intro X h; rw [← hfx] at h; exact h.1
  have hJ := fun X : MX => body X (Bof g ad x sz mL (kC x'.2) fx) g ⟨hCX X, rfl, rfl, rfl⟩ kpok rfl ⟨ad, x, sz, ret, rfl, rfl, rfl, rfl, hQX X⟩
    (by cases r with
        | inl r => exact endx_true (X := X) (b := b) (own := y.cls) hret (fun X h => ⟨hMO X h, hQX X h⟩)
        | inr _ => trivial)
  exact (hJ _).2 hX ad s.heap [] _ 0 0 ⟨hWd, fun _ _ _ _ _ => rfl⟩ va_S.rf hl rfl rfl
