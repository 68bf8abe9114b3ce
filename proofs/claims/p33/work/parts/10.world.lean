/-- the classes whose objects the worlds hold -/
abbrev vwCl : List vw_C := [(RJx4a65c, TJx4a65c, 3), (RX0, TX0, 4), (RX1, TX1, 19), (RX2, TX2, 8), (RX3, TX3, 9), (RX4, TX4, 2), (RX5, TX5, 4), (RX6, TX6, 5), (RX7, TX7, 3), (RX8, TX8, 10), (RX10, TX10, 4)]
/-! PLACES: what an object or array of the system is called: (family, number in it, part). An abstract value is a plain one, or a place, or null. -/
abbrev Pl : Type := Nat × Nat × Nat
abbrev AV : Type := Value ⊕ Option Pl
def emb (ad : Pl → Nat) : AV → Value
  | .inl v => v
  | .inr none => .null
  | .inr (some p) => .ref (ad p)
abbrev eml (ad : Pl → Nat) (q : Nat × AV) : Nat × Value := (q.1, emb ad q.2)
/-- one word wide -/
def cat1 : AV → Bool
  | .inl v => v.category == 1
  | .inr _ => true
theorem cat1_emb {v : AV} (ad : Pl → Nat) (h : cat1 v = true) : (emb ad v).category = 1 := by
  cases v with
  | inl v => simpa [cat1, emb] using h
  | inr o => cases o <;> rfl
/-! THE WORLD: the content of each place that exists, at the address that the map ad gives it -/
abbrev CtF (σ : Type) : Type := (Pl → Nat) → σ → Pl → Option va_E
def Wd {σ : Type} (D : va_G) (ct : CtF σ) (A : Nat → Prop) (ad : Pl → Nat) (x : σ) (H : Heap) : Prop :=
  (∀ (p : Pl) (e : va_E), ct ad x p = some e → va_at D vwCl (ad p, e) H ∧ A (ad p)) ∧ ∀ (p q : Pl) (e e' : va_E), ct ad x p = some e → ct ad x q = some e' → ad p = ad q → p = q
/-- a store's world behind a write at the place p0 -/
theorem Wd.set {σ : Type} {D : va_G} {ct : CtF σ} {A : Nat → Prop} {ad : Pl → Nat} {x x' : σ} {H H1 : Heap} (h : Wd D ct A ad x H) {p0 : Pl} {e0 e1 : va_E} (h0 : ct ad x p0 = some e0) (h1 : ct ad x' p0 = some e1) (hs : ∀ p, p ≠ p0 → ct ad x' p = ct ad x p)
    (he : va_at D vwCl (ad p0, e1) H1) (oq : ∀ q : Nat, q ≠ ad p0 → H1[q]? = H[q]?) : Wd D ct A ad x' H1 := by
  have key : ∀ (p : Pl) (e : va_E), ct ad x' p = some e → ∃ e', ct ad x p = some e' := by
    intro p e hp
    by_cases hpp : p = p0
    · subst hpp; exact ⟨e0, h0⟩
    · rw [hs p hpp] at hp; exact ⟨e, hp⟩
  refine ⟨fun p e hp => ?_, fun p q e e' hp hq hpq => ?_⟩
  · by_cases hpp : p = p0
    · subst hpp
      rw [h1] at hp
      cases hp
      exact ⟨he, (h.1 _ _ h0).2⟩
    · rw [hs p hpp] at hp
      refine ⟨(h.1 _ _ hp).1.kept (oq _ fun z => hpp ?_), (h.1 _ _ hp).2⟩
      exact h.2 _ _ _ _ hp h0 z
  · obtain ⟨a, ha⟩ := key p e hp
    obtain ⟨b, hb⟩ := key q e' hq
    exact h.2 _ _ _ _ ha hb hpq
/-! THE JUDGEMENT J: the machine walks on from here to the end that X asks; B: what stays fixed in a body (the tables of classes, the world's content, the cells that may change, the number of locals, the cost's measure, cost at the start and at the end, which maps of addresses may come, what is known of X) -/
abbrev MX : Type := Program × Launch × Env × Room × State × MethodId × Array Value × List Frame × Method × Code × (State → Prop)
abbrev BX (σ : Type) : Type := va_G × CtF σ × (Nat → Prop) × Nat × (σ → Nat × Nat) × (Nat × Nat) × (Nat × Nat) × ((Pl → Nat) → Prop) × (MX → Prop)
def WX (X : MX) (H : Heap) (locs : List Loc) (cells slots : Nat) (g : JFrame) : Prop := match X with
  | (p, l, e, R, s, m, args, below, meth, c, Q) => W p l e R s m args below meth c H locs cells slots Q g
abbrev MXs (X : MX) : State := X.2.2.2.2.1
abbrev MXm (X : MX) : MethodId := X.2.2.2.2.2.1
def J {σ : Type} (X : MX) (B : BX σ) (x : σ) (pc : Nat) (lv : List (Nat × AV)) (st : List AV) : Prop :=
  ((B.2.2.2.2.1 x).1 ≤ B.2.2.2.2.2.2.1.1 ∧ (B.2.2.2.2.1 x).2 ≤ B.2.2.2.2.2.2.1.2) ∧
  (B.2.2.2.2.2.2.2.2 X → ∀ (ad : Pl → Nat) (H : Heap) (locs : List Loc) (ls : Array Slot) (cells slots : Nat), (Wd B.1 B.2.1 B.2.2.1 ad x H ∧ B.2.2.2.2.2.2.2.1 ad) → va_S B.2.2.1 (MXs X).heap H locs → lv_has ls B.2.2.2.1 (lv.map (eml ad)) →
    B.2.2.2.2.2.1.1 + cells = (B.2.2.2.2.1 x).1 → B.2.2.2.2.2.1.2 + slots = (B.2.2.2.2.1 x).2 → WX X H locs cells slots (F0 (MXm X) pc ls (st.map (emb ad))))
/-- the words that every body may ask -/
def gwl : List Cond := lw_tbl.filter goodWord
theorem gwl_in {w : Cond} (h : w ∈ lw_tbl) (hg : goodWord w = true) : w ∈ gwl := List.mem_filter.mpr ⟨h, hg⟩
theorem gwl_tb {w : Cond} (k : Nat) (h : tables_1[k]? = some w) (hg : goodWord w = true) : w ∈ gwl := gwl_in (List.mem_append_right _ (List.mem_of_getElem? h)) hg
theorem gwl_sl {w : Cond} (k : Nat) (h : (k2_sels lw_privs)[k]? = some w) (hg : goodWord w = true) : w ∈ gwl := gwl_in (List.mem_append_left _ (List.mem_of_getElem? h)) hg
/-- the classes of arrays: int, boolean, long, Object, Host -/
abbrev tysOf (ca : Nat → ClassId) : List (ClassId × FieldType) := [(ca 0, .int), (ca 1, .int), (ca 2, .int), (ca 3, .object "java/lang/Object"), (ca 4, .object "GuestHall$Host")]
/-- what a body knows: machine, code, tables -/
def MO {σ : Type} (X : MX) (B : BX σ) (ca : Nat → ClassId) (cc : ByteArray) (own : String) : Prop := match X with
  | (p, l, e, R, s, m, args, below, meth, c, Q) => p.tables.exec = Jvm.exec ∧ c.code = cc ∧ c.maxLocals = B.2.2.2.1 ∧ s.vm.findClass own = some m.cls ∧ (∀ w ∈ gwl, w.before args s = true) ∧ va_K B.1 vwCl (tysOf ca) s ∧ meth.locks = false ∧ (∀ q : Nat, s.heap.size ≤ q → B.2.2.1 q) ∧ (B.2.2.2.2.2.1.1 + R.cells = B.2.2.2.2.2.2.1.1 ∧ B.2.2.2.2.2.1.2 + R.slots = B.2.2.2.2.2.2.1.2)
section JROWS
variable {σ : Type} {X : MX} {B : BX σ} {ca : Nat → ClassId} {cc : ByteArray} {own : String} {x : σ} {pc : Nat} {lv : List (Nat × AV)} {rest : List AV}
theorem J_iconst (O : B.2.2.2.2.2.2.2.2 X → MO X B ca cc own) {n : Int} {v : Int32} (hd : decode cc pc = .ok (.iconst n, 1)) (hv : Int32.ofInt n = v) (k : J X B x (pc + 1) lv (.inl (.int v) :: rest)) : J X B x pc lv rest :=
  ⟨k.1, fun o ad H locs ls cells slots h1 h2 h3 h4 h5 => lv_iconst (O o).1 (O o).2.1 hd hv (k.2 o ad H locs ls cells slots h1 h2 h3 h4 h5)⟩
theorem J_bipush (O : B.2.2.2.2.2.2.2.2 X → MO X B ca cc own) {n : Int} {v : Int32} (hd : decode cc pc = .ok (.bipush n, 2)) (hv : (Int8.ofInt n).toInt32 = v) (k : J X B x (pc + 2) lv (.inl (.int v) :: rest)) : J X B x pc lv rest :=
  ⟨k.1, fun o ad H locs ls cells slots h1 h2 h3 h4 h5 => lv_bipush (O o).1 (O o).2.1 hd hv (k.2 o ad H locs ls cells slots h1 h2 h3 h4 h5)⟩
theorem J_sipush (O : B.2.2.2.2.2.2.2.2 X → MO X B ca cc own) {n : Int} {v : Int32} (hd : decode cc pc = .ok (.sipush n, 3)) (hv : (Int16.ofInt n).toInt32 = v) (k : J X B x (pc + 3) lv (.inl (.int v) :: rest)) : J X B x pc lv rest :=
  ⟨k.1, fun o ad H locs ls cells slots h1 h2 h3 h4 h5 => lv_sipush (O o).1 (O o).2.1 hd hv (k.2 o ad H locs ls cells slots h1 h2 h3 h4 h5)⟩
theorem J_null (O : B.2.2.2.2.2.2.2.2 X → MO X B ca cc own) (hd : decode cc pc = .ok (.aconst_null, 1)) (k : J X B x (pc + 1) lv (.inr none :: rest)) : J X B x pc lv rest :=
  ⟨k.1, fun o ad H locs ls cells slots h1 h2 h3 h4 h5 => lv_null (O o).1 (O o).2.1 hd (k.2 o ad H locs ls cells slots h1 h2 h3 h4 h5)⟩
theorem J_iadd (O : B.2.2.2.2.2.2.2.2 X → MO X B ca cc own) {a b : Int32} (hd : decode cc pc = .ok (.iadd, 1)) (k : J X B x (pc + 1) lv (.inl (.int (a + b)) :: rest)) : J X B x pc lv (.inl (.int b) :: .inl (.int a) :: rest) :=
  ⟨k.1, fun o ad H locs ls cells slots h1 h2 h3 h4 h5 => lv_iadd (O o).1 (O o).2.1 hd (k.2 o ad H locs ls cells slots h1 h2 h3 h4 h5)⟩
theorem J_isub (O : B.2.2.2.2.2.2.2.2 X → MO X B ca cc own) {a b : Int32} (hd : decode cc pc = .ok (.isub, 1)) (k : J X B x (pc + 1) lv (.inl (.int (a - b)) :: rest)) : J X B x pc lv (.inl (.int b) :: .inl (.int a) :: rest) :=
  ⟨k.1, fun o ad H locs ls cells slots h1 h2 h3 h4 h5 => lv_isub (O o).1 (O o).2.1 hd (k.2 o ad H locs ls cells slots h1 h2 h3 h4 h5)⟩
theorem J_imul (O : B.2.2.2.2.2.2.2.2 X → MO X B ca cc own) {a b : Int32} (hd : decode cc pc = .ok (.imul, 1)) (k : J X B x (pc + 1) lv (.inl (.int (a * b)) :: rest)) : J X B x pc lv (.inl (.int b) :: .inl (.int a) :: rest) :=
  ⟨k.1, fun o ad H locs ls cells slots h1 h2 h3 h4 h5 => lv_imul (O o).1 (O o).2.1 hd (k.2 o ad H locs ls cells slots h1 h2 h3 h4 h5)⟩
theorem J_iand (O : B.2.2.2.2.2.2.2.2 X → MO X B ca cc own) {a b : Int32} (hd : decode cc pc = .ok (.iand, 1)) (k : J X B x (pc + 1) lv (.inl (.int (a &&& b)) :: rest)) : J X B x pc lv (.inl (.int b) :: .inl (.int a) :: rest) :=
  ⟨k.1, fun o ad H locs ls cells slots h1 h2 h3 h4 h5 => lv_iand (O o).1 (O o).2.1 hd (k.2 o ad H locs ls cells slots h1 h2 h3 h4 h5)⟩
theorem J_ior (O : B.2.2.2.2.2.2.2.2 X → MO X B ca cc own) {a b : Int32} (hd : decode cc pc = .ok (.ior, 1)) (k : J X B x (pc + 1) lv (.inl (.int (a ||| b)) :: rest)) : J X B x pc lv (.inl (.int b) :: .inl (.int a) :: rest) :=
  ⟨k.1, fun o ad H locs ls cells slots h1 h2 h3 h4 h5 => lv_ior (O o).1 (O o).2.1 hd (k.2 o ad H locs ls cells slots h1 h2 h3 h4 h5)⟩
theorem J_ixor (O : B.2.2.2.2.2.2.2.2 X → MO X B ca cc own) {a b : Int32} (hd : decode cc pc = .ok (.ixor, 1)) (k : J X B x (pc + 1) lv (.inl (.int (a ^^^ b)) :: rest)) : J X B x pc lv (.inl (.int b) :: .inl (.int a) :: rest) :=
  ⟨k.1, fun o ad H locs ls cells slots h1 h2 h3 h4 h5 => lv_ixor (O o).1 (O o).2.1 hd (k.2 o ad H locs ls cells slots h1 h2 h3 h4 h5)⟩
theorem J_ishl (O : B.2.2.2.2.2.2.2.2 X → MO X B ca cc own) {a b : Int32} (hd : decode cc pc = .ok (.ishl, 1)) (k : J X B x (pc + 1) lv (.inl (.int (a <<< (b &&& 31))) :: rest)) : J X B x pc lv (.inl (.int b) :: .inl (.int a) :: rest) :=
  ⟨k.1, fun o ad H locs ls cells slots h1 h2 h3 h4 h5 => lv_ishl (O o).1 (O o).2.1 hd (k.2 o ad H locs ls cells slots h1 h2 h3 h4 h5)⟩
theorem J_ishr (O : B.2.2.2.2.2.2.2.2 X → MO X B ca cc own) {a b : Int32} (hd : decode cc pc = .ok (.ishr, 1)) (k : J X B x (pc + 1) lv (.inl (.int (a >>> (b &&& 31))) :: rest)) : J X B x pc lv (.inl (.int b) :: .inl (.int a) :: rest) :=
  ⟨k.1, fun o ad H locs ls cells slots h1 h2 h3 h4 h5 => lv_ishr (O o).1 (O o).2.1 hd (k.2 o ad H locs ls cells slots h1 h2 h3 h4 h5)⟩
theorem J_idiv (O : B.2.2.2.2.2.2.2.2 X → MO X B ca cc own) {a b : Int32} (hd : decode cc pc = .ok (.idiv, 1)) (hne : ¬ b = 0) (k : J X B x (pc + 1) lv (.inl (.int (a / b)) :: rest)) : J X B x pc lv (.inl (.int b) :: .inl (.int a) :: rest) :=
  ⟨k.1, fun o ad H locs ls cells slots h1 h2 h3 h4 h5 => lv_idiv (O o).1 (O o).2.1 hd hne (k.2 o ad H locs ls cells slots h1 h2 h3 h4 h5)⟩
theorem J_irem (O : B.2.2.2.2.2.2.2.2 X → MO X B ca cc own) {a b : Int32} (hd : decode cc pc = .ok (.irem, 1)) (hne : ¬ b = 0) (k : J X B x (pc + 1) lv (.inl (.int (a - a / b * b)) :: rest)) : J X B x pc lv (.inl (.int b) :: .inl (.int a) :: rest) :=
  ⟨k.1, fun o ad H locs ls cells slots h1 h2 h3 h4 h5 => lv_irem (O o).1 (O o).2.1 hd hne (k.2 o ad H locs ls cells slots h1 h2 h3 h4 h5)⟩
theorem J_i2l (O : B.2.2.2.2.2.2.2.2 X → MO X B ca cc own) {a : Int32} (hd : decode cc pc = .ok (.i2l, 1)) (k : J X B x (pc + 1) lv (.inl (.long a.toInt64) :: rest)) : J X B x pc lv (.inl (.int a) :: rest) :=
  ⟨k.1, fun o ad H locs ls cells slots h1 h2 h3 h4 h5 => lv_i2l (O o).1 (O o).2.1 hd rfl (k.2 o ad H locs ls cells slots h1 h2 h3 h4 h5)⟩
theorem J_lconst (O : B.2.2.2.2.2.2.2.2 X → MO X B ca cc own) {n : Fin 2} {v : Int64} (hd : decode cc pc = .ok (.lconst n, 1)) (hv : Int64.ofNat (n : Nat) = v) (k : J X B x (pc + 1) lv (.inl (.long v) :: rest)) : J X B x pc lv rest :=
  ⟨k.1, fun o ad H locs ls cells slots h1 h2 h3 h4 h5 => lv_lconst (O o).1 (O o).2.1 hd hv (k.2 o ad H locs ls cells slots h1 h2 h3 h4 h5)⟩
theorem J_lcmp (O : B.2.2.2.2.2.2.2.2 X → MO X B ca cc own) {a b : Int64} (hd : decode cc pc = .ok (.lcmp, 1)) (k : J X B x (pc + 1) lv (.inl (.int (lg_cmp a b)) :: rest)) : J X B x pc lv (.inl (.long b) :: .inl (.long a) :: rest) :=
  ⟨k.1, fun o ad H locs ls cells slots h1 h2 h3 h4 h5 => W.lcmp (O o).1 (O o).2.1 hd (k.2 o ad H locs ls cells slots h1 h2 h3 h4 h5)⟩
theorem J_dup (O : B.2.2.2.2.2.2.2.2 X → MO X B ca cc own) {a : AV} (hd : decode cc pc = .ok (.dup, 1)) (hc : cat1 a = true) (k : J X B x (pc + 1) lv (a :: a :: rest)) : J X B x pc lv (a :: rest) :=
  ⟨k.1, fun o ad H locs ls cells slots h1 h2 h3 h4 h5 => lv_dup (O o).1 (O o).2.1 hd (cat1_emb ad hc) (k.2 o ad H locs ls cells slots h1 h2 h3 h4 h5)⟩
theorem J_pop (O : B.2.2.2.2.2.2.2.2 X → MO X B ca cc own) {a : AV} (hd : decode cc pc = .ok (.pop, 1)) (hc : cat1 a = true) (k : J X B x (pc + 1) lv rest) : J X B x pc lv (a :: rest) :=
  ⟨k.1, fun o ad H locs ls cells slots h1 h2 h3 h4 h5 => lv_pop (O o).1 (O o).2.1 hd (cat1_emb ad hc) (k.2 o ad H locs ls cells slots h1 h2 h3 h4 h5)⟩
theorem J_dup_x1 (O : B.2.2.2.2.2.2.2.2 X → MO X B ca cc own) {a b : AV} (hd : decode cc pc = .ok (.dup_x1, 1)) (hc : cat1 a = true) (hc2 : cat1 b = true) (k : J X B x (pc + 1) lv (a :: b :: a :: rest)) : J X B x pc lv (a :: b :: rest) :=
  ⟨k.1, fun o ad H locs ls cells slots h1 h2 h3 h4 h5 => lv_dup_x1 (O o).1 (O o).2.1 hd (cat1_emb ad hc) (cat1_emb ad hc2) (k.2 o ad H locs ls cells slots h1 h2 h3 h4 h5)⟩
theorem J_dup2 (O : B.2.2.2.2.2.2.2.2 X → MO X B ca cc own) {a b : AV} (hd : decode cc pc = .ok (.dup2, 1)) (hc : cat1 a = true) (hc2 : cat1 b = true) (k : J X B x (pc + 1) lv (a :: b :: a :: b :: rest)) : J X B x pc lv (a :: b :: rest) :=
  ⟨k.1, fun o ad H locs ls cells slots h1 h2 h3 h4 h5 => lv_dup2_11 (O o).1 (O o).2.1 hd (cat1_emb ad hc) (cat1_emb ad hc2) (k.2 o ad H locs ls cells slots h1 h2 h3 h4 h5)⟩
theorem J_goto (O : B.2.2.2.2.2.2.2.2 X → MO X B ca cc own) {off : Int} {tgt : Nat} (hd : decode cc pc = .ok (.goto off, 3)) (ht : (pc : Int) + off = (tgt : Int)) (k : J X B x tgt lv rest) : J X B x pc lv rest :=
  ⟨k.1, fun o ad H locs ls cells slots h1 h2 h3 h4 h5 => lv_goto (O o).1 (O o).2.1 hd ht (k.2 o ad H locs ls cells slots h1 h2 h3 h4 h5)⟩
/-! branches: by cases on the condition first -/
theorem J_if_eq (O : B.2.2.2.2.2.2.2.2 X → MO X B ca cc own) {a : Int32} {off : Int} {tgt : Nat} (hd : decode cc pc = .ok (.ifCond .eq off, 3)) (ht : (pc : Int) + off = (tgt : Int)) (kt : a = 0 → J X B x tgt lv rest) (kf : ¬ a = 0 → J X B x (pc + 3) lv rest) : J X B x pc lv (.inl (.int a) :: rest) := by
  by_cases h : a = 0
  · exact ⟨(kt h).1, fun o ad H locs ls cells slots h1 h2 h3 h4 h5 => lv_if_eq (O o).1 (O o).2.1 hd ht (fun _ => (kt h).2 o ad H locs ls cells slots h1 h2 h3 h4 h5) (fun q => absurd h q)⟩
  · exact ⟨(kf h).1, fun o ad H locs ls cells slots h1 h2 h3 h4 h5 => lv_if_eq (O o).1 (O o).2.1 hd ht (fun q => absurd q h) (fun _ => (kf h).2 o ad H locs ls cells slots h1 h2 h3 h4 h5)⟩
theorem J_if_ne (O : B.2.2.2.2.2.2.2.2 X → MO X B ca cc own) {a : Int32} {off : Int} {tgt : Nat} (hd : decode cc pc = .ok (.ifCond .ne off, 3)) (ht : (pc : Int) + off = (tgt : Int)) (kt : ¬ a = 0 → J X B x tgt lv rest) (kf : a = 0 → J X B x (pc + 3) lv rest) : J X B x pc lv (.inl (.int a) :: rest) := by
  by_cases h : a = 0
  · exact ⟨(kf h).1, fun o ad H locs ls cells slots h1 h2 h3 h4 h5 => lv_if_ne (O o).1 (O o).2.1 hd ht (fun q => absurd h q) (fun _ => (kf h).2 o ad H locs ls cells slots h1 h2 h3 h4 h5)⟩
  · exact ⟨(kt h).1, fun o ad H locs ls cells slots h1 h2 h3 h4 h5 => lv_if_ne (O o).1 (O o).2.1 hd ht (fun _ => (kt h).2 o ad H locs ls cells slots h1 h2 h3 h4 h5) (fun q => absurd q h)⟩
theorem J_if_lt (O : B.2.2.2.2.2.2.2.2 X → MO X B ca cc own) {a : Int32} {off : Int} {tgt : Nat} (hd : decode cc pc = .ok (.ifCond .lt off, 3)) (ht : (pc : Int) + off = (tgt : Int)) (kt : a < 0 → J X B x tgt lv rest) (kf : ¬ a < 0 → J X B x (pc + 3) lv rest) : J X B x pc lv (.inl (.int a) :: rest) := by
  by_cases h : a < 0
  · exact ⟨(kt h).1, fun o ad H locs ls cells slots h1 h2 h3 h4 h5 => lv_if_lt (O o).1 (O o).2.1 hd ht (fun _ => (kt h).2 o ad H locs ls cells slots h1 h2 h3 h4 h5) (fun q => absurd h q)⟩
  · exact ⟨(kf h).1, fun o ad H locs ls cells slots h1 h2 h3 h4 h5 => lv_if_lt (O o).1 (O o).2.1 hd ht (fun q => absurd q h) (fun _ => (kf h).2 o ad H locs ls cells slots h1 h2 h3 h4 h5)⟩
theorem J_if_ge (O : B.2.2.2.2.2.2.2.2 X → MO X B ca cc own) {a : Int32} {off : Int} {tgt : Nat} (hd : decode cc pc = .ok (.ifCond .ge off, 3)) (ht : (pc : Int) + off = (tgt : Int)) (kt : 0 ≤ a → J X B x tgt lv rest) (kf : ¬ 0 ≤ a → J X B x (pc + 3) lv rest) : J X B x pc lv (.inl (.int a) :: rest) := by
  by_cases h : 0 ≤ a
  · exact ⟨(kt h).1, fun o ad H locs ls cells slots h1 h2 h3 h4 h5 => lv_if_ge (O o).1 (O o).2.1 hd ht (fun _ => (kt h).2 o ad H locs ls cells slots h1 h2 h3 h4 h5) (fun q => absurd h q)⟩
  · exact ⟨(kf h).1, fun o ad H locs ls cells slots h1 h2 h3 h4 h5 => lv_if_ge (O o).1 (O o).2.1 hd ht (fun q => absurd q h) (fun _ => (kf h).2 o ad H locs ls cells slots h1 h2 h3 h4 h5)⟩
theorem J_if_gt (O : B.2.2.2.2.2.2.2.2 X → MO X B ca cc own) {a : Int32} {off : Int} {tgt : Nat} (hd : decode cc pc = .ok (.ifCond .gt off, 3)) (ht : (pc : Int) + off = (tgt : Int)) (kt : 0 < a → J X B x tgt lv rest) (kf : ¬ 0 < a → J X B x (pc + 3) lv rest) : J X B x pc lv (.inl (.int a) :: rest) := by
  by_cases h : 0 < a
  · exact ⟨(kt h).1, fun o ad H locs ls cells slots h1 h2 h3 h4 h5 => lv_if_gt (O o).1 (O o).2.1 hd ht (fun _ => (kt h).2 o ad H locs ls cells slots h1 h2 h3 h4 h5) (fun q => absurd h q)⟩
  · exact ⟨(kf h).1, fun o ad H locs ls cells slots h1 h2 h3 h4 h5 => lv_if_gt (O o).1 (O o).2.1 hd ht (fun q => absurd q h) (fun _ => (kf h).2 o ad H locs ls cells slots h1 h2 h3 h4 h5)⟩
theorem J_if_le (O : B.2.2.2.2.2.2.2.2 X → MO X B ca cc own) {a : Int32} {off : Int} {tgt : Nat} (hd : decode cc pc = .ok (.ifCond .le off, 3)) (ht : (pc : Int) + off = (tgt : Int)) (kt : a ≤ 0 → J X B x tgt lv rest) (kf : ¬ a ≤ 0 → J X B x (pc + 3) lv rest) : J X B x pc lv (.inl (.int a) :: rest) := by
  by_cases h : a ≤ 0
  · exact ⟨(kt h).1, fun o ad H locs ls cells slots h1 h2 h3 h4 h5 => lv_if_le (O o).1 (O o).2.1 hd ht (fun _ => (kt h).2 o ad H locs ls cells slots h1 h2 h3 h4 h5) (fun q => absurd h q)⟩
  · exact ⟨(kf h).1, fun o ad H locs ls cells slots h1 h2 h3 h4 h5 => lv_if_le (O o).1 (O o).2.1 hd ht (fun q => absurd q h) (fun _ => (kf h).2 o ad H locs ls cells slots h1 h2 h3 h4 h5)⟩
theorem J_icmp_eq (O : B.2.2.2.2.2.2.2.2 X → MO X B ca cc own) {a b : Int32} {off : Int} {tgt : Nat} (hd : decode cc pc = .ok (.if_icmp .eq off, 3)) (ht : (pc : Int) + off = (tgt : Int)) (kt : a = b → J X B x tgt lv rest) (kf : ¬ a = b → J X B x (pc + 3) lv rest) : J X B x pc lv (.inl (.int b) :: .inl (.int a) :: rest) := by
  by_cases h : a = b
  · exact ⟨(kt h).1, fun o ad H locs ls cells slots h1 h2 h3 h4 h5 => lv_icmp_eq (O o).1 (O o).2.1 hd ht (fun _ => (kt h).2 o ad H locs ls cells slots h1 h2 h3 h4 h5) (fun q => absurd h q)⟩
  · exact ⟨(kf h).1, fun o ad H locs ls cells slots h1 h2 h3 h4 h5 => lv_icmp_eq (O o).1 (O o).2.1 hd ht (fun q => absurd q h) (fun _ => (kf h).2 o ad H locs ls cells slots h1 h2 h3 h4 h5)⟩
theorem J_icmp_ne (O : B.2.2.2.2.2.2.2.2 X → MO X B ca cc own) {a b : Int32} {off : Int} {tgt : Nat} (hd : decode cc pc = .ok (.if_icmp .ne off, 3)) (ht : (pc : Int) + off = (tgt : Int)) (kt : ¬ a = b → J X B x tgt lv rest) (kf : a = b → J X B x (pc + 3) lv rest) : J X B x pc lv (.inl (.int b) :: .inl (.int a) :: rest) := by
  by_cases h : a = b
  · exact ⟨(kf h).1, fun o ad H locs ls cells slots h1 h2 h3 h4 h5 => lv_icmp_ne (O o).1 (O o).2.1 hd ht (fun q => absurd h q) (fun _ => (kf h).2 o ad H locs ls cells slots h1 h2 h3 h4 h5)⟩
  · exact ⟨(kt h).1, fun o ad H locs ls cells slots h1 h2 h3 h4 h5 => lv_icmp_ne (O o).1 (O o).2.1 hd ht (fun _ => (kt h).2 o ad H locs ls cells slots h1 h2 h3 h4 h5) (fun q => absurd q h)⟩
theorem J_icmp_lt (O : B.2.2.2.2.2.2.2.2 X → MO X B ca cc own) {a b : Int32} {off : Int} {tgt : Nat} (hd : decode cc pc = .ok (.if_icmp .lt off, 3)) (ht : (pc : Int) + off = (tgt : Int)) (kt : a < b → J X B x tgt lv rest) (kf : ¬ a < b → J X B x (pc + 3) lv rest) : J X B x pc lv (.inl (.int b) :: .inl (.int a) :: rest) := by
  by_cases h : a < b
  · exact ⟨(kt h).1, fun o ad H locs ls cells slots h1 h2 h3 h4 h5 => lv_icmp_lt (O o).1 (O o).2.1 hd ht (fun _ => (kt h).2 o ad H locs ls cells slots h1 h2 h3 h4 h5) (fun q => absurd h q)⟩
  · exact ⟨(kf h).1, fun o ad H locs ls cells slots h1 h2 h3 h4 h5 => lv_icmp_lt (O o).1 (O o).2.1 hd ht (fun q => absurd q h) (fun _ => (kf h).2 o ad H locs ls cells slots h1 h2 h3 h4 h5)⟩
theorem J_icmp_ge (O : B.2.2.2.2.2.2.2.2 X → MO X B ca cc own) {a b : Int32} {off : Int} {tgt : Nat} (hd : decode cc pc = .ok (.if_icmp .ge off, 3)) (ht : (pc : Int) + off = (tgt : Int)) (kt : b ≤ a → J X B x tgt lv rest) (kf : ¬ b ≤ a → J X B x (pc + 3) lv rest) : J X B x pc lv (.inl (.int b) :: .inl (.int a) :: rest) := by
  by_cases h : b ≤ a
  · exact ⟨(kt h).1, fun o ad H locs ls cells slots h1 h2 h3 h4 h5 => lv_icmp_ge (O o).1 (O o).2.1 hd ht (fun _ => (kt h).2 o ad H locs ls cells slots h1 h2 h3 h4 h5) (fun q => absurd h q)⟩
  · exact ⟨(kf h).1, fun o ad H locs ls cells slots h1 h2 h3 h4 h5 => lv_icmp_ge (O o).1 (O o).2.1 hd ht (fun q => absurd q h) (fun _ => (kf h).2 o ad H locs ls cells slots h1 h2 h3 h4 h5)⟩
theorem J_icmp_gt (O : B.2.2.2.2.2.2.2.2 X → MO X B ca cc own) {a b : Int32} {off : Int} {tgt : Nat} (hd : decode cc pc = .ok (.if_icmp .gt off, 3)) (ht : (pc : Int) + off = (tgt : Int)) (kt : b < a → J X B x tgt lv rest) (kf : ¬ b < a → J X B x (pc + 3) lv rest) : J X B x pc lv (.inl (.int b) :: .inl (.int a) :: rest) := by
  by_cases h : b < a
  · exact ⟨(kt h).1, fun o ad H locs ls cells slots h1 h2 h3 h4 h5 => lv_icmp_gt (O o).1 (O o).2.1 hd ht (fun _ => (kt h).2 o ad H locs ls cells slots h1 h2 h3 h4 h5) (fun q => absurd h q)⟩
  · exact ⟨(kf h).1, fun o ad H locs ls cells slots h1 h2 h3 h4 h5 => lv_icmp_gt (O o).1 (O o).2.1 hd ht (fun q => absurd q h) (fun _ => (kf h).2 o ad H locs ls cells slots h1 h2 h3 h4 h5)⟩
theorem J_icmp_le (O : B.2.2.2.2.2.2.2.2 X → MO X B ca cc own) {a b : Int32} {off : Int} {tgt : Nat} (hd : decode cc pc = .ok (.if_icmp .le off, 3)) (ht : (pc : Int) + off = (tgt : Int)) (kt : a ≤ b → J X B x tgt lv rest) (kf : ¬ a ≤ b → J X B x (pc + 3) lv rest) : J X B x pc lv (.inl (.int b) :: .inl (.int a) :: rest) := by
  by_cases h : a ≤ b
  · exact ⟨(kt h).1, fun o ad H locs ls cells slots h1 h2 h3 h4 h5 => lv_icmp_le (O o).1 (O o).2.1 hd ht (fun _ => (kt h).2 o ad H locs ls cells slots h1 h2 h3 h4 h5) (fun q => absurd h q)⟩
  · exact ⟨(kf h).1, fun o ad H locs ls cells slots h1 h2 h3 h4 h5 => lv_icmp_le (O o).1 (O o).2.1 hd ht (fun q => absurd q h) (fun _ => (kf h).2 o ad H locs ls cells slots h1 h2 h3 h4 h5)⟩
/-! locals -/
theorem J_get {ls : Array Slot} {nL : Nat} (ad : Pl → Nat) (h : lv_has ls nL (lv.map (eml ad))) (k : Nat) {i : Nat} {v : AV} (hk : lv[k]? = some (i, v)) : ls[i]? = some (.val (emb ad v)) :=
  lv_at h k (by rw [List.getElem?_map, hk]; rfl)
theorem J_iload_n (O : B.2.2.2.2.2.2.2.2 X → MO X B ca cc own) {k4 : Fin 4} {v : Int32} (hd : decode cc pc = .ok (.iload_n k4, 1)) (q : Nat) (hq : lv[q]? = some ((k4 : Nat), .inl (.int v))) (k : J X B x (pc + 1) lv (.inl (.int v) :: rest)) : J X B x pc lv rest :=
  ⟨k.1, fun o ad H locs ls cells slots h1 h2 h3 h4 h5 => lv_iload_n (O o).1 (O o).2.1 hd rfl (J_get ad h3 q hq) (k.2 o ad H locs ls cells slots h1 h2 h3 h4 h5)⟩
theorem J_iload (O : B.2.2.2.2.2.2.2.2 X → MO X B ca cc own) {i : Nat} {v : Int32} (hd : decode cc pc = .ok (.iload i, 2)) (q : Nat) (hq : lv[q]? = some (i, .inl (.int v))) (k : J X B x (pc + 2) lv (.inl (.int v) :: rest)) : J X B x pc lv rest :=
  ⟨k.1, fun o ad H locs ls cells slots h1 h2 h3 h4 h5 => lv_iload (O o).1 (O o).2.1 hd (J_get ad h3 q hq) (k.2 o ad H locs ls cells slots h1 h2 h3 h4 h5)⟩
theorem J_aload_n (O : B.2.2.2.2.2.2.2.2 X → MO X B ca cc own) {k4 : Fin 4} {v : Option Pl} (hd : decode cc pc = .ok (.aload_n k4, 1)) (q : Nat) (hq : lv[q]? = some ((k4 : Nat), .inr v)) (k : J X B x (pc + 1) lv (.inr v :: rest)) : J X B x pc lv rest := by
  cases v with
  | none => exact ⟨k.1, fun o ad H locs ls cells slots h1 h2 h3 h4 h5 => lv_aload_nN (O o).1 (O o).2.1 hd rfl (J_get ad h3 q hq) (k.2 o ad H locs ls cells slots h1 h2 h3 h4 h5)⟩
  | some p => exact ⟨k.1, fun o ad H locs ls cells slots h1 h2 h3 h4 h5 => lv_aload_n (O o).1 (O o).2.1 hd rfl (J_get ad h3 q hq) (k.2 o ad H locs ls cells slots h1 h2 h3 h4 h5)⟩
theorem J_aload_nR (O : B.2.2.2.2.2.2.2.2 X → MO X B ca cc own) {k4 : Fin 4} {v : Nat} (hd : decode cc pc = .ok (.aload_n k4, 1)) (q : Nat) (hq : lv[q]? = some ((k4 : Nat), .inl (.ref v))) (k : J X B x (pc + 1) lv (.inl (.ref v) :: rest)) : J X B x pc lv rest :=
  ⟨k.1, fun o ad H locs ls cells slots h1 h2 h3 h4 h5 => lv_aload_n (O o).1 (O o).2.1 hd rfl (J_get ad h3 q hq) (k.2 o ad H locs ls cells slots h1 h2 h3 h4 h5)⟩
theorem J_aload (O : B.2.2.2.2.2.2.2.2 X → MO X B ca cc own) {i : Nat} {v : Option Pl} (hd : decode cc pc = .ok (.aload i, 2)) (q : Nat) (hq : lv[q]? = some (i, .inr v)) (k : J X B x (pc + 2) lv (.inr v :: rest)) : J X B x pc lv rest := by
  cases v with
  | none => exact ⟨k.1, fun o ad H locs ls cells slots h1 h2 h3 h4 h5 => lv_aloadN (O o).1 (O o).2.1 hd (J_get ad h3 q hq) (k.2 o ad H locs ls cells slots h1 h2 h3 h4 h5)⟩
  | some p => exact ⟨k.1, fun o ad H locs ls cells slots h1 h2 h3 h4 h5 => lv_aload (O o).1 (O o).2.1 hd (J_get ad h3 q hq) (k.2 o ad H locs ls cells slots h1 h2 h3 h4 h5)⟩
theorem J_aloadR (O : B.2.2.2.2.2.2.2.2 X → MO X B ca cc own) {i : Nat} {v : Nat} (hd : decode cc pc = .ok (.aload i, 2)) (q : Nat) (hq : lv[q]? = some (i, .inl (.ref v))) (k : J X B x (pc + 2) lv (.inl (.ref v) :: rest)) : J X B x pc lv rest :=
  ⟨k.1, fun o ad H locs ls cells slots h1 h2 h3 h4 h5 => lv_aload (O o).1 (O o).2.1 hd (J_get ad h3 q hq) (k.2 o ad H locs ls cells slots h1 h2 h3 h4 h5)⟩
/-- what is left of the listed locals behind a store at i -/
theorem J_put {ls ls' : Array Slot} {nL i : Nat} (ad : Pl → Nat) {v : AV} {lv' : List (Nat × AV)} (h : lv_has ls' nL ((i, emb ad v) :: (lv.map (eml ad)).filter (fun q => !(q.1 == i) && !(q.1 + 1 == i && q.2.category == 2)))) (hl : lv.filter (fun q => !(q.1 == i)) = lv') (hc : lv.all (fun q => cat1 q.2) = true) : lv_has ls' nL (((i, v) :: lv').map (eml ad)) := by
  refine ⟨h.1, h.2.1, fun q hq => ?_⟩
  rcases List.mem_cons.mp hq with e | hq
  · rw [e]; exact h.2.2 _ List.mem_cons_self
  · refine h.2.2 _ (List.mem_cons_of_mem _ (List.mem_filter.mpr ?_))
    rw [← hl] at hq
    obtain ⟨r, hr, e⟩ := List.mem_map.mp hq
    obtain ⟨hr1, hr2⟩ := List.mem_filter.mp hr
    subst e
    refine ⟨List.mem_map.mpr ⟨r, hr1, rfl⟩, ?_⟩
    have h2 : (emb ad r.2).category = 1 := cat1_emb ad (List.all_eq_true.mp hc r hr1)
    simp only [Bool.and_eq_true] at hr2 ⊢
    refine ⟨hr2, ?_⟩
    show (!(r.1 + 1 == i && (emb ad r.2).category == 2)) = true
    rw [h2]
    simp
theorem J_istore_n (O : B.2.2.2.2.2.2.2.2 X → MO X B ca cc own) {k4 : Fin 4} {v : Int32} {lv' : List (Nat × AV)} (hd : decode cc pc = .ok (.istore_n k4, 1)) (hn : (k4 : Nat) < B.2.2.2.1) (hl : lv.filter (fun q => !(q.1 == (k4 : Nat))) = lv') (hc : lv.all (fun q => cat1 q.2) = true) (k : J X B x (pc + 1) (((k4 : Nat), .inl (.int v)) :: lv') rest) : J X B x pc lv (.inl (.int v) :: rest) :=
  ⟨k.1, fun o ad H locs ls cells slots h1 h2 h3 h4 h5 => lv_istore_n (O o).1 (O o).2.1 hd rfl h3 hn rfl (fun ls' h6 => k.2 o ad H locs ls' cells slots h1 h2 (J_put (ls := ls) ad (v := .inl (.int v)) h6 hl hc) h4 h5)⟩
theorem J_istore (O : B.2.2.2.2.2.2.2.2 X → MO X B ca cc own) {i : Nat} {v : Int32} {lv' : List (Nat × AV)} (hd : decode cc pc = .ok (.istore i, 2)) (hn : i < B.2.2.2.1) (hl : lv.filter (fun q => !(q.1 == i)) = lv') (hc : lv.all (fun q => cat1 q.2) = true) (k : J X B x (pc + 2) ((i, .inl (.int v)) :: lv') rest) : J X B x pc lv (.inl (.int v) :: rest) :=
  ⟨k.1, fun o ad H locs ls cells slots h1 h2 h3 h4 h5 => lv_istore (O o).1 (O o).2.1 hd h3 hn rfl (fun ls' h6 => k.2 o ad H locs ls' cells slots h1 h2 (J_put (ls := ls) ad (v := .inl (.int v)) h6 hl hc) h4 h5)⟩
theorem J_astore_n (O : B.2.2.2.2.2.2.2.2 X → MO X B ca cc own) {k4 : Fin 4} {v : Option Pl} {lv' : List (Nat × AV)} (hd : decode cc pc = .ok (.astore_n k4, 1)) (hn : (k4 : Nat) < B.2.2.2.1) (hl : lv.filter (fun q => !(q.1 == (k4 : Nat))) = lv') (hc : lv.all (fun q => cat1 q.2) = true) (k : J X B x (pc + 1) (((k4 : Nat), .inr v) :: lv') rest) : J X B x pc lv (.inr v :: rest) := by
  cases v with
  | none => exact ⟨k.1, fun o ad H locs ls cells slots h1 h2 h3 h4 h5 => lv_astore_nN (O o).1 (O o).2.1 hd rfl h3 hn rfl (fun ls' h6 => k.2 o ad H locs ls' cells slots h1 h2 (J_put (ls := ls) ad (v := .inr none) h6 hl hc) h4 h5)⟩
  | some p => exact ⟨k.1, fun o ad H locs ls cells slots h1 h2 h3 h4 h5 => lv_astore_n (O o).1 (O o).2.1 hd rfl h3 hn rfl (fun ls' h6 => k.2 o ad H locs ls' cells slots h1 h2 (J_put (ls := ls) ad (v := .inr (some p)) h6 hl hc) h4 h5)⟩
theorem J_astore_nR (O : B.2.2.2.2.2.2.2.2 X → MO X B ca cc own) {k4 : Fin 4} {v : Nat} {lv' : List (Nat × AV)} (hd : decode cc pc = .ok (.astore_n k4, 1)) (hn : (k4 : Nat) < B.2.2.2.1) (hl : lv.filter (fun q => !(q.1 == (k4 : Nat))) = lv') (hc : lv.all (fun q => cat1 q.2) = true) (k : J X B x (pc + 1) (((k4 : Nat), .inl (.ref v)) :: lv') rest) : J X B x pc lv (.inl (.ref v) :: rest) :=
  ⟨k.1, fun o ad H locs ls cells slots h1 h2 h3 h4 h5 => lv_astore_n (O o).1 (O o).2.1 hd rfl h3 hn rfl (fun ls' h6 => k.2 o ad H locs ls' cells slots h1 h2 (J_put (ls := ls) ad (v := .inl (.ref v)) h6 hl hc) h4 h5)⟩
theorem J_astore (O : B.2.2.2.2.2.2.2.2 X → MO X B ca cc own) {i : Nat} {v : Option Pl} {lv' : List (Nat × AV)} (hd : decode cc pc = .ok (.astore i, 2)) (hn : i < B.2.2.2.1) (hl : lv.filter (fun q => !(q.1 == i)) = lv') (hc : lv.all (fun q => cat1 q.2) = true) (k : J X B x (pc + 2) ((i, .inr v) :: lv') rest) : J X B x pc lv (.inr v :: rest) := by
  cases v with
  | none => exact ⟨k.1, fun o ad H locs ls cells slots h1 h2 h3 h4 h5 => lv_astoreN (O o).1 (O o).2.1 hd h3 hn rfl (fun ls' h6 => k.2 o ad H locs ls' cells slots h1 h2 (J_put (ls := ls) ad (v := .inr none) h6 hl hc) h4 h5)⟩
  | some p => exact ⟨k.1, fun o ad H locs ls cells slots h1 h2 h3 h4 h5 => lv_astore (O o).1 (O o).2.1 hd h3 hn rfl (fun ls' h6 => k.2 o ad H locs ls' cells slots h1 h2 (J_put (ls := ls) ad (v := .inr (some p)) h6 hl hc) h4 h5)⟩
theorem J_astoreR (O : B.2.2.2.2.2.2.2.2 X → MO X B ca cc own) {i : Nat} {v : Nat} {lv' : List (Nat × AV)} (hd : decode cc pc = .ok (.astore i, 2)) (hn : i < B.2.2.2.1) (hl : lv.filter (fun q => !(q.1 == i)) = lv') (hc : lv.all (fun q => cat1 q.2) = true) (k : J X B x (pc + 2) ((i, .inl (.ref v)) :: lv') rest) : J X B x pc lv (.inl (.ref v) :: rest) :=
  ⟨k.1, fun o ad H locs ls cells slots h1 h2 h3 h4 h5 => lv_astore (O o).1 (O o).2.1 hd h3 hn rfl (fun ls' h6 => k.2 o ad H locs ls' cells slots h1 h2 (J_put (ls := ls) ad (v := .inl (.ref v)) h6 hl hc) h4 h5)⟩
theorem J_iinc (O : B.2.2.2.2.2.2.2.2 X → MO X B ca cc own) {i : Nat} {n : Int} {a v : Int32} {lv' : List (Nat × AV)} (hd : decode cc pc = .ok (.iinc i n, 3)) (hn : i < B.2.2.2.1) (q : Nat) (hq : lv[q]? = some (i, .inl (.int a))) (hv : a + Int32.ofInt n = v) (hl : lv.filter (fun q => !(q.1 == i)) = lv') (hc : lv.all (fun q => cat1 q.2) = true) (k : J X B x (pc + 3) ((i, .inl (.int v)) :: lv') rest) : J X B x pc lv rest :=
  ⟨k.1, fun o ad H locs ls cells slots h1 h2 h3 h4 h5 => lv_iinc (O o).1 (O o).2.1 hd h3 (k := q) (by rw [List.getElem?_map, hq]; rfl) hv hn rfl (fun ls' h6 => k.2 o ad H locs ls' cells slots h1 h2 (J_put (ls := ls) ad (v := .inl (.int v)) h6 hl hc) h4 h5)⟩
/-- fewer listed locals -/
theorem J_sub {lv' : List (Nat × AV)} {st : List AV} (ks : List Nat) (hl : ks.filterMap (fun k => lv[k]?) = lv') (k : J X B x pc lv' st) : J X B x pc lv st :=
  ⟨k.1, fun o ad H locs ls cells slots h1 h2 h3 h4 h5 => k.2 o ad H locs ls cells slots h1 h2 (lv_sub h3 ks (by rw [← hl]; unfold lv_pick; rw [List.map_filterMap]; congr 1; funext j; rw [List.getElem?_map])) h4 h5⟩
end JROWS
