/-! WORDS OF THE PURE FUNCTIONS: what a method does to the store; none where it isn't known to go well -/
def gd {α : Type} (c : Prop) [Decidable c] (a : Option α) : Option α := if c then a else none
theorem gd_some {α : Type} {c : Prop} [Decidable c] {a : Option α} {r : α} (h : gd c a = some r) : c ∧ a = some r := by
  unfold gd at h
  split at h
  · exact ⟨by assumption, h⟩
  · cases h
theorem gd_t {α : Type} {c : Prop} [Decidable c] {a : Option α} (h : c) : gd c a = a := if_pos h
def nm {α β : Type} (a : α) (f : α → β) : β := f a
theorem nm_some {α β : Type} {a : α} {f : α → Option β} {r : β} {P : α → Prop} (h : nm a f = some r) (k : ∀ x, f x = some r → P x) : P a := k a h
def bd {α β : Type} (o : Option (K × α)) (f : K → α → Option β) : Option β := match o with
  | none => none
  | some (κ, x) => f κ x
theorem bd_some {α β : Type} {o : Option (K × α)} {f : K → α → Option β} {r : β} (h : bd o f = some r) : ∃ (κ : K) (x : α), o = some (κ, x) ∧ f κ x = some r := by
  cases o with
  | none => cases h
  | some q => exact ⟨q.1, q.2, rfl, h⟩
theorem bd_t {α β : Type} {o : Option (K × α)} {f : K → α → Option β} {κ : K} {x : α} (h : o = some (κ, x)) : bd o f = f κ x := by rw [h]; rfl
def bx {α β : Type} (o : Option (K × (α ⊕ Nat))) (f : K → α → Option (K × (β ⊕ Nat))) : Option (K × (β ⊕ Nat)) := match o with
  | none => none
  | some (κ, .inl x) => f κ x
  | some (κ, .inr e) => some (κ, .inr e)
theorem bx_some {α β : Type} {o : Option (K × (α ⊕ Nat))} {f : K → α → Option (K × (β ⊕ Nat))} {κ' : K} {r : β ⊕ Nat} (h : bx o f = some (κ', r)) : (∃ (κ : K) (x : α), o = some (κ, .inl x) ∧ f κ x = some (κ', r)) ∨ ∃ e, o = some (κ', .inr e) ∧ r = .inr e := by
  match o, h with
  | some (κ, .inl x), h => exact Or.inl ⟨κ, x, rfl, h⟩
  | some (κ, .inr e), h => cases h; exact Or.inr ⟨e, rfl, rfl⟩
theorem bx_t {α β : Type} {o : Option (K × (α ⊕ Nat))} {f : K → α → Option (K × (β ⊕ Nat))} {κ : K} {x : α} (h : o = some (κ, .inl x)) : bx o f = f κ x := by rw [h]; rfl
theorem bx_e {α β : Type} {o : Option (K × (α ⊕ Nat))} {f : K → α → Option (K × (β ⊕ Nat))} {κ : K} {e : Nat} (h : o = some (κ, .inr e)) : bx o f = some (κ, .inr e) := by rw [h]; rfl
/-- a reference: null, or a member that exists -/
def optG {α : Type} (o : Option Nat) (n : Nat) (a : Option α) (f : Nat → Option α) : Option α := match o with
  | none => a
  | some j => if j < n then f j else none
theorem optG_some {α : Type} {o : Option Nat} {n : Nat} {a : Option α} {f : Nat → Option α} {r : α} (h : optG o n a f = some r) : (o = none ∧ a = some r) ∨ ∃ j, o = some j ∧ j < n ∧ f j = some r := by
  cases o with
  | none => exact Or.inl ⟨rfl, h⟩
  | some j =>
    unfold optG at h
    dsimp only at h
    split at h
    · exact Or.inr ⟨j, rfl, by assumption, h⟩
    · cases h
def tmpG {α : Type} (t : Option (Nat × (Nat → Int32))) (f : Nat → (Nat → Int32) → Option α) : Option α := match t with
  | none => none
  | some (n, a) => f n a
theorem tmpG_some {α : Type} {t : Option (Nat × (Nat → Int32))} {f : Nat → (Nat → Int32) → Option α} {r : α} (h : tmpG t f = some r) : ∃ (n : Nat) (a : Nat → Int32), t = some (n, a) ∧ f n a = some r := by
  cases t with
  | none => cases h
  | some q => exact ⟨q.1, q.2, rfl, h⟩
/-- steps enough for any loop -/
def FU : Nat := 100000
/-- an exception's class by its number -/
def exN : Nat → String
  | 1 => "java/lang/IndexOutOfBoundsException"
  | 2 => "java/lang/IllegalArgumentException"
  | _ => "java/lang/IllegalStateException"
/-- the parts of an object of a class, by their places from its own on: kinds, lengths -/
def szC : Nat → Nat
  | 1 => 18
  | 2 => 39
  | 3 => 4
  | 4 => 4
  | 5 => 2
  | 6 => 4
  | 7 => 5
  | 8 => 1
  | 9 => 13
  | 10 => 4
  | 11 => 41
  | _ => 0
/-- where a class has its first standing place -/
def plC : Nat → Nat × Nat
  | 1 => (0, 18)
  | 2 => (0, 0)
  | 3 => (2, 0)
  | 4 => (0, 6)
  | 5 => (0, 10)
  | 6 => (0, 1)
  | 7 => (3, 0)
  | 8 => (1, 0)
  | 9 => (0, 5)
  | 10 => (4, 0)
  | _ => (5, 0)
def kdAt (k d : Nat) : Nat := kd (plC k).1 ((plC k).2 + d)
def slAt (k d : Nat) : Nat := sl (plC k).1 ((plC k).2 + d)
def okC (k f c : Nat) : Bool := ((List.range (szC k)).all fun d => decide (kd f (c + d) = kdAt k d) && decide (sl f (c + d) = slAt k d)) && decide (c + szC k ≤ cmpN f) && (decide (f ≠ 4) || decide (c + szC k ≤ 4))
/-- an object of class k stands at (f, i, c) -/
def PC (k : Nat) (E : EE) (f i c : Nat) : Prop := i < cntE E f ∧ okC k f c = true
theorem PC.all {k : Nat} {E : EE} {f i c : Nat} (h : PC k E f i c) (d : Nat) (hd : d < szC k) : kd f (c + d) = kdAt k d ∧ sl f (c + d) = slAt k d ∧ (kdAt k d < 90 → liveC E f i (c + d) = true) := by
  obtain ⟨h1, h2⟩ := h
  unfold okC at h2
  simp only [Bool.and_eq_true, Bool.or_eq_true, decide_eq_true_eq] at h2
  obtain ⟨⟨h3, h4⟩, h5⟩ := h2
  have h6 := List.all_eq_true.mp h3 d (List.mem_range.mpr hd)
  simp only [Bool.and_eq_true, decide_eq_true_eq] at h6
  refine ⟨h6.1, h6.2, fun h90 => ?_⟩
  unfold liveC
  simp only [Bool.and_eq_true, Bool.or_eq_true, decide_eq_true_eq]
  refine ⟨⟨h1, by omega, by rw [h6.1]; exact h90⟩, ?_⟩
  rcases h5 with h5 | h5
  · exact Or.inl (Or.inl h5)
  · exact Or.inl (Or.inr (by omega))
theorem PC_kd {k : Nat} {E : EE} {f i c : Nat} (h : PC k E f i c) (d : Nat) (hd : d < szC k) : kd f (c + d) = kdAt k d := (h.all d hd).1
theorem PC_sl {k : Nat} {E : EE} {f i c : Nat} (h : PC k E f i c) (d : Nat) (hd : d < szC k) : sl f (c + d) = slAt k d := (h.all d hd).2.1
theorem PC_lv {k : Nat} {E : EE} {f i c : Nat} (h : PC k E f i c) (d : Nat) (hd : d < szC k) (h9 : kdAt k d < 90) : liveC E f i (c + d) = true := (h.all d hd).2.2 h9
theorem PC_st {k : Nat} {E : EE} {f i c : Nat} (h : PC k E f i c) (d : Nat) (hd : d < szC k) (h9 : kdAt k d < 90) (h2 : kdAt k d ≠ 21) : Stab E (.inr (some (f, i, c + d))) := ⟨PC_lv h d hd h9, by rw [show kd (f, i, c + d).1 (f, i, c + d).2.2 = kd f (c + d) from rfl, PC_kd h d hd]; exact h2⟩
theorem PC_sub {k : Nat} {E : EE} {f i c : Nat} (h : PC k E f i c) (k' d : Nat) (hd : (decide (d + szC k' ≤ szC k) && (List.range (szC k')).all fun e => decide (kdAt k (d + e) = kdAt k' e) && decide (slAt k (d + e) = slAt k' e)) = true) : PC k' E f i (c + d) := by
  refine ⟨h.1, ?_⟩
  simp only [Bool.and_eq_true, decide_eq_true_eq] at hd
  obtain ⟨h1, h2⟩ := hd
  unfold okC
  have h3 := h.2
  unfold okC at h3
  simp only [Bool.and_eq_true, Bool.or_eq_true, decide_eq_true_eq] at h3 ⊢
  refine ⟨⟨List.all_eq_true.mpr fun e he => ?_, by omega⟩, ?_⟩
  · have he' := List.mem_range.mp he
    have h4 := List.all_eq_true.mp h2 e he
    simp only [Bool.and_eq_true, decide_eq_true_eq] at h4 ⊢
    obtain ⟨g1, g2, -⟩ := h.all (d + e) (by omega)
    rw [Nat.add_assoc]
    exact ⟨g1.trans h4.1, g2.trans h4.2⟩
  · rcases h3.2 with h5 | h5
    · exact Or.inl h5
    · exact Or.inr (by omega)
theorem st_0 {E : EE} : ∀ v ∈ ([] : List AV), Stab E v := fun _ h => absurd h List.not_mem_nil
theorem st_v {E : EE} {w : Value} {l : List AV} (h : ∀ v ∈ l, Stab E v) : ∀ v ∈ (.inl w :: l : List AV), Stab E v := fun v hv => (List.mem_cons.mp hv).elim (fun e => by rw [e]; exact trivial) (h v)
theorem st_n {E : EE} {l : List AV} (h : ∀ v ∈ l, Stab E v) : ∀ v ∈ (.inr none :: l : List AV), Stab E v := fun v hv => (List.mem_cons.mp hv).elim (fun e => by rw [e]; exact trivial) (h v)
theorem st_p {E : EE} {w : AV} {l : List AV} (hw : Stab E w) (h : ∀ v ∈ l, Stab E v) : ∀ v ∈ (w :: l), Stab E v := fun v hv => (List.mem_cons.mp hv).elim (fun e => by rw [e]; exact hw) (h v)
theorem sl_0 {E : EE} : ∀ q ∈ ([] : List (Nat × AV)), Stab E q.2 := fun _ h => absurd h List.not_mem_nil
theorem sl_v {E : EE} {i : Nat} {w : Value} {l : List (Nat × AV)} (h : ∀ q ∈ l, Stab E q.2) : ∀ q ∈ ((i, .inl w) :: l : List (Nat × AV)), Stab E q.2 := fun v hv => (List.mem_cons.mp hv).elim (fun e => by rw [e]; exact trivial) (h v)
theorem sl_n {E : EE} {i : Nat} {l : List (Nat × AV)} (h : ∀ q ∈ l, Stab E q.2) : ∀ q ∈ ((i, .inr none) :: l : List (Nat × AV)), Stab E q.2 := fun v hv => (List.mem_cons.mp hv).elim (fun e => by rw [e]; exact trivial) (h v)
theorem sl_p {E : EE} {i : Nat} {w : AV} {l : List (Nat × AV)} (hw : Stab E w) (h : ∀ q ∈ l, Stab E q.2) : ∀ q ∈ ((i, w) :: l : List (Nat × AV)), Stab E q.2 := fun v hv => (List.mem_cons.mp hv).elim (fun e => by rw [e]; exact hw) (h v)
theorem row_20 {l0 : Launch} {X : MX} {B : BX (EE × K)} {g : GP} {cc : ByteArray} {own : String} {F L : Nat} {E : EE} {κ : K} {pc : Nat} {lv : List (Nat × AV)} {rest : List AV} {f i c : Nat} (O : CK l0 X B g cc own F L) (hl : liveC E f i c = true) (hk : kd f c = 20) {n : Nat} (hn : sl f c = n) {j : Int32} (hj : ¬ (j < 0 ∨ n ≤ j.toNatClampNeg)) {x : Int32} (hd : decode cc pc = .ok (.iastore, 1)) (kk : J X B (E, setV κ f i c j.toNatClampNeg x) (pc + 1) lv rest) : J X B (E, κ) pc lv (.inl (.int x) :: .inl (.int j) :: .inr (some (f, i, c)) :: rest) := by
  obtain ⟨OO, hB, hCst⟩ := O.co
  obtain ⟨p0, l, e, R, s, m, args, below, meth, c0, Q⟩ := X
  subst hn
  have hcst : B.2.2.2.2.1 (E, setV κ f i c j.toNatClampNeg x) = B.2.2.2.2.1 (E, κ) := by rw [hCst]; rfl
  refine ⟨by rw [← hcst]; exact kk.1, fun fx ad H locs ls cells slots h1 h2 h3 h4 h5 => ?_⟩
  have O1 := OO fx
  have hc0 := ct_20 (ca := g.2.1) (e0 := g.2.2.1) (κ := κ) hl hk ad
  have hc1 := ct_20 (ca := g.2.1) (e0 := g.2.2.1) (κ := setV κ f i c j.toNatClampNeg x) hl hk ad
  have h6 := h1.1.at hB hc0
  refine W.iast O1.1 O1.2.1 h6.1 ((O1.2.2.2.2.2.1.2 0 _ rfl).1 (sl f c) (fun q => .int (kV κ f i c q))) (fun q => by cases q) (by show ¬ (j < 0 ∨ (arrV _ _ _).slots.size ≤ _); rw [arrV_size]; exact hj) rfl rfl hd fun H1 g1 z oq => ?_
  refine kk.2 fx ad H1 _ ls cells slots ⟨?_, h1.2⟩ (h2.put z oq h6.2) h3 (by rw [hcst]; exact h4) (by rw [hcst]; exact h5)
  refine Wd.set (p0 := (f, i, c)) h1.1 (by rw [hB]; exact hc0) (by rw [hB]; exact hc1) (fun q hq => by rw [hB]; exact ctC_setV hq) ?_ oq
  show H1[ad (f, i, c)]? = some (vp_cell _ _)
  rw [g1]
  rw [vp_cell_i, vp_cell_i, arrV_store, setV_eq]
  congr 2
  funext q
  by_cases hq : q = j.toNatClampNeg
  · subst hq; simp [updV, upd]
  · simp [updV, upd, hq]
theorem row_21 {l0 : Launch} {X : MX} {B : BX (EE × K)} {g : GP} {cc : ByteArray} {own : String} {F L : Nat} {E : EE} {κ : K} {pc : Nat} {lv : List (Nat × AV)} {rest : List AV} {f i c : Nat} (O : CK l0 X B g cc own F L) (hl : liveC E f i c = true) (hk : kd f c = 21) {j : Int32} (hj : ¬ (j < 0 ∨ kN κ f i c ≤ j.toNatClampNeg)) {x : Int32} (hd : decode cc pc = .ok (.iastore, 1)) (kk : J X B (E, setV κ f i c j.toNatClampNeg x) (pc + 1) lv rest) : J X B (E, κ) pc lv (.inl (.int x) :: .inl (.int j) :: .inr (some (f, i, c)) :: rest) :=
  J_iast O.co (n := kN κ f i c) (fun κ2 ad => by
    by_cases h : kN κ2 f i c = kN κ f i c
    · exact Or.inl (by rw [← h]; exact ct_21 hl hk ad)
    · exact Or.inr h) rfl hj hd kk
/-- a loop's pieces of a list of conditions -/
theorem tb_s {n : Nat} {p : Nat → Prop} (h : ∀ j : Nat, j < n → p j) (hn : p n) : ∀ j : Nat, j < n + 1 → p j := fun j hj => if e : j = n then e ▸ hn else h j (by omega)
theorem tb_0 {p : Nat → Prop} : ∀ j : Nat, j < 0 → p j := fun _ h => absurd h (Nat.not_lt_zero _)
