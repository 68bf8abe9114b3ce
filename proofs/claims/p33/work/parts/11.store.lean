/-! THE STORE K of the system by places, what exists (EE: how many guests, snapshots, replays, halls, models), and what each place holds -/
/-- a cell that no member's part is yet: an object of a class with its fields, or an array of ints, longs, or references -/
abbrev RC : Type := (Nat × (Nat → AV)) ⊕ (Nat × Nat × ((Nat → Int32) ⊕ (Nat → Int64) ⊕ (Nat → Option Pl)))
/-- guests, snapshots, replays, halls, models; whether the lists of guests and snapshots have arrays of their own; states that are kept for what is being made; arrays of the law's; the raw cells -/
abbrev EE : Type := Nat × Nat × Nat × Nat × Nat × Nat × Nat × Nat × Nat × List RC
def eR (E : EE) : List RC := E.2.2.2.2.2.2.2.2.2
abbrev K : Type := (Nat → Nat → Nat → Nat → Int32) × (Nat → Nat → Nat → Nat) × (Nat → Nat → Nat → Nat → Option Nat) × Option (Nat × (Nat → Int32)) × (Nat × Nat)
def kV (κ : K) : Nat → Nat → Nat → Nat → Int32 := κ.1
def kN (κ : K) : Nat → Nat → Nat → Nat := κ.2.1
def kP (κ : K) : Nat → Nat → Nat → Nat → Option Nat := κ.2.2.1
def kT (κ : K) : Option (Nat × (Nat → Int32)) := κ.2.2.2.1
def kC (κ : K) : Nat × Nat := κ.2.2.2.2
def setV (κ : K) (f i c k : Nat) (x : Int32) : K := (fun f' i' c' k' => if f' = f ∧ i' = i ∧ c' = c ∧ k' = k then x else κ.1 f' i' c' k', κ.2)
def setA (κ : K) (f i c : Nat) (a : Nat → Int32) : K := (fun f' i' c' k' => if f' = f ∧ i' = i ∧ c' = c then a k' else κ.1 f' i' c' k', κ.2)
def setN (κ : K) (f i c n : Nat) : K := (κ.1, fun f' i' c' => if f' = f ∧ i' = i ∧ c' = c then n else κ.2.1 f' i' c', κ.2.2)
def setP (κ : K) (f i c k : Nat) (o : Option Nat) : K := (κ.1, κ.2.1, fun f' i' c' k' => if f' = f ∧ i' = i ∧ c' = c ∧ k' = k then o else κ.2.2.1 f' i' c' k', κ.2.2.2)
def setT (κ : K) (t : Option (Nat × (Nat → Int32))) : K := (κ.1, κ.2.1, κ.2.2.1, t, κ.2.2.2.2)
def addC (κ : K) (a b : Nat) : K := (κ.1, κ.2.1, κ.2.2.1, κ.2.2.2.1, (κ.2.2.2.2.1 + a, κ.2.2.2.2.2 + b))
/-- the kind of a place -/
def kd : Nat → Nat → Nat
  | 0, 0 => 2
  | 0, 1 => 6
  | 0, 2 => 20
  | 0, 3 => 20
  | 0, 4 => 20
  | 0, 5 => 9
  | 0, 6 => 4
  | 0, 7 => 20
  | 0, 8 => 20
  | 0, 9 => 20
  | 0, 10 => 5
  | 0, 11 => 21
  | 0, 12 => 5
  | 0, 13 => 21
  | 0, 14 => 5
  | 0, 15 => 21
  | 0, 16 => 5
  | 0, 17 => 21
  | 0, 18 => 1
  | 0, 19 => 9
  | 0, 20 => 4
  | 0, 21 => 20
  | 0, 22 => 20
  | 0, 23 => 20
  | 0, 24 => 5
  | 0, 25 => 21
  | 0, 26 => 5
  | 0, 27 => 21
  | 0, 28 => 5
  | 0, 29 => 21
  | 0, 30 => 5
  | 0, 31 => 21
  | 0, 32 => 5
  | 0, 33 => 21
  | 0, 34 => 5
  | 0, 35 => 21
  | 0, 36 => 5
  | 0, 37 => 21
  | 0, 38 => 20
  | 1, 0 => 8
  | 2, 0 => 3
  | 2, 1 => 20
  | 2, 2 => 20
  | 2, 3 => 20
  | 3, 0 => 7
  | 3, 1 => 4
  | 3, 2 => 20
  | 3, 3 => 20
  | 3, 4 => 20
  | 4, 0 => 10
  | 4, 1 => 0
  | 4, 2 => 0
  | 4, 3 => 25
  | 4, 4 => 24
  | 4, 5 => 24
  | 5, 0 => 11
  | 5, 1 => 20
  | 5, 2 => 20
  | 5, 3 => 20
  | 5, 4 => 20
  | 5, 5 => 20
  | 5, 6 => 20
  | 5, 7 => 20
  | 5, 8 => 20
  | 5, 9 => 20
  | 5, 10 => 20
  | 5, 12 => 20
  | 5, 13 => 20
  | 5, 14 => 20
  | 5, 15 => 20
  | 5, 16 => 20
  | 5, 17 => 22
  | 5, 18 => 22
  | 5, 19 => 22
  | 5, 20 => 20
  | 5, 21 => 20
  | 5, 22 => 20
  | 5, 23 => 20
  | 5, 24 => 20
  | 5, 25 => 20
  | 5, 27 => 20
  | 5, 28 => 20
  | 5, 29 => 20
  | 5, 30 => 22
  | 5, 31 => 20
  | 5, 32 => 20
  | 5, 33 => 22
  | 5, 34 => 20
  | 5, 35 => 20
  | 5, 36 => 20
  | 5, 37 => 20
  | 5, 38 => 22
  | 5, 39 => 20
  | 5, 40 => 20
  | 6, 0 => 23
  | 8, 0 => 30
  | 9, 0 => 9
  | 9, 1 => 4
  | 9, 2 => 20
  | 9, 3 => 20
  | 9, 4 => 20
  | 9, 5 => 5
  | 9, 6 => 21
  | 9, 7 => 5
  | 9, 8 => 21
  | 9, 9 => 5
  | 9, 10 => 21
  | 9, 11 => 5
  | 9, 12 => 21
  | _, _ => 99
/-- how many parts a family's member has -/
def cmpN : Nat → Nat
  | 0 => 39
  | 1 => 1
  | 2 => 4
  | 3 => 5
  | 4 => 6
  | 5 => 0
  | 6 => 0
  | 8 => 1
  | 9 => 13
  | _ => 0
/-- an array's length, where it never changes -/
def sl : Nat → Nat → Nat
  | 0, 2 => 24
  | 0, 3 => 24
  | 0, 4 => 24
  | 0, 7 => 4
  | 0, 8 => 8
  | 0, 9 => 32
  | 0, 21 => 4
  | 0, 22 => 8
  | 0, 23 => 32
  | 0, 38 => 6
  | 2, 1 => 40
  | 2, 2 => 16
  | 2, 3 => 16
  | 3, 2 => 4
  | 3, 3 => 8
  | 3, 4 => 32
  | 4, 3 => 2
  | 5, 1 => 275
  | 5, 2 => 2560
  | 5, 3 => 275
  | 5, 4 => 2560
  | 5, 5 => 2560
  | 5, 6 => 5
  | 5, 7 => 550
  | 5, 8 => 5120
  | 5, 9 => 10
  | 5, 10 => 10
  | 5, 12 => 5
  | 5, 13 => 360
  | 5, 14 => 5
  | 5, 15 => 5
  | 5, 16 => 5
  | 5, 17 => 5
  | 5, 18 => 5
  | 5, 19 => 5
  | 5, 20 => 5
  | 5, 21 => 5
  | 5, 22 => 5
  | 5, 23 => 5
  | 5, 24 => 5
  | 5, 25 => 30
  | 5, 27 => 40
  | 5, 28 => 40
  | 5, 29 => 32
  | 5, 30 => 5
  | 5, 31 => 5
  | 5, 32 => 5
  | 5, 33 => 5
  | 5, 34 => 15000
  | 5, 35 => 5
  | 5, 36 => 15000
  | 5, 37 => 5
  | 5, 38 => 2
  | 5, 39 => 2
  | 5, 40 => 2
  | 6, 0 => 1
  | 9, 2 => 4
  | 9, 3 => 8
  | 9, 4 => 32
  | _, _ => 0
/-- how many fields -/
def nfl : Nat → Nat
  | 0 => 3
  | 1 => 4
  | 2 => 19
  | 3 => 8
  | 4 => 9
  | 5 => 2
  | 6 => 4
  | 7 => 5
  | 8 => 3
  | 9 => 10
  | 10 => 4
  | 11 => 42
  | _ => 0
/-- what a field is: (0, _, _) a number; (1, o, _) the part o places on; (2, f, c) another member's part; (3, _, _) a list's array; (4, _, _) a list's size -/
def fsp : Nat → Nat → Nat × Nat × Nat
  | 0, 1 => (3, 0, 0)
  | 1, 1 => (1, 1, 0)
  | 1, 2 => (1, 14, 0)
  | 1, 3 => (1, 16, 0)
  | 2, 3 => (1, 1, 0)
  | 2, 4 => (1, 5, 0)
  | 2, 5 => (1, 18, 0)
  | 2, 6 => (1, 36, 0)
  | 2, 7 => (1, 38, 0)
  | 2, 8 => (2, 2, 0)
  | 2, 9 => (2, 1, 0)
  | 3, 1 => (1, 1, 0)
  | 3, 2 => (1, 2, 0)
  | 3, 3 => (1, 3, 0)
  | 3, 6 => (2, 0, 0)
  | 4, 0 => (1, 1, 0)
  | 4, 1 => (1, 2, 0)
  | 4, 2 => (1, 3, 0)
  | 5, 0 => (1, 1, 0)
  | 6, 0 => (1, 1, 0)
  | 6, 1 => (1, 2, 0)
  | 6, 2 => (1, 3, 0)
  | 7, 0 => (1, 1, 0)
  | 7, 1 => (2, 0, 5)
  | 8, 0 => (2, 0, 0)
  | 8, 1 => (2, 9, 0)
  | 9, 0 => (1, 1, 0)
  | 9, 1 => (1, 5, 0)
  | 9, 2 => (1, 7, 0)
  | 9, 3 => (1, 9, 0)
  | 9, 4 => (1, 11, 0)
  | 10, 0 => (1, 1, 0)
  | 10, 1 => (1, 2, 0)
  | 10, 2 => (1, 3, 0)
  | 11, 1 => (1, 1, 0)
  | 11, 2 => (1, 2, 0)
  | 11, 3 => (1, 3, 0)
  | 11, 4 => (1, 4, 0)
  | 11, 5 => (1, 5, 0)
  | 11, 6 => (1, 6, 0)
  | 11, 7 => (1, 7, 0)
  | 11, 8 => (1, 8, 0)
  | 11, 9 => (1, 9, 0)
  | 11, 10 => (1, 10, 0)
  | 11, 12 => (1, 12, 0)
  | 11, 13 => (1, 13, 0)
  | 11, 14 => (1, 14, 0)
  | 11, 15 => (1, 15, 0)
  | 11, 16 => (1, 16, 0)
  | 11, 17 => (1, 17, 0)
  | 11, 18 => (1, 18, 0)
  | 11, 19 => (1, 19, 0)
  | 11, 20 => (1, 20, 0)
  | 11, 21 => (1, 21, 0)
  | 11, 22 => (1, 22, 0)
  | 11, 23 => (1, 23, 0)
  | 11, 24 => (1, 24, 0)
  | 11, 25 => (1, 25, 0)
  | 11, 27 => (1, 27, 0)
  | 11, 28 => (1, 28, 0)
  | 11, 29 => (1, 29, 0)
  | 11, 30 => (1, 30, 0)
  | 11, 31 => (1, 31, 0)
  | 11, 32 => (1, 32, 0)
  | 11, 33 => (1, 33, 0)
  | 11, 34 => (1, 34, 0)
  | 11, 35 => (1, 35, 0)
  | 11, 36 => (1, 36, 0)
  | 11, 37 => (1, 37, 0)
  | 11, 38 => (1, 38, 0)
  | 11, 39 => (1, 39, 0)
  | 11, 40 => (1, 40, 0)
  | _, _ => (0, 0, 0)
def cnt4 (E : EE) (c : Nat) : Nat := if c = 1 then E.2.2.2.2.2.1 else E.2.2.2.2.2.2.1
def cntE (E : EE) : Nat → Nat
  | 0 => E.1
  | 1 => E.2.1
  | 2 => 2 * E.2.2.2.1
  | 3 => E.2.2.1
  | 4 => E.2.2.2.1
  | 5 => E.2.2.2.2.1
  | 6 => E.2.2.2.2.2.2.2.2.1
  | 8 => (eR E).length
  | 9 => E.2.2.2.2.2.2.2.1
  | _ => 0
/-- what exists; a list's own array only once something is in it -/
def liveC (E : EE) (f i c : Nat) : Bool := decide (i < cntE E f) && decide (c < cmpN f ∧ kd f c < 90) && (decide (f ≠ 4) || decide (c < 4) || decide (0 < cnt4 E (c - 3)))
/-- the abstract value of a field -/
def avf (E : EE) (e0 : Nat) (f i c : Nat) (v : Int32) (o : Option Nat) : Nat × Nat × Nat → AV
  | (0, _, _) => .inl (.int v)
  | (1, d, _) => .inr (some (f, i, c + d))
  | (2, fa, co) => .inr (o.map fun j => (fa, j, co))
  | (3, _, _) => match o with
    | none => .inl (.ref e0)
    | some _ => .inr (some (f, i, c + 3))
  | _ => .inl (.int 0)
/-- a raw cell names no row of numbers and no pending array -/
def okP (p : Pl) : Bool := decide (kd p.1 p.2.2 ≠ 21) && decide (p.1 ≠ 7)
def san (e0 : Nat) : AV → AV
  | .inr (some p) => if okP p = true then .inr (some p) else .inr none
  | .inl (.retAddr _) => .inl (.ref e0)
  | v => v
def rcE (ca : Nat → ClassId) (e0 : Nat) (ad : Pl → Nat) : RC → va_E
  | .inl (k, fs) => .inr (k, (List.range (nfl k)).map fun j => emb ad (san e0 (fs j)))
  | .inr (a, n, .inl v) => .inl (ca a, n, .inl v)
  | .inr (a, n, .inr (.inl v)) => .inl (ca a, n, .inr (.inl v))
  | .inr (a, n, .inr (.inr o)) => .inl (ca a, n, .inr (.inr (.inr (.inr fun j => match o j with | none => none | some p => if okP p = true then some (ad p) else none))))
theorem rcE_ad {ca : Nat → ClassId} {e0 : Nat} {ad ad' : Pl → Nat} (h : ∀ q : Pl, kd q.1 q.2.2 ≠ 21 → q.1 ≠ 7 → ad' q = ad q) (r : RC) : rcE ca e0 ad' r = rcE ca e0 ad r := by
  match r with
  | .inl (k, fs) =>
    simp only [rcE]
    congr 2
    refine List.map_congr_left fun j _ => ?_
    match fs j with
    | .inl (.int _) => rfl
    | .inl (.long _) => rfl
    | .inl (.float _) => rfl
    | .inl (.double _) => rfl
    | .inl .null => rfl
    | .inl (.ref _) => rfl
    | .inl (.retAddr _) => rfl
    | .inr none => rfl
    | .inr (some p) =>
      simp only [san]
      by_cases hp : okP p = true
      · rw [if_pos hp]
        simp only [okP, Bool.and_eq_true, decide_eq_true_eq] at hp
        exact congrArg Value.ref (h p hp.1 hp.2)
      · rw [if_neg hp]; rfl
  | .inr (a, n, .inl v) => rfl
  | .inr (a, n, .inr (.inl v)) => rfl
  | .inr (a, n, .inr (.inr o)) =>
    simp only [rcE]
    congr 7
    funext j
    cases o j with
    | none => rfl
    | some p =>
      dsimp only
      by_cases hp : okP p = true
      · rw [if_pos hp, if_pos hp]
        simp only [okP, Bool.and_eq_true, decide_eq_true_eq] at hp
        exact congrArg some (h p hp.1 hp.2)
      · rw [if_neg hp, if_neg hp]
def cellE (ca : Nat → ClassId) (e0 : Nat) (ad : Pl → Nat) (E : EE) (f i c : Nat) (v : Nat → Int32) (n : Nat) (o : Nat → Option Nat) : va_E :=
  if kd f c < 12 then .inr (kd f c, (List.range (nfl (kd f c))).map fun k => emb ad (avf E e0 f i c (v k) (o k) (fsp (kd f c) k)))
  else if kd f c = 20 then .inl (ca 0, sl f c, .inl v)
  else if kd f c = 21 then .inl (ca 0, n, .inl v)
  else if kd f c = 22 then .inl (ca 1, sl f c, .inl v)
  else if kd f c = 23 then .inl (ca 2, sl f c, .inr (.inl fun k => (v k).toInt64))
  else if kd f c = 24 then .inl (ca 3, 10, .inr (.inr (.inr (.inr fun j => (o j).map fun q => ad (c - 4, q, 0)))))
  else if kd f c = 30 then rcE ca e0 ad ((eR E).getD i (.inr (0, 0, .inl fun _ => 0)))
  else .inl (ca 4, 2, .inr (.inr (.inr (.inr fun j => if j < 2 then some (ad (2, j, 0)) else none))))
/-- the whole content -/
def ctC (ca : Nat → ClassId) (e0 : Nat) : CtF (EE × K) := fun ad x p =>
  if p.1 = 7 then (if p.2.1 = 0 ∧ p.2.2 = 0 then (kT x.2).map fun t => .inl (ca 0, t.1, .inl t.2) else none)
  else if liveC x.1 p.1 p.2.1 p.2.2 = true then some (cellE ca e0 ad x.1 p.1 p.2.1 p.2.2 (kV x.2 p.1 p.2.1 p.2.2) (kN x.2 p.1 p.2.1 p.2.2) (kP x.2 p.1 p.2.1 p.2.2)) else none
section STORE
variable {ca : Nat → ClassId} {e0 : Nat} {ad : Pl → Nat} {E : EE} {κ : K} {f i c k : Nat}
theorem liveC_f7 (h : liveC E f i c = true) : f ≠ 7 := by
  intro e
  subst e
  simp [liveC, cntE] at h
theorem ctC_live (h : liveC E f i c = true) : ctC ca e0 ad (E, κ) (f, i, c) = some (cellE ca e0 ad E f i c (kV κ f i c) (kN κ f i c) (kP κ f i c)) := by
  simp [ctC, h, liveC_f7 h]
theorem setV_ne {f' i' c' : Nat} {x : Int32} (h : (f', i', c') ≠ (f, i, c)) : kV (setV κ f i c k x) f' i' c' = kV κ f' i' c' := by
  funext k'
  show (if f' = f ∧ i' = i ∧ c' = c ∧ k' = k then x else _) = _
  rw [if_neg]
  · rfl
  · rintro ⟨rfl, rfl, rfl, -⟩; exact h rfl
theorem setV_eq {x : Int32} : kV (setV κ f i c k x) f i c = upd (kV κ f i c) k x := by
  funext k'
  simp [kV, setV, upd]
theorem setP_ne {f' i' c' : Nat} {x : Option Nat} (h : (f', i', c') ≠ (f, i, c)) : kP (setP κ f i c k x) f' i' c' = kP κ f' i' c' := by
  funext k'
  show (if f' = f ∧ i' = i ∧ c' = c ∧ k' = k then x else _) = _
  rw [if_neg]
  · rfl
  · rintro ⟨rfl, rfl, rfl, -⟩; exact h rfl
theorem setA_ne {f' i' c' : Nat} {a : Nat → Int32} (h : (f', i', c') ≠ (f, i, c)) : kV (setA κ f i c a) f' i' c' = kV κ f' i' c' := by
  funext k'
  show (if f' = f ∧ i' = i ∧ c' = c then a k' else _) = _
  rw [if_neg]
  · rfl
  · rintro ⟨rfl, rfl, rfl⟩; exact h rfl
theorem setA_eq {a : Nat → Int32} : kV (setA κ f i c a) f i c = a := by
  funext k'
  simp [kV, setA]
theorem ctC_setV {x : Int32} {p : Pl} (h : p ≠ (f, i, c)) : ctC ca e0 ad (E, setV κ f i c k x) p = ctC ca e0 ad (E, κ) p := by
  obtain ⟨f', i', c'⟩ := p
  unfold ctC
  dsimp only
  rw [setV_ne h]
  rfl
theorem ctC_setP {x : Option Nat} {p : Pl} (h : p ≠ (f, i, c)) : ctC ca e0 ad (E, setP κ f i c k x) p = ctC ca e0 ad (E, κ) p := by
  obtain ⟨f', i', c'⟩ := p
  unfold ctC
  dsimp only
  rw [setP_ne h]
  rfl
theorem ctC_setA {a : Nat → Int32} {p : Pl} (h : p ≠ (f, i, c)) : ctC ca e0 ad (E, setA κ f i c a) p = ctC ca e0 ad (E, κ) p := by
  obtain ⟨f', i', c'⟩ := p
  unfold ctC
  dsimp only
  rw [setA_ne h]
  rfl
theorem range_map_set {α : Type} (n : Nat) (g g' : Nat → α) (y : α) (hy : g' k = y) (hg : ∀ j, j ≠ k → g' j = g j) : (List.range n).map g' = ((List.range n).map g).set k y := by
  apply List.ext_getElem?
  intro j
  rw [List.getElem?_set]
  simp only [List.getElem?_map, List.length_map, List.length_range]
  by_cases hjk : k = j
  · subst hjk
    by_cases hk : k < n
    · simp [hk, hy]
    · simp [hk]
  · rw [if_neg hjk]
    by_cases hk : j < n
    · simp [hk, hg j (Ne.symm hjk)]
    · simp [hk]
theorem cell_obj (h : kd f c < 12) (v : Nat → Int32) (n : Nat) (o : Nat → Option Nat) : cellE ca e0 ad E f i c v n o = .inr (kd f c, (List.range (nfl (kd f c))).map fun k => emb ad (avf E e0 f i c (v k) (o k) (fsp (kd f c) k))) := by
  unfold cellE
  rw [if_pos h]
theorem fld_at {n : Nat} {g : Nat → Value} (h : k < n) : ((List.range n).map g)[k]? = some (g k) := by simp [h]
theorem fld_len {n : Nat} {g : Nat → Value} : ((List.range n).map g).length = n := by simp
end STORE
/-! a field of one object is written: what is left of the heap -/
section PUT1
variable {p : Program} {l : Launch} {e : Env} {R : Room} {s : State} {m : MethodId} {args : Array Value} {below : List Frame} {meth : Method} {c : Code} {H : Heap} {locs : List Loc} {cells slots : Nat} {Q : State → Prop}
variable {cc : ByteArray} {pc : Nat} {ls : Array Slot} {rest : List Value} {D : va_G} {cl : List vw_C} {A : Nat → Prop} {a : Nat} {tys : List (ClassId × FieldType)} {H0 : Heap}
theorem put_one (hexec : p.tables.exec = Jvm.exec) (hb : c.code = cc) {own ref C : String} {T : u_T} {N ci index : Nat} {Ts : List Cond} (hts : ∀ w ∈ Ts, w.before args s = true) (hin : ∀ w ∈ u_ws C T N, w ∈ Ts) (ty0 : Nat → FieldType) (hty : ∀ k, k < N → parseFieldDescriptor (T k).2.2.1 = some (ty0 k)) (hnm : ∀ a, a < N → ∀ b, b < N → a ≠ b → (T a).2.1 ≠ (T b).2.1) (hown : s.vm.findClass own = some m.cls) (hK : va_K D cl tys s) {fs : List Value} (hP : va_at D cl (a, .inr (ci, fs)) H) (hA : A a) (hS0 : va_S A H0 H locs) (hc : cl[ci]? = some (C, T, N)) (k : Nat) (hk : k < N) (hlink : (Cond.fieldLink own index ref (T k).2.1 (T k).2.2.1).before args s = true) (hsame : ∀ x, s.fieldFound? (T k).1 (T k).2.1 (T k).2.2.1 = some x → s.fieldFound? ref (T k).2.1 (T k).2.2.1 = some x) (hfin : (T k).2.2.2 = false) {ty : FieldType} {v : Value} (hd : parseFieldDescriptor (T k).2.2.1 = some ty) (hn : narrow ty v = v) (hfit : fits ty v = true) (hl : k < fs.length)
    (hdg : decode cc pc = .ok (.putfield index, 3)) (kk : ∀ (H1 : Heap) (locs1 : List Loc), va_at D cl (a, .inr (ci, fs.set k v)) H1 → (∀ q : Nat, q ≠ a → H1[q]? = H[q]?) → va_S A H0 H1 locs1 → W p l e R s m args below meth c H1 locs1 cells slots Q (F0 m (pc + 3) ls rest)) : W p l e R s m args below meth c H locs cells slots Q (F0 m pc ls (v :: .ref a :: rest)) := by
  have hap := va_apart (own := own) hts hin ty0 hty hnm hK hc
  obtain ⟨r, h1, cell, q1, q2, q3, q4⟩ := hP
  have hr : r = (C, T, N) := Option.some.inj (h1.symm.trans hc)
  subst hr
  obtain ⟨hS, hfc, kC, hkC, hkind⟩ := hK.1 ci _ hc
  obtain ⟨cf, kf, fi, f, hi, hsl⟩ := hS k hk
  have hlay := hts _ (hin _ (u_in_lay hk))
  unfold u_lay at hlay
  rw [if_neg (by rw [hfin]; decide)] at hlay
  have hst := (u_facts hfc hkC (u_lays hts hin hk) hi).1
  have h6 := u_store hfc hkC hkind hlay hi hd hn hfit
  refine W.putK hexec hb (f := f) ⟨hown, hlink, ⟨_, _, _, hsame _ hi⟩, hst⟩ (by rw [q2]; exact h6) q1 q3 (by rw [hsl]; exact k2_hasslot (q4 k hk)) rfl rfl hdg fun H' e1 e2 e3 => ?_
  rw [hsl] at e1 ⊢
  exact kk H' _ ⟨_, hc, t_OB.to (V := updV (vp_V fs) k v) ⟨_, e1, q2, q3, t_set q4 hap hk v⟩ (fun j _ => vp_updV_set hl v j)⟩ e3 (hS0.put e2 e3 hA)
end PUT1
