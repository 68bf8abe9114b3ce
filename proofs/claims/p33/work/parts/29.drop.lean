/-! RAW CELLS that are numbers; what is made is dropped again -/
def rcN : RC → Bool
  | .inl _ => false
  | .inr (_, _, .inr (.inr _)) => false
  | _ => true
def rawN (E : EE) : Prop := ∀ r ∈ eR E, rcN r = true
section DROP
variable {l0 : Launch} {X : MX} {B : BX (EE × K)} {g : GP} {cc : ByteArray} {own : String} {F L : Nat} {E E' : EE} {κ κ' : K} {pc : Nat} {lv : List (Nat × AV)} {rest st0 as : List AV} {l : List RC}
theorem rcOK_of_N {n : Nat} {r : RC} (h : rcN r = true) : rcOK n r := by
  match r, h with
  | .inr (_, _, .inl _), _ => exact trivial
  | .inr (_, _, .inr (.inl _)), _ => exact trivial
theorem rawOK_of_N (h : rawN E) : rawOK E := fun r hr => rcOK_of_N (h r hr)
theorem rawN_push {r : RC} (h : rawN E) (hr : rcN r = true) : rawN (upR E (eR E ++ [r])) := by
  intro q hq
  rcases List.mem_append.mp (show q ∈ eR E ++ [r] from hq) with h1 | h1
  · exact h q h1
  · rw [List.mem_singleton.mp h1]; exact hr
theorem PC_up9 {f i c : Nat} (h : PC 9 E f i c) : PC 9 (upR E l) f i c := by
  refine PC_up (fun h8 => ?_) h
  subst h8
  have h1 := PC_kd h 0 (by decide)
  rw [Nat.add_zero] at h1
  match c, h1 with
  | 0, h1 => exact absurd (show (30 : Nat) = 9 from h1) (by decide)
  | n + 1, h1 => exact absurd (show (99 : Nat) = 9 from h1) (by decide)
/-- the raw cells behind are dropped -/
theorem J_drop (O : CK l0 X B g cc own F L) {E0 : EE} (hKP : KPok B E0) (kk : J X B (E, κ) pc lv st0) : J X B (upR E (eR E ++ l), κ) pc lv st0 := by
  refine J_rename O hKP (fun p => p) (fun _ _ _ _ _ => rfl) rfl (fun ca e0 ad p e hp => ?_) (fun _ _ _ _ _ _ _ _ _ h => h) (lv' := lv) (st' := st0) ?_ ?_ kk
  · obtain ⟨f, i, c⟩ := p
    have hp' : ctC ca e0 ad (E, κ) (f, i, c) = some e := hp
    by_cases h8 : f = 8
    · subst h8
      obtain ⟨rfl, r, h1, h2⟩ := ct_8' hp'
      rw [h2]
      refine ct_8 (E := upR E (eR E ++ l)) ?_
      show (eR E ++ l)[i]? = some r
      rw [List.getElem?_append_left (List.getElem?_eq_some_iff.mp h1).1]
      exact h1
    · rw [ctC_upR (show (f, i, c).1 ≠ 8 from h8)]
      exact hp'
  · rw [List.map_congr_left (g := fun q => q)]
    · simp
    · intro q _
      obtain ⟨i, v⟩ := q
      match v with
      | .inl _ => rfl
      | .inr none => rfl
      | .inr (some _) => rfl
  · rw [List.map_congr_left (g := fun q => q)]
    · simp
    · intro v _
      match v with
      | .inl _ => rfl
      | .inr none => rfl
      | .inr (some _) => rfl
end DROP
/-! ADOPTION: raw cells become the parts of members that are new -/
abbrev NW : Type := Nat → Nat → Nat → Option Nat
def rhoN (nw : NW) (n : Nat) (p : Pl) : Pl := match nw p.1 p.2.1 p.2.2 with
  | some m => (8, n + m, 0)
  | none => p
def rvI (r : RC) (k : Nat) : Int32 := match r with
  | .inl (_, fs) => (match fs k with
    | .inl (.int x) => x
    | _ => 0)
  | .inr (_, _, .inl a) => a k
  | _ => 0
def rvN (r : RC) : Nat := match r with
  | .inl _ => 0
  | .inr (_, n, _) => n
def rvP (r : RC) (k : Nat) : Option Nat := match r with
  | .inl (_, fs) => (match fs k with
    | .inr (some p) => some p.2.1
    | _ => none)
  | _ => none
def rz : RC := .inr (0, 0, .inl fun _ => 0)
def adK (κ : K) (nw : NW) (cells : List RC) : K := (fun f i c k => match nw f i c with
    | some m => rvI (cells.getD m rz) k
    | none => κ.1 f i c k, fun f i c => match nw f i c with
    | some m => rvN (cells.getD m rz)
    | none => κ.2.1 f i c, fun f i c k => match nw f i c with
    | some m => rvP (cells.getD m rz) k
    | none => κ.2.2.1 f i c k, κ.2.2.2)
/-- a field of a new member's part -/
def fOK (nw : NW) (n f i c : Nat) (v : AV) : Nat × Nat × Nat → Prop
  | (0, _, _) => ∃ x, v = .inl (.int x)
  | (1, d, _) => ∃ m, nw f i (c + d) = some m ∧ v = .inr (some (8, n + m, 0))
  | (2, fa, co) => ∃ o : Option Nat, v = .inr (o.map fun j => (fa, j, co)) ∧ (kd fa co ≠ 21 ∧ fa ≠ 7) ∧ ∀ j, o = some j → nw fa j co = none
  | (3, _, _) => ∃ z, v = .inl (.retAddr z)
  | _ => False
/-- a new member's part -/
def cOK (nw : NW) (n f i c : Nat) : RC → Prop
  | .inl (k, fs) => kd f c = k ∧ k < 12 ∧ ∀ j, j < nfl k → fOK nw n f i c (fs j) (fsp k j)
  | .inr (a, m, .inl _) => (kd f c = 20 ∧ a = 0 ∧ m = sl f c) ∨ (kd f c = 21 ∧ a = 0) ∨ (kd f c = 22 ∧ a = 1 ∧ m = sl f c)
  | .inr (a, m, .inr (.inl x)) => kd f c = 23 ∧ a = 2 ∧ m = sl f c ∧ ∀ k, x k = 0
  | .inr (a, m, .inr (.inr o)) => (kd f c = 25 ∧ a = 4 ∧ m = 2 ∧ (∀ j, j < 2 → ∃ q, nw 2 j 0 = some q ∧ o j = some (8, n + q, 0)) ∧ ∀ j, ¬ j < 2 → o j = none) ∨ (kd f c = 24 ∧ a = 3 ∧ m = 10 ∧ ∀ j, o j = none)
/-- a raw cell that stays names nothing new -/
def nmN (nw : NW) (n : Nat) : AV → Prop
  | .inr (some p) => nw p.1 p.2.1 p.2.2 = none ∧ (p.1 = 8 → p.2.1 < n)
  | _ => True
def rcF (nw : NW) (n : Nat) : RC → Prop
  | .inl (_, fs) => ∀ j, nmN nw n (fs j)
  | .inr (_, _, .inr (.inr o)) => ∀ j, nmN nw n (.inr (o j))
  | _ => True
/-- what stays names nothing new -/
def DGs (E : EE) (κ : K) (nw : NW) : Prop := ∀ f i c : Nat, liveC E f i c = true → nw f i c = none → f ≠ 8 → (∀ k, (∀ d z, fsp (kd f c) k = (1, d, z) → nw f i (c + d) = none) ∧ (∀ fa co, fsp (kd f c) k = (2, fa, co) → ∀ j, kP κ f i c k = some j → nw fa j co = none) ∧ (∀ y z, fsp (kd f c) k = (3, y, z) → ∀ j, kP κ f i c k = some j → nw f i (c + 3) = none)) ∧ (kd f c = 24 → ∀ k q, kP κ f i c k = some q → nw (c - 4) q 0 = none) ∧ (kd f c = 25 → ∀ j, j < 2 → nw 2 j 0 = none)
section ADOPT
variable {l0 : Launch} {X : MX} {B : BX (EE × K)} {g : GP} {cc : ByteArray} {own : String} {F L : Nat} {E E' E0 : EE} {κ : K} {pc : Nat} {lv : List (Nat × AV)} {st0 : List AV} {ca : Nat → ClassId} {e0 : Nat} {ad : Pl → Nat} {nw : NW} {cells : List RC}
theorem kd_cases {f c : Nat} (h : kd f c < 90) : kd f c < 12 ∨ kd f c = 20 ∨ kd f c = 21 ∨ kd f c = 22 ∨ kd f c = 24 ∨ kd f c = 30 ∨ kd f c = 25 ∨ kd f c = 23 := by
  revert h
  unfold kd
  split <;> decide
theorem not_live_99 {E : EE} {f i c : Nat} (k1 : ¬ kd f c < 12) (k2 : ¬ kd f c = 20) (k3 : ¬ kd f c = 21) (k4 : ¬ kd f c = 22) (k5 : ¬ kd f c = 24) (k6 : ¬ kd f c = 30) (k7 : ¬ kd f c = 25) (k8 : ¬ kd f c = 23) : liveC E f i c = false := by
  cases hl : liveC E f i c with
  | false => rfl
  | true =>
    unfold liveC at hl
    simp only [Bool.and_eq_true, Bool.or_eq_true, decide_eq_true_eq] at hl
    rcases kd_cases hl.1.2.2 with h | h | h | h | h | h | h | h
    · exact absurd h k1
    · exact absurd h k2
    · exact absurd h k3
    · exact absurd h k4
    · exact absurd h k5
    · exact absurd h k6
    · exact absurd h k7
    · exact absurd h k8
theorem rhoN_some {n f i c m : Nat} (h : nw f i c = some m) : rhoN nw n (f, i, c) = (8, n + m, 0) := by unfold rhoN; simp [h]
theorem rhoN_none {n f i c : Nat} (h : nw f i c = none) : rhoN nw n (f, i, c) = (f, i, c) := by unfold rhoN; simp [h]
theorem emb_rho {n : Nat} {p : Pl} (h : nw p.1 p.2.1 p.2.2 = none) : emb (fun p => ad (rhoN nw n p)) (.inr (some p)) = emb ad (.inr (some p)) := congrArg (fun q => Value.ref (ad q)) (rhoN_none (c := p.2.2) h)
/-- a new part's content -/
theorem new_cell {n f i c m : Nat} {r : RC} (hm : nw f i c = some m) (hr : cells[m]? = some r) (h : cOK nw n f i c r) :
    cellE ca e0 (fun p => ad (rhoN nw n p)) E' f i c (kV (adK κ nw cells) f i c) (kN (adK κ nw cells) f i c) (kP (adK κ nw cells) f i c) = rcE ca e0 ad r := by
  have hg : cells.getD m rz = r := by rw [List.getD_eq_getElem?_getD, hr]; rfl
  have hV : kV (adK κ nw cells) f i c = rvI r := by funext k; show (match nw f i c with | some m => rvI (cells.getD m rz) k | none => _) = _; rw [hm]; simp only [hg]
  have hN : kN (adK κ nw cells) f i c = rvN r := by show (match nw f i c with | some m => rvN (cells.getD m rz) | none => _) = _; rw [hm]; simp only [hg]
  have hP : kP (adK κ nw cells) f i c = rvP r := by funext k; show (match nw f i c with | some m => rvP (cells.getD m rz) k | none => _) = _; rw [hm]; simp only [hg]
  rw [hV, hN, hP]
  match r, h with
  | .inl (k, fs), h =>
    obtain ⟨h1, h2, h3⟩ := h
    rw [cell_obj (by rw [h1]; exact h2), h1]
    show _ = (.inr (k, (List.range (nfl k)).map fun j => emb ad (san e0 (fs j))) : va_E)
    congr 2
    refine List.map_congr_left fun j hj => ?_
    have h4 := h3 j (List.mem_range.mp hj)
    have hsp : fsp (kd f c) j = fsp k j := by rw [h1]
    generalize fsp k j = sp at h4 hsp
    obtain ⟨t, a, b⟩ := sp
    show emb _ (avf E' e0 f i c (rvI (.inl (k, fs)) j) (rvP (.inl (k, fs)) j) (t, a, b)) = _
    match t, h4, hsp with
    | 0, h4, _ =>
      obtain ⟨x, hx⟩ := h4
      simp only [avf, rvI, hx, san, emb]
    | 1, h4, _ =>
      obtain ⟨q, h5, h6⟩ := h4
      simp only [avf, h6, san]
      rw [if_pos (by rfl)]
      exact congrArg (fun q => Value.ref (ad q)) (rhoN_some h5)
    | 2, h4, _ =>
      obtain ⟨o, h5, h6, h7⟩ := h4
      cases o with
      | none => simp only [avf, rvP, h5, Option.map_none, san]; rfl
      | some q =>
        simp only [avf, rvP, h5, Option.map_some, san]
        rw [if_pos (by simp [okP, h6.1, h6.2])]
        exact emb_rho (p := (a, q, b)) (h7 q rfl)
    | 3, h4, hsp =>
      obtain ⟨z, hz⟩ := h4
      simp only [avf, rvP, hz, san]
      rfl
  | .inr (a, q, .inl x), h =>
    rcases h with ⟨h1, h2, h3⟩ | ⟨h1, h2⟩ | ⟨h1, h2, h3⟩
    · unfold cellE; rw [h1]; subst h2; subst h3; rfl
    · unfold cellE; rw [h1]; subst h2; rfl
    · unfold cellE; rw [h1]; subst h2; subst h3; rfl
  | .inr (a, q, .inr (.inl x)), h =>
    obtain ⟨h1, h2, h3, h4⟩ := h
    unfold cellE; rw [h1]; subst h2; subst h3
    show (.inl (ca 2, sl f c, .inr (.inl fun k => (rvI (.inr (2, sl f c, .inr (.inl x))) k).toInt64)) : va_E) = .inl (ca 2, sl f c, .inr (.inl x))
    congr 5
    funext k
    rw [h4 k]
    rfl
  | .inr (a, q, .inr (.inr o)), h =>
    rcases h with ⟨h1, h2, h3, h4, h5⟩ | ⟨h1, h2, h3, h4⟩
    · subst h2; subst h3
      unfold cellE
      rw [h1]
      show (.inl (ca 4, 2, .inr (.inr (.inr (.inr fun j => if j < 2 then some (ad (rhoN nw n (2, j, 0))) else none)))) : va_E) = .inl (ca 4, 2, .inr (.inr (.inr (.inr fun j => match o j with | none => none | some p => if okP p = true then some (ad p) else none))))
      congr 7
      funext j
      by_cases hj : j < 2
      · obtain ⟨q, h6, h7⟩ := h4 j hj
        rw [if_pos hj, h7, rhoN_some h6]
        rfl
      · rw [if_neg hj, h5 j hj]
    · subst h2; subst h3
      unfold cellE
      rw [h1]
      show (.inl (ca 3, 10, .inr (.inr (.inr (.inr fun j => none)))) : va_E) = .inl (ca 3, 10, .inr (.inr (.inr (.inr fun j => match o j with | none => none | some p => if okP p = true then some (ad p) else none))))
      congr 7
      funext j
      rw [h4 j]
theorem rcE_nm {n : Nat} {r : RC} (hr : rcF nw n r) : rcE ca e0 (fun p => ad (rhoN nw n p)) r = rcE ca e0 ad r := by
  match r, hr with
  | .inl (k, fs), hr =>
    simp only [rcE]
    congr 2
    refine List.map_congr_left fun j _ => ?_
    have h1 := hr j
    revert h1
    match fs j with
    | .inl (.int _) => exact fun _ => rfl
    | .inl (.long _) => exact fun _ => rfl
    | .inl (.float _) => exact fun _ => rfl
    | .inl (.double _) => exact fun _ => rfl
    | .inl .null => exact fun _ => rfl
    | .inl (.ref _) => exact fun _ => rfl
    | .inl (.retAddr _) => exact fun _ => rfl
    | .inr none => exact fun _ => rfl
    | .inr (some p) =>
      intro h1
      simp only [san]
      by_cases hp : okP p = true
      · rw [if_pos hp]; exact emb_rho h1.1
      · rw [if_neg hp]; rfl
  | .inr (a, n, .inl v), _ => rfl
  | .inr (a, n, .inr (.inl v)), _ => rfl
  | .inr (a, n', .inr (.inr o)), hr =>
    simp only [rcE]
    congr 7
    funext j
    have h1 := hr j
    revert h1
    cases o j with
    | none => exact fun _ => rfl
    | some p =>
      intro h1
      dsimp only
      by_cases hp : okP p = true
      · rw [if_pos hp, if_pos hp]
        exact congrArg (fun q => some (ad q)) (rhoN_none (c := p.2.2) h1.1)
      · rw [if_neg hp, if_neg hp]
/-- a part that stays -/
theorem stay_cell {n f i c : Nat} {v : Nat → Int32} {m : Nat} (hn : nw f i c = none) (h8 : f ≠ 8) (hl : liveC E' f i c = true) (hDG : DGs E' κ nw) :
    cellE ca e0 (fun p => ad (rhoN nw n p)) E' f i c v m (kP κ f i c) = cellE ca e0 ad E f i c v m (kP κ f i c) := by
  obtain ⟨d1, d2, d3⟩ := hDG f i c hl hn h8
  unfold cellE
  split
  · congr 2
    refine List.map_congr_left fun k _ => ?_
    obtain ⟨g1, g2, g3⟩ := d1 k
    generalize fsp (kd f c) k = sp at g1 g2 g3
    obtain ⟨t, a, b⟩ := sp
    match t, g1, g2, g3 with
    | 0, _, _, _ => rfl
    | 1, g1, _, _ => exact emb_rho (p := (f, i, c + a)) (g1 a b rfl)
    | 2, _, g2, _ =>
      simp only [avf]
      cases hk : kP κ f i c k with
      | none => rfl
      | some j => exact emb_rho (p := (a, j, b)) (g2 a b rfl j hk)
    | 3, _, _, g3 =>
      simp only [avf]
      cases hk : kP κ f i c k with
      | none => rfl
      | some j => exact emb_rho (p := (f, i, c + 3)) (g3 a b rfl j hk)
    | t + 4, _, _, _ => rfl
  · split
    · rfl
    · split
      · rfl
      · split
        · rfl
        · split
          · rfl
          · split
            · rename_i h24
              congr 7
              funext j
              cases hk : kP κ f i c j with
              | none => rfl
              | some q => exact congrArg (fun q => some (ad q)) (rhoN_none (d2 h24 j q hk))
            · split
              · rename_i h30
                exact absurd (kd_30 h30) h8
              · rename_i k1 k2 k3 k4 k0 k5 k6
                congr 7
                funext j
                split
                · rename_i hj
                  by_cases h25 : kd f c = 25
                  · exact congrArg (fun q => some (ad q)) (rhoN_none (d3 h25 j hj))
                  · exact absurd hl (by rw [not_live_99 k1 k2 k3 k4 k5 k6 h25 k0]; decide)
                · rfl
theorem J_adopt (O : CK l0 X B g cc own F L) (hKP : KPok B E0) (nw : NW) (cells : List RC) (hfix : ∀ f i c : Nat, liveC E0 f i c = true → kd f c ≠ 21 → nw f i c = none) (hE : eR E = eR E' ++ cells) (hlive : ∀ f i c : Nat, liveC E' f i c = true → nw f i c = none → f ≠ 8 → liveC E f i c = true) 
    (hnew : ∀ f i c m : Nat, liveC E' f i c = true → nw f i c = some m → ∃ r, cells[m]? = some r ∧ cOK nw (eR E').length f i c r) (hinj : ∀ f i c f' i' c' m : Nat, nw f i c = some m → nw f' i' c' = some m → (f, i, c) = (f', i', c')) (h78 : ∀ i c : Nat, nw 7 i c = none ∧ nw 8 i c = none)
    (hraw : ∀ r ∈ eR E', rcF nw (eR E').length r) (hDG : DGs E' κ nw) {lv' : List (Nat × AV)} {st' : List AV} (hl : lv = lv'.map fun q => (q.1, rnA (rhoN nw (eR E').length) q.2)) (hs : st0 = st'.map (rnA (rhoN nw (eR E').length))) (kk : J X B (E', adK κ nw cells) pc lv' st') : J X B (E, κ) pc lv st0 := by
  refine J_rename (κ' := adK κ nw cells) O hKP (rhoN nw (eR E').length) (fun f i c h1 h2 => rhoN_none (hfix f i c h1 h2)) rfl (fun ca e0 ad p e hp => ?_) (fun ca e0 ad p q e e' hp hq hpq => ?_) hl hs kk
  · obtain ⟨f, i, c⟩ := p
    cases hm : nw f i c with
    | some m =>
      have h7 : f ≠ 7 := fun z => by rw [z, (h78 i c).1] at hm; cases hm
      have hlv := ctC_7 hp (fun z => h7 (by injection z))
      rw [ctC_live hlv] at hp
      obtain ⟨r, h5, h6⟩ := hnew f i c m hlv hm
      rw [new_cell hm h5 h6] at hp
      rw [rhoN_some hm, ← hp]
      refine ct_8 ?_
      rw [hE, List.getElem?_append_right (by omega), Nat.add_sub_cancel_left]
      exact h5
    | none =>
      rw [rhoN_none hm]
      by_cases h7 : f = 7
      · subst h7
        rw [← hp]
        unfold ctC
        rfl
      · have hlv := ctC_7 hp (fun z => h7 (by injection z))
        by_cases h8 : f = 8
        · subst h8
          obtain ⟨rfl, r, h1, h2⟩ := ct_8' hp
          rw [h2, rcE_nm (hraw r (List.mem_of_getElem? h1))]
          refine ct_8 ?_
          rw [hE, List.getElem?_append_left (List.getElem?_eq_some_iff.mp h1).1]
          exact h1
        · rw [ctC_live hlv] at hp
          rw [ctC_live (hlive f i c hlv hm h8), ← hp]
          have hV : kV (adK κ nw cells) f i c = kV κ f i c := by funext k; show (match nw f i c with | some m => rvI (cells.getD m rz) k | none => _) = _; rw [hm]; rfl
          have hN : kN (adK κ nw cells) f i c = kN κ f i c := by show (match nw f i c with | some m => rvN (cells.getD m rz) | none => _) = _; rw [hm]; rfl
          have hP : kP (adK κ nw cells) f i c = kP κ f i c := by funext k; show (match nw f i c with | some m => rvP (cells.getD m rz) k | none => _) = _; rw [hm]; rfl
          rw [hV, hN, hP]
          exact congrArg some (stay_cell hm h8 hlv hDG).symm
  · obtain ⟨f, i, c⟩ := p
    obtain ⟨f', i', c'⟩ := q
    have key : ∀ (f i c : Nat) (e : va_E), ctC ca e0 ad (E', adK κ nw cells) (f, i, c) = some e → nw f i c = none → f = 8 → i < (eR E').length := by
      intro f i c e hp _ h8
      subst h8
      obtain ⟨rfl, r, h1, h2⟩ := ct_8' hp
      exact (List.getElem?_eq_some_iff.mp h1).1
    cases hm : nw f i c with
    | some m =>
      cases hm' : nw f' i' c' with
      | some m' =>
        rw [rhoN_some hm, rhoN_some hm'] at hpq
        injection hpq with z1 z2
        injection z2 with z2 z3
        have : m = m' := by omega
        subst this
        exact hinj _ _ _ _ _ _ _ hm hm'
      | none =>
        rw [rhoN_some hm, rhoN_none hm'] at hpq
        injection hpq with z1 z2
        injection z2 with z2 z3
        have := key _ _ _ _ hq hm' z1.symm
        omega
    | none =>
      cases hm' : nw f' i' c' with
      | some m' =>
        rw [rhoN_none hm, rhoN_some hm'] at hpq
        injection hpq with z1 z2
        injection z2 with z2 z3
        have := key _ _ _ _ hp hm z1
        omega
      | none =>
        rw [rhoN_none hm, rhoN_none hm'] at hpq
        exact hpq
end ADOPT
