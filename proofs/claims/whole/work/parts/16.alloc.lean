/-! ROWS that make or copy -/
section ALLOC
variable {l0 : Launch} {X : MX} {B : BX (EE × K)} {g : GP} {cc : ByteArray} {own : String} {F L : Nat} {E : EE} {κ : K} {pc : Nat} {lv : List (Nat × AV)} {rest : List AV}
/-- the temporary array's place is no other -/
theorem ctC_setT {ca : Nat → ClassId} {e0 : Nat} {ad : Pl → Nat} {t : Option (Nat × (Nat → Int32))} {p : Pl} (h : p ≠ (7, 0, 0)) : ctC ca e0 ad (E, setT κ t) p = ctC ca e0 ad (E, κ) p := by
  obtain ⟨f, i, c⟩ := p
  unfold ctC
  by_cases h7 : f = 7
  · subst h7
    have : ¬ (i = 0 ∧ c = 0) := by rintro ⟨rfl, rfl⟩; exact h rfl
    simp [this]
  · simp only [if_neg h7]
    rfl
theorem ctC_7 {ca : Nat → ClassId} {e0 : Nat} {ad : Pl → Nat} {p : Pl} {e : va_E} (h : ctC ca e0 ad (E, κ) p = some e) (hp : p ≠ (7, 0, 0)) : liveC E p.1 p.2.1 p.2.2 = true := by
  obtain ⟨f, i, c⟩ := p
  unfold ctC at h
  by_cases h7 : f = 7
  · subst h7
    have : ¬ (i = 0 ∧ c = 0) := by rintro ⟨rfl, rfl⟩; exact hp rfl
    simp [this] at h
  · simp only [if_neg h7] at h
    split at h
    · assumption
    · cases h
/-- content depends on the map of addresses only at places that are not rows -/
theorem ctC_ad {ca : Nat → ClassId} {e0 : Nat} {ad ad' : Pl → Nat} (hE : E.1 = E.1) (p : Pl) (h : ∀ q : Pl, q ≠ (7, 0, 0) → ad' q = ad q) : ctC ca e0 ad' (E, κ) p = ctC ca e0 ad (E, κ) p := by
  obtain ⟨f, i, c⟩ := p
  have he : ∀ v : AV, v ≠ .inr (some (7, 0, 0)) → emb ad' v = emb ad v := by
    intro v hv
    match v with
    | .inl _ => rfl
    | .inr none => rfl
    | .inr (some q) => exact congrArg Value.ref (h q (fun z => hv (by rw [z])))
  unfold ctC
  by_cases h7 : f = 7
  · simp [h7]
  · simp only [if_neg h7]
    by_cases hl : liveC E f i c = true
    · simp only [if_pos hl]
      have hk : ∀ (v : Int32) (o : Option Nat) (sp : Nat × Nat × Nat), sp.2.1 ≠ 7 ∨ sp.1 ≠ 2 → emb ad' (avf E e0 f i c v o sp) = emb ad (avf E e0 f i c v o sp) := by
        intro v o sp hsp
        refine he _ ?_
        obtain ⟨t, a, b⟩ := sp
        match t, hsp with
        | 0, _ => simp [avf]
        | 1, _ =>
          intro z
          simp only [avf] at z
          injection z with z
          injection z with z
          exact h7 (by injection z)
        | 2, hsp =>
          cases o with
          | none => simp [avf]
          | some j =>
            intro z
            simp only [avf, Option.map_some] at z
            injection z with z
            injection z with z
            rcases hsp with hsp | hsp
            · exact hsp (by injection z)
            · exact hsp rfl
        | 3, _ =>
          simp only [avf]
          split
          · intro z; cases z
          · intro z
            injection z with z
            injection z with z
            exact h7 (by injection z)
        | t + 4, _ => simp [avf]
      have hfs : ∀ kd0 k : Nat, (fsp kd0 k).2.1 ≠ 7 ∨ (fsp kd0 k).1 ≠ 2 := by
        intro kd0 k
        unfold fsp
        split <;> first | exact Or.inr (by decide) | exact Or.inl (by decide)
      congr 1
      unfold cellE
      split
      · congr 2
        exact List.map_congr_left fun k _ => hk _ _ _ (hfs _ _)
      · split
        · rfl
        · split
          · rfl
          · split
            · rfl
            · split
              · rename_i h24
                have h4 : f = 4 := by
                  unfold kd at h24
                  split at h24 <;> first | rfl | (exfalso; revert h24; decide)
                subst h4
                have h5 : c - 4 ≠ 7 := by
                  unfold kd at h24
                  split at h24 <;> first | (exfalso; revert h24; decide) | decide
                congr 1
                congr 1
                congr 1
                congr 1
                congr 1
                congr 1
                congr 1
                funext j
                split
                · rw [h _ (fun z => h5 (by injection z))]
                · rfl
              · congr 1
                congr 1
                congr 1
                congr 1
                congr 1
                congr 1
                congr 1
                funext j
                split
                · rw [h _ (fun z => by injection z with z; revert z; decide)]
                · rfl
    · simp only [if_neg hl]
end ALLOC
