/-- an int array by its place: length and content -/
def kA (E : EE) (κ : K) (p : Pl) : Option (Nat × (Nat → Int32)) :=
  if p = (7, 0, 0) then kT κ
  else if p.1 = 8 then (if p.2.2 = 0 then (match (eR E)[p.2.1]? with
    | some (.inr (0, n, .inl a)) => some (n, a)
    | _ => none) else none)
  else if liveC E p.1 p.2.1 p.2.2 = true then (if kd p.1 p.2.2 = 20 then some (sl p.1 p.2.2, kV κ p.1 p.2.1 p.2.2) else if kd p.1 p.2.2 = 21 then some (kN κ p.1 p.2.1 p.2.2, kV κ p.1 p.2.1 p.2.2) else none) else none
theorem ct_A {ca : Nat → ClassId} {e0 : Nat} {E : EE} {κ : K} {p : Pl} {n : Nat} {a : Nat → Int32} (h : kA E κ p = some (n, a)) (ad : Pl → Nat) : ctC ca e0 ad (E, κ) p = some (.inl (ca 0, n, .inl a)) := by
  obtain ⟨f, i, c⟩ := p
  unfold kA at h
  split at h
  · rename_i h7
    rw [h7]
    exact ct_tmp h ad
  · split at h
    · rename_i h8
      have h8' : f = 8 := h8
      subst h8'
      split at h
      · rename_i hc
        have hc' : c = 0 := hc
        subst hc'
        split at h
        · rename_i n' a' hr
          cases h
          exact ct_8 hr
        · cases h
      · cases h
    · split at h
      · rename_i hl
        split at h
        · rename_i h20
          cases h
          exact ct_20 hl h20 ad
        · split at h
          · rename_i h21
            cases h
            exact ct_21 hl h21 ad
          · cases h
      · cases h
