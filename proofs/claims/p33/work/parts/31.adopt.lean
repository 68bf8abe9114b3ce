/-! A NEW MEMBER of a family, out of raw cells -/
def nwF (fam i0 sz : Nat) (pm : Nat → Nat) : NW := fun f i c => if f = fam ∧ i = i0 ∧ c < sz then some (pm c) else none
def bmp (E : EE) (f : Nat) (l : List RC) : EE :=
  (if f = 0 then E.1 + 1 else E.1, if f = 1 then E.2.1 + 1 else E.2.1, if f = 3 then E.2.2.1 + 1 else E.2.2.1, E.2.2.2.1, if f = 5 then E.2.2.2.2.1 + 1 else E.2.2.2.2.1, E.2.2.2.2.2.1, E.2.2.2.2.2.2.1, if f = 9 then E.2.2.2.2.2.2.2.1 + 1 else E.2.2.2.2.2.2.2.1, if f = 6 then E.2.2.2.2.2.2.2.2.1 + 1 else E.2.2.2.2.2.2.2.2.1, l)
def fams (f : Nat) : Bool := f == 0 || f == 1 || f == 3 || f == 5 || f == 6 || f == 9
theorem nwF_s {fam i0 sz : Nat} {pm : Nat → Nat} {c : Nat} (h : c < sz) : nwF fam i0 sz pm fam i0 c = some (pm c) := by simp [nwF, h]
theorem nwF_f {fam i0 sz : Nat} {pm : Nat → Nat} {f i c : Nat} (h : f ≠ fam) : nwF fam i0 sz pm f i c = none := by simp [nwF, h]
theorem nwF_i {fam i0 sz : Nat} {pm : Nat → Nat} {f i c : Nat} (h : i ≠ i0) : nwF fam i0 sz pm f i c = none := by simp [nwF, h]
theorem nwF_c {fam i0 sz : Nat} {pm : Nat → Nat} {f i c : Nat} (h : ¬ c < sz) : nwF fam i0 sz pm f i c = none := by simp only [nwF, h, and_false, if_false]
/-- nothing names the member that is to come -/
def DGF (E : EE) (κ : K) (fam i0 : Nat) : Prop := (∀ f i c k co : Nat, liveC E f i c = true → f ≠ 8 → fsp (kd f c) k = (2, fam, co) → kP κ f i c k ≠ some i0) ∧ ∀ i c k : Nat, liveC E 4 i c = true → kd 4 c = 24 → c - 4 = fam → kP κ 4 i c k ≠ some i0
section BMP
variable {l0 : Launch} {X : MX} {B : BX (EE × K)} {g : GP} {cc : ByteArray} {own : String} {F L : Nat} {E E0 : EE} {κ : K} {pc : Nat} {lv : List (Nat × AV)} {st0 : List AV} {fam i0 sz : Nat} {pm : Nat → Nat} {l cells : List RC}
theorem cnt4_bmp {f c : Nat} : cnt4 (bmp E f l) c = cnt4 E c := rfl
theorem eR_bmp {f : Nat} : eR (bmp E f l) = l := rfl
theorem cntE_bmp_s (h : fams fam = true) : cntE (bmp E fam l) fam = cntE E fam + 1 := by
  simp only [fams, Bool.or_eq_true, beq_iff_eq] at h
  rcases h with ((((h | h) | h) | h) | h) | h <;> subst h <;> rfl
theorem cntE_bmp_n {f : Nat} (h8 : f ≠ 8) (h : f ≠ fam) : cntE (bmp E fam l) f = cntE E f := by
  unfold cntE bmp
  split <;> first | rfl | exact absurd rfl h8 | exact if_neg (Ne.symm h)
theorem live_bmp_n {f i c : Nat} (h8 : f ≠ 8) (h : f ≠ fam ∨ i < cntE E f) (hf : fams fam = true) : liveC (bmp E fam l) f i c = liveC E f i c := by
  by_cases hfe : f = fam
  · subst hfe
    have hi : i < cntE E f := h.resolve_left (fun z => z rfl)
    unfold liveC
    rw [cntE_bmp_s hf, decide_eq_true hi, decide_eq_true (Nat.lt_succ_of_lt hi)]
    rfl
  · unfold liveC
    rw [cntE_bmp_n h8 hfe]
    rfl
theorem PC_bmp {k f i c : Nat} (h8 : f ≠ 8) (h : PC k E f i c) (hf : fams fam = true) : PC k (bmp E fam l) f i c := by
  refine ⟨?_, h.2⟩
  by_cases hfe : f = fam
  · subst hfe; rw [cntE_bmp_s hf]; exact Nat.lt_succ_of_lt h.1
  · rw [cntE_bmp_n h8 hfe]; exact h.1
theorem KPok.bmp (h : KPok B E) (hf : fams fam = true) (hl : (eR E).length ≤ l.length) : KPok B (bmp E fam l) := by
  intro ad ad' h1 h2
  refine h ad ad' h1 fun f i c hl' hk => h2 f i c ?_ hk
  by_cases h8 : f = 8
  · subst h8
    unfold liveC at hl' ⊢
    simp only [Bool.and_eq_true, Bool.or_eq_true, decide_eq_true_eq] at hl' ⊢
    exact ⟨⟨Nat.lt_of_lt_of_le hl'.1.1 hl, hl'.1.2⟩, hl'.2⟩
  · rw [live_bmp_n h8 ?_ hf]
    · exact hl'
    · exact Or.inr (live_kd hl').1
/-- the member i0 of the family is there, its parts the cells -/
theorem J_bmp (O : CK l0 X B g cc own F L) (hKP : KPok B E0) (hf : fams fam = true) (hi0 : cntE E fam = i0) (hsz : sz = cmpN fam) (hE0 : ∀ i, i < cntE E0 fam → i < i0) (hpm : ∀ c, c < sz → ∀ c', c' < sz → pm c = pm c' → c = c') (hE : eR E = l ++ cells)
    (hcells : ∀ c, c < sz → kd fam c < 90 → ∃ r, cells[pm c]? = some r ∧ cOK (nwF fam i0 sz pm) l.length fam i0 c r) (hraw : ∀ r ∈ l, rcF (nwF fam i0 sz pm) l.length r) (hDG : DGF E κ fam i0)
    {lv' : List (Nat × AV)} {st' : List AV} (hl : lv = lv'.map fun q => (q.1, rnA (rhoN (nwF fam i0 sz pm) l.length) q.2)) (hs : st0 = st'.map (rnA (rhoN (nwF fam i0 sz pm) l.length))) (kk : J X B (bmp E fam l, adK κ (nwF fam i0 sz pm) cells) pc lv' st') : J X B (E, κ) pc lv st0 := by
  have hn : fam ≠ 7 ∧ fam ≠ 8 ∧ fam ≠ 2 := by
    simp only [fams, Bool.or_eq_true, beq_iff_eq] at hf
    omega
  have hnew : ∀ i c, liveC (bmp E fam l) fam i c = true → nwF fam i0 sz pm fam i c = none → i < i0 := by
    intro i c h1 h2
    obtain ⟨a1, a2, a3⟩ := live_kd h1
    rw [cntE_bmp_s hf, hi0] at a1
    by_cases hi : i = i0
    · subst hi
      rw [nwF_s (by rw [hsz]; exact a2)] at h2
      cases h2
    · omega
  have hold : ∀ f i c, liveC (bmp E fam l) f i c = true → nwF fam i0 sz pm f i c = none → f ≠ 8 → liveC E f i c = true := by
    intro f i c h1 h2 h8
    rw [← live_bmp_n h8 ?_ hf]
    · exact h1
    · by_cases hfe : f = fam
      · subst hfe
        exact Or.inr (by rw [hi0]; exact hnew i c h1 h2)
      · exact Or.inl hfe
  refine J_adopt (E' := bmp E fam l) O hKP (nwF fam i0 sz pm) cells (fun f i c h1 _ => ?_) hE hold (fun f i c m h1 h2 => ?_) (fun f i c f' i' c' m h1 h2 => ?_) (fun i c => ⟨nwF_f (Ne.symm hn.1), nwF_f (Ne.symm hn.2.1)⟩) hraw ?_ hl hs kk
  · by_cases hfe : f = fam
    · subst hfe
      exact nwF_i (Nat.ne_of_lt (hE0 i (live_kd h1).1))
    · exact nwF_f hfe
  · unfold nwF at h2
    split at h2
    · rename_i hz
      obtain ⟨rfl, rfl, hc⟩ := hz
      cases h2
      exact hcells c hc (live_kd h1).2.2
    · cases h2
  · unfold nwF at h1 h2
    split at h1
    · split at h2
      · rename_i z1 z2
        cases h1
        have := hpm c' z2.2.2 c z1.2.2 (by injection h2)
        rw [z1.1, z1.2.1, z2.1, z2.2.1, this]
      · cases h2
    · cases h1
  · intro f i c h1 h2 h8
    have h3 := hold f i c h1 h2 h8
    have own : ∀ c2, nwF fam i0 sz pm f i c2 = none := by
      intro c2
      by_cases hfe : f = fam
      · subst hfe
        exact nwF_i (Nat.ne_of_lt (hnew i c h1 h2))
      · exact nwF_f hfe
    refine ⟨fun k => ⟨fun d z _ => own _, fun fa co hz j hj => ?_, fun _ _ _ _ _ => own _⟩, fun h24 k q hq => ?_, fun _ j _ => nwF_f (Ne.symm hn.2.2)⟩
    · by_cases hfa : fa = fam
      · subst hfa
        exact nwF_i fun z => hDG.1 f i c k co h3 h8 hz (by rw [hj, z])
      · exact nwF_f hfa
    · obtain ⟨h4, -⟩ := kd_24 h24
      subst h4
      by_cases hfa : c - 4 = fam
      · rw [hfa]
        exact nwF_i fun z => hDG.2 i c k h3 h24 hfa (by rw [hq, z])
      · exact nwF_f hfa
end BMP
