/-! RAW CELLS: objects and arrays that are being made, till they are a member's parts -/
def upR (E : EE) (l : List RC) : EE := (E.1, E.2.1, E.2.2.1, E.2.2.2.1, E.2.2.2.2.1, E.2.2.2.2.2.1, E.2.2.2.2.2.2.1, E.2.2.2.2.2.2.2.1, E.2.2.2.2.2.2.2.2.1, l)
section RAW
variable {l0 : Launch} {X : MX} {B : BX (EE × K)} {g : GP} {cc : ByteArray} {own : String} {F L : Nat} {E : EE} {κ : K} {pc : Nat} {lv : List (Nat × AV)} {rest : List AV} {ca : Nat → ClassId} {e0 : Nat} {ad ad' : Pl → Nat} {l : List RC} {f i c : Nat}
theorem cntE_upR (h : f ≠ 8) : cntE (upR E l) f = cntE E f := by
  unfold cntE
  split <;> first | rfl | exact absurd rfl h
theorem liveC_upR (h : f ≠ 8) : liveC (upR E l) f i c = liveC E f i c := by
  unfold liveC
  rw [cntE_upR h]
  rfl
theorem kd_30 (h : kd f c = 30) : f = 8 := by
  unfold kd at h
  split at h <;> first | rfl | (exfalso; revert h; decide)
theorem cellE_upR (h : f ≠ 8) {v : Nat → Int32} {n : Nat} {o : Nat → Option Nat} : cellE ca e0 ad (upR E l) f i c v n o = cellE ca e0 ad E f i c v n o := by
  unfold cellE
  split
  · rfl
  · split
    · rfl
    · split
      · rfl
      · split
        · rfl
        · split
          · rfl
          · split
            · rfl
            · split
              · rename_i h30
                exact absurd (kd_30 h30) h
              · rfl
theorem ctC_upR {p : Pl} (h : p.1 ≠ 8) : ctC ca e0 ad (upR E l, κ) p = ctC ca e0 ad (E, κ) p := by
  obtain ⟨f, i, c⟩ := p
  have h' : f ≠ 8 := h
  unfold ctC
  dsimp only
  rw [liveC_upR h', cellE_upR h']
theorem live_8 {j : Nat} (h : j < (eR E).length) : liveC E 8 j 0 = true := by
  unfold liveC
  simp only [Bool.and_eq_true, Bool.or_eq_true, decide_eq_true_eq]
  exact ⟨⟨h, by decide, by decide⟩, Or.inl (Or.inl (by decide))⟩
theorem st_8 {j : Nat} (h : j < (eR E).length) : Stab E (.inr (some (8, j, 0))) := ⟨live_8 h, by show kd 8 0 ≠ 21; decide⟩
theorem ct_8 {j : Nat} {r : RC} (h : (eR E)[j]? = some r) : ctC ca e0 ad (E, κ) (8, j, 0) = some (rcE ca e0 ad r) := by
  have hl : j < (eR E).length := (List.getElem?_eq_some_iff.mp h).1
  rw [ctC_live (live_8 hl)]
  unfold cellE
  rw [show kd 8 0 = 30 from rfl]
  simp [List.getD_eq_getElem?_getD, h]
theorem ct_8' {j : Nat} {e : va_E} (h : ctC ca e0 ad (E, κ) (8, j, c) = some e) : c = 0 ∧ ∃ r, (eR E)[j]? = some r ∧ e = rcE ca e0 ad r := by
  have hl : liveC E 8 j c = true := ctC_7 h (by intro z; injection z with z; revert z; decide)
  have h2 := hl
  unfold liveC at h2
  simp only [Bool.and_eq_true, Bool.or_eq_true, decide_eq_true_eq] at h2
  have hc : c = 0 := by
    have h3 : c < 1 := h2.1.2.1
    omega
  subst hc
  have hj : j < (eR E).length := h2.1.1
  refine ⟨rfl, (eR E)[j], List.getElem?_eq_getElem hj, ?_⟩
  rw [ct_8 (List.getElem?_eq_getElem hj)] at h
  exact (Option.some.inj h).symm
/-- what a raw cell names stands in the first n raw cells, or elsewhere -/
def clA (n : Nat) : AV → Prop
  | .inr (some p) => p.1 = 8 → p.2.1 < n
  | _ => True
def rcOK (n : Nat) : RC → Prop
  | .inl (_, fs) => ∀ j, clA n (fs j)
  | .inr (_, _, .inr (.inr o)) => ∀ j, clA n (.inr (o j))
  | _ => True
def rawOK (E : EE) : Prop := ∀ r ∈ eR E, rcOK (eR E).length r
theorem clA_mono {n m : Nat} (h : n ≤ m) {v : AV} (hv : clA n v) : clA m v := by
  match v, hv with
  | .inl _, _ => exact trivial
  | .inr none, _ => exact trivial
  | .inr (some p), hv => exact fun h8 => Nat.lt_of_lt_of_le (hv h8) h
theorem rcOK_mono {n m : Nat} (h : n ≤ m) {r : RC} (hr : rcOK n r) : rcOK m r := by
  match r, hr with
  | .inl (_, fs), hr => exact fun j => clA_mono h (hr j)
  | .inr (_, _, .inl _), _ => exact trivial
  | .inr (_, _, .inr (.inl _)), _ => exact trivial
  | .inr (_, _, .inr (.inr o)), hr => exact fun j => clA_mono h (hr j)
theorem rawOK_push {r : RC} (h : rawOK E) (hr : rcOK ((eR E).length + 1) r) : rawOK (upR E (eR E ++ [r])) := by
  intro q hq
  have hlen : (eR (upR E (eR E ++ [r]))).length = (eR E).length + 1 := by show (eR E ++ [r]).length = _; simp
  rw [hlen]
  rcases List.mem_append.mp (show q ∈ eR E ++ [r] from hq) with h1 | h1
  · exact rcOK_mono (Nat.le_succ _) (h q h1)
  · rw [List.mem_singleton.mp h1]; exact hr
theorem rawOK_set {r : RC} {j : Nat} (h : rawOK E) (hr : rcOK (eR E).length r) : rawOK (upR E ((eR E).set j r)) := by
  intro q hq
  have hlen : (eR (upR E ((eR E).set j r))).length = (eR E).length := by show ((eR E).set j r).length = _; simp
  rw [hlen]
  rcases List.mem_or_eq_of_mem_set (show q ∈ (eR E).set j r from hq) with h1 | h1
  · exact h q h1
  · rw [h1]; exact hr
theorem rcE_cl {n : Nat} {r : RC} (hr : rcOK n r) (h : ∀ q : Pl, (q.1 = 8 → q.2.1 < n) → ad' q = ad q) : rcE ca e0 ad' r = rcE ca e0 ad r := by
  match r, hr with
  | .inl (k, fs), hr =>
    simp only [rcE]
    congr 2
    refine List.map_congr_left fun j _ => ?_
    have h1 := hr j
    revert h1
    match fs j with
    | .inl (.int _) => exact fun _ => rfl
    | .inl (.long _) => exact fun _ => rfl
    | .inl (.float _) => exact fun _ => rfl
    | .inl (.double _) => exact fun _ => rfl
    | .inl .null => exact fun _ => rfl
    | .inl (.ref _) => exact fun _ => rfl
    | .inl (.retAddr _) => exact fun _ => rfl
    | .inr none => exact fun _ => rfl
    | .inr (some p) =>
      intro h1
      simp only [san]
      by_cases hp : okP p = true
      · rw [if_pos hp]; exact congrArg Value.ref (h p h1)
      · rw [if_neg hp]; rfl
  | .inr (a, n, .inl v), _ => rfl
  | .inr (a, n, .inr (.inl v)), _ => rfl
  | .inr (a, n, .inr (.inr o)), hr =>
    simp only [rcE]
    congr 7
    funext j
    have h1 := hr j
    revert h1
    cases o j with
    | none => exact fun _ => rfl
    | some p =>
      intro h1
      dsimp only
      by_cases hp : okP p = true
      · rw [if_pos hp, if_pos hp]; exact congrArg some (h p h1)
      · rw [if_neg hp, if_neg hp]
/-- content beside the raw cells depends on no raw cell's address -/
theorem ctC_ad8 {p : Pl} (h8 : p.1 ≠ 8) (h : ∀ q : Pl, q.1 ≠ 8 → ad' q = ad q) : ctC ca e0 ad' (E, κ) p = ctC ca e0 ad (E, κ) p := by
  obtain ⟨f, i, c⟩ := p
  have h8' : f ≠ 8 := h8
  have he : ∀ v : AV, (∀ q, v = .inr (some q) → q.1 ≠ 8) → emb ad' v = emb ad v := by
    intro v hv
    match v with
    | .inl _ => rfl
    | .inr none => rfl
    | .inr (some q) => exact congrArg Value.ref (h q (hv q rfl))
  unfold ctC
  by_cases h7 : f = 7
  · simp [h7]
  · simp only [if_neg h7]
    by_cases hl : liveC E f i c = true
    · simp only [if_pos hl]
      have hk : ∀ (v : Int32) (o : Option Nat) (sp : Nat × Nat × Nat), sp.2.1 ≠ 8 ∨ sp.1 ≠ 2 → emb ad' (avf E e0 f i c v o sp) = emb ad (avf E e0 f i c v o sp) := by
        intro v o sp hsp
        refine he _ ?_
        obtain ⟨t, a, b⟩ := sp
        match t, hsp with
        | 0, _ => intro q z; cases z
        | 1, _ =>
          intro q z
          simp only [avf] at z
          injection z with z
          injection z with z
          rw [← z]; exact h8'
        | 2, hsp =>
          cases o with
          | none => intro q z; simp [avf] at z
          | some j =>
            intro q z
            simp only [avf, Option.map_some] at z
            injection z with z
            injection z with z
            rw [← z]
            rcases hsp with hsp | hsp
            · exact hsp
            · exact absurd rfl hsp
        | 3, _ =>
          intro q z
          simp only [avf] at z
          split at z
          · cases z
          · injection z with z
            injection z with z
            rw [← z]; exact h8'
        | t + 4, _ => intro q z; simp [avf] at z
      have hfs : ∀ kd0 k : Nat, (fsp kd0 k).2.1 ≠ 8 ∨ (fsp kd0 k).1 ≠ 2 := by
        intro kd0 k
        unfold fsp
        split <;> first | exact Or.inr (by decide) | exact Or.inl (by decide)
      congr 1
      unfold cellE
      split
      · congr 2
        exact List.map_congr_left fun k _ => hk _ _ _ (hfs _ _)
      · split
        · rfl
        · split
          · rfl
          · split
            · rfl
            · split
              · rfl
              · split
                · rename_i h24
                  have h5 : c - 4 ≠ 8 := by
                    unfold kd at h24
                    split at h24 <;> first | (exfalso; revert h24; decide) | decide
                  congr 7
                  funext j
                  cases kP κ f i c j with
                  | none => rfl
                  | some q => exact congrArg some (h (c - 4, q, 0) h5)
                · split
                  · rename_i h30
                    exact absurd (kd_30 h30) h8'
                  · congr 7
                    funext j
                    split
                    · rw [h _ (show (2 : Nat) ≠ 8 from by decide)]
                    · rfl
    · simp only [if_neg hl]
def adp (ad : Pl → Nat) (p : Pl) (a : Nat) : Pl → Nat := fun q => if q = p then a else ad q
theorem adp_eq {p : Pl} {a : Nat} : adp ad p a p = a := by simp [adp]
theorem adp_ne {p q : Pl} {a : Nat} (h : q ≠ p) : adp ad p a q = ad q := by simp [adp, h]
/-- a new raw cell -/
theorem Wd_push {D : va_G} {A : Nat → Prop} {H H1 : Heap} (hW : Wd D (ctC ca e0) A ad (E, κ) H) (hR : rawOK E) {r : RC} (ho : ∀ q : Nat, q < H.size → H1[q]? = H[q]?) (hA : A H.size) (he : va_at D vwCl (H.size, rcE ca e0 (adp ad (8, (eR E).length, 0) H.size) r) H1) (a b : Nat) :
    Wd D (ctC ca e0) A (adp ad (8, (eR E).length, 0) H.size) (upR E (eR E ++ [r]), addC κ a b) H1 := by
  have key : ∀ (p : Pl) (e : va_E), ctC ca e0 (adp ad (8, (eR E).length, 0) H.size) (upR E (eR E ++ [r]), addC κ a b) p = some e → (p = (8, (eR E).length, 0) ∧ e = rcE ca e0 (adp ad (8, (eR E).length, 0) H.size) r) ∨ (p ≠ (8, (eR E).length, 0) ∧ ctC ca e0 ad (E, κ) p = some e) := by
    intro p e hp
    obtain ⟨f, i, c⟩ := p
    by_cases h8 : f = 8
    · subst h8
      obtain ⟨rfl, r', h1, h2⟩ := ct_8' hp
      have h1' : (eR E ++ [r])[i]? = some r' := h1
      by_cases hlt : i < (eR E).length
      · rw [List.getElem?_append_left hlt] at h1'
        refine Or.inr ⟨fun z => by injection z with _ z; injection z with z; omega, ?_⟩
        rw [h2, ct_8 h1']
        congr 1
        exact (rcE_cl (hR r' (List.mem_of_getElem? h1')) (fun q hq => adp_ne (fun z => by rw [z] at hq; exact absurd (hq rfl) (Nat.lt_irrefl _)))).symm
      · rw [List.getElem?_append_right (by omega)] at h1'
        have hz : i - (eR E).length < 1 := (List.getElem?_eq_some_iff.mp h1').1
        have hi : i = (eR E).length := by omega
        subst hi
        rw [Nat.sub_self] at h1'
        cases h1'
        exact Or.inl ⟨rfl, h2⟩
    · refine Or.inr ⟨fun z => h8 (by injection z), ?_⟩
      rw [← hp, ctC_upR (show (f, i, c).1 ≠ 8 from h8)]
      exact (ctC_ad8 (E := E) (κ := κ) (show (f, i, c).1 ≠ 8 from h8) (fun q hq => adp_ne (fun z => hq (by rw [z])))).symm
  refine ⟨fun p e hp => ?_, fun p q e e' hp hq hpq => ?_⟩
  · rcases key p e hp with ⟨h1, h2⟩ | ⟨h1, h2⟩
    · subst h1; subst h2
      rw [adp_eq]
      exact ⟨he, hA⟩
    · rw [adp_ne h1]
      exact ⟨(hW.1 p e h2).1.kept (ho _ (hW.1 p e h2).1.lt), (hW.1 p e h2).2⟩
  · rcases key p e hp with ⟨h1, -⟩ | ⟨h1, h2⟩ <;> rcases key q e' hq with ⟨g1, -⟩ | ⟨g1, g2⟩
    · rw [h1, g1]
    · rw [h1, adp_eq, adp_ne g1] at hpq
      have := (hW.1 q e' g2).1.lt
      omega
    · rw [g1, adp_eq, adp_ne h1] at hpq
      have := (hW.1 p e h2).1.lt
      omega
    · rw [adp_ne h1, adp_ne g1] at hpq
      exact hW.2 p q e e' h2 g2 hpq
/-- a raw cell is written -/
theorem Wd_setR {D : va_G} {A : Nat → Prop} {H H1 : Heap} (hW : Wd D (ctC ca e0) A ad (E, κ) H) {j : Nat} {r0 r : RC} (h0 : (eR E)[j]? = some r0) (he : va_at D vwCl (ad (8, j, 0), rcE ca e0 ad r) H1) (oq : ∀ q : Nat, q ≠ ad (8, j, 0) → H1[q]? = H[q]?) :
    Wd D (ctC ca e0) A ad (upR E ((eR E).set j r), κ) H1 := by
  have hj : j < (eR E).length := (List.getElem?_eq_some_iff.mp h0).1
  have h1 : (eR (upR E ((eR E).set j r)))[j]? = some r := by show ((eR E).set j r)[j]? = _; simp [hj]
  refine Wd.set (p0 := (8, j, 0)) hW (ct_8 h0) (ct_8 h1) (fun p hp => ?_) he oq
  obtain ⟨f, i, c⟩ := p
  by_cases h8 : f = 8
  · subst h8
    by_cases hc : c = 0
    · subst hc
      have hij : i ≠ j := fun z => hp (by rw [z])
      have h2 : (eR (upR E ((eR E).set j r)))[i]? = (eR E)[i]? := by show ((eR E).set j r)[i]? = _; rw [List.getElem?_set_ne (Ne.symm hij)]
      cases h3 : (eR E)[i]? with
      | some r' => rw [ct_8 h3, ct_8 (h2.trans h3)]
      | none =>
        have a1 : ctC ca e0 ad (upR E ((eR E).set j r), κ) (8, i, 0) = none := by
          cases h4 : ctC ca e0 ad (upR E ((eR E).set j r), κ) (8, i, 0) with
          | none => rfl
          | some e => obtain ⟨-, r', h5, -⟩ := ct_8' h4; rw [h2, h3] at h5; cases h5
        have a2 : ctC ca e0 ad (E, κ) (8, i, 0) = none := by
          cases h4 : ctC ca e0 ad (E, κ) (8, i, 0) with
          | none => rfl
          | some e => obtain ⟨-, r', h5, -⟩ := ct_8' h4; rw [h3] at h5; cases h5
        rw [a1, a2]
    · have a1 : ∀ E' : EE, ctC ca e0 ad (E', κ) (8, i, c) = none := by
        intro E'
        cases h4 : ctC ca e0 ad (E', κ) (8, i, c) with
        | none => rfl
        | some e => exact absurd (ct_8' h4).1 hc
      rw [a1, a1]
  · exact ctC_upR (show (f, i, c).1 ≠ 8 from h8)
theorem Keep_adp {a : Nat} : Keep E ad (adp ad (8, (eR E).length, 0) a) := by
  intro f i c hl _
  refine adp_ne fun z => ?_
  injection z with z1 z2
  injection z2 with z2 z3
  subst z1; subst z2; subst z3
  unfold liveC at hl
  simp only [Bool.and_eq_true, decide_eq_true_eq] at hl
  exact absurd hl.1.1 (Nat.lt_irrefl _)
theorem KPok.up (h : KPok B E) (hs : ∀ j, j < (eR E).length → j < l.length) : KPok B (upR E l) := by
  intro ad ad' h1 h2
  refine h ad ad' h1 fun f i c hl hk => h2 f i c ?_ hk
  by_cases h8 : f = 8
  · subst h8
    unfold liveC at hl ⊢
    simp only [Bool.and_eq_true, Bool.or_eq_true, decide_eq_true_eq] at hl ⊢
    exact ⟨⟨hs i hl.1.1, hl.1.2⟩, hl.2⟩
  · rw [liveC_upR h8]; exact hl
theorem PC_up {k : Nat} (h8 : f ≠ 8) (h : PC k E f i c) : PC k (upR E l) f i c := ⟨by rw [cntE_upR h8]; exact h.1, h.2⟩
end RAW
