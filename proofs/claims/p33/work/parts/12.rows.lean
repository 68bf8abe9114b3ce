/-! ROWS over the store: fields, arrays -/
def CO (X : MX) (B : BX (EE × K)) (ca : Nat → ClassId) (e0 : Nat) (cc : ByteArray) (own : String) : Prop := (B.2.2.2.2.2.2.2.2 X → MO X B ca cc own) ∧ B.2.1 = ctC ca e0 ∧ B.2.2.2.2.1 = (fun x => kC x.2)
theorem va_P1 {D : va_G} {cl : List vw_C} {q : Nat × va_E} {H : Heap} (h : va_at D cl q H) : va_P D cl [q] H := by
  intro k q' hk
  have hz : k < 1 := (List.getElem?_eq_some_iff.mp hk).1
  rw [show k = 0 by omega] at hk
  cases hk
  exact h
/-- the content at a place, in the heap -/
theorem Wd.at {D : va_G} {ca : Nat → ClassId} {e0 : Nat} {A : Nat → Prop} {ad : Pl → Nat} {E : EE} {κ : K} {H : Heap} {ct : CtF (EE × K)} (hct : ct = ctC ca e0) (h : Wd D ct A ad (E, κ) H) {p : Pl} {e : va_E} (he : ctC ca e0 ad (E, κ) p = some e) : va_at D vwCl (ad p, e) H ∧ A (ad p) := h.1 p e (by rw [hct]; exact he)
section CROWS
variable {X : MX} {B : BX (EE × K)} {ca : Nat → ClassId} {e0 : Nat} {cc : ByteArray} {own : String} {E : EE} {κ : K} {pc : Nat} {lv : List (Nat × AV)} {rest : List AV} {f i c : Nat}
theorem J_getF (O : CO X B ca e0 cc own) {kd0 : Nat} (hkd : kd f c = kd0) (hl : liveC E f i c = true) {C : String} {T : u_T} {N : Nat} (hc : vwCl[kd0]? = some (C, T, N)) (h12 : kd0 < 12) (hN : nfl kd0 = N) (hin : ∀ w ∈ u_ws C T N, w ∈ gwl) {index : Nat} (k : Nat) (hk : k < N) {v : AV} (hv : avf E e0 f i c (kV κ f i c k) (kP κ f i c k) (fsp kd0 k) = v) {rf nm ds : String} (hlink : Cond.fieldLink own index rf nm ds ∈ gwl) (hT : T k = (rf, nm, ds, (T k).2.2.2)) (hd : decode cc pc = .ok (.getfield index, 3)) (kk : J X B (E, κ) (pc + 3) lv (v :: rest)) : J X B (E, κ) pc lv (.inr (some (f, i, c)) :: rest) := by
  obtain ⟨OO, hB, hCst⟩ := O
  obtain ⟨p, l, e, R, s, m, args, below, meth, c0, Q⟩ := X
  refine ⟨kk.1, fun fx ad H locs ls cells slots h1 h2 h3 h4 h5 => ?_⟩
  have O1 := OO fx
  have h6 := (h1.1.at hB (ctC_live hl)).1
  rw [cell_obj (by rw [hkd]; exact h12), hkd, hN] at h6
  have e1 : (T k).1 = rf := by rw [hT]
  have e2 : (T k).2.1 = nm := by rw [hT]
  have e3 : (T k).2.2.1 = ds := by rw [hT]
  exact va_get (T := T) O1.1 O1.2.1 O1.2.2.2.2.1 hin O1.2.2.2.1 O1.2.2.2.2.2.1 (va_P1 h6) 0 rfl hc k hk (ref := rf) (by rw [e2, e3]; exact O1.2.2.2.2.1 _ hlink) (by rw [← e1]; exact fun _ h => h) (v := emb ad v) (by rw [fld_at hk, hv]) hd (kk.2 fx ad H locs ls cells slots h1 h2 h3 h4 h5)
theorem J_putI (O : CO X B ca e0 cc own) {kd0 : Nat} (hkd : kd f c = kd0) (hl : liveC E f i c = true) {C : String} {T : u_T} {N : Nat} (hc : vwCl[kd0]? = some (C, T, N)) (h12 : kd0 < 12) (hN : nfl kd0 = N) (hin : ∀ w ∈ u_ws C T N, w ∈ gwl) (ty0 : Nat → FieldType) (hty : ∀ k, k < N → parseFieldDescriptor (T k).2.2.1 = some (ty0 k)) (hnm : ∀ a, a < N → ∀ b, b < N → a ≠ b → (T a).2.1 ≠ (T b).2.1) {index : Nat} (k : Nat) (hk : k < N) (hsp : fsp kd0 k = (0, 0, 0)) {rf nm ds : String} (hT : T k = (rf, nm, ds, false)) {x : Int32} (hb : ty0 k = .int ∨ (ty0 k = .boolean ∧ (x = 0 ∨ x = 1))) (hlink : Cond.fieldLink own index rf nm ds ∈ gwl) (hd : decode cc pc = .ok (.putfield index, 3)) (kk : J X B (E, setV κ f i c k x) (pc + 3) lv rest) : J X B (E, κ) pc lv (.inl (.int x) :: .inr (some (f, i, c)) :: rest) := by
  obtain ⟨OO, hB, hCst⟩ := O
  obtain ⟨p, l, e, R, s, m, args, below, meth, c0, Q⟩ := X
  have hcst : B.2.2.2.2.1 (E, setV κ f i c k x) = B.2.2.2.2.1 (E, κ) := by rw [hCst]; rfl
  refine ⟨by rw [← hcst]; exact kk.1, fun fx ad H locs ls cells slots h1 h2 h3 h4 h5 => ?_⟩
  have O1 := OO fx
  have h6 := h1.1.at hB (ctC_live hl)
  have hcell := cell_obj (ca := ca) (e0 := e0) (ad := ad) (E := E) (i := i) (by rw [hkd]; exact h12 : kd f c < 12)
  rw [hcell, hkd, hN] at h6
  have e1 : (T k).1 = rf := by rw [hT]
  have e2 : (T k).2.1 = nm := by rw [hT]
  have e3 : (T k).2.2.1 = ds := by rw [hT]
  have e4 : (T k).2.2.2 = false := by rw [hT]
  have hnf : narrow (ty0 k) (.int x) = .int x ∧ fits (ty0 k) (.int x) = true := by
    rcases hb with h | ⟨h, h' | h'⟩
    · rw [h]; exact ⟨rfl, rfl⟩
    · rw [h, h']; exact ⟨by decide, by decide⟩
    · rw [h, h']; exact ⟨by decide, by decide⟩
  refine put_one (T := T) (A := B.2.2.1) O1.1 O1.2.1 O1.2.2.2.2.1 hin ty0 hty hnm O1.2.2.2.1 O1.2.2.2.2.2.1 h6.1 h6.2 h2 hc k hk (ref := rf) (by rw [e2, e3]; exact O1.2.2.2.2.1 _ hlink) (by rw [← e1]; exact fun _ h => h) e4 (hty k hk) hnf.1 hnf.2 (by rw [fld_len]; exact hk) hd (fun H1 locs1 g1 g2 g3 => ?_)
  refine kk.2 fx ad H1 locs1 ls cells slots ⟨?_, h1.2⟩ g3 h3 (by rw [hcst]; exact h4) (by rw [hcst]; exact h5)
  refine Wd.set (p0 := (f, i, c)) h1.1 (by rw [hB]; exact ctC_live hl) (by rw [hB]; exact ctC_live hl) (fun q hq => by rw [hB]; exact ctC_setV hq) ?_ g2
  rw [hcell, hkd, hN, range_map_set (k := k) N _ _ (.int x) ?_ (fun j hj => ?_)]
  · exact g1
  · rw [hsp, setV_eq]; simp [avf, emb, upd]
  · rw [setV_eq]; simp [upd, hj]; rfl
theorem J_putP (O : CO X B ca e0 cc own) {kd0 : Nat} (hkd : kd f c = kd0) (hl : liveC E f i c = true) {C : String} {T : u_T} {N : Nat} (hc : vwCl[kd0]? = some (C, T, N)) (h12 : kd0 < 12) (hN : nfl kd0 = N) (hin : ∀ w ∈ u_ws C T N, w ∈ gwl) (ty0 : Nat → FieldType) (hty : ∀ k, k < N → parseFieldDescriptor (T k).2.2.1 = some (ty0 k)) (hnm : ∀ a, a < N → ∀ b, b < N → a ≠ b → (T a).2.1 ≠ (T b).2.1) {index : Nat} (k : Nat) (hk : k < N) {fa co : Nat} (hsp : fsp kd0 k = (2, fa, co)) {rf nm ds : String} (hT : T k = (rf, nm, ds, false)) {o : Option Nat} {v : AV} (hv : (.inr (o.map fun j => (fa, j, co)) : AV) = v) {Cn : String} (hb : ty0 k = .object Cn) (hlink : Cond.fieldLink own index rf nm ds ∈ gwl) (hd : decode cc pc = .ok (.putfield index, 3)) (kk : J X B (E, setP κ f i c k o) (pc + 3) lv rest) : J X B (E, κ) pc lv (v :: .inr (some (f, i, c)) :: rest) := by
  obtain ⟨OO, hB, hCst⟩ := O
  obtain ⟨p, l, e, R, s, m, args, below, meth, c0, Q⟩ := X
  have hcst : B.2.2.2.2.1 (E, setP κ f i c k o) = B.2.2.2.2.1 (E, κ) := by rw [hCst]; rfl
  refine ⟨by rw [← hcst]; exact kk.1, fun fx ad H locs ls cells slots h1 h2 h3 h4 h5 => ?_⟩
  have O1 := OO fx
  have h6 := h1.1.at hB (ctC_live hl)
  have hcell := cell_obj (ca := ca) (e0 := e0) (ad := ad) (E := E) (i := i) (by rw [hkd]; exact h12 : kd f c < 12)
  rw [hcell, hkd, hN] at h6
  have e1 : (T k).1 = rf := by rw [hT]
  have e2 : (T k).2.1 = nm := by rw [hT]
  have e3 : (T k).2.2.1 = ds := by rw [hT]
  have e4 : (T k).2.2.2 = false := by rw [hT]
  have hnf : narrow (ty0 k) (emb ad v) = emb ad v ∧ fits (ty0 k) (emb ad v) = true := by
    rw [hb, ← hv]
    cases o <;> exact ⟨rfl, rfl⟩
  refine put_one (T := T) (A := B.2.2.1) O1.1 O1.2.1 O1.2.2.2.2.1 hin ty0 hty hnm O1.2.2.2.1 O1.2.2.2.2.2.1 h6.1 h6.2 h2 hc k hk (ref := rf) (by rw [e2, e3]; exact O1.2.2.2.2.1 _ hlink) (by rw [← e1]; exact fun _ h => h) e4 (hty k hk) hnf.1 hnf.2 (by rw [fld_len]; exact hk) hd (fun H1 locs1 g1 g2 g3 => ?_)
  refine kk.2 fx ad H1 locs1 ls cells slots ⟨?_, h1.2⟩ g3 h3 (by rw [hcst]; exact h4) (by rw [hcst]; exact h5)
  refine Wd.set (p0 := (f, i, c)) h1.1 (by rw [hB]; exact ctC_live hl) (by rw [hB]; exact ctC_live hl) (fun q hq => by rw [hB]; exact ctC_setP hq) ?_ g2
  rw [hcell, hkd, hN, range_map_set (k := k) N _ _ (emb ad v) ?_ (fun j hj => ?_)]
  · exact g1
  · rw [hsp, ← hv]; simp [avf, kP, setP]
  · have e5 : kP (setP κ f i c k o) f i c j = kP κ f i c j := by simp [kP, setP, hj]
    rw [e5]; rfl
/-! arrays: what they are is told by an equation -/
theorem ct_20 (hl : liveC E f i c = true) (hk : kd f c = 20) (ad : Pl → Nat) : ctC ca e0 ad (E, κ) (f, i, c) = some (.inl (ca 0, sl f c, .inl (kV κ f i c))) := by
  rw [ctC_live hl]; unfold cellE; simp [hk]
theorem ct_21 (hl : liveC E f i c = true) (hk : kd f c = 21) (ad : Pl → Nat) : ctC ca e0 ad (E, κ) (f, i, c) = some (.inl (ca 0, kN κ f i c, .inl (kV κ f i c))) := by
  rw [ctC_live hl]; unfold cellE; simp [hk]
theorem ct_22 (hl : liveC E f i c = true) (hk : kd f c = 22) (ad : Pl → Nat) : ctC ca e0 ad (E, κ) (f, i, c) = some (.inl (ca 1, sl f c, .inl (kV κ f i c))) := by
  rw [ctC_live hl]; unfold cellE; simp [hk]
theorem ct_25 (hl : liveC E f i c = true) (hk : kd f c = 25) (ad : Pl → Nat) : ctC ca e0 ad (E, κ) (f, i, c) = some (.inl (ca 4, 2, .inr (.inr (.inr (.inr fun j => if j < 2 then some (ad (2, j, 0)) else none))))) := by
  rw [ctC_live hl]; unfold cellE; simp [hk]
theorem ct_tmp {n : Nat} {g : Nat → Int32} (ht : kT κ = some (n, g)) (ad : Pl → Nat) : ctC ca e0 ad (E, κ) (7, 0, 0) = some (.inl (ca 0, n, .inl g)) := by
  unfold ctC; simp [ht]
theorem J_iald (O : CO X B ca e0 cc own) {p : Pl} {n : Nat} {g : Nat → Int32} (hct : ∀ ad, ctC ca e0 ad (E, κ) p = some (.inl (ca 0, n, .inl g))) {j : Int32} (hj : vp_in j n) (hd : decode cc pc = .ok (.iaload, 1)) (kk : J X B (E, κ) (pc + 1) lv (.inl (.int (g j.toNatClampNeg)) :: rest)) : J X B (E, κ) pc lv (.inl (.int j) :: .inr (some p) :: rest) := by
  obtain ⟨OO, hB, hCst⟩ := O
  obtain ⟨p0, l, e, R, s, m, args, below, meth, c0, Q⟩ := X
  refine ⟨kk.1, fun fx ad H locs ls cells slots h1 h2 h3 h4 h5 => ?_⟩
  have O1 := OO fx
  exact va_iald O1.1 O1.2.1 O1.2.2.2.2.2.1 (va_P1 (h1.1.at hB (hct ad)).1) 0 0 rfl rfl hj hd (kk.2 fx ad H locs ls cells slots h1 h2 h3 h4 h5)
theorem J_alen (O : CO X B ca e0 cc own) {p : Pl} {n : Nat} {g : Nat → Int32} (hct : ∀ ad, ctC ca e0 ad (E, κ) p = some (.inl (ca 0, n, .inl g))) (hd : decode cc pc = .ok (.arraylength, 1)) (kk : J X B (E, κ) (pc + 1) lv (.inl (.int (nI n)) :: rest)) : J X B (E, κ) pc lv (.inr (some p) :: rest) := by
  obtain ⟨OO, hB, hCst⟩ := O
  obtain ⟨p0, l, e, R, s, m, args, below, meth, c0, Q⟩ := X
  refine ⟨kk.1, fun fx ad H locs ls cells slots h1 h2 h3 h4 h5 => ?_⟩
  have O1 := OO fx
  exact va_alen O1.1 O1.2.1 O1.2.2.2.2.2.1 (va_P1 (h1.1.at hB (hct ad)).1) 0 0 rfl rfl rfl hd (kk.2 fx ad H locs ls cells slots h1 h2 h3 h4 h5)
theorem J_alenH (O : CO X B ca e0 cc own) {p : Pl} {n : Nat} {g : Nat → Option Nat} (hct : ∀ ad, ∃ g : Nat → Option Nat, ctC ca e0 ad (E, κ) p = some (.inl (ca 4, n, .inr (.inr (.inr (.inr g)))))) (hd : decode cc pc = .ok (.arraylength, 1)) (kk : J X B (E, κ) (pc + 1) lv (.inl (.int (nI n)) :: rest)) : J X B (E, κ) pc lv (.inr (some p) :: rest) := by
  obtain ⟨OO, hB, hCst⟩ := O
  obtain ⟨p0, l, e, R, s, m, args, below, meth, c0, Q⟩ := X
  refine ⟨kk.1, fun fx ad H locs ls cells slots h1 h2 h3 h4 h5 => ?_⟩
  have O1 := OO fx
  obtain ⟨g1, hg1⟩ := hct ad
  exact va_alen O1.1 O1.2.1 O1.2.2.2.2.2.1 (va_P1 (h1.1.at hB hg1).1) 0 4 rfl rfl rfl hd (kk.2 fx ad H locs ls cells slots h1 h2 h3 h4 h5)
/-- the array of hosts -/
theorem J_aaldH (O : CO X B ca e0 cc own) (hl : liveC E f i c = true) (hk : kd f c = 25) {j : Int32} (hj : vp_in j 2) (hd : decode cc pc = .ok (.aaload, 1)) (kk : J X B (E, κ) (pc + 1) lv (.inr (some (2, j.toNatClampNeg, 0)) :: rest)) : J X B (E, κ) pc lv (.inl (.int j) :: .inr (some (f, i, c)) :: rest) := by
  obtain ⟨OO, hB, hCst⟩ := O
  obtain ⟨p0, l, e, R, s, m, args, below, meth, c0, Q⟩ := X
  refine ⟨kk.1, fun fx ad H locs ls cells slots h1 h2 h3 h4 h5 => ?_⟩
  have O1 := OO fx
  have hlt : j.toNatClampNeg < 2 := Nat.not_le.mp fun q => hj (Or.inr q)
  refine va_aldq O1.1 O1.2.1 O1.2.2.2.2.2.1 (va_P1 (h1.1.at hB (ct_25 hl hk ad)).1) 0 4 rfl rfl hj hd ?_
  have e9 : va_rf (if j.toNatClampNeg < 2 then some (ad (2, j.toNatClampNeg, 0)) else none) = .ref (ad (2, j.toNatClampNeg, 0)) := by rw [if_pos hlt]; rfl
  rw [e9]
  exact kk.2 fx ad H locs ls cells slots h1 h2 h3 h4 h5
theorem J_iast (O : CO X B ca e0 cc own) {n : Nat} (hct : ∀ (κ : K) ad, ctC ca e0 ad (E, κ) (f, i, c) = some (.inl (ca 0, n, .inl (kV κ f i c))) ∨ kN κ f i c ≠ n) (hn : kN κ f i c = n) {j : Int32} (hj : vp_in j n) {x : Int32} (hd : decode cc pc = .ok (.iastore, 1)) (kk : J X B (E, setV κ f i c j.toNatClampNeg x) (pc + 1) lv rest) : J X B (E, κ) pc lv (.inl (.int x) :: .inl (.int j) :: .inr (some (f, i, c)) :: rest) := by
  obtain ⟨OO, hB, hCst⟩ := O
  obtain ⟨p0, l, e, R, s, m, args, below, meth, c0, Q⟩ := X
  have hcst : B.2.2.2.2.1 (E, setV κ f i c j.toNatClampNeg x) = B.2.2.2.2.1 (E, κ) := by rw [hCst]; rfl
  refine ⟨by rw [← hcst]; exact kk.1, fun fx ad H locs ls cells slots h1 h2 h3 h4 h5 => ?_⟩
  have O1 := OO fx
  have hc0 := (hct κ ad).resolve_right (fun h => h hn)
  have hc1 := (hct (setV κ f i c j.toNatClampNeg x) ad).resolve_right (fun h => h hn)
  have h6 := h1.1.at hB hc0
  refine W.iast O1.1 O1.2.1 h6.1 ((O1.2.2.2.2.2.1.2 0 _ rfl).1 n (fun q => .int (kV κ f i c q))) (fun q => by cases q) (by show ¬ (j < 0 ∨ (arrV _ _ _).slots.size ≤ _); rw [arrV_size]; exact hj) rfl rfl hd fun H1 g1 z oq => ?_
  refine kk.2 fx ad H1 _ ls cells slots ⟨?_, h1.2⟩ (h2.put z oq h6.2) h3 (by rw [hcst]; exact h4) (by rw [hcst]; exact h5)
  refine Wd.set (p0 := (f, i, c)) h1.1 (by rw [hB]; exact hc0) (by rw [hB]; exact hc1) (fun q hq => by rw [hB]; exact ctC_setV hq) ?_ oq
  show H1[ad (f, i, c)]? = some (vp_cell _ _)
  rw [g1]
  rw [vp_cell_i, vp_cell_i, arrV_store, setV_eq]
  congr 2
  funext q
  by_cases hq : q = j.toNatClampNeg
  · subst hq; simp [updV, upd]
  · simp [updV, upd, hq]
end CROWS
