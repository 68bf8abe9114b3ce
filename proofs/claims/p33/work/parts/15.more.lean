/-! MORE ROWS -/
section MORE
variable {σ : Type} {X : MX} {B : BX σ} {ca : Nat → ClassId} {cc : ByteArray} {own : String} {x : σ} {pc : Nat} {lv : List (Nat × AV)} {rest : List AV}
theorem J_ifnullN (O : B.2.2.2.2.2.2.2.2 X → MO X B ca cc own) {off : Int} {tgt : Nat} (hd : decode cc pc = .ok (.ifnull off, 3)) (ht : (pc : Int) + off = (tgt : Int)) (k : J X B x tgt lv rest) : J X B x pc lv (.inr none :: rest) :=
  ⟨k.1, fun o ad H locs ls cells slots h1 h2 h3 h4 h5 => lv_ifnullN (O o).1 (O o).2.1 hd ht (k.2 o ad H locs ls cells slots h1 h2 h3 h4 h5)⟩
theorem J_ifnull (O : B.2.2.2.2.2.2.2.2 X → MO X B ca cc own) {p : Pl} {off : Int} (hd : decode cc pc = .ok (.ifnull off, 3)) (k : J X B x (pc + 3) lv rest) : J X B x pc lv (.inr (some p) :: rest) :=
  ⟨k.1, fun o ad H locs ls cells slots h1 h2 h3 h4 h5 => lv_ifnull (O o).1 (O o).2.1 hd (k.2 o ad H locs ls cells slots h1 h2 h3 h4 h5)⟩
theorem J_ifnonnull (O : B.2.2.2.2.2.2.2.2 X → MO X B ca cc own) {p : Pl} {off : Int} {tgt : Nat} (hd : decode cc pc = .ok (.ifnonnull off, 3)) (ht : (pc : Int) + off = (tgt : Int)) (k : J X B x tgt lv rest) : J X B x pc lv (.inr (some p) :: rest) :=
  ⟨k.1, fun o ad H locs ls cells slots h1 h2 h3 h4 h5 => lv_ifnonnull (O o).1 (O o).2.1 hd ht (k.2 o ad H locs ls cells slots h1 h2 h3 h4 h5)⟩
theorem J_ifnonnullN (O : B.2.2.2.2.2.2.2.2 X → MO X B ca cc own) {off : Int} (hd : decode cc pc = .ok (.ifnonnull off, 3)) (k : J X B x (pc + 3) lv rest) : J X B x pc lv (.inr none :: rest) :=
  ⟨k.1, fun o ad H locs ls cells slots h1 h2 h3 h4 h5 => lv_ifnonnullN (O o).1 (O o).2.1 hd (k.2 o ad H locs ls cells slots h1 h2 h3 h4 h5)⟩
theorem J_tabIn (O : B.2.2.2.2.2.2.2.2 X → MO X B ca cc own) {dflt lo hi : Int} {offs : Array Int} {len : Nat} {a : Int32} (w : Int32) {off : Int} {tgt : Nat} (hw : a = w) (hd : decode cc pc = .ok (.tableswitch dflt lo hi offs, len)) (h1 : ¬ w.toInt < lo) (h2 : ¬ hi < w.toInt) (ho : offs[(w.toInt - lo).toNat]? = some off) (ht : (pc : Int) + off = (tgt : Int))
    (k : J X B x tgt lv rest) : J X B x pc lv (.inl (.int a) :: rest) := by
  subst hw
  exact ⟨k.1, fun o ad H locs ls cells slots g1 g2 g3 g4 g5 => lv_tableIn (O o).1 (O o).2.1 hd h1 h2 ho ht (k.2 o ad H locs ls cells slots g1 g2 g3 g4 g5)⟩
theorem J_tabOut (O : B.2.2.2.2.2.2.2.2 X → MO X B ca cc own) {dflt lo hi : Int} {offs : Array Int} {len : Nat} {a : Int32} {tgt : Nat} (n : Nat) (hn : hi - lo < n) (hb : -2147483648 ≤ lo ∧ hi ≤ 2147483647) (hall : ∀ j : Nat, j < n → ¬ a = Int32.ofInt (lo + j)) (hd : decode cc pc = .ok (.tableswitch dflt lo hi offs, len)) (ht : (pc : Int) + dflt = (tgt : Int))
    (k : J X B x tgt lv rest) : J X B x pc lv (.inl (.int a) :: rest) := by
  have h : a.toInt < lo ∨ hi < a.toInt := by
    rcases Int.lt_or_le a.toInt lo with h | h
    · exact Or.inl h
    · rcases Int.lt_or_le hi a.toInt with h' | h'
      · exact Or.inr h'
      · refine absurd ?_ (hall (a.toInt - lo).toNat (by omega))
        have e : lo + ((a.toInt - lo).toNat : Int) = a.toInt := by omega
        rw [e, Int32.ofInt_toInt]
  exact ⟨k.1, fun o ad H locs ls cells slots g1 g2 g3 g4 g5 => lv_tableOut (O o).1 (O o).2.1 hd h ht (k.2 o ad H locs ls cells slots g1 g2 g3 g4 g5)⟩
theorem J_acmp_eq (O : B.2.2.2.2.2.2.2.2 X → MO X B ca cc own) {p q : Pl} {off : Int} {tgt : Nat} (hp : ∀ ad, ∃ e, B.2.1 ad x p = some e) (hq : ∀ ad, ∃ e, B.2.1 ad x q = some e) (hd : decode cc pc = .ok (.if_acmp .eq off, 3)) (ht : (pc : Int) + off = (tgt : Int)) (kt : p = q → J X B x tgt lv rest) (kf : ¬ p = q → J X B x (pc + 3) lv rest) : J X B x pc lv (.inr (some q) :: .inr (some p) :: rest) := by
  by_cases h : p = q
  · exact ⟨(kt h).1, fun o ad H locs ls cells slots h1 h2 h3 h4 h5 => lv_acmp_eq (rx := some (ad p)) (ry := some (ad q)) (O o).1 (O o).2.1 hd ht (fun _ => (kt h).2 o ad H locs ls cells slots h1 h2 h3 h4 h5) (fun z => absurd (by rw [h]) z)⟩
  · exact ⟨(kf h).1, fun o ad H locs ls cells slots h1 h2 h3 h4 h5 => by
      obtain ⟨e1, he1⟩ := hp ad
      obtain ⟨e2, he2⟩ := hq ad
      exact lv_acmp_eq (rx := some (ad p)) (ry := some (ad q)) (O o).1 (O o).2.1 hd ht (fun z => absurd (h1.1.2 p q _ _ he1 he2 (by injection z)) h) (fun _ => (kf h).2 o ad H locs ls cells slots h1 h2 h3 h4 h5)⟩
theorem J_acmp_ne (O : B.2.2.2.2.2.2.2.2 X → MO X B ca cc own) {p q : Pl} {off : Int} {tgt : Nat} (hp : ∀ ad, ∃ e, B.2.1 ad x p = some e) (hq : ∀ ad, ∃ e, B.2.1 ad x q = some e) (hd : decode cc pc = .ok (.if_acmp .ne off, 3)) (ht : (pc : Int) + off = (tgt : Int)) (kt : ¬ p = q → J X B x tgt lv rest) (kf : p = q → J X B x (pc + 3) lv rest) : J X B x pc lv (.inr (some q) :: .inr (some p) :: rest) := by
  by_cases h : p = q
  · exact ⟨(kf h).1, fun o ad H locs ls cells slots h1 h2 h3 h4 h5 => lv_acmp_ne (rx := some (ad p)) (ry := some (ad q)) (O o).1 (O o).2.1 hd ht (fun z => absurd (by rw [h]) z) (fun _ => (kf h).2 o ad H locs ls cells slots h1 h2 h3 h4 h5)⟩
  · exact ⟨(kt h).1, fun o ad H locs ls cells slots h1 h2 h3 h4 h5 => by
      obtain ⟨e1, he1⟩ := hp ad
      obtain ⟨e2, he2⟩ := hq ad
      exact lv_acmp_ne (rx := some (ad p)) (ry := some (ad q)) (O o).1 (O o).2.1 hd ht (fun _ => (kt h).2 o ad H locs ls cells slots h1 h2 h3 h4 h5) (fun z => absurd (h1.1.2 p q _ _ he1 he2 (by injection z)) h)⟩
theorem J_iushr (O : B.2.2.2.2.2.2.2.2 X → MO X B ca cc own) {a b : Int32} (hd : decode cc pc = .ok (.iushr, 1)) (k : J X B x (pc + 1) lv (.inl (.int ((a.toUInt32 >>> (b.toUInt32 &&& Int32.toUInt32 31)).toInt32)) :: rest)) : J X B x pc lv (.inl (.int b) :: .inl (.int a) :: rest) :=
  ⟨k.1, fun o ad H locs ls cells slots h1 h2 h3 h4 h5 => lv_iushr (O o).1 (O o).2.1 hd rfl (k.2 o ad H locs ls cells slots h1 h2 h3 h4 h5)⟩
end MORE
section MORE2
variable {l0 : Launch} {X : MX} {B : BX (EE × K)} {g : GP} {cc : ByteArray} {own : String} {F L : Nat} {E : EE} {κ : K} {pc : Nat} {lv : List (Nat × AV)} {rest : List AV}
theorem ctC_isSome {f i c : Nat} {ca : Nat → ClassId} {e0 : Nat} (hl : liveC E f i c = true) (ad : Pl → Nat) : ∃ e, ctC ca e0 ad (E, κ) (f, i, c) = some e := ⟨_, ctC_live hl⟩
theorem CK.acmp (O : CK l0 X B g cc own F L) {f i c : Nat} (hl : liveC E f i c = true) : ∀ ad, ∃ e, B.2.1 ad (E, κ) (f, i, c) = some e := fun ad => by rw [O.2.1]; exact ⟨_, ctC_live hl⟩
/-- Math.max -/
theorem J_max (O : CK l0 X B g cc own F L) {index : Nat} {a b : Int32} (w1 : Cond.methodLink own index Lib.Math.max.name ∈ gwl) (w2 : Cond.static Lib.Math.max.name ∈ gwl) (w3 : Cond.initialized "java/lang/Math" ∈ gwl) (w4 : Cond.code Lib.Math.max.name Lib.Math.max.code 2 (some .int) ∈ gwl) (hF : 1 ≤ F) (hL : rest.length + 13 ≤ L) (hrc : rest.all cat1 = true) (hd : decode cc pc = .ok (.invokestatic index, 3)) (kk : J X B (E, κ) (pc + 3) lv (.inl (.int (if a < b then b else a)) :: rest)) : J X B (E, κ) pc lv (.inl (.int b) :: .inl (.int a) :: rest) := by
  obtain ⟨OO, hB, hCst, hD⟩ := O
  obtain ⟨p, l, e, R, s, m, args, below, meth, c, Q⟩ := X
  refine ⟨kk.1, fun fx ad H locs ls cells slots h1 h2 h3 h4 h5 => ?_⟩
  obtain ⟨hMO, hST, hSH, hF', hL', -⟩ := OO fx
  have hkk := kk.2 fx ad H locs ls cells slots h1 h2 h3 h4 h5
  have k1 := kk.1
  obtain ⟨hb1, hb2⟩ := hMO.2.2.2.2.2.2.2.2
  exact va_mmax hMO.1 hMO.2.1 (by rw [hMO.2.2.1, h3.1]) hMO.2.2.2.1 (hMO.2.2.2.2.1 _ w1) (hMO.2.2.2.2.1 _ w2) (hMO.2.2.2.2.1 _ w3) (hMO.2.2.2.2.1 _ w4) (by rw [hF']; exact hF) (by rw [cat_sum ad rest hrc, hL']; exact hL) (by have := k1.1; omega) (by have := k1.2; omega) hd hkk
theorem J_min (O : CK l0 X B g cc own F L) {index : Nat} {a b : Int32} (w1 : Cond.methodLink own index Lib.Math.min.name ∈ gwl) (w2 : Cond.static Lib.Math.min.name ∈ gwl) (w3 : Cond.initialized "java/lang/Math" ∈ gwl) (w4 : Cond.code Lib.Math.min.name Lib.Math.min.code 2 (some .int) ∈ gwl) (hF : 1 ≤ F) (hL : rest.length + 13 ≤ L) (hrc : rest.all cat1 = true) (hd : decode cc pc = .ok (.invokestatic index, 3)) (kk : J X B (E, κ) (pc + 3) lv (.inl (.int (if b < a then b else a)) :: rest)) : J X B (E, κ) pc lv (.inl (.int b) :: .inl (.int a) :: rest) := by
  obtain ⟨OO, hB, hCst, hD⟩ := O
  obtain ⟨p, l, e, R, s, m, args, below, meth, c, Q⟩ := X
  refine ⟨kk.1, fun fx ad H locs ls cells slots h1 h2 h3 h4 h5 => ?_⟩
  obtain ⟨hMO, hST, hSH, hF', hL', -⟩ := OO fx
  have hkk := kk.2 fx ad H locs ls cells slots h1 h2 h3 h4 h5
  have k1 := kk.1
  obtain ⟨hb1, hb2⟩ := hMO.2.2.2.2.2.2.2.2
  exact va_mmin hMO.1 hMO.2.1 (by rw [hMO.2.2.1, h3.1]) hMO.2.2.2.1 (hMO.2.2.2.2.1 _ w1) (hMO.2.2.2.2.1 _ w2) (hMO.2.2.2.2.1 _ w3) (hMO.2.2.2.2.1 _ w4) (by rw [hF']; exact hF) (by rw [cat_sum ad rest hrc, hL']; exact hL) (by have := k1.1; omega) (by have := k1.2; omega) hd hkk
theorem J_ldc (O : CK l0 X B g cc own F L) {index : Nat} {v : Int32} (w1 : Cond.constant own index v ∈ gwl) (hd : decode cc pc = .ok (.ldc index, 2)) (kk : J X B (E, κ) (pc + 2) lv (.inl (.int v) :: rest)) : J X B (E, κ) pc lv rest := by
  obtain ⟨OO, hB, hCst, hD⟩ := O
  obtain ⟨p, l, e, R, s, m, args, below, meth, c, Q⟩ := X
  refine ⟨kk.1, fun fx ad H locs ls cells slots h1 h2 h3 h4 h5 => ?_⟩
  have hMO := (OO fx).1
  exact lv_ldc hMO.1 hMO.2.1 hMO.2.2.2.1 (hMO.2.2.2.2.1 _ w1) hd (kk.2 fx ad H locs ls cells slots h1 h2 h3 h4 h5)
theorem J_ldcw (O : CK l0 X B g cc own F L) {index : Nat} {v : Int32} (w1 : Cond.constant own index v ∈ gwl) (hd : decode cc pc = .ok (.ldc_w index, 3)) (kk : J X B (E, κ) (pc + 3) lv (.inl (.int v) :: rest)) : J X B (E, κ) pc lv rest := by
  obtain ⟨OO, hB, hCst, hD⟩ := O
  obtain ⟨p, l, e, R, s, m, args, below, meth, c, Q⟩ := X
  refine ⟨kk.1, fun fx ad H locs ls cells slots h1 h2 h3 h4 h5 => ?_⟩
  have hMO := (OO fx).1
  exact lv_ldcw hMO.1 hMO.2.1 hMO.2.2.2.1 (hMO.2.2.2.2.1 _ w1) hd (kk.2 fx ad H locs ls cells slots h1 h2 h3 h4 h5)
/-- the class's own tables of numbers -/
theorem J_tabA (O : CK l0 X B g cc "GuestHall" F L) {i1 : Nat} {j : Int32} (hj : vp_in j 14) (hw : Cond.fieldLink "GuestHall" i1 "GuestHall" "A_NUMBERS" "[I" ∈ gwl) {q : Nat} {i : Nat} (hq : lv[q]? = some (i, .inl (.int j))) (d0 : decode cc pc = .ok (.getstatic i1, 3)) {n : Nat} (d3 : (∃ k4 : Fin 4, (k4 : Nat) = i ∧ n = 1 ∧ decode cc (pc + 3) = .ok (.iload_n k4, 1)) ∨ (n = 2 ∧ decode cc (pc + 3) = .ok (.iload i, 2))) (d4 : decode cc (pc + 3 + n) = .ok (.iaload, 1)) (kk : J X B (E, κ) (pc + 3 + n + 1) lv (.inl (.int (([4, 4, 4, 4, 4, 8, 4, 4, 0, 0, 0, 0, 0, 0] : List Int32).getD j.toNatClampNeg 0)) :: rest)) : J X B (E, κ) pc lv rest := by
  obtain ⟨OO, hB, hCst, hD⟩ := O
  obtain ⟨p, l, e, R, s, m, args, below, meth, c, Q⟩ := X
  refine ⟨kk.1, fun fx ad H locs ls cells slots h1 h2 h3 h4 h5 => ?_⟩
  obtain ⟨hMO, hST, hSH, -⟩ := OO fx
  have hkk := kk.2 fx ad H locs ls cells slots h1 h2 h3 h4 h5
  refine va_gets hMO.1 hMO.2.1 hSH.1 h2 hMO.2.2.2.1 (hMO.2.2.2.2.1 _ hw) (fun _ h => h) d0 ?_
  rcases d3 with ⟨k4, rfl, rfl, d3⟩ | ⟨rfl, d3⟩
  · exact lv_iload_n hMO.1 hMO.2.1 d3 rfl (J_get ad h3 q hq) (va_ti hMO.1 hMO.2.1 hSH.2.1 h2 hj rfl d4 hkk)
  · exact lv_iload hMO.1 hMO.2.1 d3 (J_get ad h3 q hq) (va_ti hMO.1 hMO.2.1 hSH.2.1 h2 hj rfl d4 hkk)
theorem J_tabB (O : CK l0 X B g cc "GuestHall" F L) {i1 : Nat} {j : Int32} (hj : vp_in j 14) (hw : Cond.fieldLink "GuestHall" i1 "GuestHall" "B_NUMBERS" "[I" ∈ gwl) {q : Nat} {i : Nat} (hq : lv[q]? = some (i, .inl (.int j))) (d0 : decode cc pc = .ok (.getstatic i1, 3)) {n : Nat} (d3 : (∃ k4 : Fin 4, (k4 : Nat) = i ∧ n = 1 ∧ decode cc (pc + 3) = .ok (.iload_n k4, 1)) ∨ (n = 2 ∧ decode cc (pc + 3) = .ok (.iload i, 2))) (d4 : decode cc (pc + 3 + n) = .ok (.iaload, 1)) (kk : J X B (E, κ) (pc + 3 + n + 1) lv (.inl (.int (([10000, 4, 4, 4, 24, 9, 2, 3, 0, 24, 2, 0, 8, 0] : List Int32).getD j.toNatClampNeg 0)) :: rest)) : J X B (E, κ) pc lv rest := by
  obtain ⟨OO, hB, hCst, hD⟩ := O
  obtain ⟨p, l, e, R, s, m, args, below, meth, c, Q⟩ := X
  refine ⟨kk.1, fun fx ad H locs ls cells slots h1 h2 h3 h4 h5 => ?_⟩
  obtain ⟨hMO, hST, hSH, -⟩ := OO fx
  have hkk := kk.2 fx ad H locs ls cells slots h1 h2 h3 h4 h5
  refine va_gets hMO.1 hMO.2.1 hSH.2.2.1 h2 hMO.2.2.2.1 (hMO.2.2.2.2.1 _ hw) (fun _ h => h) d0 ?_
  rcases d3 with ⟨k4, rfl, rfl, d3⟩ | ⟨rfl, d3⟩
  · exact lv_iload_n hMO.1 hMO.2.1 d3 rfl (J_get ad h3 q hq) (va_ti hMO.1 hMO.2.1 hSH.2.2.2.1 h2 hj rfl d4 hkk)
  · exact lv_iload hMO.1 hMO.2.1 d3 (J_get ad h3 q hq) (va_ti hMO.1 hMO.2.1 hSH.2.2.2.1 h2 hj rfl d4 hkk)
end MORE2
