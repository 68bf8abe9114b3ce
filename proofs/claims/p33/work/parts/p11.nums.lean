/-! rows of numbers -/
theorem cl0 : (0 : Int32).toNatClampNeg = 0 := by decide
theorem cl1 : (1 : Int32).toNatClampNeg = 1 := by decide
theorem lz0 : ¬ (0 : Int32) < 0 := by decide
theorem lz1 : ¬ (1 : Int32) < 0 := by decide
theorem cpy_0 {f g : Nat → Int32} {n k : Nat} : va_cpy f g 0 0 n k = if k < n then f k else g k := by
  unfold va_cpy
  by_cases h : k < n
  · rw [if_pos h, if_pos ⟨Nat.zero_le _, by omega⟩, Nat.sub_zero, Nat.zero_add]
  · rw [if_neg h, if_neg (by omega)]
theorem cpy_1 {f g : Nat → Int32} {n k : Nat} : va_cpy f g 1 0 n k = if k < n then f (k + 1) else g k := by
  unfold va_cpy
  by_cases h : k < n
  · rw [if_pos h, if_pos ⟨Nat.zero_le _, by omega⟩, Nat.sub_zero, Nat.add_comm]
  · rw [if_neg h, if_neg (by omega)]
def CAP (n : Nat) : Prop := ∃ k, n = 8 * 2 ^ k ∧ n ≤ 6000
theorem CAP_ge {n : Nat} (h : CAP n) : 8 ≤ n ∧ n ≤ 6000 := by
  obtain ⟨k, h1, h2⟩ := h
  have : 1 ≤ 2 ^ k := Nat.one_le_two_pow
  omega
theorem CAP_dbl {n : Nat} (h : CAP n) (h2 : n ≤ 3000) : CAP (2 * n) := by
  obtain ⟨k, h1, _⟩ := h
  exact ⟨k + 1, by rw [Nat.pow_succ]; omega, by omega⟩
theorem CAP_lt {n m : Nat} (h : CAP n) (h2 : CAP m) (hl : n < m) : 2 * n ≤ m ∧ n + 8 ≤ m := by
  have hn := CAP_ge h
  obtain ⟨k, h1, _⟩ := h
  obtain ⟨j, h3, _⟩ := h2
  have hkj : k < j := by
    refine Nat.lt_of_not_le fun z => ?_
    have := Nat.pow_le_pow_right (n := 2) (by omega) z
    omega
  have := Nat.pow_le_pow_right (n := 2) (by omega) (show k + 1 ≤ j from hkj)
  rw [Nat.pow_succ] at this
  omega
theorem CAP_8 : CAP 8 := ⟨0, by decide, by decide⟩
def NUM (κ : K) (f i c s : Nat) (q : Nat → Int32) : Prop := kV κ f i c 1 = nI s ∧ s ≤ kN κ f i (c + 1) ∧ CAP (kN κ f i (c + 1)) ∧ ∀ k, k < s → kV κ f i (c + 1) k = q k
theorem NUM_q {κ : K} {f i c s : Nat} {q q' : Nat → Int32} (h : NUM κ f i c s q) (e : ∀ k, k < s → q k = q' k) : NUM κ f i c s q' := ⟨h.1, h.2.1, h.2.2.1, fun k hk => (h.2.2.2 k hk).trans (e k hk)⟩
theorem NUM_K {κ κ' : K} {f i c s : Nat} {q : Nat → Int32} (h : NUM κ f i c s q) (e0 : kV κ' f i c 1 = kV κ f i c 1) (e1 : kV κ' f i (c + 1) = kV κ f i (c + 1)) (eN : kN κ' f i (c + 1) = kN κ f i (c + 1)) : NUM κ' f i c s q := by
  unfold NUM
  rw [e0, e1, eN]
  exact h
/-! the price: what may be paid grows with the rows' room -/
def numPl : List (Nat × Nat × Nat) := ((List.range 5).flatMap fun g => [11, 13, 15, 17, 25, 27, 29, 31, 33, 35, 37].map fun c => (0, g, c)) ++ ((List.range 10).flatMap fun s => [6, 8, 10, 12].map fun c => (9, s, c))
theorem num_nd : numPl.Nodup := by decide +kernel
theorem num_mem0 : ∀ g, g < 5 → ∀ c, c ∈ [11, 13, 15, 17, 25, 27, 29, 31, 33, 35, 37] → (0, g, c) ∈ numPl := by decide +kernel
theorem num_mem9 : ∀ s, s < 10 → ∀ c, c ∈ [6, 8, 10, 12] → (9, s, c) ∈ numPl := by decide +kernel
theorem num_len : numPl.length = 95 := by decide +kernel
def aliveN (n s : Nat) (p : Nat × Nat × Nat) : Bool := (decide (p.1 = 0) && decide (p.2.1 < n)) || (decide (p.1 = 9) && decide (p.2.1 < s))
def sumL (f : Nat × Nat × Nat → Nat) : List (Nat × Nat × Nat) → Nat
  | [] => 0
  | p :: ps => f p + sumL f ps
theorem sumL_congr {f f' : Nat × Nat × Nat → Nat} : ∀ {l : List (Nat × Nat × Nat)}, (∀ p, p ∈ l → f p = f' p) → sumL f l = sumL f' l
  | [], _ => rfl
  | p :: ps, h => by
    unfold sumL
    rw [h p List.mem_cons_self, sumL_congr (l := ps) (fun p hp => h p (List.mem_cons_of_mem _ hp))]
theorem sumL_le {f f' : Nat × Nat × Nat → Nat} : ∀ {l : List (Nat × Nat × Nat)}, (∀ p, p ∈ l → f p ≤ f' p) → sumL f l ≤ sumL f' l
  | [], _ => Nat.le_refl _
  | p :: ps, h => by
    unfold sumL
    have h1 := h p List.mem_cons_self
    have h2 := sumL_le (l := ps) (fun p hp => h p (List.mem_cons_of_mem _ hp))
    omega
theorem sumL_max {f : Nat × Nat × Nat → Nat} {m : Nat} : ∀ {l : List (Nat × Nat × Nat)}, (∀ p, p ∈ l → f p ≤ m) → sumL f l ≤ l.length * m
  | [], _ => by unfold sumL; omega
  | p :: ps, h => by
    unfold sumL
    have h1 := h p List.mem_cons_self
    have h2 := sumL_max (l := ps) (fun p hp => h p (List.mem_cons_of_mem _ hp))
    rw [List.length_cons, Nat.succ_mul]
    omega
theorem sumL_one {f f' : Nat × Nat × Nat → Nat} {p : Nat × Nat × Nat} : ∀ {l : List (Nat × Nat × Nat)}, l.Nodup → p ∈ l → (∀ q, q ≠ p → f q = f' q) → sumL f' l + f p = sumL f l + f' p
  | [], _, hp, _ => absurd hp List.not_mem_nil
  | q :: ps, hn, hp, h => by
    obtain ⟨hq, hps⟩ := List.nodup_cons.mp hn
    unfold sumL
    by_cases e : q = p
    · subst e
      rw [sumL_congr (f := f) (f' := f') (l := ps) (fun r hr => h r (fun z => hq (z ▸ hr)))]
      omega
    · have := sumL_one (l := ps) hps (by cases hp with | head => exact absurd rfl e | tail _ h => exact h) h
      rw [h q e]
      omega
def WT (κ : K) (n s : Nat) : Nat := sumL (fun p => if aliveN n s p = true then kN κ p.1 p.2.1 p.2.2 else 0) numPl
/-- from κ to κ' no more is paid than d and what the rows grew -/
def PAID (n s : Nat) (d1 d2 : Nat) (κ κ' : K) : Prop := 8 * (kC κ').1 + WT κ n s ≤ 8 * (kC κ).1 + WT κ' n s + 8 * d1 ∧ (kC κ').2 + 2 * WT κ n s ≤ (kC κ).2 + 2 * WT κ' n s + d2
theorem PAID.trans {n s a1 a2 b1 b2 : Nat} {κ κ1 κ2 : K} (h : PAID n s a1 a2 κ κ1) (h' : PAID n s b1 b2 κ1 κ2) : PAID n s (a1 + b1) (a2 + b2) κ κ2 := by
  unfold PAID at h h' ⊢
  omega
theorem PAID.up {n s a1 a2 b1 b2 : Nat} {κ κ' : K} (h : PAID n s a1 a2 κ κ') (h1 : a1 ≤ b1) (h2 : a2 ≤ b2) : PAID n s b1 b2 κ κ' := by
  unfold PAID at h ⊢
  omega
theorem PAID_same {n s : Nat} {κ κ' : K} (hN : kN κ' = kN κ) (hC : kC κ' = kC κ) : PAID n s 0 0 κ κ' := by
  unfold PAID WT
  rw [hN, hC]
  omega
theorem PAID_add {n s a b : Nat} {κ κ' : K} (hN : kN κ' = kN κ) (hC : kC κ' = ((kC κ).1 + a, (kC κ).2 + b)) : PAID n s a b κ κ' := by
  unfold PAID WT
  rw [hN, hC]
  dsimp only
  omega
theorem PAID_row {n s f i c : Nat} {κ κ' : K} (hm : (f, i, c) ∈ numPl) (ha : aliveN n s (f, i, c) = true) (h1 : ∀ f' i' c', ¬ (f' = f ∧ i' = i ∧ c' = c) → kN κ' f' i' c' = kN κ f' i' c') (h2 : 2 * kN κ f i c ≤ kN κ' f i c ∧ kN κ f i c + 8 ≤ kN κ' f i c) (hC : kC κ' = ((kC κ).1 + 1, (kC κ).2 + kN κ' f i c)) : PAID n s 0 0 κ κ' := by
  have := sumL_one (f := fun p => if aliveN n s p = true then kN κ p.1 p.2.1 p.2.2 else 0) (f' := fun p => if aliveN n s p = true then kN κ' p.1 p.2.1 p.2.2 else 0) num_nd hm (fun q hq => by
    split
    · exact (h1 q.1 q.2.1 q.2.2 (fun z => hq (Prod.ext z.1 (Prod.ext z.2.1 z.2.2)))).symm
    · rfl)
  dsimp only at this
  rw [if_pos ha, if_pos ha] at this
  unfold PAID WT
  rw [hC]
  dsimp only
  omega
/-- what a change of one row of numbers leaves -/
def CHN (n s : Nat) (κ κ' : K) (f i c : Nat) : Prop := (∀ f' i' c', ¬ (f' = f ∧ i' = i ∧ (c' = c ∨ c' = c + 1)) → kV κ' f' i' c' = kV κ f' i' c') ∧ (∀ k, k ≠ 1 → kV κ' f i c k = kV κ f i c k) ∧ (∀ f' i' c', ¬ (f' = f ∧ i' = i ∧ c' = c + 1) → kN κ' f' i' c' = kN κ f' i' c') ∧ kP κ' = kP κ ∧ PAID n s 0 0 κ κ'
theorem CHN.trans {n s f i c : Nat} {κ κ1 κ2 : K} (h : CHN n s κ κ1 f i c) (h' : CHN n s κ1 κ2 f i c) : CHN n s κ κ2 f i c :=
  ⟨fun a b d e => (h'.1 a b d e).trans (h.1 a b d e), fun k hk => (h'.2.1 k hk).trans (h.2.1 k hk), fun a b d e => (h'.2.2.1 a b d e).trans (h.2.2.1 a b d e), h'.2.2.2.1.trans h.2.2.2.1, (h.2.2.2.2.trans h'.2.2.2.2).up (Nat.le_refl _) (Nat.le_refl _)⟩
theorem CHN.rfl {n s f i c : Nat} {κ : K} : CHN n s κ κ f i c := ⟨fun _ _ _ _ => Eq.refl _, fun _ _ => Eq.refl _, fun _ _ _ _ => Eq.refl _, Eq.refl _, PAID_same (Eq.refl _) (Eq.refl _)⟩
theorem CHN_set {n s f i c : Nat} {κ : K} {x : Int32} : CHN n s κ (setV κ f i c 1 x) f i c :=
  ⟨fun f' i' c' h => by funext k; exact vD (fun z => h ⟨z.1, z.2.1, Or.inl z.2.2.1⟩), fun k hk => vD (fun z => hk z.2.2.2), fun _ _ _ _ => Eq.refl _, Eq.refl _, PAID_same (Eq.refl _) (Eq.refl _)⟩
theorem CHN_setA {n s f i c : Nat} {κ : K} {a : Nat → Int32} : CHN n s κ (setA κ f i (c + 1) a) f i c :=
  ⟨fun f' i' c' h => by funext k; exact aD (fun z => h ⟨z.1, z.2.1, Or.inr z.2.2⟩), fun k hk => aD (by omega), fun _ _ _ _ => Eq.refl _, Eq.refl _, PAID_same (Eq.refl _) (Eq.refl _)⟩
theorem CHN_setk {n s f i c k : Nat} {κ : K} {x : Int32} : CHN n s κ (setV κ f i (c + 1) k x) f i c :=
  ⟨fun f' i' c' h => by funext k'; exact vD (fun z => h ⟨z.1, z.2.1, Or.inr z.2.2.1⟩), fun k' hk => vD (by omega), fun _ _ _ _ => Eq.refl _, Eq.refl _, PAID_same (Eq.refl _) (Eq.refl _)⟩
theorem n_put {E : EE} {κ : K} {f i c s n0 s0 : Nat} {q : Nat → Int32} {x : Int32} (h : NUM κ f i c s q) (hs : s < kN κ f i (c + 1)) : ∃ κ', f_X4_add_b30 E f i c κ x = some (κ', ()) ∧ CHN n0 s0 κ κ' f i c ∧ NUM κ' f i c (s + 1) (fun k => if k = s then x else q k) := by
  obtain ⟨h1, h2, h3, h4⟩ := h
  have hc := CAP_ge h3
  refine ⟨setV (setV κ f i (c + 1) s x) f i c 1 (nI (s + 1)), ?_, CHN_setk.trans CHN_set, ?_, ?_, ?_, ?_⟩
  · rw [f_X4_add_b30, h1, nI_cl (by omega), gdi (by omega), nmE, nmE, vD (by omega), h1, nI_1]
  · exact vS ⟨rfl, rfl, rfl, rfl⟩
  · exact hs
  · exact h3
  · intro k hk
    rw [vD (by omega)]
    dsimp only
    by_cases e : k = s
    · subst e; rw [vS ⟨rfl, rfl, rfl, rfl⟩, if_pos rfl]
    · rw [vD (by omega), if_neg e]; exact h4 k (by omega)
theorem n_add {E : EE} {κ : K} {f i c s n0 s0 : Nat} {q : Nat → Int32} {x : Int32} (h : NUM κ f i c s q) (hs : s < 3000) (hm : (f, i, c + 1) ∈ numPl) (ha : aliveN n0 s0 (f, i, c + 1) = true) : ∃ κ', f_X4_add E κ f i c x = some (κ', ()) ∧ CHN n0 s0 κ κ' f i c ∧ NUM κ' f i c (s + 1) (fun k => if k = s then x else q k) := by
  have hc := CAP_ge h.2.2.1
  by_cases hl : s < kN κ f i (c + 1)
  · rw [f_X4_add, h.1, if_pos (by rw [nI_lt' (by omega) (by omega)]; exact hl)]
    exact n_put h hl
  · have hcs : kN κ f i (c + 1) = s := Nat.le_antisymm (by omega) h.2.1
    have e2 : 2 * nI (kN κ f i (c + 1)) = nI (2 * s) := by rw [hcs, l2, nI_mul]
    let κ1 : K := setT (addC (setT κ (some (2 * s, fun _ => 0))) 1 (2 * s)) (some (2 * s, va_cpy (kV κ f i (c + 1)) (fun _ => 0) 0 0 s))
    have e : f_J7_copyOf_59c91 E κ f i c (nI (2 * s)) = some (κ1, ()) := by
      rw [f_J7_copyOf_59c91, hcs, if_neg (by rw [nI_eq' (by omega) (by omega)]; omega), gd_t ⟨nI_pos (by omega), by rw [nI_cl (by omega)]; omega⟩, nmE, nI_cl (by omega)]
      rw [show kT (addC (setT κ (some (2 * s, fun _ => 0))) 1 (2 * s)) = some (2 * s, fun _ => 0) from rfl]
      unfold tmpG
      dsimp only
      rw [show kN (addC (setT κ (some (2 * s, fun _ => 0))) 1 (2 * s)) = kN κ from rfl, show kV (addC (setT κ (some (2 * s, fun _ => 0))) 1 (2 * s)) = kV κ from rfl, hcs, if_neg (by rw [nI_lt' (by omega) (by omega)]; omega), cl0, nI_cl (by omega), gd_t ⟨lz0, lz0, nI_pos (by omega), by omega, by omega⟩, nmE]
    let κ2 : K := setRow κ1 f i c (2 * s) (va_cpy (kV κ f i (c + 1)) (fun _ => 0) 0 0 s)
    have hn2 : kN κ2 f i (c + 1) = 2 * s := nS ⟨rfl, rfl, rfl⟩
    have hv0 : ∀ f' i' c', ¬ (f' = f ∧ i' = i ∧ c' = c + 1) → kV κ2 f' i' c' = kV κ f' i' c' := fun f' i' c' z => by funext k; exact aD z
    have hch : CHN n0 s0 κ κ2 f i c := by
      refine ⟨fun f' i' c' z => hv0 f' i' c' (fun y => z ⟨y.1, y.2.1, Or.inr y.2.2⟩), fun k _ => by rw [hv0 _ _ _ (by omega)], fun f' i' c' z => nD z, rfl, ?_⟩
      refine PAID_row hm ha (fun f' i' c' z => nD z) (by rw [hn2, hcs]; omega) ?_
      rw [hn2]
      rfl
    have hN2 : NUM κ2 f i c s q := by
      refine ⟨by rw [hv0 _ _ _ (by omega)]; exact h.1, by omega, by rw [hn2]; exact CAP_dbl (hcs ▸ h.2.2.1) (by omega), fun k hk => ?_⟩
      rw [show kV κ2 f i (c + 1) k = va_cpy (kV κ f i (c + 1)) (fun _ => 0) 0 0 s k from aS ⟨rfl, rfl, rfl⟩, cpy_0, if_pos hk]
      exact h.2.2.2 k hk
    obtain ⟨κ', p1, p2, p3⟩ := n_put (E := E) (n0 := n0) (s0 := s0) (x := x) hN2 (by omega)
    refine ⟨κ', ?_, hch.trans p2, p3⟩
    rw [f_X4_add, h.1, if_neg (by rw [nI_lt' (by omega) (by omega)]; exact hl), e2, e, bd_s]
    show tmpG (kT κ1) _ = _
    rw [show kT κ1 = some (2 * s, va_cpy (kV κ f i (c + 1)) (fun _ => 0) 0 0 s) from rfl]
    unfold tmpG
    dsimp only
    rw [nmE]
    exact p1
theorem n_take0 {E : EE} {κ : K} {f i c : Nat} {q : Nat → Int32} (h : NUM κ f i c 0 q) : f_X4_takeFirst E κ f i c = some (κ, 0) := by
  rw [f_X4_takeFirst, if_pos (h.1.trans nI_0)]
theorem n_take {E : EE} {κ : K} {f i c s n0 s0 : Nat} {q : Nat → Int32} (h : NUM κ f i c (s + 1) q) : ∃ κ', f_X4_takeFirst E κ f i c = some (κ', q 0) ∧ CHN n0 s0 κ κ' f i c ∧ NUM κ' f i c s (fun k => q (k + 1)) := by
  obtain ⟨h1, h2, h3, h4⟩ := h
  have hc := CAP_ge h3
  refine ⟨setA (setV κ f i c 1 (nI s)) f i (c + 1) (va_cpy (kV κ f i (c + 1)) (kV κ f i (c + 1)) 1 0 s), ?_, CHN_set.trans CHN_setA, ?_, ?_, ?_, ?_⟩
  · rw [f_X4_takeFirst, h1, if_neg (by rw [nI_e0 (by omega)]; omega), cl0, cl1, gd_t (show ¬ ((0 : Int32) < 0 ∨ kN κ f i (c + 1) ≤ 0) from fun z => z.elim lz0 (by omega)), nmE, h4 0 (by omega), nmE, show nI (s + 1) - 1 = nI s from by rw [i32_1, nI_sub (by omega), Nat.add_sub_cancel], vS ⟨rfl, rfl, rfl, rfl⟩, nV, nI_cl (by omega), gd_t ⟨lz1, lz0, nI_pos (by omega), by omega, by omega⟩, nmE]
    rw [show kV (setV κ f i c 1 (nI s)) f i (c + 1) = kV κ f i (c + 1) from by funext k; exact vD (by omega)]
  · rw [aD (by omega)]; exact vS ⟨rfl, rfl, rfl, rfl⟩
  · show s ≤ kN κ f i (c + 1); omega
  · exact h3
  · intro k hk
    rw [aS ⟨rfl, rfl, rfl⟩, cpy_1, if_pos hk]
    exact h4 (k + 1) (by omega)
theorem n_copy {E : EE} {κ : K} {f i c f1 i1 c1 s s2 n0 s0 : Nat} {q q2 : Nat → Int32} (hd : NUM κ f i c s2 q2) (h : NUM κ f1 i1 c1 s q) (hne : ¬ (f1 = f ∧ i1 = i ∧ (c1 = c ∨ c1 = c + 1 ∨ c1 + 1 = c))) (hm : (f, i, c + 1) ∈ numPl) (ha : aliveN n0 s0 (f, i, c + 1) = true) : ∃ κ', f_X4_copyFrom E κ f i c f1 i1 c1 = some (κ', ()) ∧ CHN n0 s0 κ κ' f i c ∧ NUM κ' f i c s q := by
  obtain ⟨h1, h2, h3, h4⟩ := h
  have hc := CAP_ge h3
  have fin : ∀ κ1 : K, CHN n0 s0 κ κ1 f i c → s ≤ kN κ1 f i (c + 1) → CAP (kN κ1 f i (c + 1)) → ∃ κ', f_X4_copyFrom_b23 E f i c f1 i1 c1 κ1 = some (κ', ()) ∧ CHN n0 s0 κ κ' f i c ∧ NUM κ' f i c s q := by
    intro κ1 hch hs hcap
    have hc2 := CAP_ge hcap
    have e1 : kV κ1 f1 i1 c1 = kV κ f1 i1 c1 := hch.1 _ _ _ (by omega)
    have e2 : kV κ1 f1 i1 (c1 + 1) = kV κ f1 i1 (c1 + 1) := hch.1 _ _ _ (by omega)
    have e3 : kN κ1 f1 i1 (c1 + 1) = kN κ f1 i1 (c1 + 1) := hch.2.2.1 _ _ _ (by omega)
    refine ⟨setV (setA κ1 f i (c + 1) (va_cpy (kV κ1 f1 i1 (c1 + 1)) (kV κ1 f i (c + 1)) 0 0 s)) f i c 1 (nI s), ?_, hch.trans (CHN_setA.trans CHN_set), ?_, ?_, ?_, ?_⟩
    · rw [f_X4_copyFrom_b23, e1, h1, cl0, nI_cl (by omega), gd_t ⟨lz0, lz0, nI_pos (by omega), by omega, by omega⟩, nmE, nmE, aD (by omega), e1, h1]
    · exact vS ⟨rfl, rfl, rfl, rfl⟩
    · exact hs
    · exact hcap
    · intro k hk
      rw [vD (by omega), aS ⟨rfl, rfl, rfl⟩, cpy_0, if_pos hk, e2]
      exact h4 k hk
  have hcd := CAP_ge hd.2.2.1
  by_cases hl : s ≤ kN κ f i (c + 1)
  · rw [f_X4_copyFrom, h1, if_pos (by rw [nI_le' (by omega) (by omega)]; exact hl)]
    exact fin κ CHN.rfl hl hd.2.2.1
  · let m := kN κ f1 i1 (c1 + 1)
    have hm2 : m = kN κ f1 i1 (c1 + 1) := rfl
    have hlt := CAP_lt hd.2.2.1 h3 (by omega)
    let κ2 : K := setRow (addC (setT κ (some (m, fun _ => 0))) 1 m) f i c m (fun _ => 0)
    have hn2 : kN κ2 f i (c + 1) = m := nS ⟨rfl, rfl, rfl⟩
    have hv0 : ∀ f' i' c', ¬ (f' = f ∧ i' = i ∧ c' = c + 1) → kV κ2 f' i' c' = kV κ f' i' c' := fun f' i' c' z => by funext k; exact if_neg z
    have hch : CHN n0 s0 κ κ2 f i c := by
      refine ⟨fun f' i' c' z => hv0 f' i' c' (fun y => z ⟨y.1, y.2.1, Or.inr y.2.2⟩), fun k _ => by rw [hv0 _ _ _ (by omega)], fun f' i' c' z => nD z, rfl, ?_⟩
      refine PAID_row hm ha (fun f' i' c' z => nD z) (by rw [hn2]; exact hlt) ?_
      rw [hn2]
      rfl
    obtain ⟨κ', p1, p2, p3⟩ := fin κ2 hch (by rw [hn2]; exact h2) (by rw [hn2]; exact h3)
    refine ⟨κ', ?_, p2, p3⟩
    rw [f_X4_copyFrom, h1, if_neg (by rw [nI_le' (by omega) (by omega)]; exact hl), ← hm2, gd_t ⟨nI_pos (by omega), by rw [nI_cl (by omega)]; omega⟩, nmE, nI_cl (by omega)]
    rw [show kT (addC (setT κ (some (m, fun _ => 0))) 1 m) = some (m, fun _ => 0) from rfl]
    unfold tmpG
    dsimp only
    rw [nmE]
    exact p1
theorem n_addAll {E : EE} {κ : K} {f i c f1 i1 c1 s s1 n0 s0 : Nat} {q q1 : Nat → Int32} (hd : NUM κ f i c s q) (h : NUM κ f1 i1 c1 s1 q1) (hs : s + s1 ≤ 3000) (hne : ¬ (f1 = f ∧ i1 = i ∧ (c1 = c ∨ c1 = c + 1 ∨ c1 + 1 = c))) (hm : (f, i, c + 1) ∈ numPl) (ha : aliveN n0 s0 (f, i, c + 1) = true) : ∃ κ', f_X4_addAll E κ f i c f1 i1 c1 = some (κ', ()) ∧ CHN n0 s0 κ κ' f i c ∧ NUM κ' f i c (s + s1) (fun k => if k < s then q k else q1 (k - s)) := by
  have loop : ∀ (d j m : Nat) (κ1 : K), j + d = s1 → d < m → CHN n0 s0 κ κ1 f i c → NUM κ1 f i c (s + j) (fun k => if k < s then q k else q1 (k - s)) → ∃ κ', f_X4_addAll_b2 E f i c f1 i1 c1 m κ1 (nI j) = some (κ', ()) ∧ CHN n0 s0 κ κ' f i c ∧ NUM κ' f i c (s + s1) (fun k => if k < s then q k else q1 (k - s)) := by
    intro d
    induction d with
    | zero =>
      intro j m κ1 hj hm2 hch hN
      obtain ⟨m, rfl⟩ : ∃ q, m = q + 1 := ⟨m - 1, by omega⟩
      have e : j = s1 := by omega
      subst e
      refine ⟨κ1, ?_, hch, hN⟩
      rw [f_X4_addAll_b2, hch.1 _ _ _ (by omega), h.1, if_pos (by rw [nI_le' (by omega) (by omega)]; exact Nat.le_refl _)]
    | succ d ih =>
      intro j m κ1 hj hm2 hch hN
      obtain ⟨m, rfl⟩ : ∃ q, m = q + 1 := ⟨m - 1, by omega⟩
      have hcap := CAP_ge h.2.2.1
      have hle := h.2.1
      obtain ⟨κ2, p1, p2, p3⟩ := n_add (E := E) (n0 := n0) (s0 := s0) (x := q1 j) hN (by omega) hm ha
      obtain ⟨κ', r1, r2, r3⟩ := ih (j + 1) m κ2 (by omega) (by omega) (hch.trans p2) (NUM_q p3 (fun k hk => by
        by_cases e : k = s + j
        · subst e; rw [if_pos rfl, if_neg (by omega), Nat.add_sub_cancel_left]
        · rw [if_neg e]))
      refine ⟨κ', ?_, r2, r3⟩
      rw [f_X4_addAll_b2, hch.1 _ _ _ (by omega), h.1, if_neg (by rw [nI_le' (by omega) (by omega)]; omega), hch.2.2.1 _ _ _ (by omega), nI_cl (by omega), gdi (by omega), hch.1 f1 i1 (c1 + 1) (by omega), h.2.2.2 j (by omega), p1, bd_s, nmE, nI_1]
      exact r1
  have := loop s1 0 FU κ (by omega) (by unfold FU; omega) CHN.rfl (NUM_q hd (fun k hk => by rw [if_pos (by omega)]))
  rw [f_X4_addAll, i32_0]
  exact this
