/-! the class copies a machine -/
theorem copy3 {E : EE} {κ : K} {f0 i0 c0 f1 i1 c1 : Nat} (hd : ¬ (f1 = f0 ∧ i1 = i0 ∧ c1 < c0 + 4 ∧ c0 < c1 + 4)) (h7 : kV κ f1 i1 c1 7 = 0 ∨ kV κ f1 i1 c1 7 = 1) : ∃ κ', f_X3_copyFrom E κ f0 i0 c0 f1 i1 c1 = some (κ', ()) ∧ (∀ f i c, ¬ (f = f0 ∧ i = i0 ∧ c0 ≤ c ∧ c < c0 + 4) → kV κ' f i c = kV κ f i c) ∧ (∀ j k, rel j k → kV κ' f0 i0 (c0 + j) k = kV κ f1 i1 (c1 + j) k) ∧ kN κ' = kN κ ∧ kP κ' = kP κ ∧ kC κ' = kC κ := by
  have t4 : (4 : Int32).toNatClampNeg = 4 := by decide
  have t8 : (8 : Int32).toNatClampNeg = 8 := by decide
  have t32 : (32 : Int32).toNatClampNeg = 32 := by decide
  let κ1 : K := setA κ f0 i0 (c0 + 1) (va_cpy (kV κ f1 i1 (c1 + 1)) (kV κ f0 i0 (c0 + 1)) 0 0 4)
  let κ3 : K := setA κ1 f0 i0 (c0 + 2) (va_cpy (kV κ1 f1 i1 (c1 + 2)) (kV κ1 f0 i0 (c0 + 2)) 0 0 8)
  let κ5 : K := setA κ3 f0 i0 (c0 + 3) (va_cpy (kV κ3 f1 i1 (c1 + 3)) (kV κ3 f0 i0 (c0 + 3)) 0 0 32)
  have F1 : ∀ f i c, ¬ (f = f0 ∧ i = i0 ∧ c = c0 + 1) → kV κ1 f i c = kV κ f i c := fun f i c z => by
    funext k
    exact aD z
  have F3 : ∀ f i c, ¬ (f = f0 ∧ i = i0 ∧ c = c0 + 2) → kV κ3 f i c = kV κ1 f i c := fun f i c z => by
    funext k
    exact aD z
  have F5 : ∀ f i c, ¬ (f = f0 ∧ i = i0 ∧ c = c0 + 3) → kV κ5 f i c = kV κ3 f i c := fun f i c z => by
    funext k
    exact aD z
  have G5 : ∀ f i c, ¬ (f = f0 ∧ i = i0 ∧ c0 < c ∧ c < c0 + 4) → kV κ5 f i c = kV κ f i c := fun f i c z => by
    rw [F5 f i c (by omega), F3 f i c (by omega), F1 f i c (by omega)]
  have V1 : ∀ k, k < 4 → kV κ5 f0 i0 (c0 + 1) k = kV κ f1 i1 (c1 + 1) k := fun k hk => by
    rw [F5 f0 i0 (c0 + 1) (by omega), F3 f0 i0 (c0 + 1) (by omega)]
    show kV (setA κ f0 i0 (c0 + 1) _) f0 i0 (c0 + 1) k = _
    rw [aS ⟨rfl, rfl, rfl⟩, cpy_0, if_pos hk]
  have V2 : ∀ k, k < 8 → kV κ5 f0 i0 (c0 + 2) k = kV κ f1 i1 (c1 + 2) k := fun k hk => by
    rw [F5 f0 i0 (c0 + 2) (by omega)]
    show kV (setA κ1 f0 i0 (c0 + 2) _) f0 i0 (c0 + 2) k = _
    rw [aS ⟨rfl, rfl, rfl⟩, cpy_0, if_pos hk, F1 f1 i1 (c1 + 2) (by omega)]
  have V3 : ∀ k, k < 32 → kV κ5 f0 i0 (c0 + 3) k = kV κ f1 i1 (c1 + 3) k := fun k hk => by
    show kV (setA κ3 f0 i0 (c0 + 3) _) f0 i0 (c0 + 3) k = _
    rw [aS ⟨rfl, rfl, rfl⟩, cpy_0, if_pos hk, F3 f1 i1 (c1 + 3) (by omega), F1 f1 i1 (c1 + 3) (by omega)]
  have S5 : ∀ k, kV κ5 f1 i1 c1 k = kV κ f1 i1 c1 k := fun k => by rw [G5 f1 i1 c1 (by omega)]
  let x : Nat → Int32 := kV κ f1 i1 c1
  let κ13 : K := setV (setV (setV (setV (setV (setV κ5 f0 i0 c0 3 (x 3)) f0 i0 c0 4 (x 4)) f0 i0 c0 5 (x 5)) f0 i0 c0 6 (x 6)) f0 i0 c0 7 (x 7)) f0 i0 c0 8 (x 8)
  let κ7 : K := setV κ5 f0 i0 c0 3 (x 3)
  let κ8 : K := setV κ7 f0 i0 c0 4 (x 4)
  let κ9 : K := setV κ8 f0 i0 c0 5 (x 5)
  let κ10 : K := setV κ9 f0 i0 c0 6 (x 6)
  let κ11 : K := setV κ10 f0 i0 c0 7 (x 7)
  have s7 : ∀ k, kV κ7 f1 i1 c1 k = x k := fun k => (vD (by omega)).trans (S5 k)
  have s8 : ∀ k, kV κ8 f1 i1 c1 k = x k := fun k => (vD (by omega)).trans (s7 k)
  have s9 : ∀ k, kV κ9 f1 i1 c1 k = x k := fun k => (vD (by omega)).trans (s8 k)
  have s10 : ∀ k, kV κ10 f1 i1 c1 k = x k := fun k => (vD (by omega)).trans (s9 k)
  have s11 : ∀ k, kV κ11 f1 i1 c1 k = x k := fun k => (vD (by omega)).trans (s10 k)
  have ev : f_X3_copyFrom E κ f0 i0 c0 f1 i1 c1 = some (κ13, ()) := by
    rw [f_X3_copyFrom, gd_t (by decide), nmE, gd_t (by decide), nmE, gd_t (by decide), nmE, t4, t8, t32, cl0]
    show nm (setV κ5 f0 i0 c0 3 (kV κ5 f1 i1 c1 3)) _ = _
    rw [S5 3, nmE]
    show nm (setV κ7 f0 i0 c0 4 (kV κ7 f1 i1 c1 4)) _ = _
    rw [s7 4, nmE]
    show nm (setV κ8 f0 i0 c0 5 (kV κ8 f1 i1 c1 5)) _ = _
    rw [s8 5, nmE]
    show nm (setV κ9 f0 i0 c0 6 (kV κ9 f1 i1 c1 6)) _ = _
    rw [s9 6, nmE]
    show gd (kV κ10 f1 i1 c1 7 = 0 ∨ kV κ10 f1 i1 c1 7 = 1) (nm (setV κ10 f0 i0 c0 7 (kV κ10 f1 i1 c1 7)) _) = _
    rw [s10 7, gd_t h7, nmE]
    show nm (setV κ11 f0 i0 c0 8 (kV κ11 f1 i1 c1 8)) _ = _
    rw [s11 8, nmE]
  have E13 : ∀ f i c k, ¬ (f = f0 ∧ i = i0 ∧ c = c0) → kV κ13 f i c k = kV κ5 f i c k := fun f i c k z => by
    show kV (setV (setV (setV (setV (setV (setV κ5 f0 i0 c0 3 (x 3)) f0 i0 c0 4 (x 4)) f0 i0 c0 5 (x 5)) f0 i0 c0 6 (x 6)) f0 i0 c0 7 (x 7)) f0 i0 c0 8 (x 8)) f i c k = _
    rw [vD (by omega), vD (by omega), vD (by omega), vD (by omega), vD (by omega), vD (by omega)]
  refine ⟨κ13, ev, fun f i c z => ?_, fun j k hr => ?_, rfl, rfl, rfl⟩
  · funext k
    rw [E13 f i c k (by omega), G5 f i c (by omega)]
  · rcases hr with ⟨rfl, h1, h2⟩ | ⟨rfl, h⟩ | ⟨rfl, h⟩ | ⟨rfl, h⟩
    · show kV (setV (setV (setV (setV (setV (setV κ5 f0 i0 c0 3 (x 3)) f0 i0 c0 4 (x 4)) f0 i0 c0 5 (x 5)) f0 i0 c0 6 (x 6)) f0 i0 c0 7 (x 7)) f0 i0 c0 8 (x 8)) f0 i0 c0 k = x k
      have : k = 3 ∨ k = 4 ∨ k = 5 ∨ k = 6 ∨ k = 7 ∨ k = 8 := by omega
      rcases this with rfl | rfl | rfl | rfl | rfl | rfl
      · rw [vD (by omega), vD (by omega), vD (by omega), vD (by omega), vD (by omega), vS ⟨rfl, rfl, rfl, rfl⟩]
      · rw [vD (by omega), vD (by omega), vD (by omega), vD (by omega), vS ⟨rfl, rfl, rfl, rfl⟩]
      · rw [vD (by omega), vD (by omega), vD (by omega), vS ⟨rfl, rfl, rfl, rfl⟩]
      · rw [vD (by omega), vD (by omega), vS ⟨rfl, rfl, rfl, rfl⟩]
      · rw [vD (by omega), vS ⟨rfl, rfl, rfl, rfl⟩]
      · rw [vS ⟨rfl, rfl, rfl, rfl⟩]
    · rw [E13 _ _ _ k (by omega)]; exact V1 k h
    · rw [E13 _ _ _ k (by omega)]; exact V2 k h
    · rw [E13 _ _ _ k (by omega)]; exact V3 k h
/-- the four rows of a state -/
def FOUR (κ : K) (f i c s1 s2 s3 s4 : Nat) (a1 a2 a3 a4 : Nat → Int32) : Prop := NUM κ f i (c + 5) s1 a1 ∧ NUM κ f i (c + 7) s2 a2 ∧ NUM κ f i (c + 9) s3 a3 ∧ NUM κ f i (c + 11) s4 a4
theorem NUM_chg {κ κ' : K} {f i c n s f2 i2 c2 m : Nat} {q : Nat → Int32} (h : NUM κ f2 i2 c2 m q) (hc : CHN n s κ κ' f i c) (hne : ¬ (f2 = f ∧ i2 = i ∧ (c2 = c ∨ c2 + 1 = c ∨ c2 = c + 1))) : NUM κ' f2 i2 c2 m q := NUM_K h (by rw [hc.1 f2 i2 c2 (by omega)]) (hc.1 f2 i2 (c2 + 1) (by omega)) (hc.2.2.1 f2 i2 (c2 + 1) (by omega))
/-- and a state -/
theorem copy8 {E : EE} {κ : K} {n ns f0 i0 c0 f1 i1 c1 s1 s2 s3 s4 d1 d2 d3 d4 : Nat} {a1 a2 a3 a4 b1 b2 b3 b4 : Nat → Int32} (hd : ¬ (f1 = f0 ∧ i1 = i0 ∧ c1 < c0 + 13 ∧ c0 < c1 + 13)) (hM7 : kV κ f1 i1 (c1 + 1) 7 = 0 ∨ kV κ f1 i1 (c1 + 1) 7 = 1) (h7 : kV κ f1 i1 c1 7 = 0 ∨ kV κ f1 i1 c1 7 = 1) (h8 : kV κ f1 i1 c1 8 = 0 ∨ kV κ f1 i1 c1 8 = 1) (hS : FOUR κ f1 i1 c1 s1 s2 s3 s4 a1 a2 a3 a4) (hD : FOUR κ f0 i0 c0 d1 d2 d3 d4 b1 b2 b3 b4) (hm : ∀ j, j = 6 ∨ j = 8 ∨ j = 10 ∨ j = 12 → (f0, i0, c0 + j) ∈ numPl ∧ aliveN n ns (f0, i0, c0 + j) = true) : ∃ κ', f_X8_copyFrom E κ f0 i0 c0 f1 i1 c1 = some (κ', ()) ∧ (∀ f i c, ¬ (f = f0 ∧ i = i0 ∧ c0 ≤ c ∧ c < c0 + 13) → kV κ' f i c = kV κ f i c) ∧ (∀ f i c, ¬ (f = f0 ∧ i = i0 ∧ c0 ≤ c ∧ c < c0 + 13) → kN κ' f i c = kN κ f i c) ∧ kP κ' = kP κ ∧ PAID n ns 0 0 κ κ' ∧ (∀ j k, rel j k → kV κ' f0 i0 (c0 + 1 + j) k = kV κ f1 i1 (c1 + 1 + j) k) ∧ FOUR κ' f0 i0 c0 s1 s2 s3 s4 a1 a2 a3 a4 ∧ ∀ k, 5 ≤ k → k ≤ 9 → kV κ' f0 i0 c0 k = kV κ f1 i1 c1 k := by
  obtain ⟨A, p1, p2, p3, p4, p5, p6⟩ := copy3 (E := E) (κ := κ) (f0 := f0) (i0 := i0) (c0 := c0 + 1) (f1 := f1) (i1 := i1) (c1 := c1 + 1) (by omega) hM7
  have eA : ∀ f i c, ¬ (f = f0 ∧ i = i0 ∧ c0 ≤ c ∧ c < c0 + 5) → kV A f i c = kV κ f i c := fun f i c z => p2 f i c (by omega)
  have mv : ∀ {f i c s q}, NUM κ f i c s q → ¬ (f = f0 ∧ i = i0 ∧ c0 ≤ c + 1 ∧ c < c0 + 5) → NUM A f i c s q := fun h z => NUM_K h (by rw [eA _ _ _ (by omega)]) (eA _ _ _ (by omega)) (by rw [p4])
  obtain ⟨S1, S2, S3, S4⟩ := hS
  obtain ⟨D1, D2, D3, D4⟩ := hD
  obtain ⟨B1, q1, r1, t1⟩ := n_copy (E := E) (n0 := n) (s0 := ns) (mv D1 (by omega)) (mv S1 (by omega)) (by omega) (hm 6 (by omega)).1 (hm 6 (by omega)).2
  obtain ⟨B2, q2, r2, t2⟩ := n_copy (E := E) (n0 := n) (s0 := ns) (NUM_chg (mv D2 (by omega)) r1 (by omega)) (NUM_chg (mv S2 (by omega)) r1 (by omega)) (by omega) (hm 8 (by omega)).1 (hm 8 (by omega)).2
  obtain ⟨B3, q3, r3, t3⟩ := n_copy (E := E) (n0 := n) (s0 := ns) (NUM_chg (NUM_chg (mv D3 (by omega)) r1 (by omega)) r2 (by omega)) (NUM_chg (NUM_chg (mv S3 (by omega)) r1 (by omega)) r2 (by omega)) (by omega) (hm 10 (by omega)).1 (hm 10 (by omega)).2
  obtain ⟨B4, q4, r4, t4⟩ := n_copy (E := E) (n0 := n) (s0 := ns) (NUM_chg (NUM_chg (NUM_chg (mv D4 (by omega)) r1 (by omega)) r2 (by omega)) r3 (by omega)) (NUM_chg (NUM_chg (NUM_chg (mv S4 (by omega)) r1 (by omega)) r2 (by omega)) r3 (by omega)) (by omega) (hm 12 (by omega)).1 (hm 12 (by omega)).2
  have eB : ∀ f i c, ¬ (f = f0 ∧ i = i0 ∧ c0 + 5 ≤ c ∧ c < c0 + 13) → kV B4 f i c = kV A f i c := fun f i c z => by
    rw [r4.1 f i c (by omega), r3.1 f i c (by omega), r2.1 f i c (by omega), r1.1 f i c (by omega)]
  have nB : ∀ f i c, ¬ (f = f0 ∧ i = i0 ∧ c0 ≤ c ∧ c < c0 + 13) → kN B4 f i c = kN κ f i c := fun f i c z => by
    rw [r4.2.2.1 f i c (by omega), r3.2.2.1 f i c (by omega), r2.2.2.1 f i c (by omega), r1.2.2.1 f i c (by omega), p4]
  let x : Nat → Int32 := kV κ f1 i1 c1
  have xB : ∀ k, kV B4 f1 i1 c1 k = x k := fun k => by rw [eB f1 i1 c1 (by omega), eA f1 i1 c1 (by omega)]
  let R : K := setV (setV (setV (setV (setV B4 f0 i0 c0 5 (x 5)) f0 i0 c0 6 (x 6)) f0 i0 c0 7 (x 7)) f0 i0 c0 8 (x 8)) f0 i0 c0 9 (x 9)
  have eR : ∀ f i c, ¬ (f = f0 ∧ i = i0 ∧ c = c0) → kV R f i c = kV B4 f i c := fun f i c z => by
    funext k
    show kV (setV (setV (setV (setV (setV B4 f0 i0 c0 5 (x 5)) f0 i0 c0 6 (x 6)) f0 i0 c0 7 (x 7)) f0 i0 c0 8 (x 8)) f0 i0 c0 9 (x 9)) f i c k = _
    rw [vD (by omega), vD (by omega), vD (by omega), vD (by omega), vD (by omega)]
  have nR : ∀ {c s q}, NUM B4 f0 i0 c s q → c0 < c → NUM R f0 i0 c s q := fun h z => NUM_K h (by rw [eR _ _ _ (by omega)]) (eR _ _ _ (by omega)) rfl
  refine ⟨R, ?_, fun f i c z => by rw [eR f i c (by omega), eB f i c (by omega), eA f i c (by omega)], nB, ?_, ?_, fun j k hr => ?_, ⟨nR (NUM_chg (NUM_chg (NUM_chg t1 r2 (by omega)) r3 (by omega)) r4 (by omega)) (by omega), nR (NUM_chg (NUM_chg t2 r3 (by omega)) r4 (by omega)) (by omega), nR (NUM_chg t3 r4 (by omega)) (by omega), nR t4 (by omega)⟩, fun k h5 h9 => ?_⟩
  · rw [f_X8_copyFrom, p1, bd_s, q1, bd_s, q2, bd_s, q3, bd_s, q4, bd_s, xB 5, nmE, vD (by omega), xB 6, nmE, vD (by omega), vD (by omega), xB 7, gd_t h7, nmE, vD (by omega), vD (by omega), vD (by omega), xB 8, gd_t h8, nmE, vD (by omega), vD (by omega), vD (by omega), vD (by omega), xB 9, nmE]
  · show kP B4 = kP κ
    rw [r4.2.2.2.1, r3.2.2.2.1, r2.2.2.2.1, r1.2.2.2.1, p5]
  · have := ((((PAID_same (n := n) (s := ns) p4 p6).trans r1.2.2.2.2).trans r2.2.2.2.2).trans r3.2.2.2.2).trans r4.2.2.2.2
    exact this.up (by omega) (by omega)
  · have hj : j < 4 := by
      unfold rel at hr
      omega
    rw [eR _ _ _ (by omega), eB _ _ _ (by omega)]
    exact p3 j k hr
  · show kV (setV (setV (setV (setV (setV B4 f0 i0 c0 5 (x 5)) f0 i0 c0 6 (x 6)) f0 i0 c0 7 (x 7)) f0 i0 c0 8 (x 8)) f0 i0 c0 9 (x 9)) f0 i0 c0 k = x k
    have : k = 5 ∨ k = 6 ∨ k = 7 ∨ k = 8 ∨ k = 9 := by omega
    rcases this with rfl | rfl | rfl | rfl | rfl
    · rw [vD (by omega), vD (by omega), vD (by omega), vD (by omega), vS ⟨rfl, rfl, rfl, rfl⟩]
    · rw [vD (by omega), vD (by omega), vD (by omega), vS ⟨rfl, rfl, rfl, rfl⟩]
    · rw [vD (by omega), vD (by omega), vS ⟨rfl, rfl, rfl, rfl⟩]
    · rw [vD (by omega), vS ⟨rfl, rfl, rfl, rfl⟩]
    · rw [vS ⟨rfl, rfl, rfl, rfl⟩]
/-! blocks of the model's rows -/
def blkM (μ : MU) (c at' : Nat) (f : Nat → Int32) (n : Nat) : MU := fun c' k => if c' = c ∧ at' ≤ k ∧ k < at' + n then f (k - at') else μ c' k
theorem blk_0 {μ : MU} {c a : Nat} {f : Nat → Int32} : blkM μ c a f 0 = μ := by
  funext c' k
  exact if_neg (by omega)
theorem blk_s {μ : MU} {c a n : Nat} {f : Nat → Int32} : mu (blkM μ c a f n) c (a + n) (f n) = blkM μ c a f (n + 1) := by
  funext c' k
  by_cases e : c' = c ∧ k = a + n
  · rw [muS e]
    show f n = if _ then _ else _
    rw [if_pos (by omega), e.2, show a + n - a = n from by omega]
  · rw [muD e]
    show (if _ then _ else _) = if _ then _ else _
    by_cases e2 : c' = c ∧ a ≤ k ∧ k < a + n
    · rw [if_pos e2, if_pos (by omega)]
    · rw [if_neg e2, if_neg (by omega)]
theorem blk_in {μ : MU} {c a n k : Nat} {f : Nat → Int32} (h : k < n) : blkM μ c a f n c (a + k) = f k := by
  show (if _ then _ else _) = _
  rw [if_pos (by omega), show a + k - a = k from by omega]
theorem blk_out {μ : MU} {c a n c' k : Nat} {f : Nat → Int32} (h : ¬ (c' = c ∧ a ≤ k ∧ k < a + n)) : blkM μ c a f n c' k = μ c' k := if_neg h
theorem blk_row {μ : MU} {c a n c' : Nat} {f : Nat → Int32} (h : c' ≠ c) : (blkM μ c a f n) c' = μ c' := by
  funext k
  exact blk_out (fun z => h z.1)
/-- the model keeps a state -/
def tmrM (μ : MU) (g : Nat) : Int32 := if μ 1 (55 * g + 50) = -1 then -1 else μ 1 (55 * g + 50) - μ 0 41
def kp1M (μ : MU) (c2 a g : Nat) : MU := mu (mu (blkM μ c2 a (row μ g) 55) c2 (a + 50) (tmrM μ g)) c2 (a + 53) (clockM μ g)
def kpM (μ : MU) (c2 a c4 q g m : Nat) : MU := blkM (kp1M μ c2 a g) c4 q (fun k => μ 2 (512 * g + k)) m
theorem kp1_row {μ : MU} {c2 a g c : Nat} (h : c ≠ c2) : (kp1M μ c2 a g) c = μ c := by
  unfold kp1M
  rw [mu_row h, mu_row h, blk_row h]
theorem m_keep {E : EE} {κ : K} {c2 a c4 q g m : Nat} (hg : g < 5) (hc : 2 < c2 ∧ c2 < 20 ∧ 2 < c4 ∧ c4 < 20 ∧ c2 ≠ c4) (ha : a + 55 ≤ sl 5 c2) (ha2 : sl 5 c2 < 100000) (hq : q + 512 ≤ sl 5 c4) (hq2 : sl 5 c4 < 100000) (hm : kV κ 5 0 1 (55 * g + 54) = nI m) (hm5 : m ≤ 512) : f_X11_keep E κ (nI g) 5 0 c2 (nI a) 5 0 c4 (nI q) = some (putM κ (kpM (kV κ 5 0) c2 a c4 q g m), ()) := by
  have l3 : ∀ d k mm, k + d = m → d < mm → f_X11_keep_b91 E 5 0 c2 5 0 c4 mm (putM κ (kpM (kV κ 5 0) c2 a c4 q g k)) (nI g) (nI q) (nI k) = some (putM κ (kpM (kV κ 5 0) c2 a c4 q g m), ()) := by
    intro d
    induction d with
    | zero =>
      intro k mm hk hmm
      obtain ⟨mm, rfl⟩ : ∃ q, mm = q + 1 := ⟨mm - 1, by omega⟩
      have e : k = m := by omega
      subst e
      have e1 : (kpM (kV κ 5 0) c2 a c4 q g k) 1 (55 * g + 54) = nI k := by
        unfold kpM
        rw [blk_row (by omega), kp1_row (by omega)]
        exact hm
      rw [f_X11_keep_b91, l55, nI_mul, l54, nI_add, nI_cl (by omega), gdi (by omega), put_kV, e1, if_pos (by rw [nI_le' (by omega) (by omega)]; exact Nat.le_refl _)]
    | succ d ih =>
      intro k mm hk hmm
      obtain ⟨mm, rfl⟩ : ∃ q, mm = q + 1 := ⟨mm - 1, by omega⟩
      have e1 : (kpM (kV κ 5 0) c2 a c4 q g k) 1 (55 * g + 54) = nI m := by
        unfold kpM
        rw [blk_row (by omega), kp1_row (by omega)]
        exact hm
      have e2 : (kpM (kV κ 5 0) c2 a c4 q g k) 2 (512 * g + k) = kV κ 5 0 2 (512 * g + k) := by
        unfold kpM
        rw [blk_row (by omega), kp1_row (by omega)]
      rw [f_X11_keep_b91, l55, nI_mul, l54, nI_add, nI_cl (by omega), gdi (by omega), put_kV, e1, if_neg (by rw [nI_le' (by omega) (by omega)]; omega), l512, nI_mul, nI_add, nI_cl (by omega), gdi (by omega), nI_add, nI_cl (by omega), gdi (by omega), e2, nmE, nI_1, nmE, set5, put_kV, put_put, show mu (kpM (kV κ 5 0) c2 a c4 q g k) c4 (q + k) (kV κ 5 0 2 (512 * g + k)) = kpM (kV κ 5 0) c2 a c4 q g (k + 1) from blk_s (f := fun k => kV κ 5 0 2 (512 * g + k))]
      exact ih (k + 1) mm (by omega) (by omega)
  have hb : ∀ c k, c ≠ c2 → (mu (blkM (kV κ 5 0) c2 a (row (kV κ 5 0) g) 55) c2 (a + 50) (tmrM (kV κ 5 0) g)) c k = kV κ 5 0 c k := fun c k h => by rw [mu_row h, blk_row h]
  have l2 : ∀ y : Int32, y = tmrM (kV κ 5 0) g → f_X11_keep_b76 E 5 0 c2 5 0 c4 (putM κ (blkM (kV κ 5 0) c2 a (row (kV κ 5 0) g) 55)) (nI g) (nI a) (nI q) y (nI a + 50) = some (putM κ (kpM (kV κ 5 0) c2 a c4 q g m), ()) := fun y hy => by
    have := l3 m 0 FU (by omega) (by unfold FU; omega)
    rw [nI_0, show kpM (kV κ 5 0) c2 a c4 q g 0 = kp1M (kV κ 5 0) c2 a g from blk_0] at this
    rw [hy, f_X11_keep_b76, l50, nI_add, nI_cl (by omega), gdi (by omega), nmE, m_clock hg, bd_s, l53, nI_add, nI_cl (by omega), gdi (by omega), nmE]
    simp only [set5, put_kV, put_put]
    rw [clock_e (μ := kV κ 5 0) (hb 0 41 (by omega)) (hb 20 g (by omega)) (hb 21 g (by omega)) (hb 22 g (by omega))]
    exact this
  have l1 : ∀ d k mm, k + d = 55 → d < mm → f_X11_keep_b3 E 5 0 c2 5 0 c4 mm (putM κ (blkM (kV κ 5 0) c2 a (row (kV κ 5 0) g) k)) (nI g) (nI a) (nI q) (nI k) = some (putM κ (kpM (kV κ 5 0) c2 a c4 q g m), ()) := by
    intro d
    induction d with
    | zero =>
      intro k mm hk hmm
      obtain ⟨mm, rfl⟩ : ∃ q, mm = q + 1 := ⟨mm - 1, by omega⟩
      have e : k = 55 := by omega
      subst e
      have e50 : (blkM (kV κ 5 0) c2 a (row (kV κ 5 0) g) 55) 1 (55 * g + 50) = kV κ 5 0 1 (55 * g + 50) := by rw [blk_row (by omega)]
      rw [f_X11_keep_b3, if_pos (show (55 : Int32) ≤ nI 55 by decide), f_X11_keep_b34, l55, nI_mul, show nI (55 * g) + 50 = nI (55 * g + 50) from by rw [l50, nI_add], nI_cl (by omega), gdi (by omega), put_kV, e50]
      by_cases z : kV κ 5 0 1 (55 * g + 50) = -1
      · rw [if_pos z]
        exact l2 _ (by unfold tmrM; rw [if_pos z])
      · rw [if_neg z, gdi (by omega), blk_row (show 0 ≠ c2 by omega)]
        exact l2 _ (by unfold tmrM; rw [if_neg z])
    | succ d ih =>
      intro k mm hk hmm
      obtain ⟨mm, rfl⟩ : ∃ q, mm = q + 1 := ⟨mm - 1, by omega⟩
      rw [f_X11_keep_b3, l55, if_neg (by rw [nI_le' (by omega) (by omega)]; omega), nI_mul, nI_add, nI_cl (by omega), gdi (by omega), nI_add, nI_cl (by omega), gdi (by omega), put_kV, blk_row (show 1 ≠ c2 by omega), nmE, nI_1, nmE, set5, put_kV, put_put, show mu (blkM (kV κ 5 0) c2 a (row (kV κ 5 0) g) k) c2 (a + k) (kV κ 5 0 1 (55 * g + k)) = blkM (kV κ 5 0) c2 a (row (kV κ 5 0) g) (k + 1) from blk_s (f := row (kV κ 5 0) g)]
      exact ih (k + 1) mm (by omega) (by omega)
  have := l1 55 0 FU (by omega) (by unfold FU; omega)
  rw [nI_0, blk_0, put_self] at this
  exact this
