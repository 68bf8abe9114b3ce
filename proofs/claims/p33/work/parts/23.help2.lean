section HELP2
variable {l0 : Launch} {X : MX} {B : BX (EE × K)} {g : GP} {cc : ByteArray} {own : String} {F L : Nat} {E : EE} {κ : K} {pc : Nat} {lv : List (Nat × AV)} {rest : List AV}
theorem ct_20n {ca : Nat → ClassId} {e0 : Nat} {f i c n : Nat} (hl : liveC E f i c = true) (hk : kd f c = 20) (hn : sl f c = n) (ad : Pl → Nat) : ctC ca e0 ad (E, κ) (f, i, c) = some (.inl (ca 0, n, .inl (kV κ f i c))) := by rw [← hn]; exact ct_20 hl hk ad
theorem ct_22n {ca : Nat → ClassId} {e0 : Nat} {f i c n : Nat} (hl : liveC E f i c = true) (hk : kd f c = 22) (hn : sl f c = n) (ad : Pl → Nat) : ctC ca e0 ad (E, κ) (f, i, c) = some (.inl (ca 1, n, .inl (kV κ f i c))) := by rw [← hn]; exact ct_22 hl hk ad
theorem nar_b {v : Int32} (h : v = 0 ∨ v = 1) : narrow .boolean (.int v) = .int v := by
  rcases h with h | h <;> rw [h] <;> decide
def mapX {α : Type} (f : α → Option AV) : α ⊕ Nat → Option AV ⊕ String
  | .inl v => .inl (f v)
  | .inr e => .inr (exN e)
theorem mw_arrI : Cond.arrayClass .int ∈ gwl := gwl_tb 103 rfl rfl
/-- a cast to the class that the object has -/
theorem J_cast (O : CK l0 X B g cc own F L) {f i c kd0 : Nat} (hkd : kd f c = kd0) (hl : liveC E f i c = true) {C : String} {T : u_T} {N index : Nat} (hc : vwCl[kd0]? = some (C, T, N)) (h12 : kd0 < 12) (w1 : Cond.classLink own index C ∈ gwl) (hd : decode cc pc = .ok (.checkcast index, 3)) (kk : J X B (E, κ) (pc + 3) lv (.inr (some (f, i, c)) :: rest)) : J X B (E, κ) pc lv (.inr (some (f, i, c)) :: rest) := by
  obtain ⟨OO, hB, hCst, hD⟩ := O
  obtain ⟨p, l, e, R, s, m, args, below, meth, c0, Q⟩ := X
  refine ⟨kk.1, fun fx ad H locs ls cells slots h1 h2 h3 h4 h5 => ?_⟩
  have hMO := (OO fx).1
  have h6 := (h1.1.at hB (ctC_live hl)).1
  rw [cell_obj (by rw [hkd]; exact h12), hkd] at h6
  exact va_castS hMO.1 hMO.2.1 hMO.2.2.2.1 (hMO.2.2.2.2.1 _ w1) (hMO.2.2.2.2.2.1.1 _ _ hc).2 (va_recv hMO.2.2.2.2.2.1 (va_P1 h6) hc (q0 := 0) rfl) hd (kk.2 fx ad H locs ls cells slots h1 h2 h3 h4 h5)
theorem J_acopy20 (O : CK l0 X B g cc own F L) {p : Pl} {n0 n1 : Nat} {f0 : Nat → Int32} {f i c : Nat} (hct : ∀ ad, ctC g.2.1 g.2.2.1 ad (E, κ) p = some (.inl (g.2.1 0, n0, .inl f0))) (hl : liveC E f i c = true) (hk : kd f c = 20) (hn : sl f c = n1)
    {sp dp n : Int32} (h1 : ¬ sp < 0) (h2 : ¬ dp < 0) (h3 : ¬ n < 0) (h4 : sp.toNatClampNeg + n.toNatClampNeg ≤ n0) (h5 : dp.toNatClampNeg + n.toNatClampNeg ≤ n1)
    {index : Nat} (w1 : Cond.methodLink own index arraycopyName ∈ gwl) (w2 : Cond.native arraycopyName ∈ gwl) (w3 : Cond.static arraycopyName ∈ gwl) (w4 : Cond.initialized "java/lang/System" ∈ gwl) (hF : 1 ≤ F) (hL : rest.length + (nativeFrameWords "java/lang/System" "arraycopy" 5 + 11) ≤ L) (hrc : rest.all cat1 = true) (hd : decode cc pc = .ok (.invokestatic index, 3))
    (kk : J X B (E, setA κ f i c (va_cpy f0 (kV κ f i c) sp.toNatClampNeg dp.toNatClampNeg n.toNatClampNeg)) (pc + 3) lv rest) : J X B (E, κ) pc lv (.inl (.int n) :: .inl (.int dp) :: .inr (some (f, i, c)) :: .inl (.int sp) :: .inr (some p) :: rest) := by
  obtain ⟨OO, hB, hCst, hD⟩ := O
  obtain ⟨p0, l, e, R, s, m, args, below, meth, c0, Q⟩ := X
  have hcst : B.2.2.2.2.1 (E, setA κ f i c (va_cpy f0 (kV κ f i c) sp.toNatClampNeg dp.toNatClampNeg n.toNatClampNeg)) = B.2.2.2.2.1 (E, κ) := by rw [hCst]; rfl
  refine ⟨by rw [← hcst]; exact kk.1, fun fx ad H locs ls cells slots k1 k2 k3 k4 k5 => ?_⟩
  obtain ⟨O1, hST, hSH, hF', hL', -⟩ := OO fx
  have hc1 := ct_20n (ca := g.2.1) (e0 := g.2.2.1) (κ := κ) hl hk hn ad
  have hc2 := ct_20n (ca := g.2.1) (e0 := g.2.2.1) (κ := setA κ f i c (va_cpy f0 (kV κ f i c) sp.toNatClampNeg dp.toNatClampNeg n.toNatClampNeg)) hl hk hn ad
  have g0 := k1.1.at hB (hct ad)
  have g1 := k1.1.at hB hc1
  refine copy_one O1.1 O1.2.1 (by rw [O1.2.2.1, k3.1]) O1.2.2.2.1 (O1.2.2.2.2.1 _ w1) (O1.2.2.2.2.1 _ w2) (O1.2.2.2.2.1 _ w3) (O1.2.2.2.2.1 _ w4) (O1.2.2.2.2.2.1.2 0 _ rfl).1 k2 g0.1 g1.1 g1.2 h1 h2 h3 h4 h5 (by rw [hF']; exact hF) (by rw [cat_sum ad rest hrc, hL']; exact hL) hd (fun H1 locs1 e1 e2 e3 => ?_)
  refine kk.2 fx ad H1 locs1 ls cells slots ⟨?_, k1.2⟩ e3 k3 (by rw [hcst]; exact k4) (by rw [hcst]; exact k5)
  refine Wd.set (p0 := (f, i, c)) k1.1 (by rw [hB]; exact hc1) (by rw [hB]; exact hc2) (fun q hq => by rw [hB]; exact ctC_setA hq) ?_ e2
  rw [setA_eq]
  exact e1
end HELP2
