/-! A WHOLE HALL: what is asked of it -/
theorem plain_cls2 {E : EE} {κ : K} {μ : MU} {n ns t C g : Nat} (hR : REL E κ μ n ns t C) (hg : g < n) (hd : kV κ 0 g 0 18 = 0) : ∃ κ', f_X6_agrees (eP E) (kR E κ g) (cntE E 3) g = some (κ', 1) ∧ (∀ f i, ¬ (f = 3 ∧ i = cntE E 3) → kV κ' f i = kV κ f i ∧ kN κ' f i = kN κ f i ∧ kP κ' f i = kP κ f i) ∧ kC κ' = ((kC κ).1 + 5, (kC κ).2 + 58) := by
  obtain ⟨⟨g1, g2, g3, g4, g5⟩, _, ⟨m1, m2, m3, m4, m5⟩, _⟩ := id hR
  obtain ⟨hGg, hPg, hFg⟩ := m4 g hg
  obtain ⟨st, nT, nS, nJ, T, S, J, r, hLs, hst, l1, l2, l3, hr, l4, l5, hpl⟩ := hGg.2.2.2
  have hPL : PLN (kV κ 0 g) (mc (kV κ 0 g) 6) st nT nS nJ T S J := by
    rcases hpl with ⟨z, _⟩ | ⟨_, z⟩
    · rw [hd] at z; exact absurd z (by decide)
    · exact z
  have c0 : cntE E 0 = n := g1
  generalize hi : cntE E 3 = i
  have hk : kR E κ g = adK (addC κ 5 58) (nwF 3 i 5 fun c => c) (cX6 (eR E).length g) := by
    unfold kR
    rw [hi]
  have kv : ∀ f i', ¬ (f = 3 ∧ i' = i) → kV (kR E κ g) f i' = kV κ f i' ∧ kN (kR E κ g) f i' = kN κ f i' ∧ kP (kR E κ g) f i' = kP κ f i' := fun f i' z => by
    rw [hk]
    refine ⟨?_, ?_, ?_⟩
    · funext c; exact aK_Vn (nwF_n (by omega))
    · funext c; exact aK_Nn (nwF_n (by omega))
    · funext c; exact aK_Pn (nwF_n (by omega))
  have nv : ∀ c, c < 5 → ∀ k, kV (kR E κ g) 3 i c k = rvI ((cX6 (eR E).length g).getD c rz) k := fun c hc k => by
    rw [hk]
    exact aK_V ⟨rfl, rfl, hc⟩ k
  have np : kP (kR E κ g) 3 i 0 1 = some g := by
    rw [hk, aK_P ⟨rfl, rfl, by omega⟩]
    rfl
  have g0 : kV (kR E κ g) 0 g = kV κ 0 g := (kv 0 g (by omega)).1
  have mvn : ∀ {c s q}, NUM κ 0 g c s q → NUM (kR E κ g) 0 g c s q := fun {c s q} z => NUM_K z (by rw [g0]) (by rw [g0]) (by rw [(kv 0 g (by omega)).2.1])
  have hini : MEQ initM (mc (kV (kR E κ g) 3 i) 1) := by
    refine MEQ_rel fun j k hj => ?_
    show kV (kR E κ g) 3 i (1 + j) k = initM j k
    unfold initM
    rcases hj with ⟨rfl, k1, k2⟩ | ⟨rfl, _⟩ | ⟨rfl, hk⟩ | ⟨rfl, _⟩
    · rw [nv 1 (by omega)]
      obtain rfl | rfl | rfl | rfl | rfl | rfl : k = 3 ∨ k = 4 ∨ k = 5 ∨ k = 6 ∨ k = 7 ∨ k = 8 := by omega
      all_goals rfl
    · rw [nv (1 + 1) (by omega), if_neg (by omega), if_neg (by omega)]; rfl
    · rw [nv (1 + 2) (by omega), if_neg (by omega), if_pos rfl]
      obtain rfl | rfl | rfl | rfl | rfl | rfl | rfl | rfl : k = 0 ∨ k = 1 ∨ k = 2 ∨ k = 3 ∨ k = 4 ∨ k = 5 ∨ k = 6 ∨ k = 7 := by omega
      all_goals rfl
    · rw [nv (1 + 3) (by omega), if_neg (by omega), if_neg (by omega)]; rfl
  obtain ⟨κ', r1, r2⟩ := again_run (E := eP E) (κ0 := kR E κ g) (g := g) (i := i) (show g < cntE (eP E) 0 by show g < E.1; omega) (by rw [← hi]; show cntE E 3 < cntE E 3 + 1; omega) (⟨mvn hLs.1, mvn hLs.2.1, mvn hLs.2.2⟩ : LST (kR E κ g) g nT nS nJ T S J) (by rw [g0]; exact hst) l1 l2 l3 (by omega) np hini ⟨by rw [nv 0 (by omega)]; rfl, by rw [nv 0 (by omega)]; rfl, by rw [nv 0 (by omega)]; rfl⟩ (by rw [g0]; exact hPL)
  refine ⟨κ', r1, fun f i' z => ⟨?_, ?_, ?_⟩, ?_⟩
  · rw [r2.1 f i' (by omega), (kv f i' (by omega)).1]
  · rw [r2.2.1, (kv f i' (by omega)).2.1]
  · rw [r2.2.2.1, (kv f i' (by omega)).2.2]
  · rw [r2.2.2.2]; rfl
theorem Cov_pl {E : EE} {κ κ' : K} (hT : kT κ = none) (hk : ∀ f i, ¬ (f = 3 ∧ i = cntE E 3) → kV κ' f i = kV κ f i ∧ kN κ' f i = kN κ f i ∧ kP κ' f i = kP κ f i) : Cov (eP E, κ') (E, κ) := by
  intro ca e0 ad p e h
  unfold ctC at h ⊢
  dsimp only at h ⊢
  by_cases h7 : p.1 = 7
  · rw [if_pos h7, hT] at h
    split at h <;> cases h
  · rw [if_neg h7] at h ⊢
    by_cases hl : liveC E p.1 p.2.1 p.2.2 = true
    · rw [if_pos hl] at h
      have hi : p.2.1 < cntE E p.1 := by
        simp only [liveC, Bool.and_eq_true, decide_eq_true_eq] at hl
        exact hl.1.1
      have hl2 : liveC (eP E) p.1 p.2.1 p.2.2 = true := by
        by_cases h8 : p.1 = 8
        · rw [h8] at hl ⊢; exact hl
        · unfold eP
          rw [live_bmp_n h8 (Or.inr hi) rfl]
          exact hl
      rw [if_pos hl2]
      obtain ⟨k1, k2, k3⟩ := hk p.1 p.2.1 (fun z => by rw [z.1] at hi; omega)
      rw [k1, k2, k3]
      exact h
    · rw [if_neg hl] at h; cases h
/-- a guest is as on a plain machine -/
theorem qa_plain {E : EE} {κ : K} {n ns t C : Nat} (hR : REL E κ (kV κ 5 0) n ns t C) (hT : kT κ = none) {g : Nat} (hg : g < n) : ∃ (x' : EE × K) (da db : Nat), f_X10_isAsPlain E κ (nI g) = some (x', .inl 1) ∧ Cov x' (E, κ) ∧ kC x'.2 = ((kC κ).1 + da, (kC κ).2 + db) ∧ da ≤ 5 ∧ db ≤ 58 := by
  have hR0 := hR
  obtain ⟨⟨rfl, rfl, hO, h9⟩, ⟨q1, q2, q3, q4, q5⟩, hM, hQ, hS, hZ, hC⟩ := hR0
  have hn : E.1 ≤ 5 := hM.1.1.1
  have hgu : f_X10_guestAt E κ (nI g) = some (κ, .inl g) := guestAt_ok q1 hn hg
  by_cases hd : kV κ 0 g 0 18 = 0
  · obtain ⟨κ', s1, s2, s3⟩ := plain_cls2 hR hg hd
    refine ⟨(eP E, κ'), 5, 58, ?_, Cov_pl hT s2, s3, by decide, by decide⟩
    rw [f_X10_isAsPlain, hgu]
    show gd (g < cntE E 0) _ = _
    rw [gd_t (show g < cntE E 0 from hg), if_pos hd, gdp_t ((DG_all hR).2.2.2 _), s1]
    rfl
  · refine ⟨(E, κ), 0, 0, ?_, Cov.rf, rfl, by decide, by decide⟩
    rw [f_X10_isAsPlain, hgu]
    show gd (g < cntE E 0) _ = _
    rw [gd_t (show g < cntE E 0 from hg), if_neg hd]
/-! sets of frames, as bits -/
theorem nI_bits {a : Nat} (h : a < 4294967296) : (nI a).toBitVec.toNat = a := by
  show a % 2 ^ 32 = a
  exact Nat.mod_eq_of_lt h
theorem nI_or {a b : Nat} (ha : a < 65536) (hb : b < 65536) : nI a ||| nI b = nI (a ||| b) := by
  have hab : a ||| b < 2 ^ 16 := Nat.or_lt_two_pow ha hb
  apply Int32.toBitVec_inj.mp
  apply BitVec.eq_of_toNat_eq
  rw [Int32.toBitVec_or, BitVec.toNat_or, nI_bits (by omega), nI_bits (by omega), nI_bits (by omega)]
theorem nI_and1 {a : Nat} (ha : a < 65536) : nI a &&& nI 1 = nI (a % 2) := by
  apply Int32.toBitVec_inj.mp
  apply BitVec.eq_of_toNat_eq
  rw [Int32.toBitVec_and, BitVec.toNat_and, nI_bits (by omega), nI_bits (by omega), nI_bits (by omega)]
  exact Nat.and_one_is_mod a
theorem nI_shl : ∀ f, f < 16 → nI 1 <<< (nI f &&& 31) = nI (2 ^ f) := by decide +kernel
theorem shr_n : ∀ f, f < 16 → ((nI f &&& 31).toBitVec.smod 32).toNat = f := by decide +kernel
theorem nI_shr {S f : Nat} (hS : S < 65536) (hf : f < 16) : nI S >>> (nI f &&& 31) = nI (S / 2 ^ f) := by
  have hd : S / 2 ^ f ≤ S := Nat.div_le_self _ _
  refine nI_of_toInt (by omega) ?_
  show ((nI S).toBitVec.sshiftRight' ((nI f &&& 31).toBitVec.smod 32)).toInt = _
  rw [BitVec.toInt_sshiftRight', shr_n f hf]
  show (nI S).toInt >>> f = _
  rw [nI_toInt (by omega), Int.shiftRight_eq_div_pow]
  rfl
def setS (w : MU) : Nat → Nat
  | 0 => 0
  | m + 1 => if w 1 m < 0 then setS w m else setS w m ||| 2 ^ (w 1 m).toNatClampNeg
def cntB (S : Nat) : Nat → Nat
  | 0 => 0
  | f + 1 => cntB S f + S / 2 ^ f % 2
theorem cntB_le (S : Nat) : ∀ f, cntB S f ≤ f
  | 0 => Nat.le_refl _
  | f + 1 => by
    have := cntB_le S f
    unfold cntB
    omega
def FKO (w : MU) : Prop := ∀ key, key < 40 → w 1 key = -1 ∨ ∃ f, f < 16 ∧ w 1 key = nI f
theorem setS_no {w : MU} {m : Nat} (h : w 1 m = -1) : setS w (m + 1) = setS w m := by
  show (if w 1 m < 0 then _ else _) = _
  rw [h, if_pos (by decide)]
theorem setS_f {w : MU} {m f : Nat} (hf : f < 16) (h : w 1 m = nI f) : setS w (m + 1) = setS w m ||| 2 ^ f := by
  show (if w 1 m < 0 then _ else _) = _
  rw [h, if_neg (nI_pos (by omega)), nI_cl (by omega)]
theorem pow16 {f : Nat} (h : f < 16) : 2 ^ f < 65536 := Nat.pow_lt_pow_right (by decide) h
theorem setS_lt {w : MU} (hw : FKO w) : ∀ m, m ≤ 40 → setS w m < 65536
  | 0, _ => by show 0 < 65536; decide
  | m + 1, hm => by
    have ih := setS_lt hw m (by omega)
    rcases hw m (by omega) with h | ⟨f, hf, h⟩
    · rw [setS_no h]; exact ih
    · rw [setS_f hf h]
      exact Nat.or_lt_two_pow (n := 16) ih (pow16 hf)
theorem setS_bit {w : MU} (hw : FKO w) {f : Nat} (hf : f < 16) : ∀ m, m ≤ 40 → ((setS w m).testBit f = true ↔ cntU (inF w (nI f)) m ≠ 0)
  | 0, _ => by
    show (Nat.testBit 0 f = true) ↔ (0 : Nat) ≠ 0
    rw [Nat.zero_testBit]
    exact ⟨fun z => (by cases z), fun z => absurd rfl z⟩
  | m + 1, hm => by
    have ih := setS_bit hw hf m (by omega)
    have hc : cntU (inF w (nI f)) (m + 1) = cntU (inF w (nI f)) m + (if inF w (nI f) m = true then 1 else 0) := rfl
    rcases hw m (by omega) with h | ⟨f', hf', h⟩
    · rw [setS_no h, ih, hc, if_neg]
      · rfl
      · unfold inF
        rw [h, decide_eq_true_eq]
        intro z
        have z2 := (nI_m1 (n := f) (by omega)).mp z.symm
        exact z2
    · rw [setS_f hf' h, Nat.testBit_or, Bool.or_eq_true, ih, hc, Nat.testBit_two_pow, decide_eq_true_eq]
      by_cases e : f' = f
      · rw [if_pos (by unfold inF; rw [h, e]; exact decide_eq_true rfl)]
        exact ⟨fun _ => by omega, fun _ => Or.inr e⟩
      · rw [if_neg (by
          unfold inF
          rw [h, decide_eq_true_eq, nI_eq' (by omega) (by omega)]
          exact e)]
        exact ⟨fun z => z.elim (fun q => by omega) (fun q => absurd q e), fun z => Or.inl (by omega)⟩
theorem cntB_us {w : MU} (hw : FKO w) : ∀ k, k ≤ 16 → cntB (setS w 40) k = usU w k
  | 0, _ => rfl
  | k + 1, hk => by
    have ih := cntB_us hw k (by omega)
    have hb := setS_bit hw (f := k) (by omega) 40 (Nat.le_refl _)
    show cntB _ k + _ = usU w k + _
    rw [ih]
    rw [Nat.testBit_eq_decide_div_mod_eq, decide_eq_true_eq] at hb
    have h2 : setS w 40 / 2 ^ k % 2 < 2 := Nat.mod_lt _ (by decide)
    by_cases e : cntU (inF w (nI k)) 40 = 0
    · rw [if_pos e]
      have : ¬ setS w 40 / 2 ^ k % 2 = 1 := fun z => hb.mp z e
      omega
    · rw [if_neg e, hb.mpr e]
theorem FKO_of {w μ : MU} {n h : Nat} (hR : RH w μ n h) (hF : FRM μ n) : FKO w := by
  intro key hk
  rw [hR.1 key hk]
  split
  · rename_i z
    rcases hF key z.1 with ⟨_, f, hf, e⟩ | ⟨_, e⟩
    · exact Or.inr ⟨f, hf, e⟩
    · exact Or.inl e
  · exact Or.inl rfl
/-- past the last guest nothing is added -/
theorem setS_end {w μ : MU} {n h : Nat} (hR : RH w μ n h) (hn : n ≤ 5) : ∀ d m, m + d = 40 → 8 * n ≤ m → setS w 40 = setS w m
  | 0, m, hm, _ => by rw [show m = 40 by omega]
  | d + 1, m, hm, h8 => by
    rw [setS_end hR hn d (m + 1) (by omega) (by omega)]
    exact setS_no (by rw [hR.1 m (by omega), if_neg (fun z => by have := z.1; omega)])
