theorem MEQ.v {m n : MU} {j k : Nat} (h : MEQ m n) (hr : rel j k) (hne : ¬ (j = 0 ∧ k = 8)) : n j k = m j k := h.1 j k hr hne
theorem MEQ.v0 {m n : MU} {k : Nat} (h : MEQ m n) (hk : 3 ≤ k ∧ k < 8) : n 0 k = m 0 k := h.1 0 k (Or.inl ⟨rfl, by omega, by omega⟩) (by omega)
theorem MEQ.v1 {m n : MU} {k : Nat} (h : MEQ m n) (hk : k < 4) : n 1 k = m 1 k := h.1 1 k (Or.inr (Or.inl ⟨rfl, hk⟩)) (by omega)
theorem MEQ.v2 {m n : MU} {k : Nat} (h : MEQ m n) (hk : k < 8) : n 2 k = m 2 k := h.1 2 k (Or.inr (Or.inr (Or.inl ⟨rfl, hk⟩))) (by omega)
theorem MEQ.v3 {m n : MU} {k : Nat} (h : MEQ m n) (hk : k < 32) : n 3 k = m 3 k := h.1 3 k (Or.inr (Or.inr (Or.inr ⟨rfl, hk⟩))) (by omega)
theorem MEQ.mu {m n : MU} {j k : Nat} {x y : Int32} (h : MEQ m n) (e : x = y) : MEQ (mu m j k x) (mu n j k y) := by
  subst e
  refine ⟨fun j' k' hr hne => ?_, ?_⟩
  · by_cases z : j' = j ∧ k' = k
    · rw [muS z, muS z]
    · rw [muD z, muD z]; exact h.1 j' k' hr hne
  · by_cases z : 0 = j ∧ 8 = k
    · rw [muS z, muS z]; exact Or.inl rfl
    · rw [muD z, muD z]; exact h.2
theorem MEQ.sym {m n : MU} (h : MEQ m n) : MEQ n m := ⟨fun j k hr hne => (h.1 j k hr hne).symm, h.2.imp (fun z => z.symm) (fun z => ⟨z.2, z.1⟩)⟩
theorem MEQ.rfl' {m : MU} : MEQ m m := MEQ_j fun _ _ => rfl
theorem MEQ.run {m n : MU} (h : MEQ m n) (h8 : m 0 8 = 0 ∨ m 0 8 = 1) : n 0 8 = 0 ∨ n 0 8 = 1 := by
  rcases h.2 with z | z
  · rw [z]; exact h8
  · exact z.2
theorem MOK_eq {m n : MU} (h : MEQ m n) (hk : MOK m) : MOK n := by
  obtain ⟨h1, h2, h3⟩ := hk
  exact ⟨fun k hk => by rw [h.v1 hk]; exact h1 k hk, fun k hk => by rw [h.v2 hk]; exact h2 k hk, by rw [h.v0 (by omega)]; exact h3⟩
theorem enter_MEQ {m n : MU} {w : Int32} (h : MEQ m n) : MEQ (enterC m w) (enterC n w) := by
  unfold enterC
  exact (((h.mu (h.v0 (by omega)).symm).mu (h.v0 (by omega)).symm).mu rfl).mu rfl
theorem fault_MEQ {m n : MU} (h : MEQ m n) : MEQ (faultC m) (faultC n) := by
  unfold faultC
  rw [h.v0 (k := 4) (by omega), h.v0 (k := 7) (by omega)]
  split
  · exact h.mu rfl
  · split
    · exact enter_MEQ h
    · exact h.mu rfl
theorem clr_MEQ {m n : MU} {p : Nat} (h : MEQ m n) : ∀ k, MEQ (clrC m p k) (clrC n p k)
  | 0 => h
  | k + 1 => (clr_MEQ h k).mu rfl
theorem ad_MEQ {m n : MU} {b : Nat} (h : MEQ m n) (hb : b < 4) : adC n b = adC m b := by
  unfold adC
  rw [h.v1 hb]
  by_cases e : 31 < (m 1 b).toNatClampNeg
  · rw [if_pos e, if_pos e]
  · rw [if_neg e, if_neg e, h.v2 (by omega)]
theorem acc_MEQ {m n : MU} {a q : Nat} {wr : Int32} (h : MEQ m n) (ha : a < 4) (hq : q < 32) : MEQ (accC m wr a q) (accC n wr a q) := by
  unfold accC
  rw [h.v1 ha, h.v3 hq, h.v0 (k := 3) (by omega)]
  split
  · exact (h.mu rfl).mu rfl
  · exact (h.mu rfl).mu rfl
theorem clr_03 {m : MU} {p k : Nat} : ∀ j, (clrC m p j) 0 k = m 0 k
  | 0 => rfl
  | j + 1 => by
    unfold clrC
    rw [muD (by omega)]
    exact clr_03 j
theorem step_MEQ {m n : MU} {w a b : Nat} {X X' : Int32} {p p' : Bool} (h : MEQ m n) (hk : MOK m) (h8 : m 0 8 = 0 ∨ m 0 8 = 1) (hw : w < 14) (hV : VN w a b) (hX : w = 7 → b ≠ 2 → X' = X) : MEQ (stepM m w a b X p) (stepM n w a b X' p') := by
  have e3 : n 0 3 = m 0 3 := h.v0 (by omega)
  obtain ⟨b1, b2, b3, b4, b5⟩ := hV
  have c : w = 0 ∨ w = 1 ∨ w = 2 ∨ w = 3 ∨ w = 4 ∨ w = 5 ∨ w = 6 ∨ w = 7 ∨ w = 8 ∨ w = 9 ∨ w = 10 ∨ w = 11 ∨ w = 12 ∨ w = 13 := by omega
  rcases c with rfl | rfl | rfl | rfl | rfl | rfl | rfl | rfl | rfl | rfl | rfl | rfl | rfl | rfl
  · show MEQ (mu (mu m 1 a (nI b)) 0 3 (m 0 3 + 1)) (mu (mu n 1 a (nI b)) 0 3 (n 0 3 + 1))
    exact (h.mu rfl).mu (by rw [e3])
  · show MEQ (mu (mu m 1 a ((m 1 a + m 1 b) - (m 1 a + m 1 b) / 10000 * 10000)) 0 3 (m 0 3 + 1)) (mu (mu n 1 a ((n 1 a + n 1 b) - (n 1 a + n 1 b) / 10000 * 10000)) 0 3 (n 0 3 + 1))
    rw [h.v1 (b1 (by omega)), h.v1 (b3 (by omega)), e3]
    exact (h.mu rfl).mu rfl
  · show MEQ (match adC m b with | none => faultC m | some q => accC m 0 a q) (match adC n b with | none => faultC n | some q => accC n 0 a q)
    rw [ad_MEQ h (b3 (by omega))]
    cases hq : adC m b with
    | none => exact fault_MEQ h
    | some q => exact acc_MEQ h (b1 (by omega)) (adC_lt hk (b3 (by omega)) hq).1
  · show MEQ (match adC m b with | none => faultC m | some q => accC m 1 a q) (match adC n b with | none => faultC n | some q => accC n 1 a q)
    rw [ad_MEQ h (b3 (by omega))]
    cases hq : adC m b with
    | none => exact fault_MEQ h
    | some q => exact acc_MEQ h (b1 (by omega)) (adC_lt hk (b3 (by omega)) hq).1
  · show MEQ (mu m 0 3 (if m 1 a = 0 then m 0 3 + 1 else nI b)) (mu n 0 3 (if n 1 a = 0 then n 0 3 + 1 else nI b))
    rw [h.v1 (b1 (by omega)), e3]
    exact h.mu rfl
  · show MEQ (mu (mu m 2 a (nI b)) 0 3 (m 0 3 + 1)) (mu (mu n 2 a (nI b)) 0 3 (n 0 3 + 1))
    exact (h.mu rfl).mu (by rw [e3])
  · show MEQ (mu m 0 3 (m 0 3 + 1)) (mu n 0 3 (n 0 3 + 1))
    exact h.mu (by rw [e3])
  · show MEQ (mu (mu m 1 a (if b = 2 then m 0 6 else X)) 0 3 (m 0 3 + 1)) (mu (mu n 1 a (if b = 2 then n 0 6 else X')) 0 3 (n 0 3 + 1))
    refine (h.mu ?_).mu (by rw [e3])
    by_cases z : b = 2
    · rw [if_pos z, if_pos z, h.v0 (by omega)]
    · rw [if_neg z, if_neg z, hX rfl z]
  · have key : ∀ (q : Bool) (n : MU), (n 0 8 = 0 ∨ n 0 8 = 1) → MEQ (mu n 0 3 (n 0 3 + 1)) (stepM n 8 a b X q) := fun q n h8 => by
      show MEQ _ (if q = true then mu n 0 3 (n 0 3 + 1) else mu (mu n 0 8 1) 0 3 (n 0 3 + 1))
      by_cases z : q = true
      · rw [if_pos z]; exact MEQ.rfl'
      · rw [if_neg z]
        refine MEQ.mu ⟨fun j k _ hne => muD (fun y => hne ⟨y.1, y.2⟩), Or.inr ⟨h8, ?_⟩⟩ rfl
        rw [muS ⟨rfl, rfl⟩]
        exact Or.inr rfl
    have k2 : MEQ (mu n 0 3 (n 0 3 + 1)) (stepM n 8 a b X' p') := key p' n (h.run h8)
    exact ((key p m h8).sym.trans (h.mu (by rw [e3]))).trans k2
  · show MEQ (mu (mu m 0 4 (nI b)) 0 3 (m 0 3 + 1)) (mu (mu n 0 4 (nI b)) 0 3 (n 0 3 + 1))
    exact (h.mu rfl).mu (by rw [e3])
  · show MEQ (mu (mu m 0 7 (nI b)) 0 3 (m 0 3 + 1)) (mu (mu n 0 7 (nI b)) 0 3 (n 0 3 + 1))
    exact (h.mu rfl).mu (by rw [e3])
  · show MEQ (mu (mu m 0 7 0) 0 3 (m 0 5)) (mu (mu n 0 7 0) 0 3 (n 0 5))
    exact (h.mu rfl).mu (h.v0 (by omega)).symm
  · show MEQ (mu (clrC m b 4) 0 3 (m 0 3 + 1)) (mu (clrC n b 4) 0 3 (n 0 3 + 1))
    exact (clr_MEQ h 4).mu (by rw [e3])
  · show MEQ (mu (mu m 0 8 2) 0 3 (m 0 3 + 1)) (mu (mu n 0 8 2) 0 3 (n 0 3 + 1))
    exact (h.mu rfl).mu (by rw [e3])
/-! a step of the one that runs again -/
def RST (κ : K) (i a b : Nat) : Prop := kV κ 3 i 0 2 = nI a ∧ kV κ 3 i 0 3 = nI b ∧ kV κ 3 i 0 4 = 1
def FR3 (κ κ' : K) (i : Nat) : Prop := (∀ f i', ¬ (f = 3 ∧ i' = i) → kV κ' f i' = kV κ f i') ∧ kN κ' = kN κ ∧ kP κ' = kP κ ∧ kC κ' = kC κ
theorem FR3.trans {κ κ1 κ2 : K} {i : Nat} (h : FR3 κ κ1 i) (h' : FR3 κ1 κ2 i) : FR3 κ κ2 i := ⟨fun f i' z => (h'.1 f i' z).trans (h.1 f i' z), h'.2.1.trans h.2.1, h'.2.2.1.trans h.2.2.1, h'.2.2.2.trans h.2.2.2⟩
theorem FR3.rfl' {κ : K} {i : Nat} : FR3 κ κ i := ⟨fun _ _ _ => rfl, rfl, rfl, rfl⟩
theorem FR3_pm {κ : K} {i : Nat} {m : MU} : FR3 κ (pm κ 3 i 1 m) i := ⟨fun f i' z => by funext c; exact pm_n (by omega), pm_N, pm_P, pm_C⟩
theorem FR3_set {κ : K} {i c k : Nat} {x : Int32} : FR3 κ (setV κ 3 i c k x) i := ⟨fun f i' z => by funext c' k'; exact vD (by omega), rfl, rfl, rfl⟩
theorem RST_pm {κ : K} {i a b : Nat} {m : MU} (h : RST κ i a b) : RST (pm κ 3 i 1 m) i a b := by
  unfold RST
  rw [pm_n (by omega)]
  exact h
theorem r_step {E : EE} {κ : K} {P m m' : MU} {g i a a' b b' nT nS : Nat} {T S : Nat → Int32} (hg : g < cntE E 0) (hp : kP κ 3 i 0 1 = some g) (hP : P = kV κ 0 g) (h : STEPR P m m' a a' b b' T S) (he : MEQ m (mc (kV κ 3 i) 1)) (h8 : m 0 8 = 0 ∨ m 0 8 = 1) (hr : RST κ i a b) (hT : NUM κ 0 g 12 nT T) (hS : NUM κ 0 g 14 nS S) (ha : a' ≤ nT) (hb : b' ≤ nS) : ∃ κ', f_X3_doNext_R E κ 3 i 1 g i = some (κ', ()) ∧ MEQ m' (mc (kV κ' 3 i) 1) ∧ RST κ' i a' b' ∧ FR3 κ κ' i := by
  obtain ⟨hmk, h⟩ := h
  have hrk : MOK (mc (kV κ 3 i) 1) := MOK_eq he hmk
  have hcT := CAP_ge hT.2.2.1
  have hcS := CAP_ge hS.2.2.1
  have hT2 : nT ≤ kN κ 0 g 13 := hT.2.1
  have hS2 : nS ≤ kN κ 0 g 15 := hS.2.1
  have hT4 : kN κ 0 g 13 ≤ 6000 := hcT.2
  have hS4 : kN κ 0 g 15 ≤ 6000 := hcS.2
  have em : ∀ j, j < 4 → kV κ 3 i (1 + j) = (mc (kV κ 3 i) 1) j := fun _ _ => rfl
  rcases h with ⟨x, N, x1, x2, x3, x4, x5, x6, rfl, rfl⟩ | ⟨x, N, w, u, v, X, pd, x1, x2, x3, x4, x5, x6, x7, hV, x9, x10, x11, x12, x13⟩
  · have e3 : kV κ 3 i 1 3 = nI x := (he.v0 (k := 3) (by omega)).trans x1
    refine ⟨_, c_stopR (m := mc (kV κ 3 i) 1) em e3 x5 (by rw [← hP]; exact x3) x4 x2, ?_, RST_pm hr, FR3_pm⟩
    exact (x6.sym.trans (he.mu rfl)).trans (MEQ_j pm_mc)
  · have e3 : kV κ 3 i 1 3 = nI x := (he.v0 (k := 3) (by omega)).trans x1
    subst hP
    have hw14 : w < 14 := hV.1
    have hVN := hV.vn
    have hfetch := c_fetchR (E := E) (κ := κ) (f := 3) (i := i) (c := 1) (g := g) (s := i) e3 x2 x3 x4 x6 x7 x5
    have fin : ∀ (κ1 : K) (X' : Int32) (p' : Bool), FR3 κ κ1 i → RST κ1 i a' b' → (w = 7 → v.toNatClampNeg ≠ 2 → X' = X) → MEQ m' (mc (kV (pm κ1 3 i 1 (stepM (mc (kV κ 3 i) 1) w u.toNatClampNeg v.toNatClampNeg X' p')) 3 i) 1) ∧ RST (pm κ1 3 i 1 (stepM (mc (kV κ 3 i) 1) w u.toNatClampNeg v.toNatClampNeg X' p')) i a' b' ∧ FR3 κ (pm κ1 3 i 1 (stepM (mc (kV κ 3 i) 1) w u.toNatClampNeg v.toNatClampNeg X' p')) i := fun κ1 X' p' f1 f2 f3 => ⟨(x9.sym.trans (step_MEQ he hmk h8 hw14 hVN f3)).trans (MEQ_j pm_mc), RST_pm f2, f1.trans FR3_pm⟩
    have same : w ≠ 7 → w ≠ 6 → RST κ i a' b' := fun y z => by
      rw [x10, x12, if_neg (fun q => y q.1), if_neg (fun q => z q.1)]
      exact hr
    have cs : (w = 0 ∨ w = 1 ∨ w = 4 ∨ w = 5 ∨ w = 9 ∨ w = 10 ∨ w = 11) ∨ (w = 2 ∨ w = 3) ∨ w = 6 ∨ w = 7 ∨ (w = 8 ∨ w = 13) ∨ w = 12 := by omega
    rcases cs with hw | hw | rfl | rfl | hw | rfl
    · have hc := c_chgR (E := E) (κ := κ) (f := 3) (i := i) (c := 1) (s := i) (X := 0) (m := mc (kV κ 3 i) 1) (pend := false) hV hw
      rw [pm_self] at hc
      refine ⟨_, ?_, fin κ 0 false FR3.rfl' (same (by omega) (by omega)) (fun z => by omega)⟩
      rw [hfetch]
      rcases hw with rfl | rfl | rfl | rfl | rfl | rfl | rfl <;> (rw [if_neg (by decide), if_neg (by decide), if_neg (by decide), if_neg (by decide), if_neg (by decide), if_neg (by decide), hc, bd_s])
    · have hia := hVN.1 (by omega)
      have hjb := hVN.2.2.1 (by omega)
      obtain ⟨u, hi4, rfl⟩ := hV.2.1 (by omega)
      obtain ⟨v, hj4, rfl⟩ := hV.2.2.2.1 (by omega)
      rw [nI_cl (by omega), nI_cl (by omega)] at *
      have hc := c_lsR (E := E) (κ := κ) (f := 3) (i := i) (c := 1) (g := g) (s := i) (m := mc (kV κ 3 i) 1) hrk hi4 hj4 hw em κ (fun q _ => ⟨rfl, em⟩) (fun _ => rfl)
      refine ⟨_, ?_, fin κ 0 false FR3.rfl' (same (by omega) (by omega)) (fun z => by omega)⟩
      rw [hfetch]
      rcases hw with rfl | rfl
      · rw [if_pos (show nI 2 = 2 from rfl)]; exact hc
      · rw [if_neg (show ¬ nI 3 = 2 by decide), if_pos (show nI 3 = 3 from rfl)]; exact hc
    · -- OUT
      have hia := hVN.1 (by omega)
      obtain ⟨u, hi4, rfl⟩ := hV.2.1 (by omega)
      obtain ⟨v, hj2, rfl⟩ := hV.2.2.2.2.2.2.2.1 (by omega)
      rw [nI_cl (by omega), nI_cl (by omega)] at *
      have h113 : f_X3_doNext_R E κ 3 i 1 g i = f_X3_doNext_R_b113 E 3 i 1 g i κ (nI u) (nI v) (nI 6) := by
        rw [hfetch, if_neg (show ¬ nI 6 = 2 by decide), if_neg (show ¬ nI 6 = 3 by decide), if_pos (show nI 6 = 6 from rfl)]
      by_cases hv0 : v = 0
      · subst hv0
        have eb : b' = b + 1 := by rw [x12, if_pos ⟨rfl, rfl⟩]
        have ea : a' = a := by rw [x10, if_neg (fun q => by omega)]; rfl
        have eS : kV κ 0 g 15 b = (mc (kV κ 3 i) 1) 1 u := by
          rw [he.v1 hi4, ← x13 rfl rfl]
          exact hS.2.2.2 b (by omega)
        have htell : f_X6_tell E κ i (nI 0) ((mc (kV κ 3 i) 1) 1 u) = some (setV (setV κ 3 i 0 4 1) 3 i 0 3 (nI (b + 1)), ()) := by
          rw [f_X6_tell, if_pos (show nI 0 = 0 from rfl), hr.2.2, if_neg (by decide), hp, optG_s hg, hr.2.1, hS.1, if_neg (by rw [nI_le' (by omega) (by omega)]; omega), optG_s hg, nI_cl (by omega), gdi (by omega), eS, if_pos rfl, f_X6_tell_b54, gd_t (Or.inr rfl), nmE, vD (by omega), hr.2.1, nI_1, nmE]
        have hc := c_outR (E := E) (κ := κ) (κ1 := κ) (κ2 := setV (setV κ 3 i 0 4 1) 3 i 0 3 (nI (b + 1))) (f := 3) (i := i) (c := 1) (g := g) (s := i) (b := nI 0) (X := 0) (b2 := 0) (m := mc (kV κ 3 i) 1) (pend := false) hi4 rfl rfl htell (fun y hy => by funext k; rw [vD (by omega), vD (by omega)]; rfl)
        refine ⟨_, h113.trans hc, fin _ 0 false (FR3_set.trans FR3_set) ?_ (fun z => by omega)⟩
        rw [ea, eb]
        exact ⟨by rw [vD (by omega), vD (by omega)]; exact hr.1, vS ⟨rfl, rfl, rfl, rfl⟩, by rw [vD (by omega)]; exact vS ⟨rfl, rfl, rfl, rfl⟩⟩
      · have ev : v = 1 := by omega
        subst ev
        have eb : b' = b := by rw [x12, if_neg (fun q => by omega)]; rfl
        have ea : a' = a := by rw [x10, if_neg (fun q => by omega)]; rfl
        have hc := c_outR (E := E) (κ := κ) (κ1 := κ) (κ2 := κ) (f := 3) (i := i) (c := 1) (g := g) (s := i) (b := nI 1) (X := 0) (b2 := 1) (m := mc (kV κ 3 i) 1) (pend := false) hi4 rfl rfl (by rw [f_X6_tell, if_neg (by decide)]) em
        refine ⟨_, h113.trans hc, fin _ 0 false FR3.rfl' ?_ (fun z => by omega)⟩
        rw [ea, eb]
        exact hr
    · -- IN
      have hia := hVN.1 (by omega)
      obtain ⟨u, hi4, rfl⟩ := hV.2.1 (by omega)
      obtain ⟨v, hj3, rfl⟩ := hV.2.2.2.2.2.2.2.2 rfl
      rw [nI_cl (by omega), nI_cl (by omega)] at *
      have h113 : f_X3_doNext_R E κ 3 i 1 g i = f_X3_doNext_R_b113 E 3 i 1 g i κ (nI u) (nI v) (nI 7) := by
        rw [hfetch, if_neg (show ¬ nI 7 = 2 by decide), if_neg (show ¬ nI 7 = 3 by decide), if_neg (show ¬ nI 7 = 6 by decide), if_pos (show nI 7 = 7 from rfl)]
      have eb : b' = b := by rw [x12, if_neg (fun q => by omega)]; rfl
      by_cases hv2 : v = 2
      · subst hv2
        have ea : a' = a := by rw [x10, if_neg (fun q => q.2 rfl)]; rfl
        have hc := c_inR (E := E) (κ := κ) (κ1 := κ) (κ2 := κ) (f := 3) (i := i) (c := 1) (g := g) (s := i) (b := 2) (X := 0) (m := mc (kV κ 3 i) 1) (pend := false) hi4 hj3 rfl rfl (fun z => absurd rfl z) (fun _ => rfl) em
        refine ⟨_, h113.trans hc, fin _ 0 false FR3.rfl' ?_ (fun _ z => absurd rfl z)⟩
        rw [ea, eb]
        exact hr
      · have ea : a' = a + 1 := by rw [x10, if_pos ⟨rfl, hv2⟩]
        have eT : kV κ 0 g 13 a = X := by
          rw [← x11 rfl hv2]
          exact hT.2.2.2 a (by omega)
        have e2 : kV (setV κ 3 i 0 2 (nI (a + 1))) 3 i 0 2 = nI (a + 1) := vS ⟨rfl, rfl, rfl, rfl⟩
        have htake : f_X6_takeFrom E κ i (nI v) = some (setV κ 3 i 0 2 (nI (a + 1)), X) := by
          rw [f_X6_takeFrom, hp, optG_s hg, hr.1, hT.1, if_pos (by rw [nI_lt' (by omega) (by omega)]; omega), nI_1, nmE, show kP (setV κ 3 i 0 2 (nI (a + 1))) = kP κ from rfl, hp, optG_s hg, e2, i32_1, nI_sub (by omega), Nat.add_sub_cancel, nI_cl (by omega), show kN (setV κ 3 i 0 2 (nI (a + 1))) = kN κ from rfl, gdi (by omega), vD (by omega), eT]
        have hc := c_inR (E := E) (κ := κ) (κ1 := κ) (κ2 := setV κ 3 i 0 2 (nI (a + 1))) (f := 3) (i := i) (c := 1) (g := g) (s := i) (b := v) (X := X) (m := mc (kV κ 3 i) 1) (pend := false) hi4 hj3 rfl rfl (fun _ => htake) (fun z => absurd z hv2) (fun y hy => by funext k; rw [vD (by omega)]; rfl)
        refine ⟨_, h113.trans hc, fin _ X false FR3_set ?_ (fun _ _ => rfl)⟩
        rw [ea, eb]
        exact ⟨e2, by rw [vD (by omega)]; exact hr.2.1, by rw [vD (by omega)]; exact hr.2.2⟩
    · -- WAIT, STOP
      have hc := c_restR (E := E) (κ := κ) (κ1 := κ) (f := 3) (i := i) (c := 1) (g := g) (s := i) (w := w) (X := 0) (a := u.toNatClampNeg) (b := v.toNatClampNeg) (m := mc (kV κ 3 i) 1) (pend := false) hw rfl (by rw [f_X6_isInterruptPending, f_X6_isInterruptPending_e, bd_s, gd_t (Or.inl rfl)]; rfl) em
      refine ⟨_, ?_, fin κ 0 false FR3.rfl' (same (by omega) (by omega)) (fun z => by omega)⟩
      rw [hfetch]
      rcases hw with rfl | rfl
      · rw [if_neg (show ¬ nI 8 = 2 by decide), if_neg (show ¬ nI 8 = 3 by decide), if_neg (show ¬ nI 8 = 6 by decide), if_neg (show ¬ nI 8 = 7 by decide), if_pos (show nI 8 = 8 from rfl)]; exact hc
      · rw [if_neg (show ¬ nI 13 = 2 by decide), if_neg (show ¬ nI 13 = 3 by decide), if_neg (show ¬ nI 13 = 6 by decide), if_neg (show ¬ nI 13 = 7 by decide), if_neg (show ¬ nI 13 = 8 by decide), if_pos (show nI 13 = 13 from rfl)]; exact hc
    · -- GIVE
      obtain ⟨v, hj8, rfl⟩ := hV.2.2.2.2.1 rfl
      rw [nI_cl (by omega)] at *
      have hc := c_getR (E := E) (κ := κ) (κ1 := pm κ 3 i 1 (clrC (mc (kV κ 3 i) 1) v 4)) (f := 3) (i := i) (c := 1) (s := i) (a := u) (X := 0) (a2 := u.toNatClampNeg) (m := mc (kV κ 3 i) 1) (pend := false) hj8 em rfl (fun y hy => pm_mc y hy)
      refine ⟨_, ?_, fin (pm κ 3 i 1 (clrC (mc (kV κ 3 i) 1) v 4)) 0 false FR3_pm (RST_pm (same (by omega) (by omega))) (fun z => by omega)⟩
      rw [hfetch, if_neg (show ¬ nI 12 = 2 by decide), if_neg (show ¬ nI 12 = 3 by decide), if_neg (show ¬ nI 12 = 6 by decide), if_neg (show ¬ nI 12 = 7 by decide), if_neg (show ¬ nI 12 = 8 by decide), if_neg (show ¬ nI 12 = 13 by decide), hc, bd_s]
