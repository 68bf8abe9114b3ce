def rel (j k : Nat) : Prop := (j = 0 ∧ 3 ≤ k ∧ k < 9) ∨ (j = 1 ∧ k < 4) ∨ (j = 2 ∧ k < 8) ∨ (j = 3 ∧ k < 32)
/-- machines that are the same, ready and waiting being one -/
def MEQ (m m2 : MU) : Prop := (∀ j k, rel j k → ¬ (j = 0 ∧ k = 8) → m2 j k = m j k) ∧ (m2 0 8 = m 0 8 ∨ ((m 0 8 = 0 ∨ m 0 8 = 1) ∧ (m2 0 8 = 0 ∨ m2 0 8 = 1)))
theorem MEQ_j {m m2 : MU} (h : ∀ j, j < 4 → m2 j = m j) : MEQ m m2 := ⟨fun j k hr _ => by unfold rel at hr; rw [h j (by omega)], Or.inl (by rw [h 0 (by omega)])⟩
theorem MEQ.trans {m m1 m2 : MU} (h : MEQ m m1) (h' : MEQ m1 m2) : MEQ m m2 := by
  refine ⟨fun j k a b => (h'.1 j k a b).trans (h.1 j k a b), ?_⟩
  rcases h.2 with e | ⟨e1, e2⟩
  · rcases h'.2 with e' | ⟨e1', e2'⟩
    · exact Or.inl (e'.trans e)
    · exact Or.inr ⟨by rw [← e]; exact e1', e2'⟩
  · rcases h'.2 with e' | ⟨e1', e2'⟩
    · exact Or.inr ⟨e1, by rw [e']; exact e2⟩
    · exact Or.inr ⟨e1, e2'⟩
/-- a step of a plain machine: a and b count what was taken and said -/
def STEPR (P m m' : MU) (a a' b b' : Nat) (T S : Nat → Int32) : Prop :=
  MOK m ∧ ((∃ x N, m 0 3 = nI x ∧ x < 25 ∧ P 1 3 = nI N ∧ N ≤ 24 ∧ ¬ x < N ∧ MEQ (mu m 0 8 2) m' ∧ a' = a ∧ b' = b) ∨
  ∃ x N w, ∃ i j X : Int32, ∃ pend, m 0 3 = nI x ∧ x < N ∧ P 1 3 = nI N ∧ N ≤ 24 ∧ P 2 x = nI w ∧ P 3 x = i ∧ P 4 x = j ∧ VI w i j ∧ MEQ (stepM m w i.toNatClampNeg j.toNatClampNeg X pend) m' ∧ (a' = a + if w = 7 ∧ j.toNatClampNeg ≠ 2 then 1 else 0) ∧ (w = 7 → j.toNatClampNeg ≠ 2 → T a = X) ∧ (b' = b + if w = 6 ∧ j.toNatClampNeg = 0 then 1 else 0) ∧ (w = 6 → j.toNatClampNeg = 0 → S b = m 1 i.toNatClampNeg))
def TN (n s : Nat) (κ κ' : K) (μ μ' : MU) (g h tt nT nS nJ : Nat) (T S J : Nat → Int32) : Prop := TS κ' μ' n g h tt ∧ GO n s κ κ' μ μ' g h ∧ MCH (mc (kV κ' 0 g) 6) (row μ' g) ∧ ∃ nT' nS' T' S', LST κ' g nT' nS' nJ T' S' J ∧ nT' ≤ nT + 1 ∧ nS' ≤ nS + 1 ∧ (∀ k, k < nT → T' k = T k) ∧ (∀ k, k < nS → S' k = S k) ∧ STEPR (kV κ 0 g) (mc (kV κ 0 g) 6) (mc (kV κ' 0 g) 6) nT nT' nS nS' T' S'
theorem pm_mc {κ : K} {f i c : Nat} {m : MU} : ∀ j, j < 4 → (mc (kV (pm κ f i c m) f i) c) j = m j := by
  intro j hj
  unfold mc pm
  rw [pv_kV]
  exact setm_in hj
theorem LST_pm {κ : K} {g nT nS nJ : Nat} {T S J : Nat → Int32} {m : MU} (h : LST κ g nT nS nJ T S J) : LST (pm κ 0 g 6 m) g nT nS nJ T S J := LST_v h (fun c a b => pm_n (by omega)) (fun _ _ _ => rfl)
theorem t_next {E : EE} {κ : K} {μ : MU} {n s g h t nT nS nJ a0 b0 : Nat} {T S J : Nat → Int32} (hn : n ≤ 5) (hg : g < n) (hh2 : h < 2) (hE2 : h < cntE E 2) (hP : kP κ 0 g 0 8 = some h) (hH : μ 15 g = nI h) (hR : ROK μ g) (hPr : PRG μ g) (htk : kV κ 2 h 0 5 = μ 0 41 + 1) (ht : μ 0 41 = nI t) (h0 : μ 1 (55 * g + 49) = 0) (hT : TS κ μ n g h (t + 1)) (hM : MCH (mc (kV κ 0 g) 6) (row μ g)) (hL : LST κ g nT nS nJ T S J) (hT3 : nT < 3000) (hS3 : nS < 3000) (ha : μ 35 g = nI a0) (ha3 : a0 < 3000) (hb : μ 37 g = nI b0) (hb3 : b0 < 3000) :
    ∃ κ', f_X3_doNext_G E κ 0 g 6 g g = some (κ', ()) ∧ TN n s κ κ' μ (exM μ n g h) g h (t + 1) nT nS nJ T S J := by
  obtain ⟨N, hN24, hN, hcode⟩ := hPr
  obtain ⟨x, ex, hx25⟩ := hR.nx
  have hPRO := hT.1.2.2.2.2.1
  have hmok := MCH_mok hM hR
  have em : ∀ j, j < 4 → kV κ 0 g (6 + j) = (mc (kV κ 0 g) 6) j := fun _ _ => rfl
  have e3 : kV κ 0 g 6 3 = nI x := hM.2.1.trans ex
  have eN : kV κ 0 g 1 3 = nI N := hPRO.1.trans hN
  have h08 : (mc (kV κ 0 g) 6) 0 8 = 0 := hM.2.2.2.2.2.2.1.trans h0
  unfold exM
  rw [ex, hN]
  by_cases hxN : x < N
  · rw [if_pos (by rw [nI_lt' (by omega) (by omega)]; exact hxN), nI_cl (by omega)]
    obtain ⟨w, hV, ew⟩ := hcode x hxN
    obtain ⟨p1, p2, p3⟩ := hPRO.2 x (by omega)
    have hw14 : w < 14 := hV.1
    dsimp only
    rw [ew, nI_cl (by omega)]
    generalize hi : μ 13 (72 * g + 3 * x + 1) = i at hV p2 ⊢
    generalize hj : μ 13 (72 * g + 3 * x + 2) = j at hV p3 ⊢
    have hfetch := c_fetchG (E := E) (κ := κ) (f := 0) (i := g) (c := 6) (g := g) (s := g) e3 hxN eN hN24 p2 p3 (p1.trans ew)
    have hVN := hV.vn
    have ME : ∀ (κ' : K) (X : Int32) (pend : Bool), (∀ q, q < 4 → (mc (kV κ' 0 g) 6) q = (stepM (mc (kV κ 0 g) 6) w i.toNatClampNeg j.toNatClampNeg X pend) q) → MEQ (stepM (mc (kV κ 0 g) 6) w i.toNatClampNeg j.toNatClampNeg X pend) (mc (kV κ' 0 g) 6) := fun κ' X pend hq => MEQ_j hq
    -- what is left when the surroundings have done their part
    have fin : ∀ (κ1 : K) (μ1 : MU) (X : Int32) (pend : Bool) (nT' nS' : Nat) (T' S' : Nat → Int32), TS κ1 μ1 n g h (t + 1) → GO n s κ κ1 μ μ1 g h → M1 μ1 (doM μ n g w i.toNatClampNeg j.toNatClampNeg h) g → LST κ1 g nT' nS' nJ T' S' J → (w = 8 → (pend = true ↔ μ 1 (55 * g + 51) = 1 ∨ μ 1 (55 * g + 52) = 1)) → (w = 7 → (j.toNatClampNeg = 0 → X = (takM (mu μ 25 (6 * g + 3) (μ 25 (6 * g + 3) + 1)) g).2) ∧ (j.toNatClampNeg = 1 → X = clockM (mu μ 25 (6 * g + 3) (μ 25 (6 * g + 3) + 1)) g)) → nT' ≤ nT + 1 → nS' ≤ nS + 1 → (∀ k, k < nT → T' k = T k) → (∀ k, k < nS → S' k = S k) → (nT' = nT + if w = 7 ∧ j.toNatClampNeg ≠ 2 then 1 else 0) → (w = 7 → j.toNatClampNeg ≠ 2 → T' nT = X) → (nS' = nS + if w = 6 ∧ j.toNatClampNeg = 0 then 1 else 0) → (w = 6 → j.toNatClampNeg = 0 → S' nS = (mc (kV κ 0 g) 6) 1 i.toNatClampNeg) → TN n s κ (pm κ1 0 g 6 (stepM (mc (kV κ 0 g) 6) w i.toNatClampNeg j.toNatClampNeg X pend)) μ (doM μ n g w i.toNatClampNeg j.toNatClampNeg h) g h (t + 1) nT nS nJ T S J := by
      intro κ1 μ1 X pend nT' nS' T' S' T1 G1 hm1 L1 hpd hX c1 c2 c3 c4 c5 c6 c7 c8
      obtain ⟨T2, G2⟩ := TS_m (s := s) (m := stepM (mc (kV κ 0 g) 6) w i.toNatClampNeg j.toNatClampNeg X pend) T1 hm1
      refine ⟨T2, G1.trans G2, MCH_m (sim_do hM hR hVN h08 hpd hX hw14) pm_mc, nT', nS', T', S', LST_pm L1, c1, c2, c3, c4, hmok, Or.inr ⟨x, N, w, i, j, X, pend, e3, hxN, eN, hN24, p1.trans ew, p2, p3, hV, ME _ X pend pm_mc, c5, c6, c7, c8⟩⟩
    have no67 : w ≠ 7 → nT = nT + if w = 7 ∧ j.toNatClampNeg ≠ 2 then 1 else 0 := fun z => by rw [if_neg (fun y => z y.1)]; rfl
    have no6 : w ≠ 6 → nS = nS + if w = 6 ∧ j.toNatClampNeg = 0 then 1 else 0 := fun z => by rw [if_neg (fun y => z y.1)]; rfl
    have e25 := fun (k c : Nat) (hc : c ≠ 25) => mu_row (μ := μ) (c := 25) (k := 6 * g + k) (x := μ 25 (6 * g + k) + 1) hc
    have cs : (w = 0 ∨ w = 1 ∨ w = 4 ∨ w = 5 ∨ w = 9 ∨ w = 10 ∨ w = 11) ∨ (w = 2 ∨ w = 3) ∨ w = 6 ∨ w = 7 ∨ (w = 8 ∨ w = 13) ∨ w = 12 := by omega
    rcases cs with hw | hw | rfl | rfl | hw | rfl
    · -- the machine alone
      have hc := c_chgG (E := E) (κ := κ) (f := 0) (i := g) (c := 6) (s := g) (X := 0) (m := mc (kV κ 0 g) 6) (pend := false) hV hw
      rw [pm_self] at hc
      refine ⟨pm κ 0 g 6 (stepM (mc (kV κ 0 g) 6) w i.toNatClampNeg j.toNatClampNeg 0 false), ?_, fin κ μ 0 false nT nS T S hT ⟨FG.rfl, OWN.rfl, fun _ _ _ => Iff.rfl, fun _ _ _ _ z => z, fun _ _ _ => rfl, fun _ _ _ => rfl, rfl, fun _ _ _ => ⟨rfl, rfl⟩⟩ ?_ hL (fun z => by omega) (fun z => by omega) (by omega) (by omega) (fun _ _ => rfl) (fun _ _ => rfl) (no67 (by omega)) (fun z => by omega) (no6 (by omega)) (fun z => by omega)⟩
      · rw [hfetch]
        rcases hw with rfl | rfl | rfl | rfl | rfl | rfl | rfl <;> (rw [if_neg (by decide), if_neg (by decide), if_neg (by decide), if_neg (by decide), if_neg (by decide), if_neg (by decide), hc, bd_s])
      · rcases hw with rfl | rfl | rfl | rfl | rfl | rfl | rfl
        · exact (M1_mu rfl (by have := hVN.1 (by omega); omega)).trans (M1_mu rfl (by omega))
        · exact (M1_mu rfl (by have := hVN.1 (by omega); omega)).trans (M1_mu rfl (by omega))
        · exact M1_mu rfl (by omega)
        · exact (M1_mu (k := 9 + i.toNatClampNeg) (by omega) (by have := hVN.2.1 rfl; omega)).trans (M1_mu rfl (by omega))
        · exact (M1_mu rfl (by omega)).trans (M1_mu rfl (by omega))
        · exact (M1_mu rfl (by omega)).trans (M1_mu rfl (by omega))
        · exact (M1_mu rfl (by omega)).trans (M1_mu rfl (by omega))
    · -- a word is read or written
      have hia := hVN.1 (by omega)
      have hjb := hVN.2.2.1 (by omega)
      obtain ⟨i, hi4, rfl⟩ := hV.2.1 (by omega)
      obtain ⟨j, hj4, rfl⟩ := hV.2.2.2.1 (by omega)
      rw [nI_cl (by omega), nI_cl (by omega)] at *
      have hdo : doM μ n g w i j h = lsM μ n g w i j h := by rcases hw with rfl | rfl <;> rfl
      obtain ⟨s1, s2⟩ := sim_ad hM hR hj4
      have h68 : f_X3_doNext_G E κ 0 g 6 g g = f_X3_doNext_G_b68 E 0 g 6 g g κ (nI i) (nI j) (nI w) := by
        rw [hfetch]
        rcases hw with rfl | rfl
        · rw [if_pos (show nI 2 = 2 from rfl)]
        · rw [if_neg (show ¬ nI 3 = 2 by decide), if_pos (show nI 3 = 3 from rfl)]
      have hst : ∀ X pend, stepM (mc (kV κ 0 g) 6) w i j X pend = stepM (mc (kV κ 0 g) 6) w i j 0 false := by
        intro X pend
        rcases hw with rfl | rfl <;> rfl
      cases hq : adC (mc (kV κ 0 g) 6) j with
      | none =>
        have hc := c_lsG (E := E) (κ := κ) (f := 0) (i := g) (c := 6) (g := g) (s := g) (m := mc (kV κ 0 g) 6) hmok hi4 hj4 hw em κ (fun q z => by rw [hq] at z; cases z) (fun _ => rfl)
        refine ⟨_, h68.trans hc, fin κ μ 0 false nT nS T S hT ⟨FG.rfl, OWN.rfl, fun _ _ _ => Iff.rfl, fun _ _ _ _ z => z, fun _ _ _ => rfl, fun _ _ _ => rfl, rfl, fun _ _ _ => ⟨rfl, rfl⟩⟩ ?_ hL (fun z => by omega) (fun z => by omega) (by omega) (by omega) (fun _ _ => rfl) (fun _ _ => rfl) (no67 (by omega)) (fun z => by omega) (no6 (by omega)) (fun z => by omega)⟩
        rw [hdo, s1 hq]
        exact M1_fault
      | some q =>
        obtain ⟨q1, q2, q3⟩ := s2 q hq
        obtain ⟨κ1, r1, r2, r3, r4, r5⟩ := t_touch (E := E) (s := s) (p := q / 4) (wr := w - 2) hn hg hh2 hE2 hP hH q2 htk hT
        have hc := c_lsG (E := E) (κ := κ) (f := 0) (i := g) (c := 6) (g := g) (s := g) (m := mc (kV κ 0 g) 6) hmok hi4 hj4 hw em κ1 (fun q' z => by rw [hq] at z; cases z; exact ⟨r1, fun y hy => r4 _ (by omega) (by omega)⟩) (fun z => by rw [hq] at z; cases z)
        refine ⟨_, h68.trans hc, fin κ1 _ 0 false nT nS T S r2 r3 ?_ (LST_v hL (fun c a b => r4 c (by omega) (by omega)) (fun c _ _ => by rw [r5])) (fun z => by omega) (fun z => by omega) (by omega) (by omega) (fun _ _ => rfl) (fun _ _ => rfl) (no67 (by omega)) (fun z => by omega) (no6 (by omega)) (fun z => by omega)⟩
        rw [hdo, q3]
        have e32 : (if w = 3 then (1 : Int32) else 0) = nI (w - 2) := by rcases hw with rfl | rfl <;> rfl
        rw [e32]
        split
        · exact (M1_mu rfl (by omega)).trans (M1_mu rfl (by omega))
        · exact (M1_mu rfl (by omega)).trans (M1_mu rfl (by omega))
    · -- OUT
      have hia := hVN.1 (by omega)
      obtain ⟨i, hi4, rfl⟩ := hV.2.1 (by omega)
      obtain ⟨j, hj2, rfl⟩ := hV.2.2.2.2.2.2.2.1 (by omega)
      rw [nI_cl (by omega), nI_cl (by omega)] at *
      obtain ⟨κ1, r1, r2, r3, r4, r5⟩ := t_exit (E := E) (s := s) (k := 3) (by omega) hT
      have ereg : (mc (kV κ 0 g) 6) 1 i = μ 1 (55 * g + i) := hM.1 i hi4
      have L1 : LST κ1 g nT nS nJ T S J := LST_v hL (fun c a b => r4 c (by omega)) (fun c _ _ => by rw [r5])
      have h113 : f_X3_doNext_G E κ 0 g 6 g g = f_X3_doNext_G_b113 E 0 g 6 g g κ (nI i) (nI j) (nI 6) := by
        rw [hfetch, if_neg (show ¬ nI 6 = 2 by decide), if_neg (show ¬ nI 6 = 3 by decide), if_pos (show nI 6 = 6 from rfl)]
      by_cases hj0 : j = 0
      · subst hj0
        obtain ⟨κ2, u1, u2, u3, u4, u5⟩ := t_say (E := E) (s := s) (x := μ 1 (55 * g + i)) hn hg r2 L1 hS3 (by rw [e25 3 35 (by omega)]; exact ha) ha3 (by rw [e25 3 37 (by omega)]; exact hb) hb3
        have hc := c_outG (E := E) (κ := κ) (κ1 := κ1) (κ2 := κ2) (f := 0) (i := g) (c := 6) (g := g) (s := g) (b := nI 0) (X := 0) (b2 := 0) (m := mc (kV κ 0 g) 6) (pend := false) hi4 r1 (r4 7 (by omega)) (by rw [ereg]; exact u1) (fun y hy => (u4 _ (by omega) (by omega)).trans (r4 _ (by omega)))
        refine ⟨_, h113.trans hc, fin κ2 _ 0 false nT (nS + 1) T _ u2 (r3.trans u3) ?_ u5 (fun z => by omega) (fun z => by omega) (by omega) (by omega) (fun _ _ => rfl) (fun k hk => if_neg (by omega)) (no67 (by omega)) (fun z => by omega) (by rw [if_pos ⟨rfl, rfl⟩]) (fun _ _ => by rw [if_pos rfl, ereg])⟩
        show M1 _ (mu (sayM _ g ((mu μ 25 (6 * g + 3) (μ 25 (6 * g + 3) + 1)) 1 (55 * g + i))) 1 (55 * g + 4) _) g
        rw [e25 3 1 (by omega)]
        exact M1_mu rfl (by omega)
      · obtain ⟨r, hr, hr2⟩ := hR.reg hi4
        have hj1 : j = 1 := by omega
        subst hj1
        obtain ⟨κ2, u1, u2, u3, u4, u5⟩ := t_timer (E := E) (s := s) (r := r) (b := nI 1) hn hg (by decide) r2 (by rw [e25 3 0 (by omega)]; exact ht) hr2
        have hc := c_outG (E := E) (κ := κ) (κ1 := κ1) (κ2 := κ2) (f := 0) (i := g) (c := 6) (g := g) (s := g) (b := nI 1) (X := 0) (b2 := 1) (m := mc (kV κ 0 g) 6) (pend := false) hi4 r1 (r4 7 (by omega)) (by rw [ereg, hr]; exact u1) (fun y hy => (u4 _ (by omega)).trans (r4 _ (by omega)))
        refine ⟨_, h113.trans hc, fin κ2 _ 0 false nT nS T S u2 (r3.trans u3) ?_ (LST_v L1 (fun c a b => u4 c (by omega)) (fun c _ _ => by rw [u5])) (fun z => by omega) (fun z => by omega) (by omega) (by omega) (fun _ _ => rfl) (fun k hk => rfl) (no67 (by omega)) (fun z => by omega) (by rw [if_neg (by omega)]; rfl) (fun _ z => by omega)⟩
        show M1 _ (mu (mu _ 1 (55 * g + 50) (if (mu μ 25 (6 * g + 3) (μ 25 (6 * g + 3) + 1)) 1 (55 * g + i) = 0 then -1 else _ + 1 + (mu μ 25 (6 * g + 3) (μ 25 (6 * g + 3) + 1)) 1 (55 * g + i))) 1 (55 * g + 4) _) g
        rw [e25 3 1 (by omega), hr]
        exact M1_mu rfl (by omega)
    · -- IN
      have hia := hVN.1 (by omega)
      obtain ⟨i, hi4, rfl⟩ := hV.2.1 (by omega)
      obtain ⟨j, hj3, rfl⟩ := hV.2.2.2.2.2.2.2.2 rfl
      rw [nI_cl (by omega), nI_cl (by omega)] at *
      obtain ⟨κ1, r1, r2, r3, r4, r5⟩ := t_exit (E := E) (s := s) (k := 3) (by omega) hT
      have L1 : LST κ1 g nT nS nJ T S J := LST_v hL (fun c a b => r4 c (by omega)) (fun c _ _ => by rw [r5])
      have h113 : f_X3_doNext_G E κ 0 g 6 g g = f_X3_doNext_G_b113 E 0 g 6 g g κ (nI i) (nI j) (nI 7) := by
        rw [hfetch, if_neg (show ¬ nI 7 = 2 by decide), if_neg (show ¬ nI 7 = 3 by decide), if_neg (show ¬ nI 7 = 6 by decide), if_pos (show nI 7 = 7 from rfl)]
      have hR1 : ROK (mu μ 25 (6 * g + 3) (μ 25 (6 * g + 3) + 1)) g := ROK_c hR (by omega)
      have c3 : j = 0 ∨ j = 1 ∨ j = 2 := by omega
      rcases c3 with rfl | rfl | rfl
      · obtain ⟨κ2, u1, u2, u3, u4, u5⟩ := t_take (E := E) (s := s) hn hg hR1 r2 L1 hT3
        have hc := c_inG (E := E) (κ := κ) (κ1 := κ1) (κ2 := κ2) (f := 0) (i := g) (c := 6) (g := g) (s := g) (m := mc (kV κ 0 g) 6) (pend := false) hi4 hj3 r1 (by rw [r4 6 (by omega)]; rfl) (fun _ => u1) (fun z => by omega) (fun y hy => (u4 _ (by omega) (by omega)).trans (r4 _ (by omega)))
        refine ⟨_, h113.trans hc, fin κ2 _ _ false (nT + 1) nS _ S u2 (r3.trans u3) ?_ u5 (fun z => by omega) (fun _ => ⟨fun _ => rfl, fun z => by omega⟩) (by omega) (by omega) (fun k hk => if_neg (by omega)) (fun _ _ => rfl) (by rw [if_pos ⟨rfl, by omega⟩]) (fun _ _ => if_pos rfl) (no6 (by omega)) (fun z => by omega)⟩
        exact (M1_mu (x := (takM (mu μ 25 (6 * g + 3) (μ 25 (6 * g + 3) + 1)) g).2) rfl (by omega)).trans (M1_mu rfl (by omega))
      · obtain ⟨κ2, u1, u2, u3, u4, u5⟩ := t_take1 (E := E) (s := s) (x := kV κ1 0 g 5 9) hn hg r2 L1 hT3
        have e59 : kV κ1 0 g 5 9 = clockM (mu μ 25 (6 * g + 3) (μ 25 (6 * g + 3) + 1)) g := r2.1.2.2.2.2.2.1.2.2.2
        have hc := c_inG (E := E) (κ := κ) (κ1 := κ1) (κ2 := κ2) (f := 0) (i := g) (c := 6) (g := g) (s := g) (b := 1) (X := kV κ1 0 g 5 9) (m := mc (kV κ 0 g) 6) (pend := false) hi4 hj3 r1 (by rw [r4 6 (by omega)]; rfl) (fun _ => by rw [f_X1_takeFrom, if_neg (show ¬ nI 1 = 0 by decide)]; exact u1) (fun z => by omega) (fun y hy => (u4 _ (by omega) (by omega)).trans (r4 _ (by omega)))
        refine ⟨_, h113.trans hc, fin κ2 _ _ false (nT + 1) nS _ S u2 (r3.trans u3) ?_ u5 (fun z => by omega) (fun _ => ⟨fun z => by omega, fun _ => e59⟩) (by omega) (by omega) (fun k hk => if_neg (by omega)) (fun _ _ => rfl) (by rw [if_pos ⟨rfl, by omega⟩]) (fun _ _ => if_pos rfl) (no6 (by omega)) (fun z => by omega)⟩
        exact (M1_mu (x := clockM (mu μ 25 (6 * g + 3) (μ 25 (6 * g + 3) + 1)) g) rfl (by omega)).trans (M1_mu rfl (by omega))
      · have hc := c_inG (E := E) (κ := κ) (κ1 := κ1) (κ2 := κ1) (f := 0) (i := g) (c := 6) (g := g) (s := g) (b := 2) (X := 0) (m := mc (kV κ 0 g) 6) (pend := false) hi4 hj3 r1 (by rw [r4 6 (by omega)]; rfl) (fun z => absurd rfl z) (fun _ => rfl) (fun y hy => r4 _ (by omega))
        refine ⟨_, h113.trans hc, fin κ1 _ 0 false nT nS T S r2 r3 ?_ L1 (fun z => by omega) (fun _ => ⟨fun z => by omega, fun z => by omega⟩) (by omega) (by omega) (fun _ _ => rfl) (fun _ _ => rfl) (by rw [if_neg (fun z => z.2 rfl)]; rfl) (fun _ z => absurd rfl z) (no6 (by omega)) (fun z => by omega)⟩
        exact (M1_mu (x := (mu μ 25 (6 * g + 3) (μ 25 (6 * g + 3) + 1)) 1 (55 * g + 7)) rfl (by omega)).trans (M1_mu rfl (by omega))
    · -- WAIT, STOP
      obtain ⟨κ1, r1, r2, r3, r4, r5⟩ := t_exit (E := E) (s := s) (k := 4) (by omega) hT
      have hv := r2.1.2.2.2.2.2.1
      have h7 : kV κ1 0 g 5 7 = 0 ∨ kV κ1 0 g 5 7 = 1 := by
        rw [hv.2.1, e25 4 1 (by omega)]; exact bit01 hR (by omega)
      have h8 : kV κ1 0 g 5 8 = 0 ∨ kV κ1 0 g 5 8 = 1 := by
        rw [hv.2.2.1, e25 4 1 (by omega)]; exact bit01 hR (by omega)
      have hc := c_restG (E := E) (κ := κ) (κ1 := κ1) (f := 0) (i := g) (c := 6) (g := g) (s := g) (w := w) (X := 0) (a := i.toNatClampNeg) (b := j.toNatClampNeg) (m := mc (kV κ 0 g) 6) hw r1 (pend_G h7 h8) (fun y hy => r4 _ (by omega))
      have h150 : f_X3_doNext_G E κ 0 g 6 g g = f_X3_doNext_G_b150 E 0 g 6 g g κ (nI w) := by
        rw [hfetch]
        rcases hw with rfl | rfl
        · rw [if_neg (show ¬ nI 8 = 2 by decide), if_neg (show ¬ nI 8 = 3 by decide), if_neg (show ¬ nI 8 = 6 by decide), if_neg (show ¬ nI 8 = 7 by decide), if_pos (show nI 8 = 8 from rfl)]
        · rw [if_neg (show ¬ nI 13 = 2 by decide), if_neg (show ¬ nI 13 = 3 by decide), if_neg (show ¬ nI 13 = 6 by decide), if_neg (show ¬ nI 13 = 7 by decide), if_neg (show ¬ nI 13 = 8 by decide), if_pos (show nI 13 = 13 from rfl)]
      refine ⟨_, h150.trans hc, fin κ1 _ 0 _ nT nS T S r2 r3 ?_ (LST_v hL (fun c a b => r4 c (by omega)) (fun c _ _ => by rw [r5])) (fun _ => ?_) (fun z => by omega) (by omega) (by omega) (fun _ _ => rfl) (fun _ _ => rfl) (no67 (by omega)) (fun z => by omega) (no6 (by omega)) (fun z => by omega)⟩
      · rcases hw with rfl | rfl
        · exact (M1_mu rfl (by omega)).trans (M1_mu rfl (by omega))
        · exact (M1_mu rfl (by omega)).trans (M1_mu rfl (by omega))
      · rw [hv.2.1, hv.2.2.1, e25 4 1 (by omega), decide_eq_true_iff]
    · -- GIVE
      obtain ⟨j, hj8, rfl⟩ := hV.2.2.2.2.1 rfl
      rw [nI_cl (by omega)] at *
      have hm0 := M1_clr (μ := μ) (g := g) hj8 4 (Nat.le_refl _)
      obtain ⟨T0, G0⟩ := TS_m (s := s) (m := clrC (mc (kV κ 0 g) 6) j 4) hT hm0
      obtain ⟨κ1, r1, r2, r3, r4, r5⟩ := t_give (E := E) (s := s) (p := j) hn hg hh2 hE2 (by rw [pm_P]; exact hP) (by rw [hm0.1 15 (by omega)]; exact hH) hj8 T0
      have hc := c_getG (E := E) (κ := κ) (κ1 := κ1) (f := 0) (i := g) (c := 6) (s := g) (a := i) (X := 0) (a2 := i.toNatClampNeg) (m := mc (kV κ 0 g) 6) (pend := false) hj8 em r1 (fun y hy => (r4 _ (by omega)).trans (pm_mc y hy))
      have h12 : f_X3_doNext_G E κ 0 g 6 g g = bd (f_X3_change_G E κ 0 g 6 (nI 12) i (nI j) g) fun κ32 _ => some (κ32, ()) := by
        rw [hfetch, if_neg (show ¬ nI 12 = 2 by decide), if_neg (show ¬ nI 12 = 3 by decide), if_neg (show ¬ nI 12 = 6 by decide), if_neg (show ¬ nI 12 = 7 by decide), if_neg (show ¬ nI 12 = 8 by decide), if_neg (show ¬ nI 12 = 13 by decide)]
      refine ⟨_, by rw [h12, hc, bd_s], fin κ1 _ 0 false nT nS T S r2 (G0.trans r3) ?_ (LST_v (LST_pm hL) (fun c a b => r4 c (by omega)) (fun c _ _ => by rw [r5])) (fun z => by omega) (fun z => by omega) (by omega) (by omega) (fun _ _ => rfl) (fun _ _ => rfl) (no67 (by omega)) (fun z => by omega) (no6 (by omega)) (fun z => by omega)⟩
      exact M1_mu rfl (by omega)
  · rw [if_neg (by rw [nI_lt' (by omega) (by omega)]; exact hxN)]
    have hm1 : M1 μ (mu μ 1 (55 * g + 49) 2) g := M1_mu rfl (by omega)
    obtain ⟨T2, G2⟩ := TS_m (s := s) (m := mu (mc (kV κ 0 g) 6) 0 8 2) hT hm1
    refine ⟨_, c_stopG (m := mc (kV κ 0 g) 6) em e3 hxN eN hN24 hx25, T2, G2, ?_, nT, nS, T, S, LST_pm hL, by omega, by omega, fun _ _ => rfl, fun _ _ => rfl, hmok, Or.inl ⟨x, N, e3, hx25, eN, hN24, hxN, MEQ_j pm_mc, rfl, rfl⟩⟩
    refine MCH_m ?_ pm_mc
    rw [row_mu rfl]
    exact MCH_how hM
