/-! what is held goes out -/
theorem letU_34 {μ : MU} {g a j : Nat} (h35 : μ 35 g = nI a) (hj : j < 3000) : ∀ k, a + k ≤ 3000 → (letU μ g k) 34 (3000 * g + j) = if a ≤ j ∧ j < a + k then μ 36 (3000 * g + (j - a)) else μ 34 (3000 * g + j)
  | 0, _ => by rw [if_neg (by omega)]; rfl
  | k + 1, h => by
    show (mu (mu (letU μ g k) 34 (3000 * g + ((letU μ g k) 35 g).toNatClampNeg) ((letU μ g k) 36 (3000 * g + k))) 35 g _) 34 (3000 * g + j) = _
    rw [mu_row (by omega), letU_35 h35 k, nI_cl (by omega), letU_row (by omega)]
    by_cases e : j = a + k
    · rw [muS ⟨rfl, by rw [e]⟩, if_pos (by omega), show j - a = k from by omega]
    · rw [muD (by omega), letU_34 h35 hj k (by omega)]
      by_cases e2 : a ≤ j ∧ j < a + k
      · rw [if_pos e2, if_pos (by omega)]
      · rw [if_neg e2, if_neg (by omega)]
theorem OWN_letU {μ : MU} {g a : Nat} (h35 : μ 35 g = nI a) : ∀ k, a + k ≤ 3000 → OWN μ (letU μ g k) g
  | 0, _ => OWN.rfl
  | k + 1, h => by
    refine (OWN_letU h35 k (by omega)).trans ?_
    show OWN (letU μ g k) (mu (mu (letU μ g k) 34 (3000 * g + ((letU μ g k) 35 g).toNatClampNeg) ((letU μ g k) 36 (3000 * g + k))) 35 g _) g
    rw [letU_35 h35 k, nI_cl (by omega)]
    exact (OWN_mu (by omega) (by omega) (by show (3000 * g + (a + k)) / 3000 = g; omega)).trans (OWN_g (by omega) (by omega) rfl)
theorem let_rows {μ : MU} {g a b : Nat} (h35 : μ 35 g = nI a) (h37 : μ 37 g = nI b) (hab : a + b ≤ 3000) : OWN μ (letM μ g) g ∧ (letM μ g) 35 g = nI (a + b) ∧ (letM μ g) 37 g = 0 ∧ (∀ c, c ≠ 34 → c ≠ 35 → c ≠ 37 → (letM μ g) c = μ c) ∧ ∀ j, j < 3000 → (letM μ g) 34 (3000 * g + j) = if a ≤ j ∧ j < a + b then μ 36 (3000 * g + (j - a)) else μ 34 (3000 * g + j) := by
  unfold letM
  rw [h37, nI_cl (by omega)]
  refine ⟨(OWN_letU h35 b hab).trans (OWN_g (by omega) (by omega) rfl), by rw [mu_row (by omega), letU_35 h35], muS ⟨rfl, rfl⟩, fun c x y z => by rw [mu_row z, letU_row ⟨x, y⟩], fun j hj => by rw [mu_row (by omega), letU_34 h35 hj b hab]⟩
theorem t_let {E : EE} {κ : K} {n ns g a b : Nat} {qw qh : Nat → Int32} (hn : n ≤ 5) (hg : g < n) (hw : NUM κ 0 g 36 a qw) (hh : NUM κ 0 g 34 b qh) (hab : a + b ≤ 3000) : ∃ κ', f_X1_letHeldOut E κ g = some (κ', nI b) ∧ (∀ f i c, ¬ (f = 0 ∧ i = g ∧ (c = 34 ∨ c = 36 ∨ c = 37)) → kV κ' f i c = kV κ f i c) ∧ (∀ f i c, ¬ (f = 0 ∧ i = g ∧ c = 37) → kN κ' f i c = kN κ f i c) ∧ kP κ' = kP κ ∧ PAID n ns 0 0 κ κ' ∧ NUM κ' 0 g 36 (a + b) (fun k => if k < a then qw k else qh (k - a)) ∧ ∀ q, NUM κ' 0 g 34 0 q := by
  obtain ⟨κ1, p1, p2, p3⟩ := n_addAll (E := E) (n0 := n) (s0 := ns) hw hh hab (by omega) (num_mem0 g (by omega) 37 (by decide)) (al0 hg)
  have hh1 : NUM κ1 0 g 34 b qh := NUM_chg hh p2 (by omega)
  have eV : ∀ f i c, ¬ (f = 0 ∧ i = g ∧ c = 34) → kV (setV κ1 0 g 34 1 0) f i c = kV κ1 f i c := fun f i c z => by
    funext k
    exact vD (by omega)
  refine ⟨setV κ1 0 g 34 1 0, by rw [f_X1_letHeldOut, hh.1, nmE, p1, bd_s, nmE], fun f i c z => by rw [eV f i c (by omega), p2.1 f i c (by omega)], fun f i c z => p2.2.2.1 f i c (by omega), p2.2.2.2.1, (p2.2.2.2.2.trans (PAID_same rfl rfl)).up (by omega) (by omega), NUM_K p3 (by rw [eV 0 g 36 (by omega)]) (eV 0 g 37 (by omega)) rfl, fun q => ⟨vS ⟨rfl, rfl, rfl, rfl⟩, Nat.zero_le _, hh1.2.2.1, fun k hk => absurd hk (by omega)⟩⟩
/-! what is kept -/
def krow (μ : MU) (g k : Nat) : Int32 := if k = 53 then clockM μ g else if k = 50 then tmrM μ g else row μ g k
theorem kp1_in {μ : MU} {c2 a g k : Nat} (h : k < 55) : (kp1M μ c2 a g) c2 (a + k) = krow μ g k := by
  unfold kp1M krow
  by_cases e : k = 53
  · rw [if_pos e, e, muS ⟨rfl, rfl⟩]
  · rw [if_neg e, muD (by omega)]
    by_cases e2 : k = 50
    · rw [if_pos e2, e2, muS ⟨rfl, rfl⟩]
    · rw [if_neg e2, muD (by omega), blk_in h]
theorem MCH_rel {m m' : MU} {r : Nat → Int32} (h : MCH m r) (e : ∀ j k, rel j k → m' j k = m j k) : MCH m' r := by
  obtain ⟨h1, h2, h3, h4, h5, h6, h7, h8, h9⟩ := h
  have r0 : ∀ k, 3 ≤ k → k < 9 → m' 0 k = m 0 k := fun k a b => e 0 k (Or.inl ⟨rfl, a, b⟩)
  exact ⟨fun k hk => (e 1 k (Or.inr (Or.inl ⟨rfl, hk⟩))).trans (h1 k hk), (r0 3 (by omega) (by omega)).trans h2, (r0 4 (by omega) (by omega)).trans h3, (r0 5 (by omega) (by omega)).trans h4, (r0 6 (by omega) (by omega)).trans h5, (r0 7 (by omega) (by omega)).trans h6, (r0 8 (by omega) (by omega)).trans h7, fun k hk => (e 2 k (Or.inr (Or.inr (Or.inl ⟨rfl, hk⟩)))).trans (h8 k hk), fun k hk => (e 3 k (Or.inr (Or.inr (Or.inr ⟨rfl, hk⟩)))).trans (h9 k hk)⟩
theorem MEQ_rel {m m' : MU} (e : ∀ j k, rel j k → m' j k = m j k) : MEQ m m' := ⟨fun j k h _ => e j k h, Or.inl (e 0 8 (Or.inl ⟨rfl, by omega, by omega⟩))⟩
theorem tmr_v {μ : MU} {g t : Nat} {x : Int32} (ht : μ 0 41 = nI t) (h : TMR x (μ 1 (55 * g + 50)) t) (ht3 : t ≤ 3000) : TMR x (tmrM μ g) 0 ∧ rng 50 (tmrM μ g) := by
  unfold tmrM
  rcases h with ⟨h1, h2⟩ | ⟨d, d1, d2, h1, h2⟩
  · rw [if_pos h1]
    exact ⟨Or.inl ⟨rfl, h2⟩, Or.inl ⟨rfl, by omega⟩⟩
  · rw [if_neg (by rw [h1, nI_m1 (by omega)]; exact id), h1, ht, nI_sub (by omega), show t + d - t = d from by omega]
    exact ⟨Or.inr ⟨d, d1, d2, by rw [Nat.zero_add], h2⟩, rng_n (by rw [show lim 50 = 20000 from rfl]; omega)⟩
theorem KST_keep {κ κ' : K} {μ : MU} {g t m f0 i0 c0 : Nat} {r q : Nat → Int32} (hG : RG κ μ g t) (hR : ROK μ g) (hQ : QOK μ g) (ht : μ 0 41 = nI t) (ht3 : t ≤ 3000) (hC : CLK μ g t) (hm : μ 1 (55 * g + 54) = nI m) (hm5 : m ≤ 512) (eM : ∀ j k, rel j k → kV κ' f0 i0 (c0 + 1 + j) k = kV κ 0 g (6 + j) k) (hN : NUM κ' f0 i0 (c0 + 5) m (fun k => μ 2 (512 * g + k))) (e5 : ∀ k, 5 ≤ k → k ≤ 9 → kV κ' f0 i0 c0 k = kV κ 0 g 5 k) (er : ∀ k, k < 55 → r k = krow μ g k) (eq : ∀ k, k < m → q k = μ 2 (512 * g + k)) : KST κ' f0 i0 c0 r q := by
  have hL := hG.1.2.2.2.2.2.1
  obtain ⟨m1, sc, sh, w1, w2, w3, w4, w5, w6⟩ := hC
  have hck := clock_v ht w1 w2 w3 w4 w5 w6 (by omega)
  have ek : ∀ k, k < 55 → k ≠ 50 → k ≠ 53 → r k = row μ g k := fun k a b d => by
    rw [er k a]
    unfold krow
    rw [if_neg d, if_neg b]
  have e50 : r 50 = tmrM μ g := (er 50 (by omega)).trans (by unfold krow; rw [if_neg (by omega), if_pos rfl])
  have e53 : r 53 = clockM μ g := (er 53 (by omega)).trans (by unfold krow; rw [if_pos rfl])
  have hT := tmr_v ht hL.1 ht3
  refine ⟨fun k hk => ?_, ?_, ?_, ?_, ?_, ?_, ?_, fun k hk => ?_⟩
  · by_cases a : k = 50
    · rw [a, e50]; exact hT.2
    · by_cases b : k = 53
      · rw [b, e53, hck]
        exact rng_n (by rw [show lim 53 = 10000 from rfl]; omega)
      · rw [ek k hk a b]; exact hR k hk
  · exact MCH_rel (MCH_r hG.2.1 (fun k hk => by rw [ek k (by omega) (by omega) (by omega)])) eM
  · rw [e50, e5 6 (by omega) (by omega)]; exact hT.1
  · rw [ek 51 (by omega) (by omega) (by omega), e5 7 (by omega) (by omega)]; exact hL.2.1
  · rw [ek 52 (by omega) (by omega) (by omega), e5 8 (by omega) (by omega)]; exact hL.2.2.1
  · rw [e53, e5 9 (by omega) (by omega)]; exact hL.2.2.2
  · exact ⟨m, hm5, by rw [ek 54 (by omega) (by omega) (by omega)]; exact hm, NUM_q hN (fun k hk => (eq k hk).symm)⟩
  · rw [ek 54 (by omega) (by omega) (by omega), show row μ g 54 = nI m from hm, nI_cl (by omega)] at hk
    obtain ⟨z, z1, z2⟩ := hQ k (by rw [hm, nI_cl (by omega)]; exact hk)
    exact ⟨z, z1, by rw [eq k hk]; exact z2⟩
theorem PLK_keep {κ κ' : K} {g f0 i0 c0 s1 nT nS nJ st r : Nat} {a1 T S J : Nat → Int32} (hF : FOUR κ' f0 i0 c0 s1 nT nS nJ a1 T S J) (hst : kV κ 0 g 5 5 = nI st) (l1 : nT ≤ st) (l2 : nS ≤ st) (l3 : nJ ≤ st) (hr : kV κ 0 g 0 12 = nI r) (l4 : st ≤ r) (l5 : r ≤ 3000) (hP : PLN (kV κ 0 g) (mc (kV κ 0 g) 6) st nT nS nJ T S J) (eM : ∀ j k, rel j k → kV κ' f0 i0 (c0 + 1 + j) k = kV κ 0 g (6 + j) k) (e5 : kV κ' f0 i0 c0 5 = kV κ 0 g 5 5) (e0 : kV κ' 0 g 0 12 = kV κ 0 g 0 12) (ep : ∀ c, 1 ≤ c → c ≤ 4 → kV κ' 0 g c = kV κ 0 g c) : PLK κ' f0 i0 c0 g :=
  ⟨st, nT, nS, nJ, T, S, J, r, hF.2.1, hF.2.2.1, hF.2.2.2, e5.trans hst, l1, l2, l3, e0.trans hr, l4, l5, PLN_m (PLN_P hP ep) (MEQ_rel eM)⟩
/-- following has changed, and what went out -/
theorem REL_fol {E : EE} {κ κ' : K} {μ μ' : MU} {n ns t C g : Nat} (hR : REL E κ μ n ns t C) (hg : g < n) (hV : ∀ f i c, ¬ (f = 0 ∧ i = g ∧ 18 ≤ c ∧ c < 38) → kV κ' f i c = kV κ f i c) (hN : ∀ f i c, ¬ (f = 0 ∧ i = g ∧ 18 ≤ c ∧ c < 38) → kN κ' f i c = kN κ f i c) (hP : kP κ' = kP κ) (hp : PAID n ns 0 0 κ κ') (er : ∀ c, c ≠ 3 → c ≠ 4 → c ≠ 6 → c ≠ 33 → c ≠ 34 → c ≠ 35 → c ≠ 37 → μ' c = μ c) (hO : OWN μ μ' g) (q2 : QQ κ' 0 g 36 3000 (μ' 35 g) (fun k => μ' 34 (3000 * g + k))) (q3 : QQ κ' 0 g 34 3000 (μ' 37 g) (fun k => μ' 36 (3000 * g + k))) (q4 : QQ κ' 0 g 32 512 (μ' 6 g) (fun k => μ' 5 (512 * g + k))) (hF : FOL κ' μ' g) (hT : STN κ' 0 g 19) (hFP : FPL κ' g) (hS : SAY μ' g t) (hI : INQ μ' g (C + 1)) : REL E κ' μ' n ns t (C + 1) := by
  obtain ⟨m1, m2, m3, m4, m5⟩ := hR.2.2.1
  have hQg := hR.2.2.2.1 g hg
  have hV0 : ∀ f i, ¬ (f = 0 ∧ i = g) → kV κ' f i = kV κ f i := fun f i z => by
    funext c
    exact hV f i c (by omega)
  have hN0 : ∀ f i, ¬ (f = 0 ∧ i = g) → kN κ' f i = kN κ f i := fun f i z => by
    funext c
    exact hN f i c (by omega)
  have eV : ∀ c, c < 18 ∨ 38 ≤ c → kV κ' 0 g c = kV κ 0 g c := fun c hc => hV 0 g c (by omega)
  have eN : ∀ c, c < 18 ∨ 38 ≤ c → kN κ' 0 g c = kN κ 0 g c := fun c hc => hN 0 g c (by omega)
  have e' : ∀ c, c < 3 ∨ c = 5 ∨ (7 ≤ c ∧ c < 33) ∨ c = 36 ∨ 38 ≤ c → μ' c = μ c := fun c hc => er c (by omega) (by omega) (by omega) (by omega) (by omega) (by omega) (by omega)
  refine REL_G (d1 := 0) (d2 := 0) hR hg (fun f i a _ _ _ => hV0 f i a) hN0 (fun f i _ => by rw [hP]) (TJ.row m1 (fun c hc => e' c (by omega))) (FRM_row m2 (e' 27 (by omega)) (e' 28 (by omega))) hO (fun key _ _ => by rw [e' 27 (by omega)]) (fun h hh => ⟨?_, fun j => by rw [hV0 2 h (by omega)]⟩) ⟨?_, ?_, ?_, ?_⟩ (GPT_v (m4 g hg).2.1 (Nat.le_refl _) (by rw [hP]) (by rw [e' 15 (by omega)]) (by rw [e' 12 (by omega)])) hFP (fun s hs z => ?_) (fun c x y => e' c (by omega)) hS (CLK_e hQg.2.1 (e' 22 (by omega)) (e' 20 (by omega)) (e' 21 (by omega))) hI hp (by omega) (by omega)
  · rw [hV0 2 h (by omega)]
    exact RH_row (m3 h hh).1 (e' 15 (by omega)) (e' 28 (by omega)) (e' 29 (by omega))
  · obtain ⟨a1, a2, a3, a4, a5, a6, q7, q8, q9, q10, a11, a12⟩ := (m4 g hg).1.1
    refine ⟨SCA_v a1 (fun j _ _ => by rw [eV 0 (by omega)]) (fun c x y z => by rw [e' c (by omega)]), EXI_v a2 (eV 38 (by omega)) (fun j _ => by rw [e' 25 (by omega)]), BAR_v a3 (by rw [eV 0 (by omega)]) (fun p _ => by rw [e' 27 (by omega)]), SND_v a4 (by rw [eV 0 (by omega)]) (by rw [e' 30 (by omega)]) (by rw [e' 31 (by omega)]), PRO_v a5 (fun c _ _ => eV c (by omega)) (by rw [e' 14 (by omega)]) (fun j _ => by rw [e' 13 (by omega)]), LVT_v a6 (eV 5 (by omega)) (fun j _ _ => by rw [e' 1 (by omega)]) (clock_e (by rw [e' 0 (by omega)]) (by rw [e' 20 (by omega)]) (by rw [e' 21 (by omega)]) (by rw [e' 22 (by omega)])), ?_, q2, q3, q4, hF, hT⟩
    rw [e' 1 (by omega), e' 2 (by omega)]
    exact QQ_v q7 (by rw [eV 10 (by omega)]) (eV 11 (by omega)) (eN 11 (by omega)) rfl (fun _ _ => rfl)
  · rw [row_e (e' 1 (by omega))]
    exact MCH_m (m4 g hg).1.2.1 (fun j hj => eV (6 + j) (by omega))
  · rw [eV 0 (by omega), e' 24 (by omega)]; exact (m4 g hg).1.2.2.1
  · exact PLL_v (m4 g hg).1.2.2.2 (fun c _ _ => eV c (by omega)) (fun c _ _ => eV c (by omega)) (fun c _ _ => eN c (by omega)) (by rw [eV 5 (by omega)]) (by rw [eV 0 (by omega)]) (by rw [eV 0 (by omega)]) (MEQ_j fun j hj => eV (6 + j) (by omega))
  · exact PLK_v z (fun j _ => by rw [hV0 9 s (by omega)]) (fun j _ => by rw [hN0 9 s (by omega)]) (fun c _ _ => eV c (by omega)) (RANUP_e (by rw [eV 0 (by omega)]))
theorem SAY.let {μ μ' : MU} {g t a b : Nat} (h : SAY μ g t) (h35 : μ 35 g = nI a) (ha : a ≤ 3000) (h37 : μ 37 g = nI b) (hb : b ≤ 3000) (e35 : μ' 35 g = nI (a + b)) (e37 : μ' 37 g = 0) (e24 : μ' 24 g = μ 24 g) (ht : t ≤ 3000) : SAY μ' g t := by
  obtain ⟨a', b', r, s1, s2, s3, s4, s5⟩ := h
  rw [h35, nI_eq' (by omega) (by omega)] at s1
  rw [h37, nI_eq' (by omega) (by omega)] at s2
  exact ⟨a + b, 0, r, e35, e37, e24.trans s3, by omega, s5⟩
def stpM (μ : MU) (g m : Nat) : MU := letM (mu (kpM μ 3 (55 * g) 4 (512 * g) g m) 6 g 0) g
theorem mm_stepOf {E : EE} {κ : K} {g m a b : Nat} (hg : g < 5) (hm : kV κ 5 0 1 (55 * g + 54) = nI m) (hm5 : m ≤ 512) (h35 : kV κ 5 0 35 g = nI a) (h37 : kV κ 5 0 37 g = nI b) (hab : a + b ≤ 3000) : f_X11_stepOf E κ (nI g) = some (putM κ (stpM (kV κ 5 0) g m), nI b) := by
  have e35 : (mu (kpM (kV κ 5 0) 3 (55 * g) 4 (512 * g) g m) 6 g 0) 35 g = nI a := by
    unfold kpM
    rw [mu_row (by omega), blk_row (by omega), kp1_row (by omega)]; exact h35
  have e37 : (mu (kpM (kV κ 5 0) 3 (55 * g) 4 (512 * g) g m) 6 g 0) 37 g = nI b := by
    unfold kpM
    rw [mu_row (by omega), blk_row (by omega), kp1_row (by omega)]; exact h37
  rw [f_X11_stepOf, l55, nI_mul, l512, nI_mul, m_keep hg (by omega) (by show 55 * g + 55 ≤ 275; omega) (by decide) (by show 512 * g + 512 ≤ 2560; omega) (by decide) hm hm5, bd_s, nI_cl (by omega), gdi (by omega), nmE, set5, put_kV, put_put, m_letOut (a := a) (b := b) hg (by rw [put_kV]; exact e35) (by rw [put_kV]; exact e37) hab, bd_s, put_kV, put_put]
  rfl
theorem OWN_blk {μ : MU} {g c a n : Nat} {f : Nat → Int32} (h0 : c ≠ 0) (hc : c < 38) (hk : ∀ k, k < n → (a + k) / wid c = g) : OWN μ (blkM μ c a f n) g :=
  ⟨blk_row (Ne.symm h0), fun c' hc' => blk_row (by omega), fun c' k' _ _ _ e => blk_out (fun z => e (by
    have := hk (k' - a) (by omega)
    rw [show a + (k' - a) = k' from by omega] at this
    rw [z.1]; exact this))⟩
theorem step_both {E : EE} {κ κa : K} {μ μa : MU} {n ns t C g : Nat} (hR : REL E κ μ n ns t C) (hg : g < n) (hd : kV κ 0 g 0 18 = 0) (eκ : ∀ f i c, ¬ (f = 0 ∧ i = g ∧ c = 18) → kV κa f i c = kV κ f i c) (eN : kN κa = kN κ) (eP : kP κa = kP κ) (eC : kC κa = kC κ) (e18 : kV κa 0 g 18 0 = 1) (eμ : ∀ c k, ¬ (c = 33 ∧ k = g) → μa c k = μ c k) (e33 : μa 33 g = 1) : ∃ κ' μ' b, f_X1_keepStep E κa g = some (κ', nI b) ∧ kV κ' 5 = kV κ 5 ∧ (∀ κ2 : K, kV κ2 5 0 = μa → f_X11_stepOf E κ2 (nI g) = some (putM κ2 μ', nI b)) ∧ REL E κ' μ' n ns t (C + 1) ∧ μ' 0 = μ 0 ∧ EXT μ μ' := by
  obtain ⟨_, ⟨_, _, _, q4, q5⟩, hM, hQ, _⟩ := id hR
  obtain ⟨m1, m2, m3, m4, m5⟩ := hM
  have hn : n ≤ 5 := m1.1.1
  obtain ⟨r1, r2, r3, r4⟩ := m1.1.2.2.1 g hg
  obtain ⟨hGg, hPg, hFg⟩ := m4 g hg
  obtain ⟨a1, a2, a3, a4, a5, a6, ⟨m, hm5, hm, nI1⟩, ⟨a, ha3, h35, nW⟩, ⟨b, hb3, h37, nH⟩, ⟨bb, hbb, h6, nC⟩, a11, a12⟩ := hGg.1
  obtain ⟨st, nT, nS, nJ, T, S, J, r, hL, hst, l1, l2, l3, hr, l4, l5, hpl⟩ := hGg.2.2.2
  have hPL : PLN (kV κ 0 g) (mc (kV κ 0 g) 6) st nT nS nJ T S J := by
    rcases hpl with ⟨z, _⟩ | ⟨_, z⟩
    · rw [hd] at z; exact absurd z (by decide)
    · exact z
  obtain ⟨a0, b0, r0, y1, y2, y3, y4, y5⟩ := (hQ g hg).1
  have hab : a + b ≤ 3000 := by
    rw [h35, nI_eq' (by omega) (by omega)] at y1
    rw [h37, nI_eq' (by omega) (by omega)] at y2
    omega
  have mv : ∀ {c s q}, NUM κ 0 g c s q → c ≠ 18 → c + 1 ≠ 18 → NUM κa 0 g c s q := fun h z w => NUM_K h (by rw [eκ 0 g _ (by omega)]) (eκ 0 g _ (by omega)) (by rw [eN])
  have t5 := a12 5 (by omega)
  have t7 := a12 7 (by omega)
  have t9 := a12 9 (by omega)
  have t11 := a12 11 (by omega)
  obtain ⟨d1, b1, _, D1⟩ := t5
  obtain ⟨d2, b2, _, D2⟩ := t7
  obtain ⟨d3, b3, _, D3⟩ := t9
  obtain ⟨d4, b4, _, D4⟩ := t11
  have b7 := bit01 r1 (k := 51) (by omega)
  have b8 := bit01 r1 (k := 52) (by omega)
  have bM := bit01 r1 (k := 8) (by omega)
  obtain ⟨κ1, p1, p2, p3, p4, p5, p6, p7, p8⟩ := copy8 (E := E) (κ := κa) (n := n) (ns := ns) (f0 := 0) (i0 := g) (c0 := 19) (f1 := 0) (i1 := g) (c1 := 5) (by omega) (by rw [eκ 0 g 6 (by omega), show kV κ 0 g 6 7 = μ 1 (55 * g + 8) from hGg.2.1.2.2.2.2.2.1]; exact bM) (by rw [eκ 0 g 5 (by omega), a6.2.1]; exact b7) (by rw [eκ 0 g 5 (by omega), a6.2.2.1]; exact b8) ⟨mv nI1 (by omega) (by omega), mv hL.1 (by omega) (by omega), mv hL.2.1 (by omega) (by omega), mv hL.2.2 (by omega) (by omega)⟩ ⟨mv D1 (by omega) (by omega), mv D2 (by omega) (by omega), mv D3 (by omega) (by omega), mv D4 (by omega) (by omega)⟩ (fun j hj => by rcases hj with rfl | rfl | rfl | rfl <;> exact ⟨num_mem0 g (by omega) _ (by decide), al0 hg⟩)
  let κ2 : K := setV κ1 0 g 32 1 0
  have f2 : ∀ f i c, ¬ (f = 0 ∧ i = g ∧ c = 32) → kV κ2 f i c = kV κ1 f i c := fun f i c z => by
    funext k
    exact vD (by omega)
  have ev : ∀ f i c, ¬ (f = 0 ∧ i = g ∧ (18 ≤ c ∧ c < 33)) → kV κ2 f i c = kV κ f i c := fun f i c z => by rw [f2 f i c (by omega), p2 f i c (by omega), eκ f i c (by omega)]
  have en : ∀ f i c, ¬ (f = 0 ∧ i = g ∧ 19 ≤ c ∧ c < 32) → kN κ2 f i c = kN κ f i c := fun f i c z => by
    show kN κ1 f i c = _
    rw [p3 f i c (by omega), eN]
  have nW2 : NUM κ2 0 g 36 a (fun k => μ 34 (3000 * g + k)) := NUM_K nW (by rw [ev 0 g 36 (by omega)]) (ev 0 g 37 (by omega)) (en 0 g 37 (by omega))
  have nH2 : NUM κ2 0 g 34 b (fun k => μ 36 (3000 * g + k)) := NUM_K nH (by rw [ev 0 g 34 (by omega)]) (ev 0 g 35 (by omega)) (en 0 g 35 (by omega))
  obtain ⟨κ3, u1, u2, u3, u4, u5, u6, u7⟩ := t_let (E := E) (ns := ns) hn hg nW2 nH2 hab
  have ev3 : ∀ f i c, ¬ (f = 0 ∧ i = g ∧ 18 ≤ c ∧ c < 38) → kV κ3 f i c = kV κ f i c := fun f i c z => by rw [u2 f i c (by omega), ev f i c (by omega)]
  have en3 : ∀ f i c, ¬ (f = 0 ∧ i = g ∧ 18 ≤ c ∧ c < 38) → kN κ3 f i c = kN κ f i c := fun f i c z => by rw [u3 f i c (by omega), en f i c (by omega)]
  have e19 : ∀ c, 19 ≤ c → c < 32 → kV κ3 0 g c = kV κ1 0 g c := fun c x y => by rw [u2 0 g c (by omega), f2 0 g c (by omega)]
  have n19 : ∀ c, 19 ≤ c → c < 32 → kN κ3 0 g c = kN κ1 0 g c := fun c x y => by rw [u3 0 g c (by omega)]; rfl
  have e3_18 : kV κ3 0 g 18 0 = 1 := by rw [u2 0 g 18 (by omega), f2 0 g 18 (by omega), p2 0 g 18 (by omega)]; exact e18
  -- the model
  have ea : ∀ c, c ≠ 33 → μa c = μ c := fun c hc => by
    funext k
    exact eμ c k (by omega)
  have hGa : row μa g = row μ g := row_e (ea 1 (by omega))
  let μk : MU := mu (kpM μa 3 (55 * g) 4 (512 * g) g m) 6 g 0
  have ek : ∀ c, c ≠ 3 → c ≠ 4 → c ≠ 6 → μk c = μa c := fun c x y z => by
    show (mu (kpM μa 3 (55 * g) 4 (512 * g) g m) 6 g 0) c = _
    unfold kpM
    rw [mu_row z, blk_row y, kp1_row x]
  have k35 : μk 35 g = nI a := by rw [ek 35 (by omega) (by omega) (by omega), ea 35 (by omega)]; exact h35
  have k37 : μk 37 g = nI b := by rw [ek 37 (by omega) (by omega) (by omega), ea 37 (by omega)]; exact h37
  obtain ⟨w1, w2, w3, w4, w5⟩ := let_rows k35 k37 hab
  have ht : μa 0 41 = nI t := by rw [ea 0 (by omega)]; exact q4
  have hkr : ∀ k, k < 55 → (stpM μa g m) 3 (55 * g + k) = krow μ g k := fun k hk => by
    show (letM μk g) 3 _ = _
    rw [w4 3 (by omega) (by omega) (by omega)]
    show (mu (kpM μa 3 (55 * g) 4 (512 * g) g m) 6 g 0) 3 (55 * g + k) = _
    unfold kpM
    rw [mu_row (by omega), blk_row (by omega), kp1_in hk]
    unfold krow tmrM
    rw [hGa, ea 1 (by omega), ea 0 (by omega), clock_e (μ := μ) (by rw [ea 0 (by omega)]) (by rw [ea 20 (by omega)]) (by rw [ea 21 (by omega)]) (by rw [ea 22 (by omega)])]
  have hkq : ∀ k, k < m → (stpM μa g m) 4 (512 * g + k) = μ 2 (512 * g + k) := fun k hk => by
    show (letM μk g) 4 _ = _
    rw [w4 4 (by omega) (by omega) (by omega)]
    show (mu (kpM μa 3 (55 * g) 4 (512 * g) g m) 6 g 0) 4 (512 * g + k) = _
    unfold kpM
    rw [mu_row (by omega), blk_in hk, ea 2 (by omega)]
  have es : ∀ c, c ≠ 3 → c ≠ 4 → c ≠ 6 → c ≠ 33 → c ≠ 34 → c ≠ 35 → c ≠ 37 → (stpM μa g m) c = μ c := fun c x1 x2 x3 x4 x5 x6 x7 => by
    show (letM μk g) c = _
    rw [w4 c x5 x6 x7, ek c x1 x2 x3, ea c x4]
  have s33 : (stpM μa g m) 33 g = 1 := by
    show (letM μk g) 33 g = _
    rw [w4 33 (by omega) (by omega) (by omega), ek 33 (by omega) (by omega) (by omega)]; exact e33
  have s6 : (stpM μa g m) 6 g = 0 := by
    show (letM μk g) 6 g = _
    rw [w4 6 (by omega) (by omega) (by omega)]
    exact muS ⟨rfl, rfl⟩
  have eM : ∀ j k, rel j k → kV κ3 0 g (19 + 1 + j) k = kV κ 0 g (6 + j) k := fun j k hr => by
    have hj : j < 4 := by
      unfold rel at hr
      omega
    rw [e19 (19 + 1 + j) (by omega) (by omega), p6 j k hr, show 5 + 1 + j = 6 + j from by omega, eκ 0 g (6 + j) (by omega)]
  have e5 : ∀ k, 5 ≤ k → k ≤ 9 → kV κ3 0 g 19 k = kV κ 0 g 5 k := fun k x y => by rw [e19 19 (by omega) (by omega), p8 k x y, eκ 0 g 5 (by omega)]
  have mv3 : ∀ {c s q}, NUM κ1 0 g c s q → 19 ≤ c → c + 1 < 32 → NUM κ3 0 g c s q := fun h z w => NUM_K h (by rw [e19 _ z (by omega)]) (e19 _ (by omega) w) (n19 _ (by omega) w)
  have F3 : FOUR κ3 0 g 19 m nT nS nJ (fun k => μ 2 (512 * g + k)) T S J := ⟨mv3 p7.1 (by omega) (by omega), mv3 p7.2.1 (by omega) (by omega), mv3 p7.2.2.1 (by omega) (by omega), mv3 p7.2.2.2 (by omega) (by omega)⟩
  have hOa : OWN μ μa g := ⟨ea 0 (by omega), fun c hc => ea c (by omega), fun c k _ _ _ hk => eμ c k (fun z => by
    obtain ⟨rfl, rfl⟩ := z
    exact hk (Nat.div_one _))⟩
  have hxx : EXT μ (stpM μa g m) := by
    refine EXT_35 h35 (show (letM μk g) 35 g = nI (a + b) from w2) (by omega) (by omega) hab (fun k hk => ?_) (es 23 (by omega) (by omega) (by omega) (by omega) (by omega) (by omega) (by omega)) (es 24 (by omega) (by omega) (by omega) (by omega) (by omega) (by omega) (by omega)) (es 27 (by omega) (by omega) (by omega) (by omega) (by omega) (by omega) (by omega)) (by rw [es 0 (by omega) (by omega) (by omega) (by omega) (by omega) (by omega) (by omega)]) (fun g2 k _ _ => by rw [es 1 (by omega) (by omega) (by omega) (by omega) (by omega) (by omega) (by omega)])
    show (letM μk g) 35 k = _
    rw [w1.2.2 35 k (by omega) (by omega) (by omega) (by show k / 1 ≠ g; rw [Nat.div_one]; exact hk), ek 35 (by omega) (by omega) (by omega), ea 35 (by omega)]
  refine ⟨κ3, stpM μa g m, b, ?_, ?_, fun κx h5 => ?_, ?_, es 0 (by omega) (by omega) (by omega) (by omega) (by omega) (by omega) (by omega), hxx⟩
  · rw [f_X1_keepStep, p1, bd_s, nmE, u1, bd_s]
  · funext i c
    exact ev3 5 i c (by omega)
  · have := mm_stepOf (E := E) (κ := κx) (g := g) (m := m) (a := a) (b := b) (by omega) (by rw [h5, ea 1 (by omega)]; exact hm) hm5 (by rw [h5, ea 35 (by omega)]; exact h35) (by rw [h5, ea 37 (by omega)]; exact h37) hab
    rw [h5] at this
    exact this
  · refine REL_fol hR hg ev3 en3 ?_ ?_ es ?_ ⟨a + b, hab, w2, NUM_q u6 (fun k hk => ?_)⟩ ⟨0, by omega, w3, u7 _⟩ ⟨0, by omega, s6, ?_⟩ ⟨by rw [e3_18, s33], Or.inr ⟨s33, by rw [ev3 0 g 0 (by omega)]; exact hd, KST_keep hGg r1 (m1.2.1 g hg) q4 q5 (hQ g hg).2.1 hm hm5 eM F3.1 e5 hkr hkq⟩⟩ (fun j hj => ?_) (Or.inr (PLK_keep F3 hst l1 l2 l3 hr l4 l5 hPL eM (e5 5 (by omega) (by omega)) (by rw [ev3 0 g 0 (by omega)]) (fun c _ _ => ev3 0 g c (by omega)))) (SAY.let (hQ g hg).1 h35 ha3 h37 hb3 w2 w3 (by rw [es 24 (by omega) (by omega) (by omega) (by omega) (by omega) (by omega) (by omega)]) q5) ?_
    · show kP κ3 = _
      rw [u4, show kP κ2 = kP κ1 from rfl, p4, eP]
    · have := (((PAID_same (n := n) (s := ns) eN eC).trans p5).trans (PAID_same (n := n) (s := ns) (κ := κ1) (κ' := κ2) rfl rfl)).trans u5
      exact this.up (by omega) (by omega)
    · refine hOa.trans (OWN.trans (μ1 := μk) ?_ w1)
      refine OWN.trans (μ1 := kpM μa 3 (55 * g) 4 (512 * g) g m) ?_ (OWN_g (by omega) (by omega) rfl)
      refine OWN.trans (μ1 := kp1M μa 3 (55 * g) g) ?_ (OWN_blk (by omega) (by omega) (fun k hk => by show (512 * g + k) / 512 = g; omega))
      unfold kp1M
      exact ((OWN_blk (by omega) (by omega) (fun k hk => by show (55 * g + k) / 55 = g; omega)).trans (OWN_mu (by omega) (by omega) (by show (55 * g + 50) / 55 = g; omega))).trans (OWN_mu (by omega) (by omega) (by show (55 * g + 53) / 55 = g; omega))
    · show _ = (letM μk g) 34 (3000 * g + k)
      rw [w5 k (by omega), ek 36 (by omega) (by omega) (by omega), ek 34 (by omega) (by omega) (by omega), ea 36 (by omega), ea 34 (by omega)]
      by_cases e : k < a
      · rw [if_pos e, if_neg (by omega)]
      · rw [if_neg e, if_pos (by omega)]
    · have z : NUM κ2 0 g 32 0 (fun k => (stpM μa g m) 5 (512 * g + k)) := ⟨vS ⟨rfl, rfl, rfl, rfl⟩, Nat.zero_le _, by rw [en 0 g 33 (by omega)]; exact nC.2.2.1, fun k hk => absurd hk (by omega)⟩
      exact NUM_K z (by rw [u2 0 g 32 (by omega)]) (u2 0 g 33 (by omega)) (u3 0 g 33 (by omega))
    · rcases hj with rfl | rfl | rfl | rfl
      · exact ⟨m, _, by omega, F3.1⟩
      · exact ⟨nT, T, by omega, F3.2.1⟩
      · exact ⟨nS, S, by omega, F3.2.2.1⟩
      · exact ⟨nJ, J, by omega, F3.2.2.2⟩
    · obtain ⟨⟨mm, i1, i2⟩, _, i6⟩ := (hQ g hg).2.2
      have hmC : m ≤ C := by
        by_cases hlt : mm < 2147483648
        · rw [hm, nI_eq' (by omega) hlt] at i1; omega
        · omega
      refine ⟨⟨m, by rw [es 1 (by omega) (by omega) (by omega) (by omega) (by omega) (by omega) (by omega)]; exact hm, by omega⟩, ⟨0, s6, by omega, fun _ => ⟨⟨m, ?_, by omega⟩, fun k hk => absurd hk (by omega)⟩⟩, by rw [es 18 (by omega) (by omega) (by omega) (by omega) (by omega) (by omega) (by omega)]; exact i6⟩
      rw [hkr 54 (by omega)]
      unfold krow
      rw [if_neg (by omega), if_neg (by omega)]
      exact hm
theorem st_step {E : EE} {κ : K} {n ns t C : Nat} {a : Int32} (hR : REL E κ (kV κ 5 0) n ns t C) : DONE (lw_step E κ a) C := by
  have hR0 := hR
  obtain ⟨⟨rfl, rfl, hO, h9⟩, ⟨q1, q2, q3, q4, q5⟩, hM, hQ, hS, hZ, hC⟩ := hR0
  have hn : E.1 ≤ 5 := hM.1.1.1
  have hG : kV κ 5 0 0 26 = nI E.1 := hM.1.1.2.1
  have hH : E.2.2.2.1 = 1 := hO.2.2.2.1
  by_cases ha : vp_in a E.1
  · obtain ⟨g, hg, rfl⟩ := vp_ex (by omega) ha
    have hF := (hM.2.2.2.1 g hg).1.1.2.2.2.2.2.2.2.2.2.2.1
    rcases id hF with ⟨h18, h33 | ⟨h33, hd, _⟩⟩
    · exact ⟨E, _, E.1, E.2.1, t, by
      unfold lw_step
      rw [show f_X10_step E κ (nI g) = some (addC κ 1 6, .inr 3) from by rw [f_X10_step, guestAt_ok q1 hn hg, bx_s, gd_t (show g < cntE E 0 from hg), h18, if_pos h33]]
      dsimp only
      rw [show f_X11_step E (lwS (addC κ 1 6) (.inr 3)) (nI g) = some (putM (lwS (addC κ 1 6) (.inr 3)) (mu (kV κ 5 0) 0 0 2), 0) from by rw [f_X11_step, isGuest_t (n := E.1) (by rw [lw_V (by omega)]; exact hG) hn hg, bd_s, if_neg (by decide), nI_cl (by omega), gdi (by omega), lw_V (by omega), show kV (addC κ 1 6) 5 0 33 g = 0 from h33, if_pos rfl, f_X11_step_b27, ref_n (by decide), bd_s, if_neg (by decide), lw_V (by omega)]; rfl]
      dsimp only
      rw [gdp_t (lwS_noX (by decide) rfl)], glueS (REL_no hR)⟩
    · have eM : (mu (kV κ 5 0) 0 0 0) 33 g = 1 := by rw [thr_c (by omega)]; exact h33
      obtain ⟨κ', μ', b, s1, s2, s3, s4, s5, s6⟩ := step_both (κa := κ) (μa := mu (kV κ 5 0) 0 0 0) (REL_thr (x := 0) hR) hg hd (fun _ _ _ _ => rfl) rfl rfl rfl (h18.trans h33) (fun _ _ _ => rfl) eM
      have hext : EXT (kV κ 5 0) μ' := EXT_thr.tr s6
      exact ⟨E, _, E.1, E.2.1, t, by
      unfold lw_step
      rw [show f_X10_step E κ (nI g) = some (κ', .inl (nI b)) from by rw [f_X10_step, guestAt_ok q1 hn hg, bx_s, gd_t (show g < cntE E 0 from hg), h18, if_neg (by rw [h33]; decide), s1, bd_s]]
      dsimp only
      rw [show f_X11_step E (lwS (κ') (.inl (nI b))) (nI g) = some (putM (lwS (κ') (.inl (nI b))) (μ'), nI b) from by rw [f_X11_step, isGuest_t (n := E.1) (by rw [lw_V (by omega), s2]; exact hG) hn hg, bd_s, if_neg (by decide), nI_cl (by omega), gdi (by omega), lw_V (by omega), s2, if_neg (by rw [h33]; decide), f_X11_step_b27, ref_0, bd_s, if_pos rfl, lw_V (by omega), s2, s3 _ put_kV, bd_s, put_put]]
      dsimp only
      rw [gdp_t (lwS_okX (by rw [s5]; exact muS ⟨rfl, rfl⟩) (rfl))], glueS (s4)⟩
  · exact ⟨E, _, E.1, E.2.1, t, by
      unfold lw_step
      rw [show f_X10_step E κ a = some (addC κ 1 6, .inr 1) from by rw [f_X10_step, guestAt_no q1 hn ha, bx_r]]
      dsimp only
      rw [show f_X11_step E (lwS (addC κ 1 6) (.inr 1)) a = some (putM (lwS (addC κ 1 6) (.inr 1)) (mu (kV κ 5 0) 0 0 1), 0) from by rw [f_X11_step, isGuest_f (n := E.1) (by rw [lw_V (by omega)]; exact hG) hn ha, bd_s, if_pos rfl, f_X11_step_b27, ref_n (by decide), bd_s, if_neg (by decide), lw_V (by omega)]; rfl]
      dsimp only
      rw [gdp_t (lwS_noX (by decide) rfl)], glueS (REL_no hR)⟩
theorem FOLb {κ : K} {μ : MU} {g : Nat} (h : FOL κ μ g) : μ 33 g = 0 ∨ μ 33 g = 1 := h.2.imp id (fun z => z.1)
theorem follow_off {E : EE} {κ : K} {μ : MU} {n ns t C g : Nat} (hR : REL E κ μ n ns t C) (hg : g < n) : ∃ κ' b, f_X1_letHeldOut E (setV κ 0 g 18 0 0) g = some (κ', nI b) ∧ kV κ' 5 = kV κ 5 ∧ (∀ κ2 : K, kV κ2 5 0 = mu μ 33 g 0 → f_X11_letOut E κ2 (nI g) = some (putM κ2 (letM (mu μ 33 g 0) g), nI b)) ∧ REL E κ' (letM (mu μ 33 g 0) g) n ns t (C + 1) ∧ (letM (mu μ 33 g 0) g) 0 = μ 0 ∧ EXT μ (letM (mu μ 33 g 0) g) := by
  obtain ⟨_, ⟨_, _, _, q4, q5⟩, hM, hQ, _⟩ := id hR
  obtain ⟨m1, m2, m3, m4, m5⟩ := hM
  have hn : n ≤ 5 := m1.1.1
  obtain ⟨hGg, hPg, hFg⟩ := m4 g hg
  obtain ⟨a1, a2, a3, a4, a5, a6, q7, ⟨a, ha3, h35, nW⟩, ⟨b, hb3, h37, nH⟩, ⟨bb, hbb, h6, nC⟩, a11, a12⟩ := hGg.1
  obtain ⟨a0, b0, r0, y1, y2, y3, y4, y5⟩ := (hQ g hg).1
  have hab : a + b ≤ 3000 := by
    rw [h35, nI_eq' (by omega) (by omega)] at y1
    rw [h37, nI_eq' (by omega) (by omega)] at y2
    omega
  have f1 : ∀ f i c, ¬ (f = 0 ∧ i = g ∧ c = 18) → kV (setV κ 0 g 18 0 0) f i c = kV κ f i c := fun f i c z => by
    funext k
    exact vD (by omega)
  have mv : ∀ {c s q}, NUM κ 0 g c s q → c ≠ 18 → c + 1 ≠ 18 → NUM (setV κ 0 g 18 0 0) 0 g c s q := fun h z w => NUM_K h (by rw [f1 0 g _ (by omega)]) (f1 0 g _ (by omega)) rfl
  obtain ⟨κ3, u1, u2, u3, u4, u5, u6, u7⟩ := t_let (E := E) (ns := ns) hn hg (mv nW (by omega) (by omega)) (mv nH (by omega) (by omega)) hab
  have ev3 : ∀ f i c, ¬ (f = 0 ∧ i = g ∧ 18 ≤ c ∧ c < 38) → kV κ3 f i c = kV κ f i c := fun f i c z => by rw [u2 f i c (by omega), f1 f i c (by omega)]
  have ea : ∀ c, c ≠ 33 → (mu μ 33 g 0) c = μ c := fun c hc => mu_row hc
  have k35 : (mu μ 33 g 0) 35 g = nI a := by rw [ea 35 (by omega)]; exact h35
  have k37 : (mu μ 33 g 0) 37 g = nI b := by rw [ea 37 (by omega)]; exact h37
  obtain ⟨w1, w2, w3, w4, w5⟩ := let_rows k35 k37 hab
  have es : ∀ c, c ≠ 33 → c ≠ 34 → c ≠ 35 → c ≠ 37 → (letM (mu μ 33 g 0) g) c = μ c := fun c x1 x2 x3 x4 => by rw [w4 c x2 x3 x4, ea c x1]
  have s33 : (letM (mu μ 33 g 0) g) 33 g = 0 := by rw [w4 33 (by omega) (by omega) (by omega)]; exact muS ⟨rfl, rfl⟩
  have e3_18 : kV κ3 0 g 18 0 = 0 := by rw [u2 0 g 18 (by omega)]; exact vS ⟨rfl, rfl, rfl, rfl⟩
  have hxx : EXT μ (letM (mu μ 33 g 0) g) := by
    refine EXT_35 h35 w2 (by omega) (by omega) hab (fun k hk => ?_) (es 23 (by omega) (by omega) (by omega) (by omega)) (es 24 (by omega) (by omega) (by omega) (by omega)) (es 27 (by omega) (by omega) (by omega) (by omega)) (by rw [es 0 (by omega) (by omega) (by omega) (by omega)]) (fun g2 k _ _ => by rw [es 1 (by omega) (by omega) (by omega) (by omega)])
    rw [w1.2.2 35 k (by omega) (by omega) (by omega) (by show k / 1 ≠ g; rw [Nat.div_one]; exact hk), ea 35 (by omega)]
  refine ⟨κ3, b, u1, ?_, fun κ2 h5 => ?_, ?_, es 0 (by omega) (by omega) (by omega) (by omega), hxx⟩
  · funext i c
    exact ev3 5 i c (by omega)
  · have := m_letOut (E := E) (κ := κ2) (g := g) (a := a) (b := b) (by omega) (by rw [h5]; exact k35) (by rw [h5]; exact k37) hab
    rw [h5] at this
    exact this
  · refine REL_fol hR hg ev3 (fun f i c z => u3 f i c (by omega)) u4 (((PAID_same (n := n) (s := ns) (κ := κ) rfl rfl).trans u5).up (by omega) (by omega)) (fun c _ _ _ x4 x5 x6 x7 => es c x4 x5 x6 x7) ((OWN_g (by omega) (by omega) rfl).trans w1) ⟨a + b, hab, w2, NUM_q u6 (fun k hk => ?_)⟩ ⟨0, by omega, w3, u7 _⟩ ?_ ⟨e3_18.trans s33.symm, Or.inl s33⟩ (STN_v a12 (fun j _ _ => by rw [u2 0 g _ (by omega), f1 0 g _ (by omega)]) (fun j _ _ => u3 0 g _ (by omega))) (Or.inl e3_18) (SAY.let (hQ g hg).1 h35 ha3 h37 hb3 w2 w3 (by rw [es 24 (by omega) (by omega) (by omega) (by omega)]) q5) ?_
    · rw [w5 k (by omega), ea 36 (by omega), ea 34 (by omega)]
      by_cases e : k < a
      · rw [if_pos e, if_neg (by omega)]
      · rw [if_neg e, if_pos (by omega)]
    · rw [es 6 (by omega) (by omega) (by omega) (by omega), es 5 (by omega) (by omega) (by omega) (by omega)]
      exact QQ_v (q := fun k => μ 5 (512 * g + k)) ⟨bb, hbb, h6, nC⟩ (by rw [u2 0 g 32 (by omega), f1 0 g 32 (by omega)]) (by rw [u2 0 g 33 (by omega), f1 0 g 33 (by omega)]) (u3 0 g 33 (by omega)) rfl (fun _ _ => rfl)
    · obtain ⟨⟨mm, i1, i2⟩, ⟨b', i3, i4, i5⟩, i6⟩ := (hQ g hg).2.2
      refine ⟨⟨mm, by rw [es 1 (by omega) (by omega) (by omega) (by omega)]; exact i1, by omega⟩, ⟨b', by rw [es 6 (by omega) (by omega) (by omega) (by omega)]; exact i3, by omega, fun z => ?_⟩, by rw [es 18 (by omega) (by omega) (by omega) (by omega)]; exact i6⟩
      rw [s33] at z
      exact absurd z (by decide)
theorem st_follow {E : EE} {κ : K} {n ns t C : Nat} {a b : Int32} (hb : b = 0 ∨ b = 1) (hR : REL E κ (kV κ 5 0) n ns t C) : DONE (lw_follow E κ a b) C := by
  have hR0 := hR
  obtain ⟨⟨rfl, rfl, hO, h9⟩, ⟨q1, q2, q3, q4, q5⟩, hM, hQ, hS, hZ, hC⟩ := hR0
  have hn : E.1 ≤ 5 := hM.1.1.1
  have hG : kV κ 5 0 0 26 = nI E.1 := hM.1.1.2.1
  have hH : E.2.2.2.1 = 1 := hO.2.2.2.1
  by_cases ha : vp_in a E.1
  · obtain ⟨g, hg, rfl⟩ := vp_ex (by omega) ha
    have hF := (hM.2.2.2.1 g hg).1.1.2.2.2.2.2.2.2.2.2.2.1
    have h18 : kV κ 0 g 18 0 = kV κ 5 0 33 g := hF.1
    have hbit := FOLb hF
    obtain ⟨x, hst, hx⟩ := (hM.1.1.2.2.1 g hg).1.st
    have e68 : kV κ 0 g 6 8 = nI x := ((hM.2.2.2.1 g hg).1.2.1.2.2.2.2.2.2.1).trans hst
    by_cases hx3 : x = 3
    · exact ⟨E, _, E.1, E.2.1, t, by
      unfold lw_follow
      rw [show f_X10_follow E κ (nI g) b = some (addC κ 1 6, .inr 3) from by rw [f_X10_follow, f_X10_follow_e, guestAt_ok q1 hn hg, bx_s, gd_t (show g < cntE E 0 from hg), dead_E e68 hx, if_pos hx3, bd_s, if_neg (by decide), bx_r]]
      dsimp only
      rw [show f_X11_follow E (lwB (addC κ 1 6) (.inr 3)) (nI g) b = some (putM (lwB (addC κ 1 6) (.inr 3)) (mu (kV κ 5 0) 0 0 2), 0) from by rw [f_X11_follow, f_X11_follow_e, isGuest_t (n := E.1) (by rw [lwB_V (by omega)]; exact hG) hn hg, bd_s, if_neg (by decide), l55, nI_mul, l49, nI_add, nI_cl (by omega), gdi (by omega), lwB_V (by omega), show kV (addC κ 1 6) 5 0 1 (55 * g + 49) = nI x from hst, if_pos (by rw [hx3]; decide), f_X11_follow_b36, ref_n (by decide), bd_s, if_neg (by decide), lwB_V (by omega), bd_s, gd_t (Or.inl rfl)]; rfl]
      dsimp only
      rw [gdp_t (lwB_noX (by decide) rfl)], glueB (REL_no hR)⟩
    · have hne : ¬ nI x = 3 := by rw [l3, nI_eq' (by omega) (by omega)]; exact hx3
      rcases hb with rfl | rfl
      · obtain ⟨κ', bb, s1, s2, s3, s4, s5, s6⟩ := follow_off (E := E) (REL_thr (x := 0) hR) hg
        have hext : EXT (kV κ 5 0) (letM (mu (mu (kV κ 5 0) 0 0 0) 33 g 0) g) := EXT_thr.tr s6
        have hcl : f_X10_follow E κ (nI g) 0 = some (κ', .inl (kV κ 5 0 33 g)) := by
          rw [f_X10_follow, f_X10_follow_e, guestAt_ok q1 hn hg, bx_s, gd_t (show g < cntE E 0 from hg), dead_E e68 hx, if_neg hx3, bd_s, if_pos rfl, nmE, gd_t (Or.inl rfl), nmE, if_pos rfl, s1, bd_s, bx_s, h18, gd_t hbit]
        exact ⟨E, _, E.1, E.2.1, t, by
      unfold lw_follow
      rw [show f_X10_follow E κ (nI g) 0 = some (κ', .inl (kV κ 5 0 33 g)) from by exact hcl]
      dsimp only
      rw [show f_X11_follow E (lwB (κ') (.inl (kV κ 5 0 33 g))) (nI g) 0 = some (putM (lwB (κ') (.inl (kV κ 5 0 33 g))) (letM (mu (mu (kV κ 5 0) 0 0 0) 33 g 0) g), kV κ 5 0 33 g) from by rw [f_X11_follow, f_X11_follow_e, isGuest_t (n := E.1) (by rw [lwB_V (by omega), s2]; exact hG) hn hg, bd_s, if_neg (by decide), l55, nI_mul, l49, nI_add, nI_cl (by omega), gdi (by omega), lwB_V (by omega), s2, hst, if_neg hne, f_X11_follow_b36, ref_0, bd_s, if_pos rfl, nI_cl (by omega), gdi (by omega), put_kV, thr_c (by omega), lwB_V (by omega), s2, nmE, gdi (by omega), gd_t (Or.inl rfl), nmE, if_pos rfl, set5, put_kV, put_put, s3 _ put_kV, bd_s, bd_s, put_put, gd_t hbit]]
      dsimp only
      rw [gdp_t (lwB_okX (by rw [s5]; exact muS ⟨rfl, rfl⟩) (rfl))], glueB (s4)⟩
      · have hd : kV κ 0 g 0 18 = 0 := by
          obtain ⟨st, nT, nS, nJ, T, S, J, r, _, _, _, _, _, _, _, _, hpl⟩ := (hM.2.2.2.1 g hg).1.2.2.2
          rcases hpl with ⟨_, z⟩ | ⟨z, _⟩
          · rw [e68] at z; exact absurd z hne
          · exact z
        obtain ⟨κ', μ', bb, s1, s2, s3, s4, s5, s6⟩ := step_both (E := E) (κa := setV κ 0 g 18 0 1) (μa := mu (mu (kV κ 5 0) 0 0 0) 33 g 1) (REL_thr (x := 0) hR) hg hd (fun f i c z => by funext k; exact vD (by omega)) rfl rfl rfl (vS ⟨rfl, rfl, rfl, rfl⟩) (fun c k z => muD z) (muS ⟨rfl, rfl⟩)
        have hext : EXT (kV κ 5 0) μ' := EXT_thr.tr s6
        have hcl : f_X10_follow E κ (nI g) 1 = some (κ', .inl (kV κ 5 0 33 g)) := by
          rw [f_X10_follow, f_X10_follow_e, guestAt_ok q1 hn hg, bx_s, gd_t (show g < cntE E 0 from hg), dead_E e68 hx, if_neg hx3, bd_s, if_pos rfl, nmE, gd_t (Or.inr rfl), nmE, if_neg (by decide), s1, bd_s, bx_s, h18, gd_t hbit]
        exact ⟨E, _, E.1, E.2.1, t, by
      unfold lw_follow
      rw [show f_X10_follow E κ (nI g) 1 = some (κ', .inl (kV κ 5 0 33 g)) from by exact hcl]
      dsimp only
      rw [show f_X11_follow E (lwB (κ') (.inl (kV κ 5 0 33 g))) (nI g) 1 = some (putM (lwB (κ') (.inl (kV κ 5 0 33 g))) (μ'), kV κ 5 0 33 g) from by rw [f_X11_follow, f_X11_follow_e, isGuest_t (n := E.1) (by rw [lwB_V (by omega), s2]; exact hG) hn hg, bd_s, if_neg (by decide), l55, nI_mul, l49, nI_add, nI_cl (by omega), gdi (by omega), lwB_V (by omega), s2, hst, if_neg hne, f_X11_follow_b36, ref_0, bd_s, if_pos rfl, nI_cl (by omega), gdi (by omega), put_kV, thr_c (by omega), lwB_V (by omega), s2, nmE, gdi (by omega), gd_t (Or.inr rfl), nmE, if_neg (by decide), set5, put_kV, put_put, s3 _ put_kV, bd_s, bd_s, put_put, gd_t hbit]]
      dsimp only
      rw [gdp_t (lwB_okX (by rw [s5]; exact muS ⟨rfl, rfl⟩) (rfl))], glueB (s4)⟩
  · exact ⟨E, _, E.1, E.2.1, t, by
      unfold lw_follow
      rw [show f_X10_follow E κ a b = some (addC κ 1 6, .inr 1) from by rw [f_X10_follow, f_X10_follow_e, guestAt_no q1 hn ha, bx_r, bx_r]]
      dsimp only
      rw [show f_X11_follow E (lwB (addC κ 1 6) (.inr 1)) a b = some (putM (lwB (addC κ 1 6) (.inr 1)) (mu (kV κ 5 0) 0 0 1), 0) from by rw [f_X11_follow, f_X11_follow_e, isGuest_f (n := E.1) (by rw [lwB_V (by omega)]; exact hG) hn ha, bd_s, if_pos rfl, f_X11_follow_b36, ref_n (by decide), bd_s, if_neg (by decide), lwB_V (by omega), bd_s, gd_t (Or.inl rfl)]; rfl]
      dsimp only
      rw [gdp_t (lwB_noX (by decide) rfl)], glueB (REL_no hR)⟩
