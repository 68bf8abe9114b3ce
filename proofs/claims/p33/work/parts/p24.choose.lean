theorem RG_e {κ κ' : K} {μ μ' : MU} {g tt : Nat} (h : RG κ μ g tt) (eV : kV κ' 0 g = kV κ 0 g) (eN : kN κ' 0 g = kN κ 0 g) (em : ∀ c, c < 38 → μ' c = μ c) : RG κ' μ' g tt := by
  refine ⟨RGX_v h.1 ?_ ?_ ?_ (fun k _ _ => by rw [eV]) (fun c _ _ _ => by rw [eV]) (fun c => by rw [eN]) (fun c k a _ _ _ _ _ _ _ _ => by rw [em c a.2]) (fun k _ _ => by rw [em 1 (by omega)]) (by rw [em 0 (by omega)]), ?_, by rw [eV, em 24 (by omega)]; exact h.2.2.1, PLL_v h.2.2.2 (fun _ _ _ => by rw [eV]) (fun _ _ _ => by rw [eV]) (fun _ _ _ => by rw [eN]) (by rw [eV]) (by rw [eV]) (by rw [eV]) (by rw [eV]; exact MEQ_j fun _ _ => rfl)⟩
  · exact EXI_v h.1.2.1 (by rw [eV]) (fun k _ => by rw [em 25 (by omega)])
  · exact BAR_v h.1.2.2.1 (by rw [eV]) (fun p _ => by rw [em 27 (by omega)])
  · exact SND_v h.1.2.2.2.1 (by rw [eV]) (by rw [em 30 (by omega)]) (by rw [em 31 (by omega)])
  · rw [eV, row_e (em 1 (by omega))]; exact h.2.1
/-- the lists of a kept state -/
def PLK (κ : K) (f i c g : Nat) : Prop := ∃ st nT nS nJ T S J r, NUM κ f i (c + 7) nT T ∧ NUM κ f i (c + 9) nS S ∧ NUM κ f i (c + 11) nJ J ∧ kV κ f i c 5 = nI st ∧ nT ≤ st ∧ nS ≤ st ∧ nJ ≤ st ∧ kV κ 0 g 0 12 = nI r ∧ st ≤ r ∧ r ≤ 3000 ∧ PLN (kV κ 0 g) (mc (kV κ f i) (c + 1)) st nT nS nJ T S J
def RANUP (κ κ' : K) (g : Nat) : Prop := ∀ r, kV κ 0 g 0 12 = nI r → r ≤ 3000 → ∃ r', r ≤ r' ∧ r' ≤ 3000 ∧ kV κ' 0 g 0 12 = nI r'
theorem RANUP_e {κ κ' : K} {g : Nat} (e : kV κ' 0 g 0 12 = kV κ 0 g 0 12) : RANUP κ κ' g := fun r h1 h2 => ⟨r, Nat.le_refl _, h2, e.trans h1⟩
theorem PLK_v {κ κ' : K} {f i c g : Nat} (h : PLK κ f i c g) (eV : ∀ j, j < 13 → kV κ' f i (c + j) = kV κ f i (c + j)) (eN : ∀ j, j < 13 → kN κ' f i (c + j) = kN κ f i (c + j)) (eP : ∀ c, 1 ≤ c → c ≤ 4 → kV κ' 0 g c = kV κ 0 g c) (er : RANUP κ κ' g) : PLK κ' f i c g := by
  obtain ⟨st, nT, nS, nJ, T, S, J, r, h1, h2, h3, h4, l1, l2, l3, h5, l4, l5, hp⟩ := h
  obtain ⟨r', r1, r2, r3⟩ := er r h5 l5
  refine ⟨st, nT, nS, nJ, T, S, J, r', NUM_K h1 (by rw [eV 7 (by omega)]) (eV 8 (by omega)) (eN 8 (by omega)), NUM_K h2 (by rw [eV 9 (by omega)]) (eV 10 (by omega)) (eN 10 (by omega)), NUM_K h3 (by rw [eV 11 (by omega)]) (eV 12 (by omega)) (eN 12 (by omega)), ?_, l1, l2, l3, r3, by omega, r2, PLN_m (PLN_P hp eP) (MEQ_j fun j hj => ?_)⟩
  · have := eV 0 (by omega)
    rw [Nat.add_zero] at this
    rw [this]; exact h4
  · unfold mc
    have := eV (1 + j) (by omega)
    rw [← Nat.add_assoc] at this
    rw [this]
def FPL (κ : K) (g : Nat) : Prop := kV κ 0 g 18 0 = 0 ∨ PLK κ 0 g 19 g
def SNP (κ : K) (μ : MU) (s n : Nat) : Prop := ∃ g, g < n ∧ kP κ 1 s 0 0 = some g ∧ kP κ 1 s 0 1 = some s ∧ μ 9 s = nI g ∧ kV κ 1 s 0 2 = μ 10 s ∧ KST κ 9 s 0 (fun k => μ 7 (55 * s + k)) (fun k => μ 8 (512 * s + k)) ∧ PLK κ 9 s 0 g
theorem SNP_v {κ κ' : K} {μ μ' : MU} {s n n' : Nat} (h : SNP κ μ s n) (hn : n ≤ n') (e1 : kV κ' 1 s = kV κ 1 s) (e9 : kV κ' 9 s = kV κ 9 s) (eN : kN κ' 9 s = kN κ 9 s) (eP : kP κ' 1 s = kP κ 1 s) (em : ∀ c, 7 ≤ c → c ≤ 10 → ∀ k, (c = 7 → k / 55 = s) → (c = 8 → k / 512 = s) → (c = 9 ∨ c = 10 → k = s) → μ' c k = μ c k) (eG : ∀ g, g < n → (∀ c, 1 ≤ c → c ≤ 4 → kV κ' 0 g c = kV κ 0 g c) ∧ RANUP κ κ' g) : SNP κ' μ' s n' := by
  obtain ⟨g, hg, h1, h2, h3, h4, h5, h6⟩ := h
  refine ⟨g, by omega, by rw [eP]; exact h1, by rw [eP]; exact h2, by rw [em 9 (by omega) (by omega) s (by omega) (by omega) (by omega)]; exact h3, by rw [e1, em 10 (by omega) (by omega) s (by omega) (by omega) (by omega)]; exact h4, KST_v h5 (fun j _ => by rw [e9]) (by rw [eN]) (fun k hk => em 7 (by omega) (by omega) _ (by omega) (by omega) (by omega)) (fun k hk => em 8 (by omega) (by omega) _ (by omega) (by omega) (by omega)), PLK_v h6 (fun j _ => by rw [e9]) (fun j _ => by rw [eN]) (eG g hg).1 (eG g hg).2⟩
theorem GPT_v {κ κ' : K} {μ μ' : MU} {g ns ns' : Nat} (h : GPT κ μ g ns) (hns : ns ≤ ns') (eP : kP κ' 0 g = kP κ 0 g) (e15 : μ' 15 g = μ 15 g) (e12 : μ' 12 g = μ 12 g) : GPT κ' μ' g ns' := by
  unfold GPT
  rw [eP, e15, e12]
  exact ⟨h.1, h.2.imp id (fun ⟨s, a, b⟩ => ⟨s, by omega, b⟩)⟩
theorem HO_v {κ κ' : K} {μ μ' : MU} {n n' h : Nat} (hO : HO κ μ n h) (hn : n ≤ n') (hR : RH (kV κ' 2 h) μ' n' h) (e0 : ∀ k, k ≠ 5 → kV κ' 2 h 0 k = kV κ 2 h 0 k) (eP : kP κ' 2 h = kP κ 2 h) (em : ∀ c, 38 ≤ c → c ≤ 40 → μ' c h = μ c h) : HO κ' μ' n' h := by
  unfold HO
  rw [e0 0 (by omega), e0 4 (by omega), e0 7 (by omega), eP, em 38 (by omega) (by omega), em 39 (by omega) (by omega), em 40 (by omega) (by omega)]
  exact ⟨hR, hO.2.1, hO.2.2.1, hO.2.2.2.1, hO.2.2.2.2.1, hO.2.2.2.2.2.imp id (fun ⟨l, a, b⟩ => ⟨l, by omega, b⟩)⟩
def MID (κ : K) (μ : MU) (n ns : Nat) (tf : Nat → Nat) : Prop := TJ μ n ∧ FRM μ n ∧ (∀ h, h < 2 → HO κ μ n h) ∧ (∀ g, g < n → RG κ μ g (tf g) ∧ GPT κ μ g ns ∧ FPL κ g) ∧ ∀ s, s < ns → SNP κ μ s n
/-- the hall's own, and the price -/
def HFR (n s d1 d2 : Nat) (κ κ' : K) : Prop := (∀ f, f ≠ 0 → f ≠ 2 → kV κ' f = kV κ f) ∧ kP κ' 4 = kP κ 4 ∧ kP κ' 0 = kP κ 0 ∧ (∀ f, f = 1 ∨ f = 3 → kP κ' f = kP κ f) ∧ PAID n s d1 d2 κ κ'
theorem HFR.tr {n s : Nat} {κ κ1 κ2 : K} (h : HFR n s 0 0 κ κ1) (h' : HFR n s 0 0 κ1 κ2) : HFR n s 0 0 κ κ2 := ⟨fun f a b => (h'.1 f a b).trans (h.1 f a b), h'.2.1.trans h.2.1, h'.2.2.1.trans h.2.2.1, fun f z => (h'.2.2.2.1 f z).trans (h.2.2.2.1 f z), (h.2.2.2.2.trans h'.2.2.2.2).up (by omega) (by omega)⟩
theorem HFR.rfl {n s : Nat} {κ : K} : HFR n s 0 0 κ κ := ⟨fun _ _ _ => Eq.refl _, Eq.refl _, Eq.refl _, fun _ _ => Eq.refl _, PAID_same (Eq.refl _) (Eq.refl _)⟩
/-- only hosts' own fields have changed -/
theorem MID_2 {κ κ' : K} {μ μ' : MU} {n ns : Nat} {tf : Nat → Nat} (hM : MID κ μ n ns tf) (hV : ∀ f, f ≠ 2 → kV κ' f = kV κ f) (hN : kN κ' = kN κ) (hP : ∀ f, f ≠ 2 → kP κ' f = kP κ f) (hTJ : TJ μ' n) (hH : ∀ h, h < 2 → HO κ' μ' n h) (em : ∀ c, c < 38 → μ' c = μ c) : MID κ' μ' n ns tf := by
  obtain ⟨h1, h2, h3, h4, h5⟩ := hM
  refine ⟨hTJ, FRM_row h2 (em 27 (by omega)) (em 28 (by omega)), hH, fun g hg => ⟨RG_e (h4 g hg).1 (by rw [hV 0 (by omega)]) (by rw [hN]) em, GPT_v (h4 g hg).2.1 (Nat.le_refl _) (by rw [hP 0 (by omega)]) (by rw [em 15 (by omega)]) (by rw [em 12 (by omega)]), (h4 g hg).2.2.imp (fun z => by rw [hV 0 (by omega)]; exact z) (fun z => PLK_v z (fun j _ => by rw [hV 0 (by omega)]) (fun j _ => by rw [hN]) (fun c _ _ => by rw [hV 0 (by omega)]) (RANUP_e (by rw [hV 0 (by omega)])))⟩, fun s hs => SNP_v (h5 s hs) (Nat.le_refl _) (by rw [hV 1 (by omega)]) (by rw [hV 9 (by omega)]) (by rw [hN]) (by rw [hP 1 (by omega)]) (fun c a b k _ _ _ => by rw [em c (by omega)]) (fun g _ => ⟨fun c _ _ => by rw [hV 0 (by omega)], RANUP_e (by rw [hV 0 (by omega)])⟩)⟩
/-- one guest has changed, on both sides -/
theorem MID_1 {κ κ' : K} {μ μ' : MU} {n ns g tt : Nat} {tf : Nat → Nat} (hM : MID κ μ n ns tf) (hg : g < n) (hV : ∀ f i, ¬ (f = 0 ∧ i = g) → kV κ' f i = kV κ f i) (hN : kN κ' = kN κ) (hP : kP κ' = kP κ) (hTJ : TJ μ' n) (hO : OWN μ μ' g) (e27 : μ' 27 = μ 27) (e28 : μ' 28 = μ 28) (e29 : μ' 29 = μ 29) (em : ∀ c, 7 ≤ c → c ≤ 15 → c ≠ 11 → c ≠ 13 → c ≠ 14 → μ' c = μ c) (hR : RG κ' μ' g tt) (ec : ∀ c, (1 ≤ c ∧ c ≤ 4) ∨ (18 ≤ c ∧ c < 32) → kV κ' 0 g c = kV κ 0 g c) (e12 : RANUP κ κ' g) : MID κ' μ' n ns (fun i => if i = g then tt else tf i) := by
  obtain ⟨h1, h2, h3, h4, h5⟩ := hM
  have hprog : ∀ g2, g2 < n → (∀ c, 1 ≤ c → c ≤ 4 → kV κ' 0 g2 c = kV κ 0 g2 c) ∧ RANUP κ κ' g2 := by
    intro g2 hg2
    by_cases e : g2 = g
    · subst e
      exact ⟨fun c a b => ec c (Or.inl ⟨a, b⟩), e12⟩
    · exact ⟨fun c a b => by rw [hV 0 g2 (by omega)], RANUP_e (by rw [hV 0 g2 (by omega)])⟩
  refine ⟨hTJ, FRM_row h2 e27 e28, fun h hh => HO_v (h3 h hh) (Nat.le_refl _) ?_ (fun k _ => by rw [hV 2 h (by omega)]) (by rw [hP]) (fun c a b => by rw [hO.2.1 c a]), fun g2 hg2 => ?_, fun s hs => SNP_v (h5 s hs) (Nat.le_refl _) (hV 1 s (by omega)) (hV 9 s (by omega)) (by rw [hN]) (by rw [hP]) (fun c a b k _ _ _ => by rw [em c (by omega) (by omega) (by omega) (by omega) (by omega)]) hprog⟩
  · rw [hV 2 h (by omega)]
    exact RH_row (h3 h hh).1 (em 15 (by omega) (by omega) (by omega) (by omega) (by omega)) e28 e29
  · obtain ⟨a1, a2, a3⟩ := h4 g2 hg2
    refine ⟨?_, GPT_v a2 (Nat.le_refl _) (by rw [hP]) (by rw [em 15 (by omega) (by omega) (by omega) (by omega) (by omega)]) (by rw [em 12 (by omega) (by omega) (by omega) (by omega) (by omega)]), ?_⟩
    · by_cases e : g2 = g
      · subst e
        show RG κ' μ' g2 (if g2 = g2 then tt else tf g2)
        rw [if_pos rfl]
        exact hR
      · show RG κ' μ' g2 (if g2 = g then tt else tf g2)
        rw [if_neg e]
        exact RG_n a1 (Ne.symm e) hO (fun p _ => by rw [e27]) (hV 0 g2 (by omega)) (by rw [hN])
    · have hf : ∀ c, 18 ≤ c → c < 32 → kV κ' 0 g2 c = kV κ 0 g2 c := by
        intro c x y
        by_cases e : g2 = g
        · subst e; exact ec c (Or.inr ⟨x, y⟩)
        · rw [hV 0 g2 (by omega)]
      refine a3.imp (fun z => by rw [hf 18 (by omega) (by omega)]; exact z) (fun z => PLK_v z (fun j _ => hf _ (by omega) (by omega)) (fun j _ => by rw [hN]) (hprog g2 hg2).1 (hprog g2 hg2).2)
theorem MID_tf {κ : K} {μ : MU} {n ns : Nat} {tf tf' : Nat → Nat} (h : MID κ μ n ns tf) (e : ∀ g, g < n → tf g = tf' g) : MID κ μ n ns tf' := ⟨h.1, h.2.1, h.2.2.1, fun g hg => by rw [← e g hg]; exact h.2.2.2.1 g hg, h.2.2.2.2⟩
/-- the class chooses a guest as the model does -/
theorem t_choose {E : EE} {κ : K} {μ : MU} {n ns h : Nat} {tf : Nat → Nat} (hE : E.1 = n) (hH : E.2.2.2.1 = 1) (hh : h < 2) (hL : LsI E κ 1 n) (hM : MID κ μ n ns tf) : ∃ κ' o, f_X10_chooseFor E κ h = some (κ', o) ∧ OPT n o (chM μ n h).2 ∧ MID κ' (chM μ n h).1 n ns tf ∧ HFR n ns 0 0 κ κ' := by
  have hTJ := hM.1
  have hn : n ≤ 5 := hTJ.1.1
  have hG := fun g hg => (hM.2.2.2.1 g hg)
  have hO := hM.2.2.1 h hh
  obtain ⟨o1, o2, o3, o4, o5, o6⟩ := hO
  -- when the row of hosts' last has been set anew
  have set1 : ∀ (κ' : K) (μ' : MU), ((κ' = κ ∧ μ' = μ) ∨ ∃ l, l < n ∧ κ' = setV (setP κ 2 h 0 6 (some l)) 2 h 0 7 1 ∧ μ' = mu (mu μ 39 h (nI l)) 40 h 1) → TJ μ' n → MID κ' μ' n ns tf ∧ HFR n ns 0 0 κ κ' := by
    intro κ' μ' hc hT'
    rcases hc with ⟨rfl, rfl⟩ | ⟨l, hl, rfl, rfl⟩
    · exact ⟨hM, HFR.rfl⟩
    · have eV : ∀ f, f ≠ 2 → kV (setV (setP κ 2 h 0 6 (some l)) 2 h 0 7 1) f = kV κ f := fun f hf => by
        funext i c k
        rw [vD (by omega)]
        rfl
      have eP : ∀ f, f ≠ 2 → kP (setV (setP κ 2 h 0 6 (some l)) 2 h 0 7 1) f = kP κ f := fun f hf => by
        funext i c k
        exact pD (by omega)
      have em : ∀ c, c < 38 → (mu (mu μ 39 h (nI l)) 40 h 1) c = μ c := fun c hc => by rw [mu_row (by omega), mu_row (by omega)]
      refine ⟨MID_2 hM eV rfl eP hT' (fun h2 hh2 => ?_) em, fun f a b => eV f b, eP 4 (by omega), eP 0 (by omega), fun f z => eP f (by omega), PAID_same rfl rfl⟩
      have hR2 : RH (kV (setV (setP κ 2 h 0 6 (some l)) 2 h 0 7 1) 2 h2) (mu (mu μ 39 h (nI l)) 40 h 1) n h2 := by
        refine RH_wrow (RH_row (hM.2.2.1 h2 hh2).1 (em 15 (by omega)) (em 28 (by omega)) (em 29 (by omega))) ?_ ?_ ?_ <;> (funext k; rw [vD (by omega)]; rfl)
      by_cases e : h2 = h
      · subst e
        refine ⟨hR2, by rw [vD (by omega)]; exact o2, by rw [vD (by omega), mu_row (by omega), mu_row (by omega)]; exact o3, by rw [mu_row (by omega), mu_row (by omega)]; exact o4, by rw [vS ⟨rfl, rfl, rfl, rfl⟩, muS ⟨rfl, rfl⟩], Or.inr ⟨l, hl, by rw [mu_row (by omega), muS ⟨rfl, rfl⟩], pS ⟨rfl, rfl, rfl, rfl⟩⟩⟩
      · refine HO_v (hM.2.2.1 h2 hh2) (Nat.le_refl _) hR2 (fun k _ => by rw [vD (by omega)]; rfl) ?_ (fun c a b => by rw [muD (by omega), muD (by omega)])
        funext c k
        exact pD (by omega)
  have hT' := TJ_ch hTJ hh
  unfold chM at hT' ⊢
  rcases o6 with ⟨e39, eP⟩ | ⟨l, hl, e39, eP⟩
  · rw [if_pos e39] at hT' ⊢
    rw [f_X10_chooseFor, eP, optG_0, f_X10_chooseFor_b40, size_ok hL, bd_s]
    obtain ⟨κ', o, q1, q2, q3⟩ := choose_L (E := E) (κ := κ) (μ := μ) (s0 := 0) hE hH hn hh hL (fun g hg => ⟨(hG g hg).1, (hG g hg).2.1⟩) (by omega)
    exact ⟨κ', o, q1, q2, set1 κ' _ q3 hT'⟩
  · have hne : ¬ μ 39 h = -1 := by rw [e39, nI_m1 (by omega)]; exact id
    have hx : (μ 39 h).toNatClampNeg = l := by rw [e39, nI_cl (by omega)]
    rw [if_neg hne] at hT' ⊢
    dsimp only at hT' ⊢
    rw [hx] at hT' ⊢
    have ew : kV κ 0 l 0 1 = μ 16 l := (hG l hl).1.1.1.2.1
    have e00 : kV κ 0 l 0 0 = nI l := (hG l hl).1.1.1.1
    obtain ⟨κ', o, q1, q2, q3⟩ := choose_L (E := E) (κ := κ) (μ := μ) (s0 := l + 1) hE hH hn hh hL (fun g hg => ⟨(hG g hg).1, (hG g hg).2.1⟩) (by omega)
    have h40 : f_X10_chooseFor_b40a E h κ l = some (κ', o) := by
      rw [f_X10_chooseFor_b40a, size_ok hL, bd_s, e00, nI_1]
      exact q1
    rw [f_X10_chooseFor, eP, optG_s (show l < cntE E 0 from by rw [show cntE E 0 = E.1 from rfl, hE]; exact hl), ew, o5]
    by_cases hc : canM μ l (nI h) = true
    · rw [if_pos hc] at hT' ⊢
      by_cases hw : μ 16 l ≤ μ 40 h
      · rw [if_pos hw] at hT' ⊢
        rw [if_pos hw]
        exact ⟨κ', o, h40, q2, set1 κ' _ q3 hT'⟩
      · rw [if_neg hw] at hT' ⊢
        rw [if_neg hw, can_E hH hh (hG l hl).1 (hG l hl).2.1, bd_s, if_pos hc, if_neg (by decide), nmE, o5]
        refine ⟨_, _, rfl, Or.inr ⟨l, hl, rfl, e39⟩, ?_⟩
        show MID _ (mu μ 40 h (μ 40 h + 1)) n ns tf ∧ HFR n ns 0 0 κ _
        have eV : ∀ f, f ≠ 2 → kV (setV κ 2 h 0 7 (μ 40 h + 1)) f = kV κ f := fun f hf => by
          funext i c k
          exact vD (by omega)
        have em : ∀ c, c ≠ 40 → (mu μ 40 h (μ 40 h + 1)) c = μ c := fun c hc => mu_row hc
        refine ⟨MID_2 hM eV rfl (fun _ _ => rfl) hT' (fun h2 hh2 => ?_) (fun c hc => em c (by omega)), fun f a b => eV f b, rfl, rfl, fun _ _ => rfl, PAID_same rfl rfl⟩
        have hR2 : RH (kV (setV κ 2 h 0 7 (μ 40 h + 1)) 2 h2) (mu μ 40 h (μ 40 h + 1)) n h2 := by
          refine RH_wrow (RH_row (hM.2.2.1 h2 hh2).1 (em 15 (by omega)) (em 28 (by omega)) (em 29 (by omega))) ?_ ?_ ?_ <;> (funext k; exact vD (by omega))
        by_cases e : h2 = h
        · subst e
          exact ⟨hR2, by rw [vD (by omega)]; exact o2, by rw [vD (by omega), em 38 (by omega)]; exact o3, by rw [em 38 (by omega)]; exact o4, by rw [vS ⟨rfl, rfl, rfl, rfl⟩, muS ⟨rfl, rfl⟩], Or.inr ⟨l, hl, by rw [em 39 (by omega)]; exact e39, eP⟩⟩
        · exact HO_v (hM.2.2.1 h2 hh2) (Nat.le_refl _) hR2 (fun k _ => vD (by omega)) rfl (fun c a b => muD (by omega))
    · rw [if_neg hc] at hT' ⊢
      by_cases hw : μ 16 l ≤ μ 40 h
      · rw [if_pos hw]
        exact ⟨κ', o, h40, q2, set1 κ' _ q3 hT'⟩
      · rw [if_neg hw, can_E hH hh (hG l hl).1 (hG l hl).2.1, bd_s, if_neg hc, if_pos rfl]
        exact ⟨κ', o, h40, q2, set1 κ' _ q3 hT'⟩
