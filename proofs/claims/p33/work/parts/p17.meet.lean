/-- only guest g and host h have changed -/
def FG (n s d1 d2 : Nat) (κ κ' : K) (g h : Nat) : Prop := (∀ f i, ¬ (f = 0 ∧ i = g) → ¬ (f = 2 ∧ i = h) → kV κ' f i = kV κ f i) ∧ kV κ' 2 h 0 = kV κ 2 h 0 ∧ (∀ f i, ¬ (f = 0 ∧ i = g) → kN κ' f i = kN κ f i) ∧ kP κ' = kP κ ∧ PAID n s d1 d2 κ κ'
theorem FG.trans {n s a1 a2 b1 b2 g h : Nat} {κ κ1 κ2 : K} (h1 : FG n s a1 a2 κ κ1 g h) (h2 : FG n s b1 b2 κ1 κ2 g h) : FG n s (a1 + b1) (a2 + b2) κ κ2 g h :=
  ⟨fun f i a b => (h2.1 f i a b).trans (h1.1 f i a b), h2.2.1.trans h1.2.1, fun f i a => (h2.2.2.1 f i a).trans (h1.2.2.1 f i a), h2.2.2.2.1.trans h1.2.2.2.1, h1.2.2.2.2.trans h2.2.2.2.2⟩
theorem FG.tr {n s g h : Nat} {κ κ1 κ2 : K} (h1 : FG n s 0 0 κ κ1 g h) (h2 : FG n s 0 0 κ1 κ2 g h) : FG n s 0 0 κ κ2 g h :=
  ⟨fun f i a b => (h2.1 f i a b).trans (h1.1 f i a b), h2.2.1.trans h1.2.1, fun f i a => (h2.2.2.1 f i a).trans (h1.2.2.1 f i a), h2.2.2.2.1.trans h1.2.2.2.1, (h1.2.2.2.2.trans h2.2.2.2.2).up (by omega) (by omega)⟩
theorem FG.rfl {n s g h : Nat} {κ : K} : FG n s 0 0 κ κ g h := ⟨fun _ _ _ _ => Eq.refl _, Eq.refl _, fun _ _ _ => Eq.refl _, Eq.refl _, PAID_same (Eq.refl _) (Eq.refl _)⟩
theorem FG_PP {n s g h : Nat} {κ : K} {v w : MU} (hw : w 0 = kV κ 2 h 0) : FG n s 0 0 κ (PP κ g h v w) g h :=
  ⟨fun f i a b => PP_n a b, by rw [PP_w]; exact hw, fun _ _ _ => rfl, rfl, PAID_same rfl rfl⟩
theorem FG_CHN {n s g h c : Nat} {κ κ' : K} (hc : CHN n s κ κ' 0 g c) : FG n s 0 0 κ κ' g h := by
  refine ⟨fun f i a b => ?_, hc.1 2 h 0 (by omega), fun f i a => ?_, hc.2.2.2.1, hc.2.2.2.2⟩
  · funext c'
    exact hc.1 f i c' (fun z => a ⟨z.1, z.2.1⟩)
  · funext c'
    exact hc.2.2.1 f i c' (fun z => a ⟨z.1, z.2.1⟩)
theorem FG_pm {n s g h c : Nat} {κ : K} {m : MU} : FG n s 0 0 κ (pm κ 0 g c m) g h := by
  refine ⟨fun f i a b => ?_, pm_n (by omega), fun _ _ _ => rfl, rfl, PAID_same rfl rfl⟩
  funext c'
  exact pm_n (fun z => a ⟨z.1, z.2.1⟩)
theorem FG_set {n s g h c k : Nat} {κ : K} {x : Int32} : FG n s 0 0 κ (setV κ 0 g c k x) g h := by
  refine ⟨fun f i a b => ?_, ?_, fun _ _ _ => rfl, rfl, PAID_same rfl rfl⟩
  · funext c' k'
    exact vD (fun z => a ⟨z.1, z.2.1⟩)
  · funext k'
    exact vD (by omega)
/-- what is left of the others, and of the guest's own -/
def GO (n s : Nat) (κ κ' : K) (μ μ' : MU) (g h : Nat) : Prop := FG n s 0 0 κ κ' g h ∧ OWN μ μ' g ∧ (∀ key, key / 8 < n → key / 8 ≠ g → (μ' 27 key = 0 ↔ μ 27 key = 0)) ∧ (∀ h2 w2, h2 < 2 → h2 ≠ h → RH w2 μ n h2 → RH w2 μ' n h2) ∧ (∀ k, k ≠ 14 → k ≠ 15 → kV κ' 0 g 0 k = kV κ 0 g 0 k) ∧ (∀ c, 1 ≤ c → c ≤ 4 → kV κ' 0 g c = kV κ 0 g c) ∧ kV κ' 0 g 5 5 = kV κ 0 g 5 5 ∧ ∀ c, 18 ≤ c → c < 32 → kV κ' 0 g c = kV κ 0 g c ∧ kN κ' 0 g c = kN κ 0 g c
theorem GO.trans {n s g h : Nat} {κ κ1 κ2 : K} {μ μ1 μ2 : MU} (a : GO n s κ κ1 μ μ1 g h) (b : GO n s κ1 κ2 μ1 μ2 g h) : GO n s κ κ2 μ μ2 g h :=
  ⟨a.1.tr b.1, a.2.1.trans b.2.1, fun key x y => (b.2.2.1 key x y).trans (a.2.2.1 key x y), fun h2 w2 x y z => b.2.2.2.1 h2 w2 x y (a.2.2.2.1 h2 w2 x y z), fun k x y => (b.2.2.2.2.1 k x y).trans (a.2.2.2.2.1 k x y), fun c x y => (b.2.2.2.2.2.1 c x y).trans (a.2.2.2.2.2.1 c x y), b.2.2.2.2.2.2.1.trans a.2.2.2.2.2.2.1, fun c x y => ⟨(b.2.2.2.2.2.2.2 c x y).1.trans (a.2.2.2.2.2.2.2 c x y).1, (b.2.2.2.2.2.2.2 c x y).2.trans (a.2.2.2.2.2.2.2 c x y).2⟩⟩
def TS (κ : K) (μ : MU) (n g h tt : Nat) : Prop := RGX κ μ g tt ∧ RH (kV κ 2 h) μ n h ∧ FRM μ n
/-- only the machine's row of guest g has changed -/
def M1 (μ μ' : MU) (g : Nat) : Prop := (∀ c, c ≠ 1 → μ' c = μ c) ∧ (∀ k, 50 ≤ k → k < 55 → μ' 1 (55 * g + k) = μ 1 (55 * g + k)) ∧ ∀ k, k / 55 ≠ g → μ' 1 k = μ 1 k
theorem M1.trans {μ μ1 μ2 : MU} {g : Nat} (h : M1 μ μ1 g) (h' : M1 μ1 μ2 g) : M1 μ μ2 g := ⟨fun c a => (h'.1 c a).trans (h.1 c a), fun k a b => (h'.2.1 k a b).trans (h.2.1 k a b), fun k a => (h'.2.2 k a).trans (h.2.2 k a)⟩
theorem M1_mu {μ : MU} {g j k : Nat} {x : Int32} (hj : j = 55 * g + k) (hk : k < 50) : M1 μ (mu μ 1 j x) g := ⟨fun c a => mu_row a, fun k a b => muD (by omega), fun k a => muD (by omega)⟩
theorem M1_goTo {μ : MU} {g : Nat} {x : Int32} : M1 μ (goToM μ g x) g := by
  unfold goToM
  exact (((M1_mu rfl (by omega)).trans (M1_mu rfl (by omega))).trans (M1_mu rfl (by omega))).trans (M1_mu rfl (by omega))
theorem M1_fault {μ : MU} {g : Nat} : M1 μ (faultM μ g) g := by
  unfold faultM
  split
  · exact M1_mu rfl (by omega)
  · exact M1_goTo
theorem M1_clr {μ : MU} {g p : Nat} (hp : p < 8) : ∀ k, k ≤ 4 → M1 μ (clrU μ g p k) g
  | 0, _ => ⟨fun _ _ => rfl, fun _ _ _ => rfl, fun _ _ => rfl⟩
  | k + 1, hk => by
    unfold clrU
    exact (M1_clr hp k (by omega)).trans (M1_mu (k := 17 + (4 * p + k)) (by omega) (by omega))
theorem M1.own {μ μ' : MU} {g : Nat} (h : M1 μ μ' g) : OWN μ μ' g := ⟨h.1 0 (by omega), fun c hc => h.1 c (by omega), fun c k a b d e => by
  by_cases z : c = 1
  · subst z; exact h.2.2 k e
  · rw [h.1 c z]⟩
theorem TS_m {κ : K} {μ μ' : MU} {n s g h tt : Nat} {m : MU} (hT : TS κ μ n g h tt) (hM : M1 μ μ' g) : TS (pm κ 0 g 6 m) μ' n g h tt ∧ GO n s κ (pm κ 0 g 6 m) μ μ' g h := by
  have eV : ∀ c, c < 6 ∨ 10 ≤ c → kV (pm κ 0 g 6 m) 0 g c = kV κ 0 g c := fun c hc => pm_n (by omega)
  have e2 : kV (pm κ 0 g 6 m) 2 h = kV κ 2 h := by
    funext c
    exact pm_n (by omega)
  refine ⟨⟨RGX_v hT.1 ?_ ?_ ?_ (fun k _ _ => by rw [eV 0 (by omega)]) (fun c _ _ hc => eV c hc) (fun _ => rfl) (fun c k _ b _ _ _ _ _ _ _ => by rw [hM.1 c b]) hM.2.1 (by rw [hM.1 0 (by omega)]), ?_, ?_⟩, FG_pm, hM.own, fun key _ _ => by rw [hM.1 27 (by omega)], fun h2 w2 _ _ z => RH_row z (hM.1 15 (by omega)) (hM.1 28 (by omega)) (hM.1 29 (by omega)), fun k _ _ => by rw [eV 0 (by omega)], fun c _ _ => eV c (by omega), by rw [eV 5 (by omega)], fun c _ _ => ⟨eV c (by omega), rfl⟩⟩
  · exact EXI_v hT.1.2.1 (by rw [eV 38 (by omega)]) (fun k _ => by rw [hM.1 25 (by omega)])
  · exact BAR_v hT.1.2.2.1 (by rw [eV 0 (by omega)]) (fun p _ => by rw [hM.1 27 (by omega)])
  · exact SND_v hT.1.2.2.2.1 (by rw [eV 0 (by omega)]) (by rw [hM.1 30 (by omega)]) (by rw [hM.1 31 (by omega)])
  · rw [e2]; exact RH_row hT.2.1 (hM.1 15 (by omega)) (hM.1 28 (by omega)) (hM.1 29 (by omega))
  · exact FRM_row hT.2.2 (hM.1 27 (by omega)) (hM.1 28 (by omega))
/-- the lists that a plain machine wants -/
def LST (κ : K) (g nT nS nJ : Nat) (T S J : Nat → Int32) : Prop := NUM κ 0 g 12 nT T ∧ NUM κ 0 g 14 nS S ∧ NUM κ 0 g 16 nJ J
theorem LST_v {κ κ' : K} {g nT nS nJ : Nat} {T S J : Nat → Int32} (h : LST κ g nT nS nJ T S J) (eV : ∀ c, 12 ≤ c → c < 18 → kV κ' 0 g c = kV κ 0 g c) (eN : ∀ c, 12 ≤ c → c < 18 → kN κ' 0 g c = kN κ 0 g c) : LST κ' g nT nS nJ T S J :=
  ⟨NUM_K h.1 (by rw [eV 12 (by omega) (by omega)]) (eV 13 (by omega) (by omega)) (eN 13 (by omega) (by omega)), NUM_K h.2.1 (by rw [eV 14 (by omega) (by omega)]) (eV 15 (by omega) (by omega)) (eN 15 (by omega) (by omega)), NUM_K h.2.2 (by rw [eV 16 (by omega) (by omega)]) (eV 17 (by omega) (by omega)) (eN 17 (by omega) (by omega))⟩
theorem TS_PP {κ : K} {μ μ' : MU} {n g h tt : Nat} {v w : MU} (hT : TS κ μ n g h tt) (hE : EXI v μ' g) (hB : BAR v μ' g) (hS : SND v μ' g) (hR : RH w μ' n h) (hF : FRM μ' n) (e0 : ∀ k, k ≠ 14 → k ≠ 15 → v 0 k = kV κ 0 g 0 k) (eV : ∀ c, c ≠ 0 → c ≠ 38 → v c = kV κ 0 g c) (em : ∀ c, c ≠ 25 → c ≠ 27 → c ≠ 28 → c ≠ 29 → c ≠ 31 → μ' c = μ c) : TS (PP κ g h v w) μ' n g h tt := by
  refine ⟨RGX_v hT.1 (by rw [PP_v]; exact hE) (by rw [PP_v]; exact hB) (by rw [PP_v]; exact hS) (fun k a b => by rw [PP_v]; exact e0 k a b) (fun c a b _ => by rw [PP_v]; exact eV c a b) (fun _ => rfl) (fun c k _ _ a b d e f f2 _ => by rw [em c a b d e f2]) (fun k _ _ => by rw [em 1 (by omega) (by omega) (by omega) (by omega) (by omega)]) (by rw [em 0 (by omega) (by omega) (by omega) (by omega) (by omega)]), by rw [PP_w]; exact hR, hF⟩
/-- an exit is counted -/
theorem t_exit {E : EE} {κ : K} {μ : MU} {n s g h tt k : Nat} (hk : k < 6) (hT : TS κ μ n g h tt) : ∃ κ1, f_X1_countExit E κ g (nI k) = some (κ1, ()) ∧ TS κ1 (mu μ 25 (6 * g + k) (μ 25 (6 * g + k) + 1)) n g h tt ∧ GO n s κ κ1 μ (mu μ 25 (6 * g + k) (μ 25 (6 * g + k) + 1)) g h ∧ (∀ c, c ≠ 38 → kV κ1 0 g c = kV κ 0 g c) ∧ kN κ1 = kN κ := by
  refine ⟨PP κ g h (exV (kV κ 0 g) k) (kV κ 2 h), ?_, ?_, ⟨FG_PP rfl, OWN_25 hk, fun key _ _ => by rw [mu_row (by omega)], fun h2 w2 _ _ z => RH_row z (mu_row (by omega)) (mu_row (by omega)) (mu_row (by omega)), fun k _ _ => ?_, fun c _ _ => ?_, ?_, fun c _ _ => ⟨?_, rfl⟩⟩, fun c hc => ?_, rfl⟩
  · have := g_exit (E := E) (κ := κ) (g := g) (h := h) (v := kV κ 0 g) (w := kV κ 2 h) hk
    rw [PP_self] at this
    exact this
  · refine TS_PP hT (EXI_up hT.1.2.1 hk) (BAR_v hT.1.2.2.1 (muD (by omega)) (fun p _ => by rw [mu_row (by omega)])) (SND_v hT.1.2.2.2.1 (muD (by omega)) (by rw [mu_row (by omega)]) (by rw [mu_row (by omega)])) (RH_row hT.2.1 (mu_row (by omega)) (mu_row (by omega)) (mu_row (by omega))) (FRM_row hT.2.2 (mu_row (by omega)) (mu_row (by omega))) (fun k _ _ => muD (by omega)) (fun c _ hc => mu_row hc) (fun c hc _ _ _ _ => mu_row hc)
  · rw [PP_v]; exact muD (by omega)
  · rw [PP_v]; exact mu_row (by omega)
  · rw [PP_v]; exact muD (by omega)
  · rw [PP_v]; exact mu_row (by omega)
  · rw [PP_v]; exact mu_row hc
/-- a page is reached -/
theorem t_touch {E : EE} {κ : K} {μ : MU} {n s g h tt p wr : Nat} (hn : n ≤ 5) (hg : g < n) (hh2 : h < 2) (hE2 : h < cntE E 2) (hP : kP κ 0 g 0 8 = some h) (hH : μ 15 g = nI h) (hp : p < 8) (htk : kV κ 2 h 0 5 = μ 0 41 + 1) (hT : TS κ μ n g h tt) : ∃ κ1, f_X1_reach E κ g (nI p) (nI wr) = some (κ1, ()) ∧ TS κ1 (touchM μ n g p (nI wr) h) n g h tt ∧ GO n s κ κ1 μ (touchM μ n g p (nI wr) h) g h ∧ (∀ c, c ≠ 0 → c ≠ 38 → kV κ1 0 g c = kV κ 0 g c) ∧ kN κ1 = kN κ := by
  obtain ⟨r1, r2, r3, r4, r5, r6⟩ := reach_touch (wr := nI wr) hn hg hh2 hp hH hT.2.1 hT.2.2 hT.1.2.1 hT.1.2.2.1 hT.1.2.2.2.1 htk
  obtain ⟨o1, o2, o3, o4, o5⟩ := touch_oth hp hT.2.2 hH hh2 r6
  have hkey : kV κ 2 h 1 (8 * g + p) = μ 28 (8 * g + p) := RH_key hT.2.1 (by omega) (by omega) (by rw [show (8 * g + p) / 8 = g from by omega]; exact hH)
  refine ⟨PP κ g h (reachV (kV κ 0 g) (kV κ 2 h) (8 * g + p) p (nI wr)) (reachW (kV κ 2 h) (8 * g + p) (nI wr)), ?_, ?_, ⟨FG_PP r2, OWN_touch hp hT.2.2 hH hh2 r6, fun key a b => o1 key a (by omega), o5, fun k a b => ?_, fun c a b => ?_, ?_, fun c a b => ⟨?_, rfl⟩⟩, fun c a b => ?_, rfl⟩
  · have := g_reach (E := E) (κ := κ) (v := kV κ 0 g) (w := kV κ 2 h) (wr := nI wr) hP hE2 hT.1.1.1 (by omega) hp (by
      rw [hkey]
      rcases hT.2.2 (8 * g + p) (by omega) with ⟨_, z⟩ | ⟨_, z⟩
      · exact Or.inr z
      · exact Or.inl z)
    rw [PP_self] at this
    exact this
  · exact TS_PP hT r3 r4 r5 r1 o4 (fun k a b => reachV_k b a) (fun c a b => reachV_c a b) (fun c a b d e f => touch_row (by omega))
  · rw [PP_v]; exact reachV_k b a
  · rw [PP_v]; exact reachV_c (by omega) (by omega)
  · rw [PP_v, reachV_c (by omega) (by omega)]
  · rw [PP_v]; exact reachV_c (by omega) (by omega)
  · rw [PP_v]; exact reachV_c a b
/-- the model gives a page back, its words aside -/
def givM (μ : MU) (g page : Nat) : MU :=
  let μ1 := mu μ 27 (8 * g + page) 0
  let μ2 := mu μ1 28 (8 * g + page) (-1)
  mu μ2 31 g (μ2 31 g ||| (if μ2 30 g = 0 then (0 : Int32) else (1 : Int32) <<< (nI page &&& 31)))
theorem give_giv {μ : MU} {g p : Nat} : giveM μ g p = givM (clrU μ g p 4) g p := rfl
theorem t_give {E : EE} {κ : K} {μ : MU} {n s g h tt p : Nat} (hn : n ≤ 5) (hg : g < n) (hh2 : h < 2) (hE2 : h < cntE E 2) (hP : kP κ 0 g 0 8 = some h) (hH : μ 15 g = nI h) (hp : p < 8) (hT : TS κ μ n g h tt) : ∃ κ1, f_X1_giveBack E κ g (nI p) = some (κ1, ()) ∧ TS κ1 (givM μ g p) n g h tt ∧ GO n s κ κ1 μ (givM μ g p) g h ∧ (∀ c, c ≠ 0 → kV κ1 0 g c = kV κ 0 g c) ∧ kN κ1 = kN κ := by
  have hkey : kV κ 2 h 1 (8 * g + p) = μ 28 (8 * g + p) := RH_key hT.2.1 (by omega) (by omega) (by rw [show (8 * g + p) / 8 = g from by omega]; exact hH)
  have hfr := hT.2.2 (8 * g + p) (by omega)
  have hR : RH (leaveH (kV κ 2 h) (8 * g + p)) (mu μ 28 (8 * g + p) (-1)) n h := by
    rcases hfr with ⟨_, f, hf, z⟩ | ⟨_, z⟩
    · exact RH_leave hT.2.1 (by omega) hf (hkey.trans z)
    · unfold leaveH
      rw [if_pos (hkey.trans z), mu_self z]
      exact hT.2.1
  have e28 : ∀ c, c ≠ 27 → c ≠ 31 → (givM μ g p) c = (mu μ 28 (8 * g + p) (-1)) c := fun c a b => by
    unfold givM
    rw [mu_row b]
    funext k
    unfold mu
    split
    · rfl
    · exact if_neg (fun z => a z.1)
  have e27 : ∀ key, (givM μ g p) 27 key = if key = 8 * g + p then 0 else μ 27 key := fun key => by
    unfold givM
    rw [mu_row (by omega), mu_row (by omega)]
    by_cases e : key = 8 * g + p
    · rw [if_pos e, muS ⟨rfl, e⟩]
    · rw [if_neg e, muD (by omega)]
  have hF : FRM (givM μ g p) n := FRM_row (FRM_0 hT.2.2) (by unfold givM; rw [mu_row (by omega)]) (by unfold givM; rw [mu_row (by omega)])
  obtain ⟨B, hB1, hB2, hB3⟩ := hT.1.2.2.1
  let v1 : MU := mu (kV κ 0 g) 0 14 (kV κ 0 g 0 14 ||| bitI p)
  have hBAR : BAR (sendV v1 p) (givM μ g p) g := by
    refine ⟨setB B p, set_lt B hB1 p hp, ?_, fun q hq => ?_⟩
    · rw [sendV_k (by omega), show v1 0 14 = kV κ 0 g 0 14 ||| bitI p from muS ⟨rfl, rfl⟩, hB2, bit_set B hB1 p hp]
    · rw [set_bit B hB1 p hp q hq, e27]
      by_cases e : q = p
      · subst e; rw [if_pos rfl]; simp
      · rw [if_neg (by omega), ← hB3 q hq]; simp [e]
  have hSND : SND (sendV v1 p) (givM μ g p) g := by
    have h0 : SND v1 (mu (mu μ 27 (8 * g + p) 0) 28 (8 * g + p) (-1)) g := SND_v hT.1.2.2.2.1 (muD (by omega)) (by rw [mu_row (by omega), mu_row (by omega)]) (by rw [mu_row (by omega), mu_row (by omega)])
    exact SND_send hp h0
  have hO : OWN μ (givM μ g p) g := by
    unfold givM
    exact ((OWN_pg (by omega)).trans (OWN_pg (by omega))).trans (OWN_g (by omega) (by omega) rfl)
  refine ⟨PP κ g h (sendV v1 p) (leaveH (kV κ 2 h) (8 * g + p)), ?_, ?_, ⟨FG_PP leaveH_0, hO, fun key a b => ?_, fun h2 w2 hb hne z => ?_, fun k a b => ?_, fun c a b => ?_, ?_, fun c a b => ⟨?_, rfl⟩⟩, fun c a => ?_, rfl⟩
  · have := g_give (E := E) (κ := κ) (v := kV κ 0 g) (w := kV κ 2 h) hP hE2 hT.1.1.1 (by omega) hp (by
      rw [hkey]
      rcases hfr with ⟨_, z⟩ | ⟨_, z⟩
      · exact Or.inr z
      · exact Or.inl z)
    rw [PP_self] at this
    exact this
  · refine TS_PP hT ?_ hBAR hSND ?_ hF (fun k a b => ?_) (fun c a b => ?_) (fun c a b d e f => ?_)
    · exact EXI_v hT.1.2.1 (by rw [sendV_c (by omega)]; exact mu_row (by omega)) (fun k _ => by rw [e28 25 (by omega) (by omega), mu_row (by omega)])
    · exact RH_row hR (e28 15 (by omega) (by omega)) (e28 28 (by omega) (by omega)) (e28 29 (by omega) (by omega))
    · rw [sendV_k b]; exact muD (by omega)
    · rw [sendV_c a]; exact mu_row a
    · rw [e28 c b f, mu_row d]
  · rw [e27, if_neg (by omega)]
  · exact RH_row (RH_28 z (Ne.symm hne) ⟨hh2, hb⟩ (by rw [show (8 * g + p) / 8 = g from by omega]; exact hH)) (e28 15 (by omega) (by omega)) (e28 28 (by omega) (by omega)) (e28 29 (by omega) (by omega))
  · rw [PP_v, sendV_k b]; exact muD (by omega)
  · rw [PP_v, sendV_c (by omega)]; exact mu_row (by omega)
  · rw [PP_v, sendV_c (by omega)]; exact muD (by omega)
  · rw [PP_v, sendV_c (by omega)]; exact mu_row (by omega)
  · rw [PP_v, sendV_c a]; exact mu_row a
