theorem REL_GC {E : EE} {κ κ' : K} {μ μ' : MU} {n ns t C C' g d1 d2 : Nat} (hR : REL E κ μ n ns t C) (hCC : C ≤ C') (hg : g < n) (hV : ∀ f i, ¬ (f = 0 ∧ i = g) → f ≠ 2 → f ≠ 5 → f ≠ 6 → kV κ' f i = kV κ f i) (hN : ∀ f i, ¬ (f = 0 ∧ i = g) → kN κ' f i = kN κ f i) (hP : ∀ f i, ¬ (f = 0 ∧ i = g) → kP κ' f i = kP κ f i) (hTJ : TJ μ' n) (hF : FRM μ' n) (hO : OWN μ μ' g) (hB : ∀ key, key / 8 < n → key / 8 ≠ g → (μ' 27 key = 0 ↔ μ 27 key = 0)) (hHO : ∀ h, h < 2 → RH (kV κ' 2 h) μ' n h ∧ ∀ k, kV κ' 2 h 0 k = kV κ 2 h 0 k) (hRG : RG κ' μ' g t) (hGP : GPT κ' μ' g ns) (hFP : FPL κ' g) (hSN : ∀ s, s < ns → PLK κ 9 s 0 g → PLK κ' 9 s 0 g) (em : ∀ c, 7 ≤ c → c ≤ 10 → μ' c = μ c) (hS : SAY μ' g t) (hC : CLK μ' g t) (hI : INQ μ' g C') (hp : PAID n ns d1 d2 κ κ') (h1 : d1 ≤ 400 * (C' - C)) (h2 : d2 ≤ 5000 * (C' - C)) : REL E κ' μ' n ns t C' := by
  obtain ⟨g1, ⟨l1, l2, l3, l4, l5⟩, ⟨m1, m2, m3, m4, m5⟩, g4, g5, g6, g7⟩ := hR
  refine ⟨⟨g1.1, g1.2.1, g1.2.2.1, g1.2.2.2.1, fun i hi => by rw [hP 3 i (by omega)]; exact g1.2.2.2.2 i hi⟩, ⟨LsI_v l1 (by rw [hV 4 0 (by omega) (by omega) (by omega) (by omega)]) (hP 4 0 (by omega)), LsI_v l2 (by rw [hV 4 0 (by omega) (by omega) (by omega) (by omega)]) (hP 4 0 (by omega)), by rw [hV 4 0 (by omega) (by omega) (by omega) (by omega)]; exact l3, by rw [hO.1]; exact l4, l5⟩, ⟨hTJ, hF, fun h hh => ?_, fun g2 hg2 => ?_, fun s hs => ?_⟩, fun g2 hg2 => ?_, ⟨by rw [hO.1]; exact g5.1, g5.2.1, fun s hs => ?_⟩, ZER_own g6 hO hg, (by unfold COST PAID at *; omega)⟩
  · exact HO_v (m3 h hh) (Nat.le_refl _) (hHO h hh).1 (fun k _ => (hHO h hh).2 k) (hP 2 h (by omega)) (fun c a b => by rw [hO.2.1 c a])
  · by_cases e : g2 = g
    · subst e
      exact ⟨hRG, hGP, hFP⟩
    · have eV : kV κ' 0 g2 = kV κ 0 g2 := hV 0 g2 (by omega) (by omega) (by omega) (by omega)
      have eN : kN κ' 0 g2 = kN κ 0 g2 := hN 0 g2 (by omega)
      refine ⟨RG_n (m4 g2 hg2).1 (Ne.symm e) hO (fun p hp => hB _ (by omega) (by omega)) eV eN, GPT_v (m4 g2 hg2).2.1 (Nat.le_refl _) (hP 0 g2 (by omega)) (own_g hO e rfl (by omega)) (own_g hO e rfl (by omega)), (m4 g2 hg2).2.2.imp (fun z => by rw [eV]; exact z) (fun z => PLK_v z (fun j _ => by rw [eV]) (fun j _ => by rw [eN]) (fun c _ _ => by rw [eV]) (RANUP_e (by rw [eV])))⟩
  · obtain ⟨o, p0, p1, p2, p3, p4, p5, p6⟩ := m5 s hs
    have e9 : kV κ' 9 s = kV κ 9 s := hV 9 s (by omega) (by omega) (by omega) (by omega)
    have n9 : kN κ' 9 s = kN κ 9 s := hN 9 s (by omega)
    refine ⟨o, p0, by rw [hP 1 s (by omega)]; exact p1, by rw [hP 1 s (by omega)]; exact p2, by rw [em 9 (by omega) (by omega)]; exact p3, by rw [hV 1 s (by omega) (by omega) (by omega) (by omega), em 10 (by omega) (by omega)]; exact p4, KST_v p5 (fun j _ => by rw [e9]) (by rw [n9]) (fun k _ => by rw [em 7 (by omega) (by omega)]) (fun k _ => by rw [em 8 (by omega) (by omega)]), ?_⟩
    by_cases e : o = g
    · subst e
      exact hSN s hs p6
    · have eV : kV κ' 0 o = kV κ 0 o := hV 0 o (by omega) (by omega) (by omega) (by omega)
      exact PLK_v p6 (fun j _ => by rw [e9]) (fun j _ => by rw [n9]) (fun c _ _ => by rw [eV]) (RANUP_e (by rw [eV]))
  · by_cases e : g2 = g
    · subst e
      exact ⟨hS, hC, hI⟩
    · obtain ⟨a1, a2, ⟨m, b1, b2⟩, ⟨bb, b3, b4, b5⟩, b6⟩ := g4 g2 hg2
      refine ⟨?_, ?_, ⟨m, ?_, by omega⟩, ⟨bb, ?_, by omega, fun z => ?_⟩, ?_⟩
      · unfold SAY
        rw [own_g hO e rfl (by omega), own_g hO e rfl (by omega), own_g hO e rfl (by omega)]
        exact a1
      · unfold CLK
        rw [own_g hO e rfl (by omega), own_g hO e rfl (by omega), own_g hO e rfl (by omega)]
        exact a2
      · rw [hO.2.2 1 _ (by omega) (by omega) (by omega) (by show (55 * g2 + 54) / 55 ≠ g; omega)]; exact b1
      · rw [own_g hO e rfl (by omega)]; exact b3
      · rw [own_g hO e rfl (by omega)] at z
        obtain ⟨⟨a', y1, y2⟩, y3⟩ := b5 z
        exact ⟨⟨a', by rw [hO.2.2 3 _ (by omega) (by omega) (by omega) (by show (55 * g2 + 54) / 55 ≠ g; omega)]; exact y1, by omega⟩, fun k hk hk5 => by rw [hO.2.2 5 _ (by omega) (by omega) (by omega) (by show (512 * g2 + k) / 512 ≠ g; omega)]; exact y3 k hk hk5⟩
      · rw [own_g hO e rfl (by omega)]; exact b6
  · obtain ⟨a, y1, y2⟩ := g5.2.2 s hs
    exact ⟨a, by rw [em 7 (by omega) (by omega)]; exact y1, by omega⟩
theorem RG_new {κ κ' : K} {μ μ' : MU} {g t : Nat} (hG : RG κ μ g t) (e0 : ∀ k, k ≠ 14 → k ≠ 15 → k ≠ 17 → k ≠ 18 → kV κ' 0 g 0 k = kV κ 0 g 0 k) (e17 : kV κ' 0 g 0 17 = μ' 19 g) (ep : ∀ c, (1 ≤ c ∧ c ≤ 4) ∨ c = 36 ∨ c = 37 ∨ c = 38 → kV κ' 0 g c = kV κ 0 g c) (n37 : kN κ' 0 g 37 = kN κ 0 g 37) (em : ∀ c, c = 13 ∨ c = 14 ∨ c = 16 ∨ c = 17 ∨ c = 18 ∨ c = 20 ∨ c = 23 ∨ c = 24 ∨ c = 25 ∨ c = 32 ∨ c = 34 ∨ c = 35 → μ' c = μ c) (hB : BAR (kV κ' 0 g) μ' g) (hS : SND (kV κ' 0 g) μ' g) (hL : LVT (kV κ' 0 g) μ' g t) (q1 : QQ κ' 0 g 10 512 (μ' 1 (55 * g + 54)) (fun k => μ' 2 (512 * g + k))) (q3 : QQ κ' 0 g 34 3000 (μ' 37 g) (fun k => μ' 36 (3000 * g + k))) (q4 : QQ κ' 0 g 32 512 (μ' 6 g) (fun k => μ' 5 (512 * g + k))) (hF : FOL κ' μ' g) (hT : STN κ' 0 g 19) (hM : MCH (mc (kV κ' 0 g) 6) (row μ' g)) (hP : PLL κ' g) : RG κ' μ' g t := by
  obtain ⟨⟨a1, a2, a3, a4, a5, a6, _, q8, _, _, _, _⟩, b2, b3, b4⟩ := hG
  obtain ⟨s1, s2, s3, s4, s5, s6, s7, s8⟩ := a1
  refine ⟨⟨⟨by rw [e0 0 (by omega) (by omega) (by omega) (by omega)]; exact s1, by rw [e0 1 (by omega) (by omega) (by omega) (by omega), em 16 (by omega)]; exact s2, by rw [e0 2 (by omega) (by omega) (by omega) (by omega), em 17 (by omega)]; exact s3, by rw [e0 10 (by omega) (by omega) (by omega) (by omega), em 20 (by omega)]; exact s4, by rw [e0 11 (by omega) (by omega) (by omega) (by omega), em 23 (by omega)]; exact s5, by rw [e0 13 (by omega) (by omega) (by omega) (by omega), em 32 (by omega)]; exact s6, by rw [e0 16 (by omega) (by omega) (by omega) (by omega), em 18 (by omega)]; exact s7, e17⟩, EXI_v a2 (ep 38 (by omega)) (fun j _ => by rw [em 25 (by omega)]), hB, hS, PRO_v a5 (fun c _ _ => ep c (by omega)) (by rw [em 14 (by omega)]) (fun j _ => by rw [em 13 (by omega)]), hL, q1, ?_, q3, q4, hF, hT⟩, hM, ?_, hP⟩
  · rw [em 35 (by omega), em 34 (by omega)]
    exact QQ_v q8 (by rw [ep 36 (by omega)]) (ep 37 (by omega)) n37 rfl (fun _ _ => rfl)
  · rw [e0 12 (by omega) (by omega) (by omega) (by omega), em 24 (by omega)]; exact b3
/-- the clock is set by its shift -/
theorem shift_clock {μ μ' : MU} {g t x : Nat} (hC : CLK μ g t) (ht : μ 0 41 = nI t) (ht3 : t ≤ 3000) (hx : x < 10000) (e0 : μ' 0 = μ 0) (e20 : μ' 20 = μ 20) (e22 : μ' 22 = μ 22) (e21 : μ' 21 g = restI (nI x - (μ 0 41 - μ 22 g) * μ 20 g)) : clockM μ' g = nI x ∧ CLK μ' g t := by
  obtain ⟨m, sc, sh, c1, c2, c3, c4, c5, c6⟩ := hC
  have hds : (t - m) * sc ≤ 3000 * 3 := Nat.mul_le_mul (by omega) (by omega)
  rw [ht, c1, c3, nI_sub c2, nI_mul, restI_sub hx (by omega)] at e21
  refine ⟨?_, m, sc, _, by rw [e22]; exact c1, c2, by rw [e20]; exact c3, c4, e21, Nat.mod_lt _ (by decide)⟩
  rw [clock_v (t := t) (m := m) (sc := sc) (s := (x + 10000 - (t - m) * sc) % 10000) (by rw [e0]; exact ht) (by rw [e22]; exact c1) c2 (by rw [e20]; exact c3) c4 e21 (Nat.mod_lt _ (by decide)) (by omega)]
  congr 1
  omega
theorem zp_e {w w' : Nat → Int32} {p : Nat} (hp : p < 8) (e : ∀ k, k < 32 → w k = w' k) : zpB w p = zpB w' p := by
  unfold zpB
  rw [e _ (by omega), e _ (by omega), e _ (by omega), e _ (by omega)]
theorem zS_e {w w' : Nat → Int32} (e : ∀ k, k < 32 → w k = w' k) : ∀ j, j ≤ 8 → zS w j = zS w' j
  | 0, _ => rfl
  | j + 1, hj => by
    have eb : zpB w j = zpB w' j := by
      unfold zpB
      rw [e _ (by omega), e _ (by omega), e _ (by omega), e _ (by omega)]
    show (if _ then _ else _) = if _ then _ else _
    rw [eb, zS_e e j (by omega)]
theorem tb_v {μ : MU} {t : Nat} {x y : Int32} (ht : μ 0 41 = nI t) (h : TMR x y 0) (ht3 : t ≤ 3000) : TMR x (tbM μ y) t ∧ rng 50 (tbM μ y) := by
  unfold tbM
  rcases h with ⟨h1, h2⟩ | ⟨d, d1, d2, h1, h2⟩
  · rw [if_pos h1]
    exact ⟨Or.inl ⟨rfl, h2⟩, Or.inl ⟨rfl, by omega⟩⟩
  · rw [Nat.zero_add] at h1
    rw [if_neg (by rw [h1, nI_m1 (by omega)]; exact id), h1, ht, nI_add]
    exact ⟨Or.inr ⟨d, d1, d2, rfl, h2⟩, rng_n (by rw [show lim 50 = 20000 from rfl]; omega)⟩
/-- a guest has got a state that was kept -/
theorem REL_bk {E : EE} {κ κ' : K} {μ μ' : MU} {n ns t C C' g f1 i1 c1 : Nat} {r q : Nat → Int32} (hR : REL E κ μ n ns t C) (hCC : C ≤ C') (hg : g < n) (hK : KST κ f1 i1 c1 r q) (hL : PLK κ f1 i1 c1 g) (v1 : ∀ f i, ¬ (f = 0 ∧ i = g) → f ≠ 2 → f ≠ 5 → f ≠ 6 → kV κ' f i = kV κ f i) (vN : ∀ f i, ¬ (f = 0 ∧ i = g) → kN κ' f i = kN κ f i) (vP : ∀ f i, ¬ (f = 0 ∧ i = g) → kP κ' f i = kP κ f i) (v2 : ∀ k, k < 2 → RH (kV κ' 2 k) (n28 μ g 8) n k ∧ ∀ j, kV κ' 2 k 0 j = kV κ 2 k 0 j) (v3 : ∀ c, (1 ≤ c ∧ c ≤ 4) ∨ (19 ≤ c ∧ c < 32) ∨ c = 36 ∨ c = 37 ∨ c = 38 → kV κ' 0 g c = kV κ 0 g c) (n3 : ∀ c, 18 ≤ c → kN κ' 0 g c = kN κ 0 g c) (v0 : ∀ k, k ≠ 14 → k ≠ 15 → k ≠ 17 → k ≠ 18 → kV κ' 0 g 0 k = kV κ 0 g 0 k) (v0' : kV κ' 0 g 0 14 = nI (zS (kV κ f1 i1 (c1 + 4)) 8) ∧ kV κ' 0 g 0 15 = -1 ∧ kV κ' 0 g 0 17 = 1 ∧ kV κ' 0 g 0 18 = 0) (vM : ∀ j k, rel j k → kV κ' 0 g (6 + j) k = kV κ f1 i1 (c1 + 1 + j) k) (v5 : ∀ k, 5 ≤ k → k ≤ 9 → kV κ' 0 g 5 k = kV κ f1 i1 c1 k) (hIn : QQ κ' 0 g 10 512 (μ' 1 (55 * g + 54)) (fun k => μ' 2 (512 * g + k))) (hLS : ∀ nT nS nJ T S J, NUM κ f1 i1 (c1 + 7) nT T → NUM κ f1 i1 (c1 + 9) nS S → NUM κ f1 i1 (c1 + 11) nJ J → LST κ' g nT nS nJ T S J) (h34 : QQ κ' 0 g 34 3000 (μ' 37 g) (fun k => μ' 36 (3000 * g + k))) (h32 : QQ κ' 0 g 32 512 (μ' 6 g) (fun k => μ' 5 (512 * g + k))) (hF : FOL κ' μ' g) (hFP : FPL κ' g) (er : ∀ c, c ≠ 1 → c ≠ 2 → c ≠ 12 → c ≠ 15 → c ≠ 19 → c ≠ 21 → c ≠ 27 → c ≠ 28 → c ≠ 30 → c ≠ 33 → c ≠ 37 → μ' c = μ c) (hO : OWN μ μ' g) (e1 : ∀ k, k < 54 → k ≠ 50 → μ' 1 (55 * g + k) = r k) (e50 : μ' 1 (55 * g + 50) = tbM μ (r 50)) (e54 : ∃ m', μ' 1 (55 * g + 54) = nI m' ∧ m' ≤ 512 ∧ ∀ k, k < m' → ∃ z, z < 10000 ∧ μ' 2 (512 * g + k) = nI z) (e15 : ∃ h', h' < 2 ∧ kP κ' 0 g 0 8 = some h' ∧ μ' 15 g = nI h') (e12 : (μ' 12 g = -1 ∧ kP κ' 0 g 0 9 = none) ∨ ∃ s, s < ns ∧ μ' 12 g = nI s ∧ kP κ' 0 g 0 9 = some s) (e19 : μ' 19 g = 1) (e30 : μ' 30 g = 0) (e21 : μ' 21 g = restI (r 53 - (μ 0 41 - μ 22 g) * μ 20 g)) (e27 : ∀ p, p < 8 → μ' 27 (8 * g + p) = if zpB (fun i => r (17 + i)) p = true then 0 else 2) (e27' : ∀ key, ¬ (8 * g ≤ key ∧ key < 8 * g + 8) → μ' 27 key = μ 27 key) (e28 : μ' 28 = (n28 μ g 8) 28) (hS : SAY μ' g t) (hI : INQ μ' g C') (hp : PAID n ns 0 0 κ κ') : REL E κ' μ' n ns t C' := by
  obtain ⟨_, ⟨_, _, _, q4, q5⟩, hM, hQ, _⟩ := id hR
  obtain ⟨m1, m2, m3, m4, m5⟩ := hM
  have hn : n ≤ 5 := m1.1.1
  obtain ⟨hGg, hPg, hFg⟩ := m4 g hg
  obtain ⟨k1, k2, k3, k4, k5, k6, k7, k8⟩ := hK
  obtain ⟨x, x1, x2⟩ : ∃ x, r 53 = nI x ∧ x < 10000 := by
    rcases k1 53 (by omega) with ⟨_, z⟩ | z
    · omega
    · exact z
  rw [x1] at e21
  have e' : ∀ c, c = 0 ∨ (3 ≤ c ∧ c < 12) ∨ c = 13 ∨ c = 14 ∨ (16 ≤ c ∧ c < 19) ∨ c = 20 ∨ (22 ≤ c ∧ c < 27) ∨ c = 29 ∨ c = 31 ∨ c = 32 ∨ (34 ≤ c ∧ c < 37) ∨ 38 ≤ c → μ' c = μ c := fun c hc => er c (by omega) (by omega) (by omega) (by omega) (by omega) (by omega) (by omega) (by omega) (by omega) (by omega) (by omega)
  obtain ⟨hck, hCL⟩ := shift_clock (hQ g hg).2.1 q4 q5 x2 (e' 0 (by omega)) (e' 20 (by omega)) (e' 22 (by omega)) e21
  have htb := tb_v q4 k3 q5
  have e28g : ∀ p, p < 8 → μ' 28 (8 * g + p) = -1 := fun p hp => by rw [e28, n28_28, if_pos (by omega)]
  have hFRM : FRM μ' n := fun key hk => by
    by_cases e : 8 * g ≤ key ∧ key < 8 * g + 8
    · have a := e27 (key - 8 * g) (by omega)
      have b := e28g (key - 8 * g) (by omega)
      rw [show 8 * g + (key - 8 * g) = key from by omega] at a b
      refine Or.inr ⟨?_, b⟩
      rw [a]
      split
      · exact Or.inl rfl
      · exact Or.inr rfl
    · rw [e27' key e, e28, n28_28, if_neg e]
      exact m2 key hk
  have hw : ∀ k, k < 32 → kV κ f1 i1 (c1 + 4) k = r (17 + k) := fun k hk => k2.2.2.2.2.2.2.2.2 k hk
  have hRG : RG κ' μ' g t := by
    refine RG_new hGg v0 (by rw [v0'.2.2.1, e19]) (fun c hc => v3 c (by omega)) (n3 37 (by omega)) (fun c hc => e' c (by omega)) ⟨zS (kV κ f1 i1 (c1 + 4)) 8, zS_lt _ 8 (Nat.le_refl _), v0'.1, fun p hp => ?_⟩ (Or.inl ⟨e30, v0'.2.1⟩) ⟨?_, ?_, ?_, ?_⟩ hIn h34 h32 hF (STN_v hGg.1.2.2.2.2.2.2.2.2.2.2.2 (fun j _ _ => v3 _ (by omega)) (fun j _ _ => n3 _ (by omega))) ?_ ?_
    · rw [zS_bit _ hp 8 (Nat.le_refl _), decide_eq_true hp, Bool.true_and, e27 p hp]
      have eb : zpB (kV κ f1 i1 (c1 + 4)) p = zpB (fun i => r (17 + i)) p := by
        unfold zpB
        rw [hw _ (by omega), hw _ (by omega), hw _ (by omega), hw _ (by omega)]
      rw [eb]
      by_cases z : zpB (fun i => r (17 + i)) p = true
      · rw [if_pos z]; exact ⟨fun _ => rfl, fun _ => z⟩
      · rw [if_neg z]; exact ⟨fun y => absurd y z, fun y => absurd y (by decide)⟩
    · rw [v5 6 (by omega) (by omega), e50]; exact htb.1
    · rw [v5 7 (by omega) (by omega), e1 51 (by omega) (by omega)]; exact k4
    · rw [v5 8 (by omega) (by omega), e1 52 (by omega) (by omega)]; exact k5
    · rw [v5 9 (by omega) (by omega), hck, ← x1]; exact k6
    · exact MCH_rel (MCH_r k2 (fun k hk => e1 k (by omega) (by omega))) vM
    · obtain ⟨st, nT, nS, nJ, T, S, J, rr, p1, p2, p3, p4, l1, l2, l3, p5, l4, l5, p6⟩ := hL
      exact ⟨st, nT, nS, nJ, T, S, J, rr, hLS nT nS nJ T S J p1 p2 p3, by rw [v5 5 (by omega) (by omega)]; exact p4, l1, l2, l3, by rw [v0 12 (by omega) (by omega) (by omega) (by omega)]; exact p5, l4, l5, Or.inr ⟨v0'.2.2.2, PLN_m (PLN_P p6 (fun c a b => v3 c (by omega))) (MEQ_rel vM)⟩⟩
  refine REL_GC (d1 := 0) (d2 := 0) hR hCC hg v1 vN vP ?_ hFRM hO (fun key a b => by rw [e27' key (by omega)]) (fun k hk => ⟨?_, (v2 k hk).2⟩) hRG ⟨e15, e12⟩ hFP (fun s hs z => ?_) (fun c a b => e' c (by omega)) hS hCL hI hp (by omega) (by omega)
  · refine TJ_mk hn (by rw [e' 0 (by omega)]; exact m1.1.2.1) (fun g2 hg2 => ?_) hFRM (by rw [e' 39 (by omega)]; exact m1.1.2.2.2) (by unfold TM; rw [e' 0 (by omega)]; exact m1.2.2)
    obtain ⟨x1, x2, x3, x4⟩ := m1.1.2.2.1 g2 hg2
    have hPR : PRG μ' g2 := by
      unfold PRG
      rw [e' 13 (by omega), e' 14 (by omega)]
      exact x2
    by_cases e : g2 = g
    · subst e
      obtain ⟨m', w1, w2, w3⟩ := e54
      obtain ⟨h', y1, y2, y3⟩ := e15
      refine ⟨fun k hk => ?_, hPR, fun k hk => w3 k (by rw [w1, nI_cl (by omega)] at hk; exact hk), h', y1, y3⟩
      by_cases a : k = 50
      · rw [a, e50]; exact htb.2
      · by_cases b : k = 54
        · rw [b, w1]
          exact rng_n (by rw [show lim 54 = 513 from rfl]; omega)
        · rw [e1 k (by omega) a]; exact k1 k hk
    · have o1 : ∀ k, k < 55 → μ' 1 (55 * g2 + k) = μ 1 (55 * g2 + k) := fun k hk => hO.2.2 1 _ (by omega) (by omega) (by omega) (by show (55 * g2 + k) / 55 ≠ g; omega)
      refine ⟨fun k hk => by rw [o1 k hk]; exact x1 k hk, hPR, fun k hk => ?_, by rw [own_g hO e rfl (by omega)]; exact x4⟩
      rw [o1 54 (by omega)] at hk
      obtain ⟨mm, z1, z2⟩ := x1.many
      rw [z1, nI_cl (by omega)] at hk
      rw [hO.2.2 2 _ (by omega) (by omega) (by omega) (by show (512 * g2 + k) / 512 ≠ g; omega)]
      exact m1.2.1 g2 hg2 k (by rw [z1, nI_cl (by omega)]; exact hk)
  · exact RH_mv (g := g) (v2 k hk).1 (fun p hp => by rw [n28_28, if_pos (by omega)]) (fun g2 z => by rw [own_g hO z rfl (by omega), n28_row (by omega)]) e28 (by rw [e' 29 (by omega), n28_row (by omega)])
  · exact PLK_v z (fun j _ => by rw [v1 9 s (by omega) (by omega) (by omega) (by omega)]) (fun j _ => by rw [vN 9 s (by omega)]) (fun c a b => v3 c (by omega)) (RANUP_e (v0 12 (by omega) (by omega) (by omega) (by omega)))
/-- what the model's giving back changes -/
theorem gbM_f {μ : MU} {c2 a c4 q g m : Nat} (hc : (c2 = 3 ∧ c4 = 4) ∨ (c2 = 7 ∧ c4 = 8)) (hm : m ≤ 512) : (∀ c, c ≠ 1 → c ≠ 2 → c ≠ 19 → c ≠ 21 → c ≠ 27 → c ≠ 28 → c ≠ 30 → (gbM μ c2 a c4 q g m) c = μ c) ∧ (∀ k, k < 55 → k ≠ 50 → (gbM μ c2 a c4 q g m) 1 (55 * g + k) = μ c2 (a + k)) ∧ (gbM μ c2 a c4 q g m) 1 (55 * g + 50) = tbM μ (μ c2 (a + 50)) ∧ (∀ k, k < m → (gbM μ c2 a c4 q g m) 2 (512 * g + k) = μ c4 (q + k)) ∧ (gbM μ c2 a c4 q g m) 19 g = 1 ∧ (gbM μ c2 a c4 q g m) 30 g = 0 ∧ (gbM μ c2 a c4 q g m) 21 g = restI (μ c2 (a + 53) - (μ 0 41 - μ 22 g) * μ 20 g) ∧ (∀ p, p < 8 → (gbM μ c2 a c4 q g m) 27 (8 * g + p) = if zpB (fun i => μ c2 (a + (17 + i))) p = true then 0 else 2) ∧ (∀ key, ¬ (8 * g ≤ key ∧ key < 8 * g + 8) → (gbM μ c2 a c4 q g m) 27 key = μ 27 key) ∧ (gbM μ c2 a c4 q g m) 28 = (n28 μ g 8) 28 ∧ OWN μ (gbM μ c2 a c4 q g m) g ∧ ∀ k, k < 32 → (gb4M μ c2 a c4 q g m) 1 (55 * g + (17 + k)) = μ c2 (a + (17 + k)) := by
  have r3 : ∀ c, c ≠ 1 → c ≠ 2 → (gb3M μ c2 a c4 q g m) c = μ c := fun c x y => by
    unfold gb3M gb2M
    rw [blk_row y, mu_row x, blk_row x]
  have r4 : ∀ c, c ≠ 1 → c ≠ 2 → c ≠ 21 → (gb4M μ c2 a c4 q g m) c = μ c := fun c x y z => by
    unfold gb4M shiftM
    rw [mu_row z, r3 c x y]
  have r1 : ∀ k, k < 55 → (gb4M μ c2 a c4 q g m) 1 (55 * g + k) = if k = 50 then tbM μ (μ c2 (a + 50)) else μ c2 (a + k) := fun k hk => by
    unfold gb4M shiftM gb3M
    rw [mu_row (by omega), blk_row (by omega)]
    unfold gb2M
    by_cases e : k = 50
    · rw [if_pos e, e, muS ⟨rfl, rfl⟩]
    · rw [if_neg e, muD (by omega), blk_in hk]
  have f : ∀ c, c ≠ 19 → c ≠ 30 → c ≠ 27 → c ≠ 28 → (gbM μ c2 a c4 q g m) c = (gb4M μ c2 a c4 q g m) c := fun c x y z w => by
    unfold gbM
    rw [mu_row x, mu_row y, kn_row ⟨z, w⟩]
  refine ⟨fun c x1 x2 x3 x4 x5 x6 x7 => by rw [f c x3 x7 x5 x6, r4 c x1 x2 x4], fun k hk h50 => by rw [f 1 (by omega) (by omega) (by omega) (by omega), r1 k hk, if_neg h50], by rw [f 1 (by omega) (by omega) (by omega) (by omega), r1 50 (by omega), if_pos rfl], fun k hk => ?_, muS ⟨rfl, rfl⟩, ?_, ?_, fun p hp => ?_, fun key hk => ?_, ?_, ?_, fun k hk => by rw [r1 (17 + k) (by omega), if_neg (by omega)]⟩
  · rw [f 2 (by omega) (by omega) (by omega) (by omega)]
    unfold gb4M shiftM gb3M
    rw [mu_row (by omega), blk_in hk]
  · unfold gbM
    rw [muD (by omega)]
    exact muS ⟨rfl, rfl⟩
  · rw [f 21 (by omega) (by omega) (by omega) (by omega)]
    unfold gb4M shiftM
    rw [muS ⟨rfl, rfl⟩, r3 0 (by omega) (by omega), r3 22 (by omega) (by omega), r3 20 (by omega) (by omega)]
  · unfold gbM
    rw [mu_row (by omega), mu_row (by omega), kn_27, if_pos (by omega), show 8 * g + p - 8 * g = p from by omega]
    have eb : zpB (fun i => (gb4M μ c2 a c4 q g m) 1 (55 * g + (17 + i))) p = zpB (fun i => μ c2 (a + (17 + i))) p := zp_e hp (fun k hk => by
      show (gb4M μ c2 a c4 q g m) 1 (55 * g + (17 + k)) = μ c2 (a + (17 + k))
      rw [r1 _ (by omega), if_neg (by omega)])
    rw [eb]
  · unfold gbM
    rw [mu_row (by omega), mu_row (by omega), kn_27, if_neg hk, r4 27 (by omega) (by omega) (by omega)]
  · unfold gbM
    rw [mu_row (by omega), mu_row (by omega), kn_28]
    funext j
    rw [n28_28, n28_28, r4 28 (by omega) (by omega) (by omega)]
  · have o1 : OWN μ (blkM μ 1 (55 * g) (fun k => μ c2 (a + k)) 55) g := OWN_blk (by omega) (by omega) (fun k hk => by show (55 * g + k) / 55 = g; omega)
    have o2 : OWN μ (gb2M μ c2 a g) g := o1.trans (OWN_1 (k := 50) rfl (by omega))
    have o3 : OWN μ (gb3M μ c2 a c4 q g m) g := o2.trans (OWN_blk (by omega) (by omega) (fun k hk => by show (512 * g + k) / 512 = g; omega))
    have o4 : OWN μ (gb4M μ c2 a c4 q g m) g := o3.trans (OWN_g (by omega) (by omega) rfl)
    have o5 : OWN (gb4M μ c2 a c4 q g m) (knU (gb4M μ c2 a c4 q g m) g 8) g := ⟨kn_row (by omega) 8, fun c hc => kn_row (by omega) 8, fun c k x y _ _ => by rw [kn_row ⟨x, y⟩ 8]⟩
    exact ((o4.trans o5).trans (OWN_g (by omega) (by omega) rfl)).trans (OWN_g (by omega) (by omega) rfl)
theorem REL_restore {E : EE} {κ : K} {μ : MU} {n ns t C g s : Nat} (hR : REL E κ μ n ns t C) (hg : g < n) (hs : s < ns) (h33 : μ 33 g = 0) (hown : kP κ 1 s 0 0 = some g) : ∃ κ' m, μ 7 (55 * s + 54) = nI m ∧ m ≤ 512 ∧ f_X1_goBackTo E (setP κ 0 g 0 9 (some s)) g 9 s 0 = some (κ', nI (8 - pop (zS (fun j => (gb4M (mu μ 12 g (nI s)) 7 (55 * s) 8 (512 * s) g m) 1 (55 * g + (17 + j))) 8))) ∧ kV κ' 5 = kV κ 5 ∧ REL E κ' (gbM (mu μ 12 g (nI s)) 7 (55 * s) 8 (512 * s) g m) n ns t (C + 1) := by
  obtain ⟨⟨_, _, hOK, _⟩, ⟨_, _, _, q4, q5⟩, hM, hQ, ⟨_, hns, hsC⟩, _⟩ := id hR
  have hH : E.2.2.2.1 = 1 := hOK.2.2.2.1
  obtain ⟨m1, m2, m3, m4, m5⟩ := hM
  have hn : n ≤ 5 := m1.1.1
  obtain ⟨hGg, hPg, hFg⟩ := m4 g hg
  obtain ⟨o, o1, o2, o3, o4, o5, hK, hL⟩ := m5 s hs
  rw [hown] at o2
  cases o2
  obtain ⟨h, hh, hP, h15⟩ := hPg.1
  obtain ⟨k1, k2, k3, k4, k5, k6, ⟨m, hm5, hm, kN⟩, k8⟩ := id hK
  obtain ⟨a1, a2, a3, a4, a5, a6, ⟨mi, hmi5, hmi, nI1⟩, q8, q9, q10, a11, a12⟩ := hGg.1
  obtain ⟨st, nT, nS, nJ, T, S, J, r, hLs, hst, l1, l2, l3, hr, l4, l5, hpl⟩ := hGg.2.2.2
  obtain ⟨st', nT', nS', nJ', T', S', J', r', p1, p2, p3, p4, _⟩ := id hL
  have bb : ∀ k, k = 8 ∨ k = 51 ∨ k = 52 → μ 7 (55 * s + k) = 0 ∨ μ 7 (55 * s + k) = 1 := fun k hk => by
    have hl : lim k = 2 := by rcases hk with rfl | rfl | rfl <;> rfl
    rcases k1 k (by omega) with ⟨_, z⟩ | ⟨z, z1, z2⟩
    · omega
    · rw [hl] at z2
      have : z = 0 ∨ z = 1 := by omega
      rcases this with rfl | rfl
      · exact Or.inl z1
      · exact Or.inr z1
  have hFr : ∀ p, p < 8 → kV κ 2 h 1 (8 * g + p) = -1 ∨ ∃ f, f < 16 ∧ kV κ 2 h 1 (8 * g + p) = nI f := fun p hp => by
    rw [RH_key (m3 h hh).1 (key := 8 * g + p) (by omega) (by omega) (by rw [show (8 * g + p) / 8 = g from by omega]; exact h15)]
    rcases m2 (8 * g + p) (by omega) with ⟨_, z⟩ | ⟨_, z⟩
    · exact Or.inr z
    · exact Or.inl z
  have e7 : kV κ 9 s 1 7 = 0 ∨ kV κ 9 s 1 7 = 1 := by
    have := k2.2.2.2.2.2.1
    rw [show kV κ 9 s 1 7 = μ 7 (55 * s + 8) from this]
    exact bb 8 (by omega)
  obtain ⟨κ', c1, c2, c3, c4, c5, c6, c7, c8, c9, c10, c11, c12⟩ := gb_cls (E := E) (κ := setP κ 0 g 0 9 (some s)) (n := n) (ns := ns) (g := g) (h := h) (f1 := 9) (i1 := s) (c1 := 0) hH hh hg hn (by rw [pD (by omega)]; exact hP) hGg.1.1.1 hFr (Or.inl ⟨rfl, rfl⟩) e7 (by rw [show kV (setP κ 0 g 0 9 (some s)) 9 s 0 7 = kV κ 9 s 0 7 from rfl, k4]; exact bb 51 (by omega)) (by rw [show kV (setP κ 0 g 0 9 (some s)) 9 s 0 8 = kV κ 9 s 0 8 from rfl, k5]; exact bb 52 (by omega)) (⟨kN, p1, p2, p3⟩ : FOUR κ 9 s 0 m nT' nS' nJ' _ _ _ _) (⟨nI1, hLs.1, hLs.2.1, hLs.2.2⟩ : FOUR κ 0 g 5 mi nT nS nJ _ _ _ _)
  have hms : ∀ c, c ≠ 12 → (mu μ 12 g (nI s)) c = μ c := fun c hc => mu_row hc
  obtain ⟨g1, g2, g3, g4, g5, g6, g7, g8, g9, g10, g11, g12⟩ := gbM_f (μ := mu μ 12 g (nI s)) (c2 := 7) (a := 55 * s) (c4 := 8) (q := 512 * s) (g := g) (m := m) (Or.inr ⟨rfl, rfl⟩) hm5
  have e7r : ∀ k, (mu μ 12 g (nI s)) 7 k = μ 7 k := fun k => by rw [hms 7 (by omega)]
  have hZ : zS (kV (setP κ 0 g 0 9 (some s)) 9 s (0 + 4)) 8 = zS (fun j => (gb4M (mu μ 12 g (nI s)) 7 (55 * s) 8 (512 * s) g m) 1 (55 * g + (17 + j))) 8 := zS_e (fun k hk => by
    rw [g12 k hk, e7r]
    exact k2.2.2.2.2.2.2.2.2 k hk) 8 (Nat.le_refl _)
  rw [hZ] at c1
  obtain ⟨as, as1, as2⟩ := hsC s hs
  have hm : μ 7 (55 * s + 54) = nI m := hm
  have hmC : m ≤ C := by
    by_cases hlt : as < 2147483648
    · rw [hm, nI_eq' (by omega) hlt] at as1; omega
    · omega
  have er : ∀ c, c ≠ 1 → c ≠ 2 → c ≠ 12 → c ≠ 15 → c ≠ 19 → c ≠ 21 → c ≠ 27 → c ≠ 28 → c ≠ 30 → c ≠ 33 → c ≠ 37 → (gbM (mu μ 12 g (nI s)) 7 (55 * s) 8 (512 * s) g m) c = μ c := fun c x1 x2 x3 x4 x5 x6 x7 x8 x9 _ _ => by rw [g1 c x1 x2 x5 x6 x7 x8 x9, hms c x3]
  have e33 : (gbM (mu μ 12 g (nI s)) 7 (55 * s) 8 (512 * s) g m) 33 = μ 33 := by rw [g1 33 (by omega) (by omega) (by omega) (by omega) (by omega) (by omega) (by omega), hms 33 (by omega)]
  have e37 : (gbM (mu μ 12 g (nI s)) 7 (55 * s) 8 (512 * s) g m) 37 = μ 37 := by rw [g1 37 (by omega) (by omega) (by omega) (by omega) (by omega) (by omega) (by omega), hms 37 (by omega)]
  have e15 : (gbM (mu μ 12 g (nI s)) 7 (55 * s) 8 (512 * s) g m) 15 = μ 15 := by rw [g1 15 (by omega) (by omega) (by omega) (by omega) (by omega) (by omega) (by omega), hms 15 (by omega)]
  have eK : ∀ c, c = 12 → (gbM (mu μ 12 g (nI s)) 7 (55 * s) 8 (512 * s) g m) 12 g = nI s := fun _ _ => by
    rw [g1 12 (by omega) (by omega) (by omega) (by omega) (by omega) (by omega) (by omega)]
    exact muS ⟨rfl, rfl⟩
  have n28e : n28 (mu μ 12 g (nI s)) g 8 28 = n28 μ g 8 28 := by
    funext j
    rw [n28_28, n28_28, hms 28 (by omega)]
  have v3 : ∀ c, c ≠ 0 → c < 5 ∨ 18 ≤ c → kV κ' 0 g c = kV κ 0 g c := fun c a b => c4 c a b
  have h54 : (gbM (mu μ 12 g (nI s)) 7 (55 * s) 8 (512 * s) g m) 1 (55 * g + 54) = nI m := by rw [g2 54 (by omega) (by omega), e7r]; exact hm
  refine ⟨κ', m, hm, hm5, c1, ?_, ?_⟩
  · funext i
    exact c2 5 i (by omega) (by omega)
  · refine REL_bk (f1 := 9) (i1 := s) (c1 := 0) (r := fun k => μ 7 (55 * s + k)) (q := fun k => μ 8 (512 * s + k)) hR (by omega) hg hK hL (fun f i a b _ _ => c2 f i a (by omega)) (fun f i a => ?_) (fun f i a => ?_) (fun k hk => ?_) (fun c hc => v3 c (by omega) (by omega)) (fun c hc => c10 0 g c (by omega)) c5 c6 c7 c9 ⟨m, hm5, h54, NUM_q c8.1 (fun k hk => ?_)⟩ (fun nT2 nS2 nJ2 T2 S2 J2 z1 z2 z3 => ?_) ?_ ?_ ?_ ?_ er ?_ (fun k hk h50 => by rw [g2 k (by omega) h50, e7r]) (by rw [g3, e7r]; unfold tbM; rw [hms 0 (by omega)]) ⟨m, h54, hm5, fun k hk => ?_⟩ ⟨h, hh, by rw [c11, pD (by omega)]; exact hP, by rw [e15]; exact h15⟩ (Or.inr ⟨s, hs, eK 12 rfl, by rw [c11]; exact pS ⟨rfl, rfl, rfl, rfl⟩⟩) g5 g6 (by rw [g7, e7r, hms 0 (by omega), hms 22 (by omega), hms 20 (by omega)]) (fun p hp => by rw [g8 p hp, hms 7 (by omega)]) (fun key hk => by rw [g9 key hk, hms 27 (by omega)]) (by rw [g10, n28e]) ?_ ?_ (((PAID_same (n := n) (s := ns) (κ := κ) (κ' := setP κ 0 g 0 9 (some s)) rfl rfl).trans c12).up (by omega) (by omega))
    · funext c
      exact c10 f i c (by omega)
    · rw [c11]
      funext c k
      exact pD (by omega)
    · by_cases e : k = h
      · subst e
        rw [c3]
        exact ⟨RH_lv hn (m3 k hk).1 hg m2 h15 8 (Nat.le_refl _), fun j => by rw [lvU_0]; rfl⟩
      · rw [c2 2 k (by omega) (by omega)]
        exact ⟨RH_lv2 (m3 k hk).1 e ⟨hh, hk⟩ h15, fun _ => rfl⟩
    · rw [g4 k hk, hms 8 (by omega)]
    · obtain ⟨w1, w2, w3, w4⟩ := c8
      have un : ∀ {f i c x y a b}, NUM κ f i c x a → NUM κ f i c y b → x = y ∧ ∀ k, k < x → a k = b k := fun {f i c x y a b} u v => by
        have e := u.1.symm.trans v.1
        have h1 := u.2.1
        have h2 := (CAP_ge u.2.2.1).2
        have h3 := v.2.1
        rw [nI_eq' (by omega) (by omega)] at e
        subst e
        exact ⟨rfl, fun k hk => (u.2.2.2 k hk).symm.trans (v.2.2.2 k hk)⟩
      obtain ⟨rfl, f1⟩ := un z1 p1
      obtain ⟨rfl, f2⟩ := un z2 p2
      obtain ⟨rfl, f3⟩ := un z3 p3
      exact ⟨NUM_q w2 (fun k hk => (f1 k hk).symm), NUM_q w3 (fun k hk => (f2 k hk).symm), NUM_q w4 (fun k hk => (f3 k hk).symm)⟩
    · rw [e37, er 36 (by omega) (by omega) (by omega) (by omega) (by omega) (by omega) (by omega) (by omega) (by omega) (by omega) (by omega)]
      exact QQ_v q9 (by rw [v3 34 (by omega) (by omega)]) (v3 35 (by omega) (by omega)) (c10 0 g 35 (by omega)) rfl (fun _ _ => rfl)
    · rw [er 6 (by omega) (by omega) (by omega) (by omega) (by omega) (by omega) (by omega) (by omega) (by omega) (by omega) (by omega), er 5 (by omega) (by omega) (by omega) (by omega) (by omega) (by omega) (by omega) (by omega) (by omega) (by omega) (by omega)]
      exact QQ_v q10 (by rw [v3 32 (by omega) (by omega)]) (v3 33 (by omega) (by omega)) (c10 0 g 33 (by omega)) rfl (fun _ _ => rfl)
    · refine ⟨?_, Or.inl (by rw [e33]; exact h33)⟩
      rw [v3 18 (by omega) (by omega), e33]
      exact a11.1
    · refine Or.inl ?_
      rw [v3 18 (by omega) (by omega), a11.1]
      exact h33
    · exact (OWN_g (by omega) (by omega) rfl).trans g11
    · rw [g4 k hk, hms 8 (by omega)]
      exact k8 k (by rw [show (fun k => μ 7 (55 * s + k)) 54 = nI m from hm, nI_cl (by omega)]; exact hk)
    · exact SAY_row (hQ g hg).1 (er 24 (by omega) (by omega) (by omega) (by omega) (by omega) (by omega) (by omega) (by omega) (by omega) (by omega) (by omega)) (er 35 (by omega) (by omega) (by omega) (by omega) (by omega) (by omega) (by omega) (by omega) (by omega) (by omega) (by omega)) e37
    · obtain ⟨_, ⟨b', i3, i4, i5⟩, i6⟩ := (hQ g hg).2.2
      refine ⟨⟨m, h54, by omega⟩, ⟨b', by rw [er 6 (by omega) (by omega) (by omega) (by omega) (by omega) (by omega) (by omega) (by omega) (by omega) (by omega) (by omega)]; exact i3, by omega, fun z => ?_⟩, by rw [er 18 (by omega) (by omega) (by omega) (by omega) (by omega) (by omega) (by omega) (by omega) (by omega) (by omega) (by omega)]; exact i6⟩
      rw [e33, h33] at z
      exact absurd z (by decide)
theorem restore_mod {E : EE} {κ κ' : K} {rs : Int32 ⊕ Nat} {n ns g s h m : Nat} (hOK : OKE E) (hG : kV κ 5 0 0 26 = nI n) (hn : n ≤ 5) (hg : g < n) (hs10 : ns ≤ 10) (hs : s < ns) (h11 : kV κ 5 0 0 11 = nI ns) (h9 : kV κ 5 0 9 s = nI g) (h33 : kV κ 5 0 33 g = 0) (h15 : kV κ 5 0 15 g = nI h) (hh : h < 2) (h38 : kV κ 5 0 38 h = 0) (hm : kV κ 5 0 7 (55 * s + 54) = nI m) (hm5 : m ≤ 512) (e5 : kV κ' 5 = kV κ 5) : f_X11_restore E (lwS κ' rs) (nI g) (nI s) = some (putM (lwS κ' rs) (gbM (mu (mu (kV κ 5 0) 0 0 0) 12 g (nI s)) 7 (55 * s) 8 (512 * s) g m), nI (8 - pop (zS (fun j => (gb4M (mu (mu (kV κ 5 0) 0 0 0) 12 g (nI s)) 7 (55 * s) 8 (512 * s) g m) 1 (55 * g + (17 + j))) 8))) := by
  have hE5 : 0 < cntE E 5 := hOK.2.1.1
  have hin : ∀ κ : K, f_X11_in E κ (nI s) 0 (nI ns - 1) = some (κ, 1) := fun κ => in_t (by rw [i32_0, nI_lt' (by omega) (by omega)]; omega) (by rw [i32_1, nI_sub (by omega), nI_lt' (by omega) (by omega)]; omega)
  have eb := gb_mod (E := E) (κ := putM (lwS κ' rs) (mu (mu (kV κ 5 0) 0 0 0) 12 g (nI s))) (c2 := 7) (a := 55 * s) (c4 := 8) (q := 512 * s) (g := g) (m := m) hE5 (by omega) (Or.inr ⟨rfl, rfl⟩) (by show 55 * s + 55 ≤ 550; omega) (by show 512 * s + 512 ≤ 5120; omega) (by rw [put_kV, mu_row (by omega), thr_c (by omega)]; exact hm) hm5
  rw [put_kV, put_put] at eb
  rw [f_X11_restore, isGuest_t (n := n) (by rw [lw_V (by omega), e5]; exact hG) hn hg, bd_s, if_neg (by decide), lw_V (by omega), e5, h11, hin, bd_s, if_neg (by decide), f_X11_restore_b27, if_neg (by decide), nI_cl (by omega), gdi (by omega), lw_V (by omega), e5, h9, if_pos rfl, nI_cl (by omega), gdi (by omega), h33, if_pos rfl, gdi (by omega), h15, nI_cl (by omega), gdi (by omega), h38, if_pos rfl, f_X11_restore_b70, if_neg (by decide), if_neg (by decide), f_X11_restore_b91, ref_0, bd_s, if_pos rfl, nI_cl (by omega), gdi (by omega), nmE, l55, l512, nI_mul, nI_mul, lw_V (by omega), e5, set5, put_kV, put_put, eb, bd_s]
theorem restore_mod2 {E : EE} {κ : K} {rs : Int32 ⊕ Nat} {n ns g s h o : Nat} (hG : kV κ 5 0 0 26 = nI n) (hn : n ≤ 5) (hg : g < n) (hs10 : ns ≤ 10) (hs : s < ns) (h11 : kV κ 5 0 0 11 = nI ns) (h9 : kV κ 5 0 9 s = nI o) (ho : o < n) (h15 : kV κ 5 0 15 g = nI h) (hh : h < 2) (hno : ¬ (o = g ∧ kV κ 5 0 33 g = 0 ∧ kV κ 5 0 38 h = 0)) : f_X11_restore E (lwS (addC κ 1 6) rs) (nI g) (nI s) = some (putM (lwS (addC κ 1 6) rs) (mu (kV κ 5 0) 0 0 2), 0) := by
  have hin : ∀ κ : K, f_X11_in E κ (nI s) 0 (nI ns - 1) = some (κ, 1) := fun κ => in_t (by rw [i32_0, nI_lt' (by omega) (by omega)]; omega) (by rw [i32_1, nI_sub (by omega), nI_lt' (by omega) (by omega)]; omega)
  have e5 : kV (addC κ 1 6) 5 = kV κ 5 := rfl
  have fin : f_X11_restore_b69 E (lwS (addC κ 1 6) rs) (nI g) (nI s) 1 = some (putM (lwS (addC κ 1 6) rs) (mu (kV κ 5 0) 0 0 2), 0) := by
    rw [f_X11_restore_b69, f_X11_restore_b70, if_neg (by decide), if_pos rfl, f_X11_restore_b91, ref_n (by decide), bd_s, if_neg (by decide), lw_V (by omega), e5]
  rw [f_X11_restore, isGuest_t (n := n) (by rw [lw_V (by omega), e5]; exact hG) hn hg, bd_s, if_neg (by decide), lw_V (by omega), e5, h11, hin, bd_s, if_neg (by decide), f_X11_restore_b27, if_neg (by decide), nI_cl (by omega), gdi (by omega), lw_V (by omega), e5, h9]
  by_cases z1 : o = g
  · rw [if_pos (by rw [z1]), nI_cl (by omega), gdi (by omega)]
    by_cases z2 : kV κ 5 0 33 g = 0
    · rw [if_pos z2, gdi (by omega), h15, nI_cl (by omega), gdi (by omega), if_neg (fun z3 => hno ⟨z1, z2, z3⟩), fin]
    · rw [if_neg z2, fin]
  · rw [if_neg (by rw [nI_eq' (by omega) (by omega)]; exact z1), fin]
theorem EXT_gb {μ : MU} {c2 a c4 q g m : Nat} (hc : (c2 = 3 ∧ c4 = 4) ∨ (c2 = 7 ∧ c4 = 8)) (hm : m ≤ 512) : EXT μ (gbM μ c2 a c4 q g m) := by
  obtain ⟨f1, f2, f3, f4, f5, f6, f7, f8, f9, f10, f11, f12⟩ := gbM_f (μ := μ) (a := a) (q := q) (g := g) hc hm
  have r : ∀ c, c = 35 ∨ c = 23 ∨ c = 24 ∨ c = 0 → (gbM μ c2 a c4 q g m) c = μ c := fun c hc => f1 c (by omega) (by omega) (by omega) (by omega) (by omega) (by omega) (by omega)
  refine EXT_p (r 35 (by omega)) (r 23 (by omega)) (r 24 (by omega)) (by rw [r 0 (by omega)]) (fun g2 p _ hp h0 => ?_)
  by_cases e : g2 = g
  · subst e
    rw [f8 p hp] at h0
    refine Or.inr fun k hk => ?_
    rw [f2 (17 + (4 * p + k)) (by omega) (by omega)]
    split at h0
    · rename_i hz
      unfold zpB at hz
      have hz2 := of_decide_eq_true hz
      obtain ⟨z0, z1, z2, z3⟩ := hz2
      obtain rfl | rfl | rfl | rfl : k = 0 ∨ k = 1 ∨ k = 2 ∨ k = 3 := by omega
      · exact z0
      · exact z1
      · exact z2
      · exact z3
    · exact absurd h0 (by decide)
  · rw [f9 (8 * g2 + p) (by omega)] at h0
    exact Or.inl ⟨h0, fun k hk => f11.2.2 1 _ (by omega) (by omega) (by omega) (by show (55 * g2 + (17 + (4 * p + k))) / 55 ≠ g; omega)⟩
theorem st_restore {E : EE} {κ : K} {n ns t C : Nat} {a b : Int32} (hR : REL E κ (kV κ 5 0) n ns t C) : DONE (lw_restore E κ a b) C := by
  have hR0 := hR
  obtain ⟨⟨rfl, rfl, hO, h9⟩, ⟨q1, q2, q3, q4, q5⟩, hM, hQ, hS, hZ, hC⟩ := hR0
  have hn : E.1 ≤ 5 := hM.1.1.1
  have hG : kV κ 5 0 0 26 = nI E.1 := hM.1.1.2.1
  have hH : E.2.2.2.1 = 1 := hO.2.2.2.1
  have hs11 : kV κ 5 0 0 11 = nI E.2.1 := hS.1
  have hs10 := hS.2.1
  by_cases ha : vp_in a E.1
  · obtain ⟨g, hg, rfl⟩ := vp_ex (by omega) ha
    by_cases hb : vp_in b E.2.1
    · obtain ⟨s, hs, rfl⟩ := vp_ex (by omega) hb
      obtain ⟨o, o1, o2, o3, o4, o5, hK, hL⟩ := hM.2.2.2.2 s hs
      obtain ⟨h, hh, hP, h15⟩ := (hM.2.2.2.1 g hg).2.1.1
      have h38 : kV κ 2 h 0 4 = kV κ 5 0 38 h := (hM.2.2.1 h hh).2.2.1
      have h18 : kV κ 0 g 18 0 = kV κ 5 0 33 g := (hM.2.2.2.1 g hg).1.1.2.2.2.2.2.2.2.2.2.2.1.1
      have hin : ∀ κ : K, f_X11_in E κ (nI s) 0 (nI E.2.1 - 1) = some (κ, 1) := fun κ => in_t (by rw [i32_0, nI_lt' (by omega) (by omega)]; omega) (by rw [i32_1, nI_sub (by omega), nI_lt' (by omega) (by omega)]; omega)
      have hpre : f_X10_restore E κ (nI g) (nI s) = (if o = g then if kV κ 5 0 33 g = 0 then (if kV κ 5 0 38 h = 0 then bd (f_X1_goBackTo E (setP κ 0 g 0 9 (some s)) g 9 s 0) (fun κ26 r28 => some (κ26, .inl r28)) else f_X10_restore_b42 E κ) else f_X10_restore_b42 E κ else f_X10_restore_b42 E κ) := by
        rw [f_X10_restore, guestAt_ok q1 hn hg, bx_s, gd_t (show g < cntE E 0 from hg), snapAt_ok q2 hs10 hs, bx_s, gd_t (show s < cntE E 1 from hs), o2, optG_s (show o < cntE E 0 from o1), h18, hP, optG_s (host_lt hH hh), h38, nmE, show kP (setP κ 0 g 0 9 (some s)) 1 s 0 1 = some s from by rw [pD (by omega)]; exact o3, optG_s (show s < cntE E 9 by rw [h9.1]; exact hs)]
      by_cases hok : o = g ∧ kV κ 5 0 33 g = 0 ∧ kV κ 5 0 38 h = 0
      · obtain ⟨rfl, z33, z38⟩ := hok
        obtain ⟨κ', m, hm, hm5, w1, w2, w3⟩ := REL_restore (REL_thr (x := 0) hR) hg hs (by rw [thr_c (by omega)]; exact z33) o2
        have hext : EXT (kV κ 5 0) (gbM (mu (mu (kV κ 5 0) 0 0 0) 12 o (nI s)) 7 (55 * s) 8 (512 * s) o m) := (EXT_thr.tr (EXT_mu (by omega))).tr (EXT_gb (Or.inr ⟨rfl, rfl⟩) hm5)
        exact ⟨E, _, E.1, E.2.1, t, by
      unfold lw_restore
      rw [show f_X10_restore E κ (nI o) (nI s) = some (κ', .inl (nI (8 - pop (zS (fun j => (gb4M (mu (mu (kV κ 5 0) 0 0 0) 12 o (nI s)) 7 (55 * s) 8 (512 * s) o m) 1 (55 * o + (17 + j))) 8)))) from by rw [hpre, if_pos rfl, if_pos z33, if_pos z38, w1, bd_s]]
      dsimp only
      rw [show f_X11_restore E (lwS (κ') (.inl (nI (8 - pop (zS (fun j => (gb4M (mu (mu (kV κ 5 0) 0 0 0) 12 o (nI s)) 7 (55 * s) 8 (512 * s) o m) 1 (55 * o + (17 + j))) 8))))) (nI o) (nI s) = some (putM (lwS (κ') (.inl (nI (8 - pop (zS (fun j => (gb4M (mu (mu (kV κ 5 0) 0 0 0) 12 o (nI s)) 7 (55 * s) 8 (512 * s) o m) 1 (55 * o + (17 + j))) 8))))) (gbM (mu (mu (kV κ 5 0) 0 0 0) 12 o (nI s)) 7 (55 * s) 8 (512 * s) o m), nI (8 - pop (zS (fun j => (gb4M (mu (mu (kV κ 5 0) 0 0 0) 12 o (nI s)) 7 (55 * s) 8 (512 * s) o m) 1 (55 * o + (17 + j))) 8))) from by exact restore_mod hO hG hn hg hs10 hs hs11 o4 z33 h15 hh z38 (by rw [thr_c (by omega)] at hm; exact hm) hm5 w2]
      dsimp only
      rw [gdp_t (lwS_okX (by rw [(gbM_f (Or.inr ⟨rfl, rfl⟩) hm5).1 0 (by omega) (by omega) (by omega) (by omega) (by omega) (by omega) (by omega), muD (by omega)]; exact muS ⟨rfl, rfl⟩) (rfl))], glueS (w3)⟩
      · have hcl : f_X10_restore E κ (nI g) (nI s) = some (addC κ 1 6, .inr 3) := by
          rw [hpre]
          by_cases z1 : o = g
          · rw [if_pos z1]
            by_cases z2 : kV κ 5 0 33 g = 0
            · rw [if_pos z2, if_neg (fun z3 => hok ⟨z1, z2, z3⟩)]; rfl
            · rw [if_neg z2]; rfl
          · rw [if_neg z1]; rfl
        exact ⟨E, _, E.1, E.2.1, t, by
      unfold lw_restore
      rw [show f_X10_restore E κ (nI g) (nI s) = some (addC κ 1 6, .inr 3) from by exact hcl]
      dsimp only
      rw [show f_X11_restore E (lwS (addC κ 1 6) (.inr 3)) (nI g) (nI s) = some (putM (lwS (addC κ 1 6) (.inr 3)) (mu (kV κ 5 0) 0 0 2), 0) from by exact restore_mod2 hG hn hg hs10 hs hs11 o4 o1 h15 hh hok]
      dsimp only
      rw [gdp_t (lwS_noX (by decide) rfl)], glueS (REL_no hR)⟩
    · exact ⟨E, _, E.1, E.2.1, t, by
      unfold lw_restore
      rw [show f_X10_restore E κ (nI g) b = some (addC κ 1 6, .inr 1) from by rw [f_X10_restore, guestAt_ok q1 hn hg, bx_s, gd_t (show g < cntE E 0 from hg), snapAt_no q2 hs10 hb, bx_r]]
      dsimp only
      rw [show f_X11_restore E (lwS (addC κ 1 6) (.inr 1)) (nI g) b = some (putM (lwS (addC κ 1 6) (.inr 1)) (mu (kV κ 5 0) 0 0 1), 0) from by rw [f_X11_restore, isGuest_t (n := E.1) (by rw [lw_V (by omega)]; exact hG) hn hg, bd_s, if_neg (by decide), lw_V (by omega), show kV (addC κ 1 6) 5 0 0 11 = nI E.2.1 from hs11, in_f ((Int32_le_sub1 (by omega)).mpr hb).symm, bd_s, if_pos rfl, f_X11_restore_b26, f_X11_restore_b27, if_pos rfl, f_X11_restore_b69, f_X11_restore_b70, if_pos rfl, f_X11_restore_b91, ref_n (by decide), bd_s, if_neg (by decide), lw_V (by omega)]; rfl]
      dsimp only
      rw [gdp_t (lwS_noX (by decide) rfl)], glueS (REL_no hR)⟩
  · exact ⟨E, _, E.1, E.2.1, t, by
      unfold lw_restore
      rw [show f_X10_restore E κ a b = some (addC κ 1 6, .inr 1) from by rw [f_X10_restore, guestAt_no q1 hn ha, bx_r]]
      dsimp only
      rw [show f_X11_restore E (lwS (addC κ 1 6) (.inr 1)) a b = some (putM (lwS (addC κ 1 6) (.inr 1)) (mu (kV κ 5 0) 0 0 1), 0) from by rw [f_X11_restore, isGuest_f (n := E.1) (by rw [lw_V (by omega)]; exact hG) hn ha, bd_s, if_pos rfl, f_X11_restore_b26, f_X11_restore_b27, if_pos rfl, f_X11_restore_b69, f_X11_restore_b70, if_pos rfl, f_X11_restore_b91, ref_n (by decide), bd_s, if_neg (by decide), lw_V (by omega)]; rfl]
      dsimp only
      rw [gdp_t (lwS_noX (by decide) rfl)], glueS (REL_no hR)⟩
