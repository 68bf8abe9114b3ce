theorem sf_row {μ : MU} {s g m c x : Nat} (h : c ≠ 0 ∧ c ≠ 7 ∧ c ≠ 8 ∧ c ≠ 9 ∧ c ≠ 10 ∧ c ≠ 12) : (sfM μ s g m x) c = μ c := by
  unfold sfM
  rw [mu_row (by omega), mu_row (by omega), sn_row (by omega)]
theorem sf_0 {μ : MU} {s g m x k : Nat} : (sfM μ s g m x) 0 k = if k = 11 then nI (s + 1) else μ 0 k := by
  unfold sfM snM kpM
  rw [mu_row (by omega), mu_row (by omega), mu_row (by omega), blk_row (by omega), kp1_row (by omega)]
  by_cases e : k = 11
  · rw [if_pos e]; exact muS ⟨rfl, e⟩
  · rw [if_neg e]; exact muD (by omega)
theorem sf_7 {μ : MU} {s g m x k : Nat} (h : k / 55 ≠ s) : (sfM μ s g m x) 7 k = μ 7 k := by
  unfold sfM
  rw [mu_row (by omega), mu_row (by omega)]
  exact sn_7 h
theorem sf_7n {μ : MU} {s g m x k : Nat} (h : k < 55) : (sfM μ s g m x) 7 (55 * s + k) = krow μ g k := by
  unfold sfM snM kpM
  rw [mu_row (by omega), mu_row (by omega), mu_row (by omega), blk_row (by omega), kp1_in h]
  unfold krow tmrM
  rw [row_e (mu_row (by omega)), mu_row (show 1 ≠ 0 by omega), muD (show ¬ (0 = 0 ∧ 41 = 11) by omega), clock_e (μ := μ) (muD (by omega)) (by rw [mu_row (by omega)]) (by rw [mu_row (by omega)]) (by rw [mu_row (by omega)])]
theorem sf_8 {μ : MU} {s g m x k : Nat} (hm : m ≤ 512) (h : k / 512 ≠ s) : (sfM μ s g m x) 8 k = μ 8 k := by
  unfold sfM snM kpM
  rw [mu_row (by omega), mu_row (by omega), mu_row (by omega), blk_out (by omega), kp1_row (by omega), mu_row (by omega)]
theorem sf_8n {μ : MU} {s g m x k : Nat} (h : k < m) : (sfM μ s g m x) 8 (512 * s + k) = μ 2 (512 * g + k) := by
  unfold sfM snM kpM
  rw [mu_row (by omega), mu_row (by omega), mu_row (by omega), blk_in h, mu_row (by omega)]
theorem sf_9 {μ : MU} {s g m x k : Nat} : (sfM μ s g m x) 9 k = if k = s then nI g else μ 9 k := by
  unfold sfM snM kpM
  rw [mu_row (by omega), mu_row (by omega)]
  by_cases e : k = s
  · rw [if_pos e]; exact muS ⟨rfl, e⟩
  · rw [if_neg e, muD (by omega), blk_row (by omega), kp1_row (by omega), mu_row (by omega)]
theorem sf_10 {μ : MU} {s g m x k : Nat} : (sfM μ s g m x) 10 k = if k = s then nI x else μ 10 k := by
  unfold sfM
  rw [mu_row (by omega)]
  by_cases e : k = s
  · rw [if_pos e]; exact muS ⟨rfl, e⟩
  · rw [if_neg e, muD (by omega), sn_row (by omega)]
theorem sf_12 {μ : MU} {s g m x k : Nat} : (sfM μ s g m x) 12 k = if k = g then nI s else μ 12 k := by
  unfold sfM
  by_cases e : k = g
  · rw [if_pos e]; exact muS ⟨rfl, e⟩
  · rw [if_neg e, muD (by omega), mu_row (by omega), sn_row (by omega)]
theorem REL_snap {E E' : EE} {κ κ' : K} {μ : MU} {n ns t C g m x st nT nS nJ r : Nat} {T S J : Nat → Int32} (hR : REL E κ μ n ns t C) (hg : g < n) (hs : ns < 10)
    (hE : E'.1 = E.1 ∧ E'.2.1 = ns + 1 ∧ OKE E' ∧ cntE E' 9 = ns + 1 ∧ cntE E' 3 = cntE E 3 ∧ cnt4 E' 1 = cnt4 E 1) (hL : LsI E' κ' 2 (ns + 1))
    (hV : ∀ f i c, ¬ (f = 9 ∧ i = ns) → ¬ (f = 1 ∧ i = ns) → ¬ (f = 4 ∧ i = 0 ∧ (c = 2 ∨ c = 5)) → kV κ' f i c = kV κ f i c ∧ kN κ' f i c = kN κ f i c)
    (hP : ∀ f i c k, ¬ (f = 9 ∧ i = ns) → ¬ (f = 1 ∧ i = ns) → ¬ (f = 4 ∧ i = 0 ∧ (c = 2 ∨ c = 5)) → ¬ (f = 0 ∧ i = g ∧ c = 0 ∧ k = 9) → kP κ' f i c k = kP κ f i c k)
    (h9 : kP κ' 0 g 0 9 = some ns) (p0 : kP κ' 1 ns 0 0 = some g) (p1 : kP κ' 1 ns 0 1 = some ns) (v2 : kV κ' 1 ns 0 2 = nI x) (hm : μ 1 (55 * g + 54) = nI m) (hm5 : m ≤ 512)
    (hF : FOUR κ' 9 ns 0 m nT nS nJ (fun k => μ 2 (512 * g + k)) T S J) (hst : kV κ 0 g 5 5 = nI st) (l1 : nT ≤ st) (l2 : nS ≤ st) (l3 : nJ ≤ st) (hr : kV κ 0 g 0 12 = nI r) (l4 : st ≤ r) (l5 : r ≤ 3000) (hPL : PLN (kV κ 0 g) (mc (kV κ 0 g) 6) st nT nS nJ T S J)
    (eM : ∀ j k, rel j k → kV κ' 9 ns (0 + 1 + j) k = kV κ 0 g (6 + j) k) (e5 : ∀ k, 5 ≤ k → k ≤ 9 → kV κ' 9 ns 0 k = kV κ 0 g 5 k)
    (hc : 8 * (kC κ').1 + WT κ n ns ≤ 8 * (kC κ).1 + WT κ' n (ns + 1) + 3200 ∧ (kC κ').2 + 2 * WT κ n ns ≤ (kC κ).2 + 2 * WT κ' n (ns + 1) + 5000) : REL E' κ' (sfM μ ns g m x) n (ns + 1) t (C + 1) := by
  obtain ⟨⟨g1, g2, g3, g4, g5⟩, ⟨q1, q2, q3, q4, q5⟩, ⟨m1, m2, m3, m4, m5⟩, r4, ⟨r5, r5b, r5c⟩, r6, r7, r8⟩ := hR
  obtain ⟨e1, e2, e3, e4, e6, e7⟩ := hE
  have hn : n ≤ 5 := m1.1.1
  have z0 : ∀ k, k ≠ 11 → (sfM μ ns g m x) 0 k = μ 0 k := fun k hk => by rw [sf_0, if_neg hk]
  have zr : ∀ c, c ≠ 0 → c ≠ 7 → c ≠ 8 → c ≠ 9 → c ≠ 10 → c ≠ 12 → (sfM μ ns g m x) c = μ c := fun c a b d e f i => sf_row ⟨a, b, d, e, f, i⟩
  have za : ∀ c, (1 ≤ c ∧ c ≤ 6) ∨ c = 11 ∨ 13 ≤ c → (sfM μ ns g m x) c = μ c := fun c hc => zr c (by omega) (by omega) (by omega) (by omega) (by omega) (by omega)
  have kv0 : ∀ i, kV κ' 0 i = kV κ 0 i := fun i => by funext c; exact (hV 0 i c (by omega) (by omega) (by omega)).1
  have kn0 : ∀ i, kN κ' 0 i = kN κ 0 i := fun i => by funext c; exact (hV 0 i c (by omega) (by omega) (by omega)).2
  have kv2 : ∀ i, kV κ' 2 i = kV κ 2 i := fun i => by funext c; exact (hV 2 i c (by omega) (by omega) (by omega)).1
  have kp2 : ∀ i, kP κ' 2 i = kP κ 2 i := fun i => by funext c k; exact hP 2 i c k (by omega) (by omega) (by omega) (by omega)
  have ecl : ∀ i, clockM (sfM μ ns g m x) i = clockM μ i := fun i => clock_e (z0 41 (by omega)) (by rw [za 20 (by omega)]) (by rw [za 21 (by omega)]) (by rw [za 22 (by omega)])
  have hF2 : FRM (sfM μ ns g m x) n := FRM_row m2 (za 27 (by omega)) (za 28 (by omega))
  have hRG : ∀ i, i < n → RG κ' (sfM μ ns g m x) i t := fun i hi => by
    have hG := (m4 i hi).1
    exact RG_0 hG (SCA_v hG.1.1 (fun k _ _ => by rw [kv0 i]) (fun c a b _ => by rw [za c (by omega)])) (EXI_v hG.1.2.1 (by rw [kv0 i]) (fun k _ => by rw [za 25 (by omega)])) (BAR_v hG.1.2.2.1 (by rw [kv0 i]) (fun p _ => by rw [za 27 (by omega)])) (SND_v hG.1.2.2.2.1 (by rw [kv0 i]) (by rw [za 30 (by omega)]) (by rw [za 31 (by omega)])) (fun c _ _ => by rw [kv0 i]) (fun c => by rw [kn0 i]) (by rw [kv0 i]) (by rw [kv0 i]) (fun c hc => za c (by omega)) (ecl i)
  refine ⟨⟨e1.trans g1, e2, e3, e4, fun i hi => ?_⟩, ⟨?_, hL, ?_, by rw [z0 41 (by omega)]; exact q4, q5⟩, ⟨?_, hF2, fun k hk2 => ?_, fun i hi => ⟨hRG i hi, ?_, ?_⟩, fun z hz => ?_⟩, fun i hi => ⟨SAY_row (r4 i hi).1 (za 24 (by omega)) (za 35 (by omega)) (za 37 (by omega)), CLK_e (r4 i hi).2.1 (za 22 (by omega)) (za 20 (by omega)) (za 21 (by omega)), INQ_e (INQ_up (r4 i hi).2.2) (by rw [za 1 (by omega)]) (by rw [za 6 (by omega)]) (by rw [za 33 (by omega)]) (za 3 (by omega)) (za 5 (by omega)) (by rw [za 18 (by omega)])⟩, ⟨by rw [sf_0, if_pos rfl], by omega, fun z hz => ?_⟩, ?_, ?_, ?_⟩
  · rw [e6] at hi
    obtain ⟨y, a, b⟩ := g5 i hi
    exact ⟨y, a, by rw [hP 3 i 0 1 (by omega) (by omega) (by omega) (by omega)]; exact b⟩
  · unfold LsI
    rw [(hV 4 0 1 (by omega) (by omega) (by omega)).1, e7, hP 4 0 1 1 (by omega) (by omega) (by omega) (by omega)]
    refine ⟨q1.1, q1.2.1, fun z => ⟨(q1.2.2 z).1, (q1.2.2 z).2.1, fun k => ?_⟩⟩
    rw [hP 4 0 (1 + 3) k (by omega) (by omega) (by omega) (by omega)]
    exact (q1.2.2 z).2.2 k
  · rw [(hV 4 0 0 (by omega) (by omega) (by omega)).1]; exact q3
  · refine TJ_mk hn (by rw [z0 26 (by omega)]; exact m1.1.2.1) (fun i hi => ?_) hF2 (by rw [za 39 (by omega)]; exact m1.1.2.2.2) (by unfold TM; rw [z0 41 (by omega)]; exact m1.2.2)
    obtain ⟨x1, x2, x3, x4⟩ := m1.1.2.2.1 i hi
    refine ⟨fun k hk2 => by rw [za 1 (by omega)]; exact x1 k hk2, ?_, ?_, by rw [za 15 (by omega)]; exact x4⟩
    · unfold PRG
      rw [za 13 (by omega), za 14 (by omega)]
      exact x2
    · unfold QOK
      rw [za 1 (by omega), za 2 (by omega)]
      exact m1.2.1 i hi
  · exact HO_v (m3 k hk2) (Nat.le_refl _) (by rw [kv2 k]; exact RH_row (m3 k hk2).1 (za 15 (by omega)) (za 28 (by omega)) (za 29 (by omega))) (fun j _ => by rw [kv2 k]) (kp2 k) (fun c a b => by rw [za c (by omega)])
  · by_cases e : i = g
    · subst e
      obtain ⟨⟨h, hh, b1, b2⟩, _⟩ := (m4 i hi).2.1
      exact ⟨⟨h, hh, by rw [hP 0 i 0 8 (by omega) (by omega) (by omega) (by omega)]; exact b1, by rw [za 15 (by omega)]; exact b2⟩, Or.inr ⟨ns, by omega, by rw [sf_12, if_pos rfl], h9⟩⟩
    · exact GPT_v (m4 i hi).2.1 (by omega) (by funext c k; exact hP 0 i c k (by omega) (by omega) (by omega) (by omega)) (by rw [za 15 (by omega)]) (by rw [sf_12, if_neg e])
  · exact (m4 i hi).2.2.imp (fun z => by rw [kv0 i]; exact z) (fun z => PLK_v z (fun j _ => by rw [kv0 i]) (fun j _ => by rw [kn0 i]) (fun c _ _ => by rw [kv0 i]) (RANUP_e (by rw [kv0 i])))
  · by_cases e : z = ns
    · subst e
      refine ⟨g, hg, p0, p1, by rw [sf_9, if_pos rfl], by rw [v2, sf_10, if_pos rfl], KST_keep (m4 g hg).1 (m1.1.2.2.1 g hg).1 (m1.2.1 g hg) q4 q5 (r4 g hg).2.1 hm hm5 eM hF.1 e5 (fun k hk2 => sf_7n hk2) (fun k hk2 => sf_8n hk2), PLK_keep hF hst l1 l2 l3 hr l4 l5 hPL eM (e5 5 (by omega) (by omega)) (by rw [kv0 g]) (fun c _ _ => by rw [kv0 g])⟩
    · refine SNP_v (m5 z (by omega)) (Nat.le_refl _) ?_ ?_ ?_ ?_ (fun c a b k c7 c8 c9 => ?_) (fun i hi => ⟨fun c _ _ => by rw [kv0 i], RANUP_e (by rw [kv0 i])⟩)
      · funext c; exact (hV 1 z c (by omega) (by omega) (by omega)).1
      · funext c; exact (hV 9 z c (by omega) (by omega) (by omega)).1
      · funext c; exact (hV 9 z c (by omega) (by omega) (by omega)).2
      · funext c k; exact hP 1 z c k (by omega) (by omega) (by omega) (by omega)
      · obtain rfl | rfl | rfl | rfl : c = 7 ∨ c = 8 ∨ c = 9 ∨ c = 10 := by omega
        · exact sf_7 (by have := c7 rfl; omega)
        · exact sf_8 hm5 (by have := c8 rfl; omega)
        · have := c9 (Or.inl rfl)
          rw [sf_9, if_neg (by omega)]
        · have := c9 (Or.inr rfl)
          rw [sf_10, if_neg (by omega)]
  · by_cases e : z = ns
    · subst e
      obtain ⟨mm, b1, b2⟩ := (r4 g hg).2.2.1
      refine ⟨mm, ?_, by omega⟩
      rw [sf_7n (by omega)]
      unfold krow
      rw [if_neg (by omega), if_neg (by omega)]
      exact b1
    · obtain ⟨a, b1, b2⟩ := r5c z (by omega)
      exact ⟨a, by rw [sf_7 (by omega)]; exact b1, by omega⟩
  · intro c k a b d e f i
    by_cases z : c = 12
    · subst z
      rw [show wid 12 = 1 from rfl, Nat.div_one] at f i
      rw [sf_12, if_neg (by omega)]
      exact r6 12 k a b d e (by rw [show wid 12 = 1 from rfl, Nat.div_one]; exact f) (by rw [show wid 12 = 1 from rfl, Nat.div_one]; exact i)
    · rw [za c (by omega)]
      exact r6 c k a b d e f i
  · omega
  · omega
theorem kA_9 {E : EE} {κ : K} {s : Nat} (hs : s < cntE E 9) : kA E κ (9, s, 4) = some (32, kV κ 9 s 4) := by
  have hl : liveC E 9 s 4 = true := by
    unfold liveC
    rw [decide_eq_true hs]
    rfl
  unfold kA
  rw [if_neg (fun z => by cases z), if_neg (by show ¬ 9 = 8; decide), if_pos hl, if_pos (show kd 9 4 = 20 from rfl)]
  rfl
theorem DG_one {E : EE} {κ : K} {j : Nat} (h1 : ∀ i, i < cntE E 0 → kP κ 0 i 0 9 ≠ some j) (h2 : cntE E 4 ≤ 1) (h3 : 0 < cnt4 E 2 → ∀ k, kP κ 4 0 5 k ≠ some j) : DGF E κ 1 j := by
  refine ⟨fun f i c k co hl _ hs => ?_, fun i c k hl hk hc => ?_⟩
  · obtain ⟨l1, l2, l3, _⟩ := live_in hl
    rcases fsp_in hs with ⟨a, b, d⟩ | ⟨a, b, d⟩ | ⟨a, b, d⟩ | ⟨a, b, d⟩ | ⟨a, b, d⟩ | ⟨a, b, d⟩
    · exact absurd d (by decide)
    · obtain ⟨rfl, rfl⟩ := (kd_in l2 l3).1 a
      subst b
      exact h1 i l1
    all_goals exact absurd d (by decide)
  · obtain ⟨l1, l2, l3, l4⟩ := live_in hl
    obtain rfl : i = 0 := by omega
    obtain rfl : c = 5 := by omega
    exact h3 ((l4 rfl).2 (by omega)) k
theorem snap_cls {E : EE} {κ : K} {μ : MU} {n ns t C g : Nat} (hR : REL E κ μ n ns t C) (hg : g < n) (hs : ns < 10) (h68 : ¬ kV κ 0 g 6 8 = 3) : ∃ E' κ' m W B, f_X10_snapshot E κ (nI g) = some ((E', κ'), .inl (nI ns)) ∧ kV κ' 5 = kV κ 5 ∧ OKE E' ∧ E'.1 = E.1 ∧ μ 1 (55 * g + 54) = nI m ∧ m ≤ 512 ∧ (∀ k, k < 32 → μ 1 (55 * g + 17 + k) = W k) ∧ ((μ 12 g = -1 ∧ ∀ k, k < 32 → B k = 0) ∨ ∃ q, q < ns ∧ μ 12 g = nI q ∧ ∀ k, k < 32 → μ 7 (55 * q + 17 + k) = B k) ∧ REL E' κ' (sfM μ ns g m (cntU (ulk W B) 8)) n (ns + 1) t (C + 1) := by
  obtain ⟨⟨g1, g2, g3, g4, g5⟩, ⟨q1, q2, q3, q4, q5⟩, ⟨m1, m2, m3, m4, m5⟩, _⟩ := id hR
  have hn : n ≤ 5 := m1.1.1
  have hH : E.2.2.2.1 = 1 := g3.2.2.2.1
  have c9 : cntE E 9 = ns := g4
  have c1 : cntE E 1 = ns := g2
  have c0 : cntE E 0 = n := g1
  obtain ⟨hGg, hPg, hFg⟩ := m4 g hg
  obtain ⟨a1, a2, a3, a4, a5, a6, ⟨m, hm5, hm, nI1⟩, _⟩ := hGg.1
  obtain ⟨st, nT, nS, nJ, T, S, J, r, hLs, hst, l1, l2, l3, hr, l4, l5, hpl⟩ := hGg.2.2.2
  obtain ⟨r1, _⟩ := m1.1.2.2.1 g hg
  have hPL : PLN (kV κ 0 g) (mc (kV κ 0 g) 6) st nT nS nJ T S J := by
    rcases hpl with ⟨_, z⟩ | ⟨_, z⟩
    · exact absurd z h68
    · exact z
  let κ1 : K := kS E (addC κ 1 3)
  have hk1 : κ1 = adK (addC (addC κ 1 3) 13 103) (nwF 9 ns 13 fun c => c) (cX8 ((eR E).length + 1)) := by
    show kS E (addC κ 1 3) = _
    unfold kS
    rw [c9]
  have v1 : ∀ f i c, ¬ (f = 9 ∧ i = ns ∧ c < 13) → kV κ1 f i c = kV κ f i c ∧ kN κ1 f i c = kN κ f i c ∧ kP κ1 f i c = kP κ f i c := fun f i c z => by
    rw [hk1]
    exact ⟨aK_Vn (nwF_n z), aK_Nn (nwF_n z), aK_Pn (nwF_n z)⟩
  have num1 : ∀ c, c = 5 ∨ c = 7 ∨ c = 9 ∨ c = 11 → NUM κ1 9 ns c 0 (fun _ => 0) := fun c hc => by
    refine ⟨?_, Nat.zero_le _, ?_, fun k hk => absurd hk (Nat.not_lt_zero k)⟩
    · rw [hk1, aK_V ⟨rfl, rfl, by omega⟩]
      rcases hc with rfl | rfl | rfl | rfl <;> rfl
    · rw [hk1, aK_N ⟨rfl, rfl, by omega⟩]
      have : rvN ((cX8 ((eR E).length + 1)).getD (c + 1) rz) = 8 := by rcases hc with rfl | rfl | rfl | rfl <;> rfl
      rw [this]
      exact CAP_8
  have mv : ∀ {c s q}, NUM κ 0 g c s q → NUM κ1 0 g c s q := fun {c s q} z => NUM_K z (by rw [(v1 0 g c (by omega)).1]) (v1 0 g (c + 1) (by omega)).1 (v1 0 g (c + 1) (by omega)).2.1
  obtain ⟨κ2, p1, p2, p3, p4, p5, p6, p7, p8⟩ := copy8 (E := eS E (fS1 ns g)) (κ := κ1) (n := n) (ns := ns + 1) (f0 := 9) (i0 := ns) (c0 := 0) (f1 := 0) (i1 := g) (c1 := 5) (by omega) (by rw [(v1 0 g (5 + 1) (by omega)).1, show kV κ 0 g (5 + 1) 7 = μ 1 (55 * g + 8) from hGg.2.1.2.2.2.2.2.1]; exact bit01 r1 (k := 8) (by omega)) (by rw [(v1 0 g 5 (by omega)).1, a6.2.1]; exact bit01 r1 (k := 51) (by omega)) (by rw [(v1 0 g 5 (by omega)).1, a6.2.2.1]; exact bit01 r1 (k := 52) (by omega)) ⟨mv nI1, mv hLs.1, mv hLs.2.1, mv hLs.2.2⟩ ⟨num1 5 (by omega), num1 7 (by omega), num1 9 (by omega), num1 11 (by omega)⟩ (fun j hj => by
    have ha : aliveN n (ns + 1) (9, ns, 0 + j) = true := by
      unfold aliveN
      simp
    rcases hj with rfl | rfl | rfl | rfl <;> exact ⟨num_mem9 ns (by omega) _ (by decide), ha⟩)
  have v2 : ∀ f i c, ¬ (f = 9 ∧ i = ns) → kV κ2 f i c = kV κ f i c ∧ kN κ2 f i c = kN κ f i c := fun f i c z => ⟨by rw [p2 f i c (by omega), (v1 f i c (by omega)).1], by rw [p3 f i c (by omega), (v1 f i c (by omega)).2.1]⟩
  have vp2 : ∀ f i c, ¬ (f = 9 ∧ i = ns) → kP κ2 f i c = kP κ f i c := fun f i c z => by rw [p4, (v1 f i c (by omega)).2.2]
  have eM2 : ∀ j k, rel j k → kV κ2 9 ns (0 + 1 + j) k = kV κ 0 g (6 + j) k := fun j k h => by rw [p6 j k h, (v1 0 g (5 + 1 + j) (by omega)).1, show 5 + 1 + j = 6 + j from by omega]
  have e52 : ∀ k, 5 ≤ k → k ≤ 9 → kV κ2 9 ns 0 k = kV κ 0 g 5 k := fun k a b => by rw [p8 k a b, (v1 0 g 5 (by omega)).1]
  have cE9 : cntE (eS E (fS1 ns g)) 9 = ns + 1 := by rw [← c9]; rfl
  have hW : ∀ k, k < 32 → μ 1 (55 * g + 17 + k) = kV κ2 9 ns 4 k := fun k hk => by
    rw [show kV κ2 9 ns 4 k = kV κ 0 g 9 k from eM2 3 k (Or.inr (Or.inr (Or.inr ⟨rfl, hk⟩))), show kV κ 0 g 9 k = μ 1 (55 * g + (17 + k)) from hGg.2.1.2.2.2.2.2.2.2.2 k hk, Nat.add_assoc]
  have kA1 : kA (eS E (fS1 ns g)) κ2 (9, ns, 0 + 4) = some (32, kV κ2 9 ns 4) := kA_9 (by rw [cE9]; omega)
  have hsnap : ∃ κ3 B, f_snapC E (addC κ 1 3) g = some (κ3, nI (cntU (ulk (kV κ2 9 ns 4) B) 8)) ∧ kV κ3 = kV κ2 ∧ kN κ3 = kN κ2 ∧ kP κ3 = kP κ2 ∧ (kC κ3).1 ≤ (kC κ2).1 + 1 ∧ (kC κ3).2 ≤ (kC κ2).2 + 32 ∧ ((μ 12 g = -1 ∧ ∀ k, k < 32 → B k = 0) ∨ ∃ q, q < ns ∧ μ 12 g = nI q ∧ ∀ k, k < 32 → μ 7 (55 * q + 17 + k) = B k) := by
    rcases hPg.2 with ⟨b1, b2⟩ | ⟨q, qs, b1, b2⟩
    · refine ⟨addC κ2 1 32, fun _ => 0, ?_, rfl, rfl, rfl, Nat.le_refl _, Nat.le_refl _, Or.inl ⟨b1, fun _ _ => rfl⟩⟩
      unfold f_snapC
      rw [nmE, c9, p1, bd_s, show kP κ2 0 g 0 9 = none from by rw [vp2 0 g 0 (by omega)]; exact b2, optG_0]
      exact c_unlikeN (kA_9 (by show ns < cntE (eS E (fS1 ns g)) 9; rw [cE9]; omega))
    · obtain ⟨go, _, _, y1, y2, _, y3, _⟩ := m5 q qs
      refine ⟨κ2, kV κ2 9 q 4, ?_, rfl, rfl, rfl, by omega, by omega, Or.inr ⟨q, qs, b1, fun k hk => ?_⟩⟩
      · unfold f_snapC
        rw [nmE, c9, p1, bd_s, show kP κ2 0 g 0 9 = some q from by rw [vp2 0 g 0 (by omega)]; exact b2, optG_s (by show q < cntE E 1; omega), show kP κ2 1 q 0 1 = some q from by rw [vp2 1 q 0 (by omega)]; exact y1, optG_s (by rw [cE9]; omega)]
        exact c_unlike kA1 (kA_9 (by rw [cE9]; omega))
      · rw [(v2 9 q 4 (by omega)).1, show kV κ 9 q 4 k = μ 7 (55 * q + (17 + k)) from y3.2.1.2.2.2.2.2.2.2.2 k hk, Nat.add_assoc]
  obtain ⟨κ3, B, s1, s2, s3, s4, s5, s6, hB⟩ := hsnap
  have vp3 : ∀ f i c, ¬ (f = 9 ∧ i = ns) → kP κ3 f i c = kP κ f i c := fun f i c z => by rw [s4, vp2 f i c z]
  have D := DG_all hR
  have dg1 : DGF (bmp E 9 (eR E)) κ3 1 ns := by
    refine DG_one (fun i hi => ?_) (by show E.2.2.2.1 ≤ 1; omega) (fun hc k => ?_)
    · rw [vp3 0 i 0 (by omega)]
      rcases (m4 i (by rw [← c0]; exact hi)).2.1.2 with ⟨_, z⟩ | ⟨q, z1, _, z2⟩
      · rw [z]; exact fun y => by cases y
      · rw [z2]; intro y; injection y with y; omega
    · rw [vp3 4 0 5 (by omega)]
      by_cases z : ns = 0
      · have := (q2.2.1 z).1
        have h2 : 0 < cnt4 E 2 := hc
        omega
      · rw [(q2.2.2 (by omega)).2.2 k]
        by_cases y : k < ns
        · rw [if_pos y]; intro y2; injection y2 with y2; omega
        · rw [if_neg y]; exact fun y2 => by cases y2
  have v3_2 : kV κ3 4 0 2 = kV κ 4 0 2 := by rw [s2]; exact (v2 4 0 2 (by omega)).1
  have ls : lsOK E κ3 2 := by
    have := lsOK_of q2 hs
    unfold lsOK at this ⊢
    rw [v3_2, vp3 4 0 2 (by omega)]
    exact this
  generalize hx : cntU (ulk (kV κ2 9 ns 4) B) 8 = x at s1
  let κ4 : K := kS2 E κ3 ns g (nI x)
  have hk4 : κ4 = adK κ3 (nwF 1 ns 1 fun c => c) [.inl (8, fS2 ns g (nI x))] := by
    show kS2 E κ3 ns g (nI x) = _
    unfold kS2
    rw [c1]
  let κ5 : K := setP κ4 0 g 0 9 (some ns)
  have v5 : ∀ f i c, ¬ (f = 1 ∧ i = ns) → kV κ5 f i c = kV κ3 f i c ∧ kN κ5 f i c = kN κ3 f i c := fun f i c z => by
    show kV κ4 f i c = _ ∧ kN κ4 f i c = _
    rw [hk4]
    exact ⟨aK_Vn (nwF_n (by omega)), aK_Nn (nwF_n (by omega))⟩
  have vp5 : ∀ f i c k, ¬ (f = 1 ∧ i = ns) → ¬ (f = 0 ∧ i = g ∧ c = 0 ∧ k = 9) → kP κ5 f i c k = kP κ3 f i c k := fun f i c k z w => by
    show kP (setP κ4 0 g 0 9 (some ns)) f i c k = _
    rw [pD (by omega), hk4, aK_Pn (nwF_n (by omega))]
  have w0 : kV κ5 1 ns 0 2 = nI x := by
    show kV κ4 1 ns 0 2 = _
    rw [hk4, aK_V ⟨rfl, rfl, by omega⟩]
    rfl
  have w1 : kP κ5 1 ns 0 0 = some g := by
    show kP (setP κ4 0 g 0 9 (some ns)) 1 ns 0 0 = _
    rw [pD (by omega), hk4, aK_P ⟨rfl, rfl, by omega⟩]
    rfl
  have w2 : kP κ5 1 ns 0 1 = some ns := by
    show kP (setP κ4 0 g 0 9 (some ns)) 1 ns 0 1 = _
    rw [pD (by omega), hk4, aK_P ⟨rfl, rfl, by omega⟩]
    rfl
  have w9 : kP κ5 0 g 0 9 = some ns := pS ⟨rfl, rfl, rfl, rfl⟩
  have xs : xS E κ3 g (nI x) = addL (eS2 E, κ5) 2 ns := by
    unfold xS
    rw [c1, c9]
  have ee : ∀ f, f ≠ 1 → f ≠ 9 → cntE (eS2 E) f = cntE E f := fun f h1 h9 => by
    rcases f with _ | _ | _ | _ | _ | _ | _ | _ | _ | _ | f
    · rfl
    · exact absurd rfl h1
    · rfl
    · rfl
    · rfl
    · rfl
    · rfl
    · rfl
    · rfl
    · exact absurd rfl h9
    · rfl
  have ef : ∀ f, cntE (flagE (eS2 E) 2) f = cntE (eS2 E) f := fun f => by
    rcases f with _ | _ | _ | _ | _ | _ | _ | _ | _ | _ | f <;> rfl
  have fin : ∃ E' κ', addL (eS2 E, κ5) 2 ns = (E', κ') ∧ (E'.1 = E.1 ∧ E'.2.1 = ns + 1 ∧ OKE E' ∧ cntE E' 9 = ns + 1 ∧ cntE E' 3 = cntE E 3 ∧ cnt4 E' 1 = cnt4 E 1) ∧ LsI E' κ' 2 (ns + 1) ∧ (∀ f i c, ¬ (f = 4 ∧ i = 0 ∧ (c = 2 ∨ c = 5)) → kV κ' f i c = kV κ5 f i c ∧ kN κ' f i c = kN κ5 f i c ∧ kP κ' f i c = kP κ5 f i c) ∧ (kC κ').1 ≤ (kC κ5).1 + 1 ∧ (kC κ').2 ≤ (kC κ5).2 + 10 := by
    by_cases e : ns = 0
    · have cc : cnt4 (eS2 E) 2 = 0 := (q2.2.1 e).1
      obtain ⟨b1, b2, b3, b4, b5, b6⟩ := adE_f (κ := κ5) (c := 2) (e := ns) (Or.inr rfl)
      refine ⟨flagE (eS2 E) 2, adE κ5 2 ns, by unfold addL; rw [if_pos cc], ⟨rfl, by rw [← g2]; rfl, OKE_e g3 (fun f _ a _ b => (ef f).trans (ee f a b)) rfl rfl, by rw [← c9]; rfl, rfl, rfl⟩, ⟨by rw [b3, e]; rfl, fun z => by omega, fun _ => ⟨by show ¬ (1 = 0); omega, b4, fun k => by rw [b5, e]; by_cases z : k < 1 <;> simp [z] <;> omega⟩⟩, fun f i c z => b1 f i c (by omega), by rw [b6]; exact Nat.le_refl _, by rw [b6]; exact Nat.le_refl _⟩
    · obtain ⟨u1, u2, u3⟩ := q2.2.2 (by omega)
      have cc : ¬ cnt4 (eS2 E) 2 = 0 := u1
      have k2 : kV κ5 4 0 2 2 = nI ns := by rw [(v5 4 0 2 (by omega)).1, v3_2]; exact q2.1
      obtain ⟨b1, b2, b3, b4, b5, b6⟩ := adN_f (κ := κ5) (c := 2) (e := ns) (n := ns) (Or.inr rfl) (by omega) k2
      refine ⟨eS2 E, adN κ5 2 ns, by unfold addL; rw [if_neg cc], ⟨rfl, by rw [← g2]; rfl, OKE_e g3 (fun f _ a _ b => ee f a b) rfl rfl, by rw [← c9]; rfl, rfl, rfl⟩, ⟨b3, fun z => by omega, fun _ => ⟨cc, by rw [b4, vp5 4 0 2 1 (by omega) (by omega), vp3 4 0 2 (by omega)]; exact u2, fun k => by rw [b5, vp5 4 0 (2 + 3) k (by omega) (by omega), vp3 4 0 (2 + 3) (by omega), u3 k]; by_cases z : k = ns <;> by_cases z2 : k < ns <;> simp [z, z2] <;> omega⟩⟩, fun f i c z => b1 f i c (by omega), by rw [b6]; omega, by rw [b6]; omega⟩
  obtain ⟨E', κ', f1, f2, f3, f4, f5, f6⟩ := fin
  refine ⟨E', κ', m, kV κ2 9 ns 4, B, ?_, ?_, f2.2.2.1, f2.1, hm, hm5, hW, hB, ?_⟩
  · have hdead : f_X1_isDead E κ g = some (κ, 0) := by
      rw [f_X1_isDead, f_X1_isDead_e, if_neg h68, bd_s, gd_t (Or.inl rfl)]
    have hgu : f_X10_guestAt E κ (nI g) = some (κ, .inl g) := guestAt_ok (by rw [g1]; exact q1) (by omega) (by omega)
    rw [f_X10_snapshot, hgu]
    show gd (g < cntE E 0) _ = _
    rw [gd_t (by omega), hdead]
    dsimp only
    rw [if_pos rfl, if_pos (by rw [q2.1, l10, nI_lt' (by omega) (by omega)]; exact hs), s1]
    dsimp only
    rw [c9, c1, gdp_t ⟨D.2.1, dg1, ls⟩, xs, f1]
    dsimp only
    rw [f3.1, i32_1, nI_sub (by omega), Nat.add_sub_cancel]
  · funext i c
    rw [(f4 5 i c (by omega)).1, (v5 5 i c (by omega)).1, s2, (v2 5 i c (by omega)).1]
  · rw [hx]
    have tV : ∀ c, kV κ' 9 ns c = kV κ2 9 ns c := fun c => by rw [(f4 9 ns c (by omega)).1, (v5 9 ns c (by omega)).1, s2]
    have tN : ∀ c, kN κ' 9 ns c = kN κ2 9 ns c := fun c => by rw [(f4 9 ns c (by omega)).2.1, (v5 9 ns c (by omega)).2, s3]
    have mv9 : ∀ {c s q}, NUM κ2 9 ns c s q → NUM κ' 9 ns c s q := fun {c s q} z => NUM_K z (by rw [tV c]) (tV (c + 1)) (tN (c + 1))
    refine REL_snap hR hg hs f2 f3 (fun f i c y1 y2 y3 => ⟨?_, ?_⟩) (fun f i c k y1 y2 y3 y4 => ?_) ?_ ?_ ?_ ?_ hm hm5 ⟨mv9 p7.1, mv9 p7.2.1, mv9 p7.2.2.1, mv9 p7.2.2.2⟩ hst l1 l2 l3 hr l4 l5 hPL (fun j k h => by rw [tV]; exact eM2 j k h) (fun k a b => by rw [tV]; exact e52 k a b) ?_
    · rw [(f4 f i c y3).1, (v5 f i c y2).1, s2, (v2 f i c y1).1]
    · rw [(f4 f i c y3).2.1, (v5 f i c y2).2, s3, (v2 f i c y1).2]
    · rw [(f4 f i c y3).2.2, vp5 f i c k y2 y4, vp3 f i c y1]
    · rw [(f4 0 g 0 (by omega)).2.2]; exact w9
    · rw [(f4 1 ns 0 (by omega)).2.2]; exact w1
    · rw [(f4 1 ns 0 (by omega)).2.2]; exact w2
    · rw [(f4 1 ns 0 (by omega)).1]; exact w0
    · have h5c : kC κ5 = kC κ3 := rfl
      have h1c : kC κ1 = ((kC κ).1 + 1 + 13, (kC κ).2 + 3 + 103) := rfl
      have W1 : WT κ n ns ≤ WT κ1 n (ns + 1) := by
        refine sumL_le fun p hp => ?_
        obtain ⟨f, i, c⟩ := p
        by_cases e : aliveN n ns (f, i, c) = true
        · have e2 : aliveN n (ns + 1) (f, i, c) = true := by
            unfold aliveN at e ⊢
            simp only [Bool.or_eq_true, Bool.and_eq_true, decide_eq_true_eq] at e ⊢
            omega
          rw [if_pos e, if_pos e2]
          unfold aliveN at e
          simp only [Bool.or_eq_true, Bool.and_eq_true, decide_eq_true_eq] at e
          show kN κ f i c ≤ kN κ1 f i c
          rw [(v1 f i c (by omega)).2.1]
          exact Nat.le_refl _
        · rw [if_neg e]; exact Nat.zero_le _
      have W2 : WT κ2 n (ns + 1) = WT κ' n (ns + 1) := by
        refine sumL_congr fun p hp => ?_
        obtain ⟨f, i, c⟩ := p
        by_cases e : aliveN n (ns + 1) (f, i, c) = true
        · rw [if_pos e, if_pos e]
          unfold aliveN at e
          simp only [Bool.or_eq_true, Bool.and_eq_true, decide_eq_true_eq] at e
          show kN κ2 f i c = kN κ' f i c
          rw [(f4 f i c (by omega)).2.1, (v5 f i c (by omega)).2, s3]
        · rw [if_neg e, if_neg e]
      obtain ⟨P1, P2⟩ := p5
      rw [h1c] at P1 P2
      rw [h5c] at f5 f6
      dsimp only at P1 P2
      omega
theorem EXT_sf {μ : MU} {s g m x : Nat} : EXT μ (sfM (mu μ 0 0 0) s g m x) :=
  EXT_thr.tr (EXT_r (sf_row (by omega)) (sf_row (by omega)) (sf_row (by omega)) (sf_row (by omega)) (by rw [sf_0, if_neg (by omega)]) (fun g2 k _ _ => by rw [sf_row (by omega)]))
theorem st_snapshot {E : EE} {κ : K} {n ns t C : Nat} {a : Int32} (hR : REL E κ (kV κ 5 0) n ns t C) : DONE (lw_snapshot E κ a) C := by
  have hR0 := hR
  obtain ⟨⟨rfl, rfl, hO, h9⟩, ⟨q1, q2, q3, q4, q5⟩, hM, hQ, hS, hZ, hC⟩ := hR0
  have hn : E.1 ≤ 5 := hM.1.1.1
  have hG : kV κ 5 0 0 26 = nI E.1 := hM.1.1.2.1
  have hH : E.2.2.2.1 = 1 := hO.2.2.2.1
  by_cases ha : vp_in a E.1
  · obtain ⟨g, hg, rfl⟩ := vp_ex (by omega) ha
    obtain ⟨x, hst, hx⟩ := (hM.1.1.2.2.1 g hg).1.st
    have e68 : kV κ 0 g 6 8 = nI x := ((hM.2.2.2.1 g hg).1.2.1.2.2.2.2.2.2.1).trans hst
    have hgu : f_X10_guestAt E κ (nI g) = some (κ, .inl g) := guestAt_ok q1 hn hg
    have h11 : kV κ 5 0 0 11 = nI E.2.1 := hS.1
    have hs10 : E.2.1 ≤ 10 := hS.2.1
    have no3 : (∀ E : EE, True) → f_X10_snapshot E κ (nI g) = some ((E, addC κ 1 6), .inr 3) → (f_X11_snapshot E (lwS (addC κ 1 6) (.inr 3)) (nI g) = some (putM (lwS (addC κ 1 6) (.inr 3)) (mu (kV κ 5 0) 0 0 2), 0)) → DONE (lw_snapshot E κ (nI g)) C := fun _ hcl hmd => ⟨E, _, E.1, E.2.1, t, by
      unfold lw_snapshot
      rw [hcl]
      dsimp only
      rw [gdp_t ⟨hO, fun e z => (by cases z; decide), GRW_no⟩, hmd]
      dsimp only
      rw [gdp_t (lwS_noX (by decide) rfl)], glueS (REL_no hR)⟩
    by_cases hx3 : x = 3
    · refine no3 (fun _ => trivial) ?_ ?_
      · rw [f_X10_snapshot, hgu]
        show gd (g < cntE E 0) _ = _
        rw [gd_t (show g < cntE E 0 from hg), dead_E e68 hx]
        dsimp only
        rw [if_pos hx3, if_neg (by decide)]
      · rw [f_X11_snapshot, isGuest_t (n := E.1) (by rw [lw_V (by omega)]; exact hG) hn hg, bd_s, if_neg (by decide), l55, nI_mul, l49, nI_add, nI_cl (by omega), gdi (by omega), lw_V (by omega), show kV (addC κ 1 6) 5 0 1 (55 * g + 49) = nI x from hst, if_pos (by rw [hx3]; rfl), f_X11_snapshot_b40, f_X11_snapshot_b45, ref_n (by decide), bd_s, if_neg (by decide), lw_V (by omega)]
        rfl
    · have hne : ¬ nI x = 3 := by rw [l3, nI_eq' (by omega) (by omega)]; exact hx3
      by_cases hs : E.2.1 < 10
      · obtain ⟨E', κ', m, W, B, s1, s2, s3, s4, s5, s6, s7, s8, s9⟩ := snap_cls (REL_thr (x := 0) hR) hg hs (by rw [e68]; exact hne)
        rw [thr_c (by omega)] at s5 s8
        exact ⟨E', _, E.1, E.2.1 + 1, t, by
          unfold lw_snapshot
          rw [s1]
          dsimp only
          rw [gdp_t ⟨s3, fun e z => (by cases z), ⟨fun r z => (by cases z; exact ⟨s9.1.1, s9.1.2.1, rfl⟩), fun e z => (by cases z)⟩⟩, m_snap (κ := lwS κ' (.inl (nI E.2.1))) (n := E.1) (s := E.2.1) (m := m) (W := W) (B := B) (by rw [lw_V (by omega), s2]; exact hG) hn hg hs (by rw [lw_V (by omega), s2]; exact h11) (by rw [lw_V (by omega), s2, hst]; exact hne) (by rw [lw_V (by omega), s2]; exact s5) s6 (fun k hk => by rw [lw_V (by omega), s2]; exact s7 k hk) (by rw [lw_V (by omega), s2]; exact s8), lw_V (by omega), s2]
          dsimp only
          rw [gdp_t (lwS_okX (by rw [sf_0, if_neg (by omega)]; exact muS ⟨rfl, rfl⟩) rfl)], glueS s9⟩
      · refine no3 (fun _ => trivial) ?_ ?_
        · rw [f_X10_snapshot, hgu]
          show gd (g < cntE E 0) _ = _
          rw [gd_t (show g < cntE E 0 from hg), dead_E e68 hx]
          dsimp only
          rw [if_neg hx3, if_pos rfl, if_neg (by rw [q2.1, l10, nI_lt' (by omega) (by omega)]; exact hs)]
        · rw [f_X11_snapshot, isGuest_t (n := E.1) (by rw [lw_V (by omega)]; exact hG) hn hg, bd_s, if_neg (by decide), l55, nI_mul, l49, nI_add, nI_cl (by omega), gdi (by omega), lw_V (by omega), show kV (addC κ 1 6) 5 0 1 (55 * g + 49) = nI x from hst, if_neg hne, show kV (addC κ 1 6) 5 0 0 11 = nI E.2.1 from h11, if_pos (by rw [show E.2.1 = 10 from by omega]; rfl), f_X11_snapshot_b40, f_X11_snapshot_b45, ref_n (by decide), bd_s, if_neg (by decide), lw_V (by omega)]
          rfl
  · have hgu : f_X10_guestAt E κ a = some (addC κ 1 6, .inr 1) := guestAt_no q1 hn ha
    exact ⟨E, _, E.1, E.2.1, t, by
      unfold lw_snapshot
      rw [show f_X10_snapshot E κ a = some ((E, addC κ 1 6), .inr 1) from by rw [f_X10_snapshot, hgu]; rfl]
      dsimp only
      rw [gdp_t ⟨hO, fun e z => (by cases z; decide), GRW_no⟩, show f_X11_snapshot E (lwS (addC κ 1 6) (.inr 1)) a = some (putM (lwS (addC κ 1 6) (.inr 1)) (mu (kV κ 5 0) 0 0 1), 0) from by rw [f_X11_snapshot, isGuest_f (n := E.1) (by rw [lw_V (by omega)]; exact hG) hn ha, bd_s, if_pos rfl, f_X11_snapshot_b45, ref_n (by decide), bd_s, if_neg (by decide), lw_V (by omega)]; rfl]
      dsimp only
      rw [gdp_t (lwS_noX (by decide) rfl)], glueS (REL_no hR)⟩
