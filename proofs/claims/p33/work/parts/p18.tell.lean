theorem RGX_q {κ κ' : K} {μ μ' : MU} {g tt tt0 : Nat} (h : RGX κ μ g tt0) (hL : LVT (kV κ' 0 g) μ' g tt) (q1 : QQ κ' 0 g 10 512 (μ' 1 (55 * g + 54)) (fun k => μ' 2 (512 * g + k))) (q2 : QQ κ' 0 g 36 3000 (μ' 35 g) (fun k => μ' 34 (3000 * g + k))) (q3 : QQ κ' 0 g 34 3000 (μ' 37 g) (fun k => μ' 36 (3000 * g + k))) (q4 : QQ κ' 0 g 32 512 (μ' 6 g) (fun k => μ' 5 (512 * g + k))) (eV : ∀ c, c < 5 ∨ (18 ≤ c ∧ c < 32) ∨ c = 38 → kV κ' 0 g c = kV κ 0 g c) (eN : ∀ c, 18 ≤ c → c < 32 → kN κ' 0 g c = kN κ 0 g c) (em : ∀ c, c = 3 ∨ c = 4 ∨ (13 ≤ c ∧ c < 34) → μ' c = μ c) : RGX κ' μ' g tt := by
  obtain ⟨h1, h2, h3, h4, h5, h6, h7, h8, h9, h10, h11, h12⟩ := h
  refine ⟨SCA_v h1 (fun k _ _ => by rw [eV 0 (by omega)]) (fun c a b d => by rw [em c (by omega)]), EXI_v h2 (eV 38 (by omega)) (fun k _ => by rw [em 25 (by omega)]), BAR_v h3 (by rw [eV 0 (by omega)]) (fun p _ => by rw [em 27 (by omega)]), SND_v h4 (by rw [eV 0 (by omega)]) (by rw [em 30 (by omega)]) (by rw [em 31 (by omega)]), PRO_v h5 (fun c a b => eV c (by omega)) (by rw [em 14 (by omega)]) (fun k _ => by rw [em 13 (by omega)]), hL, q1, q2, q3, q4, FOL_v h11 (eV 18 (by omega)) (fun j hj => eV _ (by omega)) (eN 25 (by omega) (by omega)) (by rw [em 33 (by omega)]) (fun k _ => by rw [em 3 (by omega)]) (fun k _ => by rw [em 4 (by omega)]) (by rw [eV 0 (by omega)]), STN_v h12 (fun j a b => eV _ (by omega)) (fun j a b => eN _ (by omega) (by omega))⟩
/-- a row of numbers beside that which has changed -/
theorem QQ_chn {κ κ' : K} {n s g c c2 B : Nat} {x : Int32} {q : Nat → Int32} (h : QQ κ 0 g c2 B x q) (hc : CHN n s κ κ' 0 g c) (hne : c2 ≠ c ∧ c2 + 1 ≠ c ∧ c2 ≠ c + 1) : QQ κ' 0 g c2 B x q :=
  QQ_v h (by rw [hc.1 0 g c2 (by omega)]) (hc.1 0 g (c2 + 1) (by omega)) (hc.2.2.1 0 g (c2 + 1) (by omega)) rfl (fun _ _ => rfl)
theorem NUM_chn {κ κ' : K} {n s g c c2 m : Nat} {q : Nat → Int32} (h : NUM κ 0 g c2 m q) (hc : CHN n s κ κ' 0 g c) (hne : c2 ≠ c ∧ c2 + 1 ≠ c ∧ c2 ≠ c + 1) : NUM κ' 0 g c2 m q :=
  NUM_K h (by rw [hc.1 0 g c2 (by omega)]) (hc.1 0 g (c2 + 1) (by omega)) (hc.2.2.1 0 g (c2 + 1) (by omega))
/-- lists aside, nothing of a guest's relation has changed -/
theorem RGX_chn {κ κ' : K} {μ : MU} {n s g c tt : Nat} (h : RGX κ μ g tt) (hc : CHN n s κ κ' 0 g c) (hcc : c = 12 ∨ c = 14 ∨ c = 16) : RGX κ' μ g tt := by
  have eV : ∀ c', c' ≠ c → c' ≠ c + 1 → kV κ' 0 g c' = kV κ 0 g c' := fun c' a b => hc.1 0 g c' (by omega)
  refine RGX_q h (LVT_v h.2.2.2.2.2.1 (eV 5 (by omega) (by omega)) (fun _ _ _ => rfl) rfl) (QQ_chn h.2.2.2.2.2.2.1 hc (by omega)) (QQ_chn h.2.2.2.2.2.2.2.1 hc (by omega)) (QQ_chn h.2.2.2.2.2.2.2.2.1 hc (by omega)) (QQ_chn h.2.2.2.2.2.2.2.2.2.1 hc (by omega)) (fun c' z => eV c' (by omega) (by omega)) (fun c' a b => hc.2.2.1 0 g c' (by omega)) (fun _ _ => rfl)
theorem GO_chn {κ κ' : K} {μ μ' : MU} {n s g h c : Nat} (hc : CHN n s κ κ' 0 g c) (h6 : 10 ≤ c ∧ (c < 17 ∨ 32 ≤ c)) (hO : OWN μ μ' g) (e15 : μ' 15 = μ 15) (e27 : μ' 27 = μ 27) (e28 : μ' 28 = μ 28) (e29 : μ' 29 = μ 29) : GO n s κ κ' μ μ' g h :=
  ⟨FG_CHN hc, hO, fun key _ _ => by rw [e27], fun h2 w2 _ _ z => RH_row z e15 e28 e29, fun k _ _ => by rw [hc.1 0 g 0 (by omega)], fun c' a b => hc.1 0 g c' (by omega), by rw [hc.1 0 g 5 (by omega)], fun c' a b => ⟨hc.1 0 g c' (by omega), hc.2.2.1 0 g c' (by omega)⟩⟩
theorem TS_chn {κ κ' : K} {μ : MU} {n s g h c tt : Nat} (hT : TS κ μ n g h tt) (hc : CHN n s κ κ' 0 g c) (hcc : c = 12 ∨ c = 14 ∨ c = 16) : TS κ' μ n g h tt ∧ GO n s κ κ' μ μ g h := by
  refine ⟨⟨RGX_chn hT.1 hc hcc, ?_, hT.2.2⟩, GO_chn hc (by omega) OWN.rfl rfl rfl rfl rfl⟩
  have : kV κ' 2 h = kV κ 2 h := by
    funext c'
    exact hc.1 2 h c' (by omega)
  rw [this]
  exact hT.2.1
theorem al0 {n s g c : Nat} (hg : g < n) : aliveN n s (0, g, c) = true := by
  unfold aliveN
  simp [hg]
/-- something is said -/
theorem t_say {E : EE} {κ : K} {μ : MU} {n s g h tt nT nS nJ a b : Nat} {x : Int32} {T S J : Nat → Int32} (hn : n ≤ 5) (hg : g < n) (hT : TS κ μ n g h tt) (hL : LST κ g nT nS nJ T S J) (hS3 : nS < 3000) (ha : μ 35 g = nI a) (ha3 : a < 3000) (hb : μ 37 g = nI b) (hb3 : b < 3000) : ∃ κ1, f_X1_tell E κ g 0 x = some (κ1, ()) ∧ TS κ1 (sayM μ g x) n g h tt ∧ GO n s κ κ1 μ (sayM μ g x) g h ∧ (∀ c, 6 ≤ c → c < 10 → kV κ1 0 g c = kV κ 0 g c) ∧ LST κ1 g nT (nS + 1) nJ T (fun k => if k = nS then x else S k) J := by
  obtain ⟨κ1, p1, p2, p3⟩ := n_add (E := E) (n0 := n) (s0 := s) (x := x) hL.2.1 hS3 (num_mem0 g (by omega) 15 (by decide)) (al0 hg)
  obtain ⟨T1, G1⟩ := TS_chn (h := h) hT p2 (by omega)
  have e18 : kV κ1 0 g 18 0 = μ 33 g := by rw [p2.1 0 g 18 (by omega)]; exact hT.1.2.2.2.2.2.2.2.2.2.2.1.1
  have hw := T1.1.2.2.2.2.2.2.2.1
  have hh := T1.1.2.2.2.2.2.2.2.2.1
  have fin : ∀ (c m : Nat) (κ2 : K), (c = 36 ∨ c = 34) → CHN n s κ1 κ2 0 g c → QQ κ2 0 g 36 3000 ((sayM μ g x) 35 g) (fun k => (sayM μ g x) 34 (3000 * g + k)) → QQ κ2 0 g 34 3000 ((sayM μ g x) 37 g) (fun k => (sayM μ g x) 36 (3000 * g + k)) → TS κ2 (sayM μ g x) n g h tt ∧ GO n s κ κ2 μ (sayM μ g x) g h ∧ (∀ c, 6 ≤ c → c < 10 → kV κ2 0 g c = kV κ 0 g c) ∧ LST κ2 g nT (nS + 1) nJ T (fun k => if k = nS then x else S k) J := by
    intro c m κ2 hcc hc q2 q3
    have eV : ∀ c', c' ≠ c → c' ≠ c + 1 → kV κ2 0 g c' = kV κ1 0 g c' := fun c' a b => hc.1 0 g c' (by omega)
    have er : ∀ c', c' ≠ 34 → c' ≠ 35 → c' ≠ 36 → c' ≠ 37 → (sayM μ g x) c' = μ c' := fun c' a b d e => say_row ⟨a, b, d, e⟩
    have eH : kV κ2 2 h = kV κ1 2 h := by
      funext c'
      exact hc.1 2 h c' (by omega)
    refine ⟨⟨RGX_q T1.1 (LVT_v T1.1.2.2.2.2.2.1 (eV 5 (by omega) (by omega)) (fun k _ _ => by rw [er 1 (by omega) (by omega) (by omega) (by omega)]) (clock_e (by rw [er 0 (by omega) (by omega) (by omega) (by omega)]) (by rw [er 20 (by omega) (by omega) (by omega) (by omega)]) (by rw [er 21 (by omega) (by omega) (by omega) (by omega)]) (by rw [er 22 (by omega) (by omega) (by omega) (by omega)]))) ?_ q2 q3 ?_ (fun c' z => eV c' (by omega) (by omega)) (fun c' a b => hc.2.2.1 0 g c' (by omega)) (fun c' z => er c' (by omega) (by omega) (by omega) (by omega)), ?_, FRM_row T1.2.2 (er 27 (by omega) (by omega) (by omega) (by omega)) (er 28 (by omega) (by omega) (by omega) (by omega))⟩, ?_, ?_, ?_⟩
    · rw [er 1 (by omega) (by omega) (by omega) (by omega), er 2 (by omega) (by omega) (by omega) (by omega)]
      exact QQ_chn T1.1.2.2.2.2.2.2.1 hc (by omega)
    · rw [er 5 (by omega) (by omega) (by omega) (by omega), er 6 (by omega) (by omega) (by omega) (by omega)]
      exact QQ_chn T1.1.2.2.2.2.2.2.2.2.2.1 hc (by omega)
    · rw [eH]
      exact RH_row T1.2.1 (er 15 (by omega) (by omega) (by omega) (by omega)) (er 28 (by omega) (by omega) (by omega) (by omega)) (er 29 (by omega) (by omega) (by omega) (by omega))
    · exact G1.trans (GO_chn hc (by omega) (OWN_say ha ha3 hb hb3) (er 15 (by omega) (by omega) (by omega) (by omega)) (er 27 (by omega) (by omega) (by omega) (by omega)) (er 28 (by omega) (by omega) (by omega) (by omega)) (er 29 (by omega) (by omega) (by omega) (by omega)))
    · intro c' z1 z2
      rw [eV c' (by omega) (by omega), p2.1 0 g c' (by omega)]
    · exact LST_v ⟨NUM_chn hL.1 p2 (by omega), p3, NUM_chn hL.2.2 p2 (by omega)⟩ (fun c' z1 z2 => eV c' (by omega) (by omega)) (fun c' z1 z2 => hc.2.2.1 0 g c' (by omega))
  rw [f_X1_tell, if_pos rfl, p1, bd_s, e18]
  by_cases e : μ 33 g = 0
  · obtain ⟨m, hm1, hm2, hm3⟩ := hw
    have hma : m = a := by rw [ha, nI_eq' (by omega) (by omega)] at hm2; exact hm2.symm
    subst hma
    obtain ⟨κ2, r1, r2, r3⟩ := n_add (E := E) (n0 := n) (s0 := s) (x := x) hm3 ha3 (num_mem0 g (by omega) 37 (by decide)) (al0 hg)
    have e35 : (sayM μ g x) 35 g = nI (m + 1) := by
      unfold sayM
      rw [if_pos e]
      try dsimp only
      rw [muS ⟨rfl, rfl⟩, mu_row (by omega), ha, nI_1]
    have e34 : ∀ k, (sayM μ g x) 34 (3000 * g + k) = if k = m then x else μ 34 (3000 * g + k) := fun k => by
      unfold sayM
      rw [if_pos e]
      try dsimp only
      rw [mu_row (by omega), ha, nI_cl (by omega)]
      by_cases ek : k = m
      · rw [if_pos ek, ek, muS ⟨rfl, rfl⟩]
      · rw [if_neg ek, muD (by omega)]
    have e37 : (sayM μ g x) 37 = μ 37 := by
      unfold sayM
      rw [if_pos e]
      try dsimp only
      rw [mu_row (by omega), mu_row (by omega)]
    have e36 : (sayM μ g x) 36 = μ 36 := by
      unfold sayM
      rw [if_pos e]
      try dsimp only
      rw [mu_row (by omega), mu_row (by omega)]
    have := fin 36 0 κ2 (Or.inl rfl) r2 ⟨m + 1, by omega, e35, NUM_q r3 (fun k _ => (e34 k).symm)⟩ (by rw [e37, e36]; exact QQ_chn hh r2 (by omega))
    exact ⟨κ2, by rw [if_pos e, r1, bd_s], this⟩
  · obtain ⟨m, hm1, hm2, hm3⟩ := hh
    have hma : m = b := by rw [hb, nI_eq' (by omega) (by omega)] at hm2; exact hm2.symm
    subst hma
    obtain ⟨κ2, r1, r2, r3⟩ := n_add (E := E) (n0 := n) (s0 := s) (x := x) hm3 hb3 (num_mem0 g (by omega) 35 (by decide)) (al0 hg)
    have e37 : (sayM μ g x) 37 g = nI (m + 1) := by
      unfold sayM
      rw [if_neg e]
      try dsimp only
      rw [muS ⟨rfl, rfl⟩, mu_row (by omega), hb, nI_1]
    have e36 : ∀ k, (sayM μ g x) 36 (3000 * g + k) = if k = m then x else μ 36 (3000 * g + k) := fun k => by
      unfold sayM
      rw [if_neg e]
      try dsimp only
      rw [mu_row (by omega), hb, nI_cl (by omega)]
      by_cases ek : k = m
      · rw [if_pos ek, ek, muS ⟨rfl, rfl⟩]
      · rw [if_neg ek, muD (by omega)]
    have e35 : (sayM μ g x) 35 = μ 35 := by
      unfold sayM
      rw [if_neg e]
      try dsimp only
      rw [mu_row (by omega), mu_row (by omega)]
    have e34 : (sayM μ g x) 34 = μ 34 := by
      unfold sayM
      rw [if_neg e]
      try dsimp only
      rw [mu_row (by omega), mu_row (by omega)]
    have := fin 34 0 κ2 (Or.inr rfl) r2 (by rw [e35, e34]; exact QQ_chn hw r2 (by omega)) ⟨m + 1, by omega, e37, NUM_q r3 (fun k _ => (e36 k).symm)⟩
    exact ⟨κ2, by rw [if_neg e, r1, bd_s], this⟩
/-- the timer is set -/
theorem t_timer {E : EE} {κ : K} {μ : MU} {n s g h t r : Nat} {b : Int32} (hn : n ≤ 5) (hg : g < n) (hb : ¬ b = 0) (hT : TS κ μ n g h (t + 1)) (ht : μ 0 41 = nI t) (hr : r < 10000) : ∃ κ1, f_X1_tell E κ g b (nI r) = some (κ1, ()) ∧ TS κ1 (mu μ 1 (55 * g + 50) (if nI r = 0 then -1 else μ 0 41 + 1 + nI r)) n g h (t + 1) ∧ GO n s κ κ1 μ (mu μ 1 (55 * g + 50) (if nI r = 0 then -1 else μ 0 41 + 1 + nI r)) g h ∧ (∀ c, 6 ≤ c → kV κ1 0 g c = kV κ 0 g c) ∧ kN κ1 = kN κ := by
  have eV : ∀ c, c ≠ 5 → kV (setV κ 0 g 5 6 (nI r)) 0 g c = kV κ 0 g c := fun c hc => by
    funext k
    exact vD (by omega)
  have e5 : ∀ k, k ≠ 6 → kV (setV κ 0 g 5 6 (nI r)) 0 g 5 k = kV κ 0 g 5 k := fun k hk => vD (by omega)
  have e2 : kV (setV κ 0 g 5 6 (nI r)) 2 h = kV κ 2 h := by
    funext c k
    exact vD (by omega)
  have eR := fun (c : Nat) (hc : c ≠ 1) => mu_row (μ := μ) (c := 1) (k := 55 * g + 50) (x := if nI r = 0 then -1 else μ 0 41 + 1 + nI r) hc
  obtain ⟨h1, h2, h3, h4, h5, h6, h7, h8, h9, h10, h11, h12⟩ := hT.1
  have hq : ∀ {c B x q}, QQ κ 0 g c B x q → c ≠ 5 ∧ c + 1 ≠ 5 → QQ (setV κ 0 g 5 6 (nI r)) 0 g c B x q := fun a b => QQ_v a (by rw [eV _ b.1]) (eV _ b.2) rfl rfl (fun _ _ => rfl)
  refine ⟨setV κ 0 g 5 6 (nI r), by rw [f_X1_tell, if_neg hb, nmE], ⟨RGX_q hT.1 ⟨?_, ?_, ?_, ?_⟩ ?_ ?_ ?_ ?_ (fun c z => eV c (by omega)) (fun c _ _ => rfl) (fun c z => eR c (by omega)), by rw [e2]; exact RH_row hT.2.1 (eR 15 (by omega)) (eR 28 (by omega)) (eR 29 (by omega)), FRM_row hT.2.2 (eR 27 (by omega)) (eR 28 (by omega))⟩, ⟨FG_set, OWN_1 rfl (by omega), fun key _ _ => by rw [eR 27 (by omega)], fun h2 w2 _ _ z => RH_row z (eR 15 (by omega)) (eR 28 (by omega)) (eR 29 (by omega)), fun k _ _ => by rw [eV 0 (by omega)], fun c a b => eV c (by omega), e5 5 (by omega), fun c a b => ⟨eV c (by omega), rfl⟩⟩, fun c hc => eV c (by omega), rfl⟩
  · rw [muS ⟨rfl, rfl⟩, show kV (setV κ 0 g 5 6 (nI r)) 0 g 5 6 = nI r from vS ⟨rfl, rfl, rfl, rfl⟩, ht, nI_1, nI_add]
    by_cases e : r = 0
    · rw [e, if_pos (show nI 0 = 0 from rfl)]; exact Or.inl ⟨rfl, rfl⟩
    · rw [if_neg (by rw [nI_e0 (by omega)]; exact e)]; exact Or.inr ⟨r, by omega, by omega, rfl, rfl⟩
  · rw [muD (by omega), e5 7 (by omega)]; exact h6.2.1
  · rw [muD (by omega), e5 8 (by omega)]; exact h6.2.2.1
  · rw [e5 9 (by omega), clock_e (μ := μ) (by rw [eR 0 (by omega)]) (by rw [eR 20 (by omega)]) (by rw [eR 21 (by omega)]) (by rw [eR 22 (by omega)])]; exact h6.2.2.2
  · rw [muD (by omega), eR 2 (by omega)]; exact hq h7 (by omega)
  · rw [eR 35 (by omega), eR 34 (by omega)]; exact hq h8 (by omega)
  · rw [eR 37 (by omega), eR 36 (by omega)]; exact hq h9 (by omega)
  · rw [eR 6 (by omega), eR 5 (by omega)]; exact hq h10 (by omega)
/-- something is taken -/
theorem t_take1 {E : EE} {κ : K} {μ : MU} {n s g h tt nT nS nJ : Nat} {x : Int32} {T S J : Nat → Int32} (hn : n ≤ 5) (hg : g < n) (hT : TS κ μ n g h tt) (hL : LST κ g nT nS nJ T S J) (hT3 : nT < 3000) : ∃ κ1, f_X1_takeFrom_b24 E g κ x = some (κ1, x) ∧ TS κ1 μ n g h tt ∧ GO n s κ κ1 μ μ g h ∧ (∀ c, 6 ≤ c → c < 10 → kV κ1 0 g c = kV κ 0 g c) ∧ LST κ1 g (nT + 1) nS nJ (fun k => if k = nT then x else T k) S J := by
  obtain ⟨κ1, p1, p2, p3⟩ := n_add (E := E) (n0 := n) (s0 := s) (x := x) hL.1 hT3 (num_mem0 g (by omega) 13 (by decide)) (al0 hg)
  obtain ⟨T1, G1⟩ := TS_chn (h := h) hT p2 (by omega)
  exact ⟨κ1, by rw [f_X1_takeFrom_b24, p1, bd_s], T1, G1, fun c a b => p2.1 0 g c (by omega), p3, NUM_chn hL.2.1 p2 (by omega), NUM_chn hL.2.2 p2 (by omega)⟩
theorem t_take {E : EE} {κ : K} {μ : MU} {n s g h tt nT nS nJ : Nat} {T S J : Nat → Int32} (hn : n ≤ 5) (hg : g < n) (hR : ROK μ g) (hT : TS κ μ n g h tt) (hL : LST κ g nT nS nJ T S J) (hT3 : nT < 3000) : ∃ κ1, f_X1_takeFrom E κ g 0 = some (κ1, (takM μ g).2) ∧ TS κ1 (takM μ g).1 n g h tt ∧ GO n s κ κ1 μ (takM μ g).1 g h ∧ (∀ c, 6 ≤ c → c < 10 → kV κ1 0 g c = kV κ 0 g c) ∧ LST κ1 g (nT + 1) nS nJ (fun k => if k = nT then (takM μ g).2 else T k) S J := by
  obtain ⟨h1, h2, h3, h4, h5, h6, h7, h8, h9, h10, h11, h12⟩ := hT.1
  obtain ⟨m, hm1, hm2, hm3⟩ := h7
  by_cases e : m = 0
  · subst e
    have e0 : μ 1 (55 * g + 54) = 0 := hm2
    have et : takM μ g = (μ, 0) := by unfold takM; rw [if_pos e0]
    rw [et]
    obtain ⟨κ1, r1, r2⟩ := t_take1 (E := E) (s := s) (x := 0) hn hg hT hL hT3
    exact ⟨κ1, by rw [f_X1_takeFrom, if_pos rfl, n_take0 hm3, bd_s, r1], r2⟩
  · obtain ⟨m, rfl⟩ : ∃ j, m = j + 1 := ⟨m - 1, by omega⟩
    have e0 : ¬ μ 1 (55 * g + 54) = 0 := by rw [hm2, nI_e0 (by omega)]; omega
    have hmm : nI (m + 1) - 1 = nI m := by rw [i32_1, nI_sub (by omega), Nat.add_sub_cancel]
    have et : takM μ g = (tkU (mu μ 1 (55 * g + 54) (nI m)) g m, μ 2 (512 * g)) := by
      unfold takM
      rw [if_neg e0]
      try dsimp only
      rw [muS ⟨rfl, rfl⟩, hm2, hmm, nI_cl (by omega)]
    obtain ⟨κ0, p1, p2, p3⟩ := n_take (E := E) (n0 := n) (s0 := s) hm3
    have er : ∀ c, c ≠ 1 → c ≠ 2 → (takM μ g).1 c = μ c := fun c a b => tak_row ⟨a, b⟩
    have e54 : (takM μ g).1 1 (55 * g + 54) = nI m := by
      rw [tak_1, if_neg e0, muS ⟨rfl, rfl⟩, hm2, hmm]
    have e1 : ∀ k, 50 ≤ k → k < 54 → (takM μ g).1 1 (55 * g + k) = μ 1 (55 * g + k) := fun k a b => by
      rw [tak_1, if_neg e0, muD (by omega)]
    have eV : ∀ c', c' ≠ 10 → c' ≠ 11 → kV κ0 0 g c' = kV κ 0 g c' := fun c' a b => p2.1 0 g c' (by omega)
    have eH : kV κ0 2 h = kV κ 2 h := by
      funext c'
      exact p2.1 2 h c' (by omega)
    have T0 : TS κ0 (takM μ g).1 n g h tt := by
      refine ⟨RGX_q hT.1 (LVT_v h6 (eV 5 (by omega) (by omega)) (fun k a b => e1 k a (by omega)) (clock_e (by rw [er 0 (by omega) (by omega)]) (by rw [er 20 (by omega) (by omega)]) (by rw [er 21 (by omega) (by omega)]) (by rw [er 22 (by omega) (by omega)]))) ⟨m, by omega, e54, NUM_q p3 (fun k hk => ?_)⟩ ?_ ?_ ?_ (fun c' z => eV c' (by omega) (by omega)) (fun c' a b => p2.2.2.1 0 g c' (by omega)) (fun c' z => er c' (by omega) (by omega)), ?_, FRM_row hT.2.2 (er 27 (by omega) (by omega)) (er 28 (by omega) (by omega))⟩
      · rw [et]
        have := tk_sh (μ := mu μ 1 (55 * g + 54) (nI m)) (g := g) m (by omega) k hk
        rw [mu_row (show (2 : Nat) ≠ 1 by omega)] at this
        exact this.symm
      · rw [er 35 (by omega) (by omega), er 34 (by omega) (by omega)]; exact QQ_chn h8 p2 (by omega)
      · rw [er 37 (by omega) (by omega), er 36 (by omega) (by omega)]; exact QQ_chn h9 p2 (by omega)
      · rw [er 6 (by omega) (by omega), er 5 (by omega) (by omega)]; exact QQ_chn h10 p2 (by omega)
      · rw [eH]; exact RH_row hT.2.1 (er 15 (by omega) (by omega)) (er 28 (by omega) (by omega)) (er 29 (by omega) (by omega))
    have G0 : GO n s κ κ0 μ (takM μ g).1 g h := GO_chn p2 (by omega) (OWN_tak hR) (er 15 (by omega) (by omega)) (er 27 (by omega) (by omega)) (er 28 (by omega) (by omega)) (er 29 (by omega) (by omega))
    have L0 : LST κ0 g nT nS nJ T S J := LST_v hL (fun c a b => eV c (by omega) (by omega)) (fun c a b => p2.2.2.1 0 g c (by omega))
    obtain ⟨κ1, r1, r2, r3, r4, r5⟩ := t_take1 (E := E) (s := s) (x := (takM μ g).2) hn hg T0 L0 hT3
    refine ⟨κ1, ?_, r2, G0.trans r3, fun c a b => (r4 c a b).trans (eV c (by omega) (by omega)), r5⟩
    rw [f_X1_takeFrom, if_pos rfl, p1, bd_s]
    rw [show μ 2 (512 * g + 0) = (takM μ g).2 from by rw [et, Nat.add_zero]]
    exact r1
theorem pend_E {E : EE} {κ : K} {g : Nat} (h7 : kV κ 0 g 5 7 = 0 ∨ kV κ 0 g 5 7 = 1) (h8 : kV κ 0 g 5 8 = 0 ∨ kV κ 0 g 5 8 = 1) : f_X8_isInterruptPending E κ 0 g 5 = some (κ, if decide (kV κ 0 g 5 7 = 1 ∨ kV κ 0 g 5 8 = 1) = true then 1 else 0) := by
  rw [f_X8_isInterruptPending, f_X8_isInterruptPending_e]
  unfold f_X8_isInterruptPending_b14
  rcases h7 with e | e
  · rw [e, if_pos rfl]
    rcases h8 with e2 | e2
    · rw [e2, if_pos rfl, bd_s, gd_t (Or.inl rfl), if_neg (by decide)]
    · rw [e2, if_neg (by decide), bd_s, gd_t (Or.inr rfl), if_pos (by decide)]
  · rw [e, if_neg (by decide), bd_s, gd_t (Or.inr rfl), if_pos (decide_eq_true (Or.inl rfl))]
theorem pend_G {E : EE} {κ : K} {g : Nat} (h7 : kV κ 0 g 5 7 = 0 ∨ kV κ 0 g 5 7 = 1) (h8 : kV κ 0 g 5 8 = 0 ∨ kV κ 0 g 5 8 = 1) : f_X1_isInterruptPending E κ g = some (κ, if decide (kV κ 0 g 5 7 = 1 ∨ kV κ 0 g 5 8 = 1) = true then 1 else 0) := by
  rw [f_X1_isInterruptPending, f_X1_isInterruptPending_e, pend_E h7 h8, bd_s, bd_s, gd_t]
  split
  · exact Or.inr rfl
  · exact Or.inl rfl
