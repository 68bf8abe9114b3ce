def TM (μ : MU) : Prop := ∃ t, t ≤ 3000 ∧ μ 0 41 = nI t
theorem s_do {μ : MU} {n g w a b h : Nat} (hR : ROK μ g) (hQ : QOK μ g) (hV : VN w a b) (hx : ∃ x, x < 24 ∧ μ 1 (55 * g + 4) = nI x) (ht : TM μ) : SOK 1 μ (doM μ n g w a b h) g := by
  have hV' := hV
  obtain ⟨v1, v2, v3, v4, v5, v6, v7, v8⟩ := hV'
  have nx : ∀ {d : Nat} {μ1 : MU}, SOK d μ μ1 g → SOK (d + 0) μ (mu μ1 1 (55 * g + 4) (μ 1 (55 * g + 4) + 1)) g := fun s => s.trans (s_1 (k := 4) s.rok s.qok rfl (by omega) (rng_nx hx))
  unfold doM
  dsimp only
  by_cases h0 : w = 0
  · rw [if_pos h0]
    exact (nx (s_1 (k := a) hR hQ rfl (by have := v1 (by omega); omega) (rng_n (by rw [lim_reg (v1 (by omega))]; exact v5 h0)))).up (by omega)
  rw [if_neg h0]
  by_cases h1 : w = 1
  · rw [if_pos h1]
    have ha := v1 (by omega)
    have hb := v3 (by omega)
    obtain ⟨r, e1, r1⟩ := hR.reg ha
    obtain ⟨r', e2, r2⟩ := hR.reg hb
    refine (nx (s_1 (k := a) hR hQ rfl (by omega) ?_)).up (by omega)
    rw [e1, e2, nI_add, show (10000 : Int32) = nI 10000 from rfl, nI_mod (by omega) (by omega)]
    exact rng_n (by rw [lim_reg ha]; exact Nat.mod_lt _ (by omega))
  rw [if_neg h1]
  by_cases h2 : w = 2
  · rw [if_pos h2]
    exact (s_ls hR hQ (v1 (by omega)) (v3 (by omega)) hx).up (by omega)
  rw [if_neg h2]
  by_cases h3 : w = 3
  · rw [if_pos h3]
    exact (s_ls hR hQ (v1 (by omega)) (v3 (by omega)) hx).up (by omega)
  rw [if_neg h3]
  by_cases h4 : w = 4
  · rw [if_pos h4]
    refine (s_1 (k := 4) hR hQ rfl (by omega) ?_).up (by omega)
    split
    · exact rng_nx hx
    · exact rng_n (Nat.lt_trans (v6 (Or.inl h4)) (by decide))
  rw [if_neg h4]
  by_cases h5 : w = 5
  · rw [if_pos h5]
    have ha := (v2 h5).1
    refine (nx (s_1 (k := 9 + a) hR hQ (by omega) (by omega) ?_)).up (by omega)
    split
    · exact Or.inl ⟨rfl, Or.inr (Or.inl ⟨by omega, by omega⟩)⟩
    · exact rng_n (by rw [lim_view ha]; have := (v2 h5).2; omega)
  rw [if_neg h5]
  by_cases h6 : w = 6
  · rw [if_pos h6]
    have s1 := s_25 (k := 6 * g + 3) (x := μ 25 (6 * g + 3) + 1) hR hQ
    split
    · exact (nx (s1.trans (s_say s1.rok s1.qok))).up (by omega)
    · refine (nx (s1.trans (s_1 (k := 50) s1.rok s1.qok rfl (by omega) ?_))).up (by omega)
      split
      · exact Or.inl ⟨rfl, Or.inr (Or.inr rfl)⟩
      · obtain ⟨t, ht1, ht2⟩ := ht
        obtain ⟨r, e1, r1⟩ := s1.rok.reg (v1 (by omega))
        rw [e1, muD (by omega), ht2, nI_1, nI_add]
        exact rng_n (by show t + 1 + r < 20000; omega)
  rw [if_neg h6]
  by_cases h7 : w = 7
  · rw [if_pos h7]
    have ha := v1 (by omega)
    have s1 := s_25 (k := 6 * g + 3) (x := μ 25 (6 * g + 3) + 1) hR hQ
    have fin : ∀ (r : MU × Int32), SOK 0 (mu μ 25 (6 * g + 3) (μ 25 (6 * g + 3) + 1)) r.1 g → (∃ q, q < 10000 ∧ r.2 = nI q) → SOK 1 μ (mu (mu r.1 1 (55 * g + a) r.2) 1 (55 * g + 4) (μ 1 (55 * g + 4) + 1)) g := by
      intro r s2 hq
      obtain ⟨q, hq1, hq2⟩ := hq
      exact (nx ((s1.trans s2).trans (s_1 (k := a) s2.rok s2.qok rfl (by omega) (by rw [hq2]; exact rng_n (by rw [lim_reg ha]; exact hq1))))).up (by omega)
    refine fin _ ?_ ?_
    · split
      · exact s_tak s1.rok s1.qok
      · split
        · exact SOK.rfl s1.rok s1.qok
        · exact SOK.rfl s1.rok s1.qok
    · split
      · exact (tak_ok s1.rok s1.qok).2.2
      · split
        · exact restI_rng _
        · rcases s1.rok 7 (by omega) with ⟨_, z⟩ | ⟨r, e1, r1⟩
          · omega
          · exact ⟨r, Nat.lt_trans r1 (by decide), e1⟩
  rw [if_neg h7]
  obtain ⟨s1, h8⟩ := s_oth hR hQ hV (rng_nx hx)
  exact (s1.trans (s_1 (k := 4) s1.rok s1.qok rfl (by omega) h8)).up (by omega)
theorem s_ex {μ : MU} {n g h : Nat} (hR : ROK μ g) (hQ : QOK μ g) (hP : PRG μ g) (ht : TM μ) : SOK 1 μ (exM μ n g h) g := by
  obtain ⟨x, hx1, hx2⟩ := hR.nx
  obtain ⟨m, hm, hm1, hm2⟩ := hP
  unfold exM
  rw [hx1, hm1]
  split
  · rename_i hlt
    rw [nI_ltI (by omega) (by omega)] at hlt
    obtain ⟨w, hV, hw⟩ := hm2 x hlt
    dsimp only
    rw [nI_cl (by omega), hw, nI_cl (by have := hV.1; omega)]
    exact s_do hR hQ hV.vn ⟨x, by omega, hx1⟩ ht
  · exact (s_1 (k := 49) hR hQ rfl (by omega) (rng_n (r := 2) (by decide))).up (by omega)
theorem s_int {μ : MU} {g : Nat} (hR : ROK μ g) (hQ : QOK μ g) : SOK 0 μ (intM μ g) g := by
  unfold intM
  split
  · rename_i hz
    split
    · have s1 := s_1 (j := 55 * g + 51) (k := 51) (x := 0) hR hQ rfl (by omega) (rng_n (r := 0) (by decide))
      have s2 := s1.trans (s_25 (k := 6 * g + 5) (x := (mu μ 1 (55 * g + 51) 0) 25 (6 * g + 5) + 1) s1.rok s1.qok)
      exact s2.trans (s_goTo s2.rok s2.qok (by omega) (by rw [muD (by omega), muD (by omega)]; exact hz.2.2))
    · have s1 := s_1 (j := 55 * g + 52) (k := 52) (x := 0) hR hQ rfl (by omega) (rng_n (r := 0) (by decide))
      have s2 := s1.trans (s_25 (k := 6 * g + 5) (x := (mu μ 1 (55 * g + 52) 0) 25 (6 * g + 5) + 1) s1.rok s1.qok)
      exact s2.trans (s_goTo s2.rok s2.qok (by omega) (by rw [muD (by omega), muD (by omega)]; exact hz.2.2))
  · exact SOK.rfl hR hQ
/-- a turn: what it keeps, beside who ran how often -/
theorem s_run {μ : MU} {n g h : Nat} (hR : ROK μ g) (hQ : QOK μ g) (hP : PRG μ g) (ht : TM μ) : SOK 1 (mu μ 24 g (μ 24 g + 1)) (runM μ n g h) g := by
  have hR1 : ROK (mu μ 24 g (μ 24 g + 1)) g := ROK_row hR (mu_row (by omega))
  have hQ1 : QOK (mu μ 24 g (μ 24 g + 1)) g := by
    unfold QOK
    rw [mu_row (by omega), mu_row (by omega)]
    exact hQ
  have s1 := s_int hR1 hQ1
  have hr := s1.2.2.2.2.2.1
  have s2 := s_ex (n := n) (h := h) s1.rok s1.qok (by unfold PRG; rw [hr 13 (by omega) (by omega) (by omega) (by omega) (by omega) (by omega) (by omega) (by omega) (by omega) (by omega) (by omega), hr 14 (by omega) (by omega) (by omega) (by omega) (by omega) (by omega) (by omega) (by omega) (by omega) (by omega) (by omega), mu_row (by omega), mu_row (by omega)]; exact hP) (by unfold TM; rw [hr 0 (by omega) (by omega) (by omega) (by omega) (by omega) (by omega) (by omega) (by omega) (by omega) (by omega) (by omega), mu_row (by omega)]; exact ht)
  exact (s1.trans s2).up (by omega)
/-- all rows between calls; t: the time -/
def TJ (μ : MU) (n : Nat) : Prop := TI μ n ∧ (∀ g, g < n → QOK μ g) ∧ TM μ
theorem TI.row {μ μ' : MU} {n : Nat} (h : TI μ n) (hr : ∀ c, c = 0 ∨ c = 1 ∨ c = 13 ∨ c = 14 ∨ c = 15 ∨ c = 27 ∨ c = 28 ∨ c = 39 → μ' c = μ c) : TI μ' n := by
  obtain ⟨h1, h2, h3, h4⟩ := h
  refine ⟨h1, by rw [hr 0 (by omega)]; exact h2, fun g hg => ?_, fun x hx => by rw [hr 39 (by omega)]; exact h4 x hx⟩
  obtain ⟨a1, a2, a3, a4⟩ := h3 g hg
  exact ⟨ROK_row a1 (hr 1 (by omega)), by unfold PRG; rw [hr 13 (by omega), hr 14 (by omega)]; exact a2, PAG_row a3 (hr 27 (by omega)) (hr 28 (by omega)), by rw [hr 15 (by omega)]; exact a4⟩
theorem TJ.row {μ μ' : MU} {n : Nat} (h : TJ μ n) (hr : ∀ c, c = 0 ∨ c = 1 ∨ c = 2 ∨ c = 13 ∨ c = 14 ∨ c = 15 ∨ c = 27 ∨ c = 28 ∨ c = 39 → μ' c = μ c) : TJ μ' n := by
  refine ⟨h.1.row (fun c hc => hr c (by omega)), fun g hg => ?_, by unfold TM; rw [hr 0 (by omega)]; exact h.2.2⟩
  unfold QOK
  rw [hr 1 (by omega), hr 2 (by omega)]
  exact h.2.1 g hg
/-- a step of g keeps all -/
theorem TJ_step {d : Nat} {μ μ' : MU} {n g : Nat} (h : TJ μ n) (hg : g < n) (s : SOK d μ μ' g) : TJ μ' n := by
  obtain ⟨⟨h1, h2, h3, h4⟩, hQ, hT⟩ := h
  obtain ⟨b1, b2, b3, b4, b5, b6, b7, b8⟩ := s
  have r : ∀ c, c = 0 ∨ c = 13 ∨ c = 14 ∨ c = 15 ∨ c = 39 → μ' c = μ c := fun c hc => b6 c (by omega) (by omega) (by omega) (by omega) (by omega) (by omega) (by omega) (by omega) (by omega) (by omega) (by omega)
  refine ⟨⟨h1, by rw [r 0 (by omega)]; exact h2, fun g2 hg2 => ?_, fun x hx => by rw [r 39 (by omega)]; exact h4 x hx⟩, fun g2 hg2 => ?_, by unfold TM; rw [r 0 (by omega)]; exact hT⟩
  · obtain ⟨a1, a2, a3, a4⟩ := h3 g2 hg2
    refine ⟨?_, by unfold PRG; rw [r 13 (by omega), r 14 (by omega)]; exact a2, b5 g2 a3, by rw [r 15 (by omega)]; exact a4⟩
    by_cases e : g2 = g
    · rw [e]; exact b1
    · intro k hk
      rw [b3 g2 k e hk]
      exact a1 k hk
  · by_cases e : g2 = g
    · rw [e]; exact b2
    · intro k hk
      obtain ⟨m, hm1, hm2⟩ := (h3 g2 hg2).1.many
      rw [b3 g2 54 e (by omega)] at hk
      have hk2 := hk
      rw [hm1, nI_cl (by omega)] at hk2
      rw [b4 g2 k e (by omega)]
      exact hQ g2 hg2 k hk
theorem TJ_ch {μ : MU} {n h : Nat} (hT : TJ μ n) (hh : h < 2) : TJ (chM μ n h).1 n := by
  have hr : ∀ c, c ≠ 39 ∧ c ≠ 40 → (chM μ n h).1 c = μ c := fun c hc => chM_row hc
  have hL : ∀ x, x < 2 → (chM μ n h).1 39 x = -1 ∨ ∃ l, l < n ∧ (chM μ n h).1 39 x = nI l := by
    have key : ∀ s x, x < 2 → (chL μ n h s).1 39 x = -1 ∨ ∃ l, l < n ∧ (chL μ n h s).1 39 x = nI l := by
      intro s x hx
      unfold chL
      cases hf : fstU (fun k => canM μ ((s + k) % n) (nI h)) n with
      | none => exact hT.1.2.2.2 x hx
      | some k =>
        dsimp only
        rw [muD (by omega)]
        by_cases e : x = h
        · rw [e, muS ⟨rfl, rfl⟩]
          exact Or.inr ⟨_, Nat.mod_lt _ (by have := (fstU_lt hf).1; omega), rfl⟩
        · rw [muD (by omega)]
          exact hT.1.2.2.2 x hx
    intro x hx
    unfold chM
    split
    · exact key _ x hx
    · dsimp only
      split
      · split
        · exact key _ x hx
        · dsimp only
          rw [muD (by omega)]
          exact hT.1.2.2.2 x hx
      · exact key _ x hx
  obtain ⟨⟨h1, h2, h3, h4⟩, hQ, hTm⟩ := hT
  refine ⟨⟨h1, by rw [hr 0 (by omega)]; exact h2, fun g hg => ?_, hL⟩, fun g hg => ?_, by unfold TM; rw [hr 0 (by omega)]; exact hTm⟩
  · obtain ⟨a1, a2, a3, a4⟩ := h3 g hg
    exact ⟨ROK_row a1 (hr 1 (by omega)), by unfold PRG; rw [hr 13 (by omega), hr 14 (by omega)]; exact a2, PAG_row a3 (hr 27 (by omega)) (hr 28 (by omega)), by rw [hr 15 (by omega)]; exact a4⟩
  · unfold QOK
    rw [hr 1 (by omega), hr 2 (by omega)]
    exact hQ g hg
/-- a host's turn keeps all; who is on the other host isn't touched -/
theorem TJ_host {μ : MU} {n h : Nat} {B : Nat → Nat} (hT : TJ μ n) (hh : h < 2) (hS' : ∀ g, g < n → SAY μ g (B g)) : TJ (hostM μ n h) n ∧ (hostM μ n h) 0 = μ 0 ∧ (hostM μ n h) 15 = μ 15 ∧ (hostM μ n h) 38 = μ 38 ∧ ∀ g, g < n → SAY (hostM μ n h) g (if μ 15 g = nI h then B g + 1 else B g) := by
  have up : ∀ {ν : MU} {g : Nat} {c : Prop} [Decidable c], SAY ν g (B g) → SAY ν g (if c then B g + 1 else B g) := by
    intro ν g c _ hs
    obtain ⟨a, b, r, q1, q2, q3, q4, q5⟩ := hs
    exact ⟨a, b, r, q1, q2, q3, q4, by split <;> omega⟩
  unfold hostM
  split
  · have T1 := TJ_ch hT hh
    have say1 : ∀ g, g < n → SAY (chM μ n h).1 g (B g) := fun g hg => by
      obtain ⟨a, b, r, q1, q2, q3, q4, q5⟩ := hS' g hg
      exact ⟨a, b, r, by rw [chM_row (by omega)]; exact q1, by rw [chM_row (by omega)]; exact q2, by rw [chM_row (by omega)]; exact q3, q4, q5⟩
    split
    · exact ⟨T1, chM_row (by omega), chM_row (by omega), chM_row (by omega), fun g hg => up (say1 g hg)⟩
    · rename_i hne
      obtain ⟨g, hg, hc, hcan⟩ := (chM_2 hT.1 hh).resolve_left hne
      have hn := hT.1.1
      rw [hc, nI_cl (by omega)]
      have hch : μ 15 g = nI h := by
        unfold canM at hcan
        simp only [Bool.and_eq_true, decide_eq_true_eq] at hcan
        exact hcan.1.1
      have T2 : TJ (stlU (chM μ n h).1 (nI h) g n) n := T1.row (fun c _ => stlU_row (by omega) n)
      have hr2 : ∀ c, c ≠ 23 → c ≠ 39 → c ≠ 40 → (stlU (chM μ n h).1 (nI h) g n) c = μ c := fun c c1 c2 c3 => (stlU_row c1 n).trans (chM_row ⟨c2, c3⟩)
      generalize stlU (chM μ n h).1 (nI h) g n = ν at T2 hr2
      obtain ⟨a1, a2, a3, a4⟩ := T2.1.2.2.1 g hg
      have s := s_run (n := n) (h := h) a1 (T2.2.1 g hg) a2 T2.2.2
      have T3 : TJ (mu ν 24 g (ν 24 g + 1)) n := T2.row (fun c _ => mu_row (by omega))
      have T4 := TJ_step T3 hg s
      obtain ⟨b1, b2, b3, b4, b5, b6, b7, b8⟩ := s
      have r3 : ∀ c, c = 0 ∨ c = 15 ∨ c = 38 → (runM ν n g h) c = μ c := fun c hc => by
        rw [b6 c (by omega) (by omega) (by omega) (by omega) (by omega) (by omega) (by omega) (by omega) (by omega) (by omega) (by omega), mu_row (by omega), hr2 c (by omega) (by omega) (by omega)]
      refine ⟨T4, r3 0 (by omega), r3 15 (by omega), r3 38 (by omega), fun g2 hg2 => ?_⟩
      obtain ⟨a, b, r, q1, q2, q3, q4, q5⟩ := hS' g2 hg2
      have e24 : (runM ν n g h) 24 = (mu ν 24 g (ν 24 g + 1)) 24 := b6 24 (by omega) (by omega) (by omega) (by omega) (by omega) (by omega) (by omega) (by omega) (by omega) (by omega) (by omega)
      have f35 : ν 35 = μ 35 := hr2 35 (by omega) (by omega) (by omega)
      have f37 : ν 37 = μ 37 := hr2 37 (by omega) (by omega) (by omega)
      have f24 : ν 24 = μ 24 := hr2 24 (by omega) (by omega) (by omega)
      by_cases e : g2 = g
      · subst e
        obtain ⟨x, y, k1, k2, k3⟩ := b8 a b (by rw [mu_row (by omega), f35]; exact q1) (by rw [mu_row (by omega), f37]; exact q2)
        refine ⟨x, y, r + 1, k1, k2, ?_, by omega, by rw [if_pos hch]; omega⟩
        rw [e24, muS ⟨rfl, rfl⟩, f24, q3, nI_1]
      · obtain ⟨k1, k2⟩ := b7 g2 e
        refine up ⟨a, b, r, ?_, ?_, ?_, q4, q5⟩
        · rw [k1, mu_row (by omega), f35]; exact q1
        · rw [k2, mu_row (by omega), f37]; exact q2
        · rw [e24, muD (by omega), f24]; exact q3
  · exact ⟨hT, rfl, rfl, rfl, fun g hg => up (hS' g hg)⟩
