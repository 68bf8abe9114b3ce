theorem ROK_wk {μ : MU} {g : Nat} (h : ROK μ g) : ROK (wkM μ g) g := by
  unfold wkM
  have key : ∀ ν : MU, ROK ν g → ROK (mu ν 1 (55 * g + 49) (if ν 1 (55 * g + 49) = 1 then (if ν 1 (55 * g + 51) = 1 then 0 else if ν 1 (55 * g + 52) = 1 then 0 else ν 1 (55 * g + 49)) else ν 1 (55 * g + 49))) g := by
    intro ν hν
    refine ROK_1 hν ?_
    have h49 := hν 49 (by omega)
    split
    · split
      · exact rng_n (r := 0) (by decide)
      · split
        · exact rng_n (r := 0) (by decide)
        · exact h49
    · exact h49
  by_cases hz : μ 1 (55 * g + 50) = μ 0 41 + 1
  · rw [if_pos hz]
    exact key _ (ROK_1 (ROK_1 h (Or.inl ⟨rfl, Or.inr (Or.inr rfl)⟩)) (rng_n (r := 1) (by decide)))
  · rw [if_neg hz]
    exact key _ h
theorem wkM_n {μ : MU} {g j : Nat} (hj : ¬ (j = 55 * g + 49 ∨ j = 55 * g + 50 ∨ j = 55 * g + 51)) : (wkM μ g) 1 j = μ 1 j := by
  unfold wkM
  rw [muD (by omega)]
  split
  · rw [muD (by omega), muD (by omega)]
  · rfl
theorem TJ_wk {μ : MU} {n g : Nat} (h : TJ μ n) (hg : g < n) : TJ (wkM μ g) n := by
  obtain ⟨⟨h1, h2, h3, h4⟩, hQ, hT⟩ := h
  refine ⟨⟨h1, by rw [wkM_row (by omega)]; exact h2, fun g2 hg2 => ?_, fun x hx => by rw [wkM_row (by omega)]; exact h4 x hx⟩, fun g2 hg2 => ?_, by unfold TM; rw [wkM_row (by omega)]; exact hT⟩
  · obtain ⟨a1, a2, a3, a4⟩ := h3 g2 hg2
    refine ⟨?_, by unfold PRG; rw [wkM_row (by omega), wkM_row (by omega)]; exact a2, PAG_row a3 (wkM_row (by omega)) (wkM_row (by omega)), by rw [wkM_row (by omega)]; exact a4⟩
    by_cases e : g2 = g
    · rw [e]; rw [e] at a1; exact ROK_wk a1
    · intro k hk
      rw [wkM_n (by omega)]
      exact a1 k hk
  · intro k hk
    rw [wkM_n (by omega)] at hk
    rw [wkM_row (by omega)]
    exact hQ g2 hg2 k hk
theorem TJ_wkU {μ : MU} {n : Nat} (h : TJ μ n) : ∀ g, g ≤ n → TJ (wkU μ g) n
  | 0, _ => h
  | g + 1, hg => TJ_wk (TJ_wkU h g (by omega)) (by omega)
def tkM (μ : MU) (n : Nat) : MU := mu (hostM (hostM (wkU μ n) n 0) n 1) 0 41 ((hostM (hostM (wkU μ n) n 0) n 1) 0 41 + 1)
theorem m_tickOnce {E : EE} {κ : K} {n t : Nat} (hT : TJ (kV κ 5 0) n) (hS : ∀ g, g < n → SAY (kV κ 5 0) g t) (ht : kV κ 5 0 0 41 = nI t) (ht3 : t < 3000) : f_X11_tickOnce E κ = some (putM κ (tkM (kV κ 5 0) n), ()) ∧ TJ (tkM (kV κ 5 0) n) n ∧ (tkM (kV κ 5 0) n) 0 41 = nI (t + 1) ∧ ∀ g, g < n → SAY (tkM (kV κ 5 0) n) g (t + 1) := by
  have T1 := TJ_wkU hT n (Nat.le_refl n)
  have r1 : ∀ c, c ≠ 1 → (wkU (kV κ 5 0) n) c = kV κ 5 0 c := fun c hc => wkU_row hc n
  have S1 : ∀ g, g < n → SAY (wkU (kV κ 5 0) n) g t := fun g hg => by
    unfold SAY
    rw [r1 35 (by omega), r1 37 (by omega), r1 24 (by omega)]
    exact hS g hg
  unfold tkM
  have e1 : f_X11_tickOnce E κ = f_X11_tickOnce_b132 E FU (putM κ (wkU (kV κ 5 0) n)) 0 := by
    unfold f_X11_tickOnce
    rw [m_wake hT.1.1 hT.1.2.1]
    rfl
  generalize wkU (kV κ 5 0) n = μ1 at T1 r1 S1 e1 ⊢
  obtain ⟨T2, z2, h2, f2, S2⟩ := TJ_host (h := 0) T1 (by omega) (B := fun _ => t) S1
  have e2 : f_X11_tickOnce_b132 E FU (putM κ μ1) 0 = f_X11_tickOnce_b132 E 99999 (putM κ (hostM μ1 n 0)) (nI 1) := by
    have := m_host (E := E) (κ := putM κ μ1) (n := n) (h := 0) (t := t) (m := 99999) (by rw [put_kV]; exact T1.1) (by omega) (by rw [put_kV]; exact fun g hg _ => S1 g hg) ht3
    rw [put_kV, put_put] at this
    exact this
  -- the other host: its guests haven't run yet
  have S2' : ∀ g, g < n → (hostM μ1 n 0) 15 g = nI 1 → SAY (hostM μ1 n 0) g t := by
    intro g hg hh
    have := S2 g hg
    rw [h2] at hh
    rw [hh, if_neg (by decide)] at this
    exact this
  have e3 : f_X11_tickOnce_b132 E 99999 (putM κ (hostM μ1 n 0)) (nI 1) = f_X11_tickOnce_b132 E 99998 (putM κ (hostM (hostM μ1 n 0) n 1)) (nI 2) := by
    have := m_host (E := E) (κ := putM κ (hostM μ1 n 0)) (n := n) (h := 1) (t := t) (m := 99998) (by rw [put_kV]; exact T2.1) (by omega) (by rw [put_kV]; exact S2') ht3
    rw [put_kV, put_put] at this
    exact this
  -- its turn: numbers said by then
  obtain ⟨T3, z3, h3, f3, S3'⟩ := TJ_host (h := 1) T2 (by omega) S2
  have S3 : ∀ g, g < n → SAY (hostM (hostM μ1 n 0) n 1) g (t + 1) := by
    intro g hg
    obtain ⟨a, b, r, q1, q2, q3, q4, q5⟩ := S3' g hg
    refine ⟨a, b, r, q1, q2, q3, q4, ?_⟩
    rw [h2] at q5
    by_cases z0 : μ1 15 g = nI 0
    · rw [z0, if_neg (by decide), if_pos rfl] at q5
      exact q5
    · rw [if_neg z0] at q5
      split at q5 <;> omega
  have e41 : (hostM (hostM μ1 n 0) n 1) 0 41 = nI t := by rw [z3, z2, r1 0 (by omega)]; exact ht
  refine ⟨?_, ?_, ?_, ?_⟩
  · rw [e1, e2, e3]
    rw [show (99998 : Nat) = 99997 + 1 from rfl, f_X11_tickOnce_b132, if_pos (by decide)]
    unfold f_X11_tickOnce_b221
    rw [nmE, set5, put_kV, put_put]
  · obtain ⟨⟨h1, h2, h3, h4⟩, hQ, hTm⟩ := T3
    refine ⟨⟨h1, by rw [muD (by omega)]; exact h2, fun g hg => ?_, fun x hx => by rw [muD (by omega)]; exact h4 x hx⟩, fun g hg => ?_, ⟨t + 1, by omega, by rw [muS ⟨rfl, rfl⟩, e41, nI_1]⟩⟩
    · obtain ⟨a1, a2, a3, a4⟩ := h3 g hg
      exact ⟨ROK_row a1 (mu_row (by omega)), by unfold PRG; rw [mu_row (by omega), mu_row (by omega)]; exact a2, PAG_row a3 (mu_row (by omega)) (mu_row (by omega)), by rw [mu_row (by omega)]; exact a4⟩
    · unfold QOK
      rw [mu_row (by omega), mu_row (by omega)]
      exact hQ g hg
  · rw [muS ⟨rfl, rfl⟩, e41, nI_1]
  · intro g hg
    unfold SAY
    rw [mu_row (by omega), mu_row (by omega), mu_row (by omega)]
    exact S3 g hg
