theorem ROK_row {μ μ' : MU} {g : Nat} (h : ROK μ g) (e : μ' 1 = μ 1) : ROK μ' g := fun k hk => by rw [e]; exact h k hk
theorem mu_row {μ : MU} {c k c' : Nat} {x : Int32} (h : c' ≠ c) : (mu μ c k x) c' = μ c' := by
  funext k'
  exact muD (fun z => h z.1)
theorem ROK_c {μ : MU} {g c k : Nat} {x : Int32} (h : ROK μ g) (hc : c ≠ 1) : ROK (mu μ c k x) g := ROK_row h (mu_row (Ne.symm hc))
theorem ROK_1 {μ : MU} {g k : Nat} {x : Int32} (h : ROK μ g) (hx : rng k x) : ROK (mu μ 1 (55 * g + k) x) g := by
  intro j hj
  by_cases hjk : j = k
  · subst hjk; rw [muS ⟨rfl, rfl⟩]; exact hx
  · rw [muD (by omega)]; exact h j hj
theorem ROK_n {μ : MU} {g g2 k : Nat} {x : Int32} (h : ROK μ g) (hk : k < 55) (hg : g ≠ g2) : ROK (mu μ 1 (55 * g2 + k) x) g := by
  intro j hj
  rw [muD (by omega)]; exact h j hj
theorem rng_n {k r : Nat} (h : r < lim k) : rng k (nI r) := Or.inr ⟨r, rfl, h⟩
theorem ROK_goTo {μ : MU} {g : Nat} {x : Nat} (h : ROK μ g) (hx : x < 4) (h5 : μ 1 (55 * g + 5) ≠ -1) : ROK (goToM μ g (nI x)) g := by
  unfold goToM
  dsimp only
  refine ROK_1 (k := 7) (ROK_1 (k := 8) (ROK_1 (k := 4) (ROK_1 (k := 6) h ?_) ?_) (rng_n (r := 1) (by decide))) (rng_n hx)
  · obtain ⟨r, h1, h2⟩ := h.nx
    rw [h1]
    exact rng_n h2
  · rw [muD (by omega)]
    rcases h 5 (by omega) with ⟨z, _⟩ | ⟨r, h1, h2⟩
    · exact absurd z h5
    · rw [h1]
      exact rng_n (Nat.lt_trans h2 (by decide))
def PRG (μ : MU) (g : Nat) : Prop := ∃ m, m ≤ 24 ∧ μ 14 g = nI m ∧ ∀ k, k < m → ∃ w, VI w (μ 13 (72 * g + 3 * k + 1)) (μ 13 (72 * g + 3 * k + 2)) ∧ μ 13 (72 * g + 3 * k) = nI w
def exM (μ : MU) (n g h : Nat) : MU :=
  if μ 1 (55 * g + 4) < μ 14 g then
    let k := (μ 1 (55 * g + 4)).toNatClampNeg
    doM μ n g (μ 13 (72 * g + 3 * k)).toNatClampNeg (μ 13 (72 * g + 3 * k + 1)).toNatClampNeg (μ 13 (72 * g + 3 * k + 2)).toNatClampNeg h
  else mu μ 1 (55 * g + 49) 2
theorem m_ex {E : EE} {κ : K} {n g h : Nat} (hn : n ≤ 5) (hG : kV κ 5 0 0 26 = nI n) (hg : g < 5) (hh : h < 2) (hH : kV κ 5 0 15 g = nI h) (hR : ROK (kV κ 5 0) g) (hK : KOK (kV κ 5 0) g) (hP : PRG (kV κ 5 0) g) : f_X11_run_b139 E κ (nI g) (nI (55 * g)) = some (putM κ (exM (kV κ 5 0) n g h), ()) := by
  obtain ⟨x, hx1, hx2⟩ := hR.nx
  obtain ⟨m, hm, hm1, hm2⟩ := hP
  unfold f_X11_run_b139 exM
  simp (disch := omega) only [nmE, l2, l3, l4, l5, l6, l7, l8, l9, l13, l16, l17, l31, l49, l50, l51, l52, l53, l54, l55, l72, l512, l3000, nI_mul, nI_add, nI_1, nI_cl, gdi, set5, put_kV, put_put, bd_s]
  rw [hx1, hm1, nI_cl (by omega)]
  by_cases hlt : x < m
  · obtain ⟨w, hV, hw⟩ := hm2 x hlt
    rw [if_pos (nI_lt hlt (by omega)), if_pos (nI_lt hlt (by omega))]
    simp (disch := omega) only [nmE, l2, l3, l4, l5, l6, l7, l8, l9, l13, l16, l17, l31, l49, l50, l51, l52, l53, l54, l55, l72, l512, l3000, nI_mul, nI_add, nI_1, nI_cl, gdi, set5, put_kV, put_put, bd_s]
    rw [hw]
    have hwl := hV.1
    rw [m_doOne hn hG hg hh hH hR hK hV, bd_s, nI_cl (by omega)]
  · rw [if_neg (by rw [nI_ltI (by omega) (by omega)]; exact hlt), if_neg (by rw [nI_ltI (by omega) (by omega)]; exact hlt)]
def intM (μ : MU) (g : Nat) : MU :=
  if (μ 1 (55 * g + 51) = 1 ∨ μ 1 (55 * g + 52) = 1) ∧ μ 1 (55 * g + 8) = 0 ∧ ¬ μ 1 (55 * g + 5) = -1 then
    (if μ 1 (55 * g + 51) = 1 then
      let μa := mu μ 1 (55 * g + 51) 0
      goToM (mu μa 25 (6 * g + 5) (μa 25 (6 * g + 5) + 1)) g (nI 2)
    else
      let μa := mu μ 1 (55 * g + 52) 0
      goToM (mu μa 25 (6 * g + 5) (μa 25 (6 * g + 5) + 1)) g (nI 3))
  else μ
def runM (μ : MU) (n g h : Nat) : MU := exM (intM (mu μ 24 g (μ 24 g + 1)) g) n g h
theorem goToM_row {μ : MU} {g c : Nat} {x : Int32} (hc : c ≠ 1) : (goToM μ g x) c = μ c := by
  unfold goToM
  rw [mu_row hc, mu_row hc, mu_row hc, mu_row hc]
theorem intM_row {μ : MU} {g c : Nat} (hc : c ≠ 1 ∧ c ≠ 25) : (intM μ g) c = μ c := by
  unfold intM
  split
  · split
    · dsimp only
      rw [goToM_row hc.1, mu_row hc.2, mu_row hc.1]
    · dsimp only
      rw [goToM_row hc.1, mu_row hc.2, mu_row hc.1]
  · rfl
theorem ROK_int {μ : MU} {g : Nat} (h : ROK μ g) : ROK (intM μ g) g := by
  unfold intM
  split
  · rename_i hz
    split
    · exact ROK_goTo (ROK_c (ROK_1 (k := 51) h (rng_n (r := 0) (by decide))) (by omega)) (by omega) (by rw [muD (by omega), muD (by omega)]; exact hz.2.2)
    · exact ROK_goTo (ROK_c (ROK_1 (k := 52) h (rng_n (r := 0) (by decide))) (by omega)) (by omega) (by rw [muD (by omega), muD (by omega)]; exact hz.2.2)
  · exact h
theorem KOK_row {μ μ' : MU} {g : Nat} (h : KOK μ g) (e27 : μ' 27 = μ 27) (e28 : μ' 28 = μ 28) (e35 : μ' 35 = μ 35) (e37 : μ' 37 = μ 37) : KOK μ' g := by
  unfold KOK
  rw [e27, e28, e35, e37]
  exact h
theorem m_run {E : EE} {κ : K} {n g h : Nat} (hn : n ≤ 5) (hG : kV κ 5 0 0 26 = nI n) (hg : g < 5) (hh : h < 2) (hH : kV κ 5 0 15 g = nI h) (hR : ROK (kV κ 5 0) g) (hK : KOK (kV κ 5 0) g) (hP : PRG (kV κ 5 0) g) : f_X11_run E κ (nI g) = some (putM κ (runM (kV κ 5 0) n g h), ()) := by
  unfold runM
  generalize hμ1 : mu (kV κ 5 0) 24 g (kV κ 5 0 24 g + 1) = μ1
  have e1 : ∀ c, c ≠ 24 → μ1 c = kV κ 5 0 c := fun c hc => by rw [← hμ1]; exact mu_row hc
  have fin : ∀ μ2 : MU, (∀ c, c ≠ 1 → c ≠ 25 → μ2 c = μ1 c) → ROK μ2 g → f_X11_run_b139 E (putM κ μ2) (nI g) (nI (55 * g)) = some (putM κ (exM μ2 n g h), ()) := by
    intro μ2 hm hr
    have e2 : ∀ c, c ≠ 1 → c ≠ 25 → c ≠ 24 → μ2 c = kV κ 5 0 c := fun c h1 h2 h3 => (hm c h1 h2).trans (e1 c h3)
    have := m_ex (E := E) (κ := putM κ μ2) (n := n) (g := g) (h := h) hn (by rw [put_kV, e2 0 (by omega) (by omega) (by omega)]; exact hG) hg hh (by rw [put_kV, e2 15 (by omega) (by omega) (by omega)]; exact hH) (by rw [put_kV]; exact hr) (by rw [put_kV]; exact KOK_row hK (e2 27 (by omega) (by omega) (by omega)) (e2 28 (by omega) (by omega) (by omega)) (e2 35 (by omega) (by omega) (by omega)) (e2 37 (by omega) (by omega) (by omega))) (by rw [put_kV]; unfold PRG; rw [e2 13 (by omega) (by omega) (by omega), e2 14 (by omega) (by omega) (by omega)]; exact hP)
    rw [put_kV, put_put] at this
    exact this
  have hR1 : ROK μ1 g := ROK_row hR (e1 1 (by omega))
  have hR2 := ROK_int hR1
  unfold f_X11_run
  simp (disch := omega) only [nmE, l2, l3, l4, l5, l6, l7, l8, l9, l13, l16, l17, l31, l49, l50, l51, l52, l53, l54, l55, l72, l512, l3000, nI_mul, nI_add, nI_1, nI_cl, gdi, set5, put_kV, put_put, bd_s, hμ1]
  unfold f_X11_run_b41 f_X11_run_b46
  have tl : ∀ (x : Nat), (x = 51 ∨ x = 52) → intM μ1 g = (let μa := mu μ1 1 (55 * g + x) 0; goToM (mu μa 25 (6 * g + 5) (μa 25 (6 * g + 5) + 1)) g (if x = 51 then nI 2 else nI 3)) → f_X11_run_b95 E (putM κ μ1) (nI g) (nI (55 * g)) (nI x) = some (putM κ (exM (intM μ1 g) n g h), ()) := by
    intro x hx hi
    unfold f_X11_run_b95 f_X11_run_b136
    have hx2 : x < 100 := by omega
    simp (disch := omega) only [nmE, l2, l3, l4, l5, l6, l7, l8, l9, l13, l16, l17, l31, l49, l50, l51, l52, l53, l54, l55, l72, l512, l3000, nI_mul, nI_add, nI_1, nI_eq', nI_cl, gdi, set5, put_kV, put_put, bd_s]
    dsimp only at hi
    by_cases h51 : x = 51
    · rw [if_pos h51, m_goTo hg, bd_s, put_kV, put_put]
      rw [if_pos h51] at hi
      rw [← hi]
      exact fin _ (fun c h1 h2 => intM_row ⟨h1, h2⟩) hR2
    · rw [if_neg h51, m_goTo hg, bd_s, put_kV, put_put]
      rw [if_neg h51] at hi
      rw [← hi]
      exact fin _ (fun c h1 h2 => intM_row ⟨h1, h2⟩) hR2
  have no : ¬ ((μ1 1 (55 * g + 51) = 1 ∨ μ1 1 (55 * g + 52) = 1) ∧ μ1 1 (55 * g + 8) = 0 ∧ ¬ μ1 1 (55 * g + 5) = -1) → f_X11_run_b139 E (putM κ μ1) (nI g) (nI (55 * g)) = some (putM κ (exM (intM μ1 g) n g h), ()) := by
    intro hz
    have e : intM μ1 g = μ1 := by unfold intM; rw [if_neg hz]
    rw [e]
    exact fin μ1 (fun _ _ _ => rfl) hR1
  have pend : (μ1 1 (55 * g + 51) = 1 ∨ μ1 1 (55 * g + 52) = 1) → (if (1 : Int32) = 0 then f_X11_run_b139 E (putM κ μ1) (nI g) (nI (55 * g)) else gd (¬ ((nI (55 * g) + 8) < 0 ∨ 275 ≤ (nI (55 * g) + 8).toNatClampNeg)) (if (kV (putM κ μ1) 5 0 1) (nI (55 * g) + 8).toNatClampNeg = 0 then gd (¬ ((nI (55 * g) + 5) < 0 ∨ 275 ≤ (nI (55 * g) + 5).toNatClampNeg)) (if (kV (putM κ μ1) 5 0 1) (nI (55 * g) + 5).toNatClampNeg = (-1) then f_X11_run_b139 E (putM κ μ1) (nI g) (nI (55 * g)) else gd (¬ ((nI (55 * g) + 51) < 0 ∨ 275 ≤ (nI (55 * g) + 51).toNatClampNeg)) (if (kV (putM κ μ1) 5 0 1) (nI (55 * g) + 51).toNatClampNeg = 1 then f_X11_run_b95 E (putM κ μ1) (nI g) (nI (55 * g)) 51 else f_X11_run_b95 E (putM κ μ1) (nI g) (nI (55 * g)) 52)) else f_X11_run_b139 E (putM κ μ1) (nI g) (nI (55 * g)))) = some (putM κ (exM (intM μ1 g) n g h), ()) := by
    intro hp
    rw [if_neg (by decide)]
    simp (disch := omega) only [nmE, l2, l3, l4, l5, l6, l7, l8, l9, l13, l16, l17, l31, l49, l50, l51, l52, l53, l54, l55, l72, l512, l3000, nI_mul, nI_add, nI_1, nI_cl, gdi, put_kV]
    by_cases h8 : μ1 1 (55 * g + 8) = 0
    · rw [if_pos h8]
      by_cases h5 : μ1 1 (55 * g + 5) = -1
      · rw [if_pos h5]
        exact no (fun z => z.2.2 h5)
      · rw [if_neg h5]
        by_cases h51 : μ1 1 (55 * g + 51) = 1
        · rw [if_pos h51]
          exact tl 51 (Or.inl rfl) (by unfold intM; rw [if_pos ⟨hp, h8, h5⟩, if_pos h51]; rfl)
        · rw [if_neg h51]
          exact tl 52 (Or.inr rfl) (by unfold intM; rw [if_pos ⟨hp, h8, h5⟩, if_neg h51]; rfl)
    · rw [if_neg h8]
      exact no (fun z => h8 z.2.1)
  by_cases h51 : μ1 1 (55 * g + 51) = 1
  · rw [if_pos h51]
    exact pend (Or.inl h51)
  · rw [if_neg h51]
    by_cases h52 : μ1 1 (55 * g + 52) = 1
    · rw [if_pos h52]
      exact pend (Or.inr h52)
    · rw [if_neg h52, if_pos rfl]
      exact no (fun z => z.1.elim h51 h52)
