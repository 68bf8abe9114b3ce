theorem bm {z : Int} (h1 : -2147483648 ≤ z) (h2 : z < 2147483648) : z.bmod (2 ^ 32) = z := by
  rw [Int.bmod_def]
  show (if z % 4294967296 < (4294967296 + 1) / 2 then z % 4294967296 else z % 4294967296 - 4294967296) = z
  split <;> omega
theorem nI_of_toInt {x : Int32} {n : Nat} (hn : n < 2147483648) (h : x.toInt = (n : Int)) : x = nI n := by
  apply Int32.toInt_inj.mp
  rw [h, nI_toInt hn]
theorem rem_toI (x : Int32) : (x - x / 10000 * 10000).toInt = x.toInt - Int.tdiv x.toInt 10000 * 10000 ∧ -10000 < x.toInt - Int.tdiv x.toInt 10000 * 10000 ∧ x.toInt - Int.tdiv x.toInt 10000 * 10000 < 10000 := by
  have h1 := Int32.le_toInt x
  have h2 := Int32.toInt_lt x
  have e10 : (10000 : Int32).toInt = 10000 := by decide
  generalize hX : x.toInt = X at h1 h2
  have hd : Int.tdiv X 10000 = if 0 ≤ X then X / 10000 else -((-X) / 10000) := by
    split
    · exact Int.tdiv_eq_ediv_of_nonneg (by assumption)
    · have := Int.neg_tdiv (-X) 10000
      rw [Int.neg_neg] at this
      rw [this, Int.tdiv_eq_ediv_of_nonneg (by omega)]
  have hb : -10000 < X - Int.tdiv X 10000 * 10000 ∧ X - Int.tdiv X 10000 * 10000 < 10000 := by
    rw [hd]
    split <;> omega
  have hq : -214749 < Int.tdiv X 10000 ∧ Int.tdiv X 10000 < 214749 := by
    rw [hd]
    split <;> omega
  have e1 : (x / 10000).toInt = Int.tdiv X 10000 := by
    rw [Int32.toInt_div, hX, e10]
    exact bm (by omega) (by omega)
  have e2 : (x / 10000 * 10000).toInt = Int.tdiv X 10000 * 10000 := by
    rw [Int32.toInt_mul, e1, e10]
    exact bm (by omega) (by omega)
  refine ⟨?_, hb⟩
  rw [Int32.toInt_sub, e2, hX]
  exact bm (by omega) (by omega)
theorem restI_rng (x : Int32) : ∃ r, r < 10000 ∧ restI x = nI r := by
  obtain ⟨h1, h2, h3⟩ := rem_toI x
  unfold restI
  generalize x - x / 10000 * 10000 = y at h1
  have e : (y + 10000).toInt = y.toInt + 10000 := by
    rw [Int32.toInt_add, show (10000 : Int32).toInt = 10000 from by decide]
    exact bm (by omega) (by omega)
  have ey : y + 10000 = nI (y.toInt + 10000).toNat := nI_of_toInt (by omega) (by rw [e]; omega)
  rw [ey, show (10000 : Int32) = nI 10000 from rfl, nI_mod (by omega) (by omega)]
  exact ⟨_, Nat.mod_lt _ (by omega), rfl⟩
theorem lim_reg {k : Nat} (h : k < 4) : lim k = 10000 := if_pos h
theorem lim_view {k : Nat} (h : k < 8) : lim (9 + k) = 8 := by
  unfold lim
  rw [if_neg (by omega), if_neg (by omega), if_neg (by omega), if_neg (by omega), if_neg (by omega), if_neg (by omega), if_pos (by omega)]
theorem lim_word {k : Nat} (h : k < 32) : lim (17 + k) = 10000 := by
  unfold lim
  rw [if_neg (by omega), if_neg (by omega), if_neg (by omega), if_neg (by omega), if_neg (by omega), if_neg (by omega), if_neg (by omega), if_pos (by omega)]
theorem ROK_j {μ : MU} {g j k : Nat} {x : Int32} (h : ROK μ g) (hj : j = 55 * g + k) (hx : rng k x) : ROK (mu μ 1 j x) g := by
  subst hj
  exact ROK_1 h hx
theorem ROK_word {μ : MU} {g k : Nat} (h : ROK μ g) (hk : k < 32) : ∃ r, μ 1 (55 * g + (17 + k)) = nI r ∧ r < 10000 := by
  rcases h (17 + k) (by omega) with ⟨_, z⟩ | ⟨r, h1, h2⟩
  · omega
  · rw [lim_word hk] at h2
    exact ⟨r, h1, h2⟩
theorem mark_row {μ : MU} {g page h c : Nat} {w : Int32} (hc : c ≠ 29 ∧ c ≠ 31) : (markM μ g page w h) c = μ c := by
  unfold markM
  rw [mu_row hc.2, mu_row hc.1]
theorem touch_row {μ : MU} {n g page h c : Nat} {w : Int32} (hc : c ≠ 25 ∧ c ≠ 27 ∧ c ≠ 28 ∧ c ≠ 29 ∧ c ≠ 31) : (touchM μ n g page w h) c = μ c := by
  unfold touchM
  split
  · split
    · exact mark_row (by omega)
    · split
      · exact mark_row (by omega)
      · dsimp only
        rw [mark_row (by omega), mu_row (by omega), mu_row (by omega), frM_row _ _ _ _ (by omega)]
  · dsimp only
    rw [mark_row (by omega), mu_row (by omega), mu_row (by omega), mu_row (by omega), frM_row _ _ _ _ (by omega)]
theorem PAG_row {μ μ' : MU} {g : Nat} (h : PAG μ g) (e27 : μ' 27 = μ 27) (e28 : μ' 28 = μ 28) : PAG μ' g := by
  unfold PAG
  rw [e27, e28]
  exact h
theorem PAG_swap {μ : MU} {g : Nat} {h f : Int32} (hp : PAG μ g) : ∀ p, PAG (swapU μ h f p) g
  | 0 => hp
  | p + 1 => by
    unfold swapU
    split
    · intro page hpg hk
      by_cases hj : 8 * g + page = p
      · rw [hj, muS ⟨rfl, rfl⟩] at hk
        exact absurd hk (by decide)
      · rw [muD (by omega), muD (by omega)] at hk
        obtain ⟨j, h1, h2⟩ := PAG_swap hp p page hpg hk
        exact ⟨j, h1, by rw [muD (by omega), muD (by omega)]; exact h2⟩
    · exact PAG_swap hp p
theorem PAG_fr {μ : MU} {g n h : Nat} {but : Int32} (hp : PAG μ g) : PAG (frM μ n h but).1 g := by
  unfold frM
  split
  · exact hp
  · exact PAG_swap hp _
theorem PAG_set {μ : MU} {g g2 page : Nat} {x : Int32} (hpg : page < 8) (hx : ∃ j, j < 16 ∧ x = nI j) (hp : PAG μ g2) : PAG (mu μ 28 (8 * g + page) x) g2 := by
  intro p2 hp2 hk
  rw [muD (by omega)] at hk
  by_cases hj : 8 * g2 + p2 = 8 * g + page
  · rw [hj, muS ⟨rfl, rfl⟩]; exact hx
  · rw [muD (by omega)]; exact hp p2 hp2 hk
theorem PAG_touch {μ : MU} {n g g2 page h : Nat} {w : Int32} (hpg : page < 8) (hp : PAG μ g2) : PAG (touchM μ n g page w h) g2 := by
  unfold touchM
  split
  · split
    · exact PAG_row hp (mark_row (by omega)) (mark_row (by omega))
    · split
      · exact PAG_row hp (mark_row (by omega)) (mark_row (by omega))
      · dsimp only
        exact PAG_row (PAG_set hpg (frM_2 _ _ _ _) (PAG_row (PAG_fr hp) (mu_row (by omega)) (mu_row (by omega)))) (mark_row (by omega)) (mark_row (by omega))
  · dsimp only
    refine PAG_row ?_ (mark_row (by omega)) (mark_row (by omega))
    intro p2 hp2 hk
    by_cases hj : 8 * g2 + p2 = 8 * g + page
    · rw [hj, muS ⟨rfl, rfl⟩]; exact frM_2 _ _ _ _
    · rw [muD (by omega), muD (by omega), muD (by omega)] at hk
      obtain ⟨j, h1, h2⟩ := PAG_fr hp p2 hp2 hk
      exact ⟨j, h1, by rw [muD (by omega), muD (by omega), muD (by omega)]; exact h2⟩
theorem clr_row {μ : MU} {g page c : Nat} (hc : c ≠ 1) : ∀ k, (clrU μ g page k) c = μ c
  | 0 => rfl
  | k + 1 => by
    unfold clrU
    rw [mu_row hc, clr_row hc k]
theorem ROK_clr {μ : MU} {g page : Nat} (hp : page < 8) (h : ROK μ g) : ∀ k, k ≤ 4 → ROK (clrU μ g page k) g
  | 0, _ => h
  | k + 1, hk => by
    unfold clrU
    exact ROK_j (k := 17 + (4 * page + k)) (ROK_clr hp h k (by omega)) (by omega) (rng_n (r := 0) (by rw [lim_word (by omega)]; omega))
theorem clr_n {μ : MU} {g g2 page : Nat} (hg : g2 ≠ g) (hp : page < 8) {j : Nat} (hj : j < 55) : ∀ k, k ≤ 4 → (clrU μ g page k) 1 (55 * g2 + j) = μ 1 (55 * g2 + j)
  | 0, _ => rfl
  | k + 1, hk => by
    unfold clrU
    rw [muD (by omega), clr_n hg hp hj k (by omega)]
theorem give_row {μ : MU} {g page c : Nat} (hc : c ≠ 1 ∧ c ≠ 27 ∧ c ≠ 28 ∧ c ≠ 31) : (giveM μ g page) c = μ c := by
  unfold giveM
  rw [mu_row (by omega), mu_row (by omega), mu_row (by omega), clr_row (by omega)]
theorem give_1 {μ : MU} {g page : Nat} : (giveM μ g page) 1 = (clrU μ g page 4) 1 := by
  unfold giveM
  rw [mu_row (by omega), mu_row (by omega), mu_row (by omega)]
theorem PAG_give {μ : MU} {g g2 page : Nat} (hp : PAG μ g2) : PAG (giveM μ g page) g2 := by
  unfold giveM
  intro p2 hp2 hk
  rw [muD (by omega)] at hk
  rw [muD (by omega)]
  by_cases hj : 8 * g2 + p2 = 8 * g + page
  · rw [hj, muD (by omega), muS ⟨rfl, rfl⟩] at hk
    exact absurd hk (by decide)
  · rw [muD (by omega), muD (by omega), clr_row (by omega)] at hk
    rw [muD (by omega), muD (by omega), clr_row (by omega)]
    exact hp p2 hp2 hk
theorem fault_row {μ : MU} {g c : Nat} (hc : c ≠ 1) : (faultM μ g) c = μ c := by
  unfold faultM
  split
  · exact mu_row hc
  · exact goToM_row hc
theorem ROK_fault {μ : MU} {g : Nat} (h : ROK μ g) : ROK (faultM μ g) g := by
  unfold faultM
  split
  · exact ROK_1 (k := 49) h (rng_n (r := 3) (by decide))
  · rename_i hz
    exact ROK_goTo (x := 1) h (by omega) (fun z => hz (Or.inl z))
theorem goTo_n {μ : MU} {g g2 j : Nat} {x : Int32} (hg : g2 ≠ g) (hj : j < 55) : (goToM μ g x) 1 (55 * g2 + j) = μ 1 (55 * g2 + j) := by
  unfold goToM
  rw [muD (by omega), muD (by omega), muD (by omega), muD (by omega)]
theorem fault_n {μ : MU} {g g2 j : Nat} (hg : g2 ≠ g) (hj : j < 55) : (faultM μ g) 1 (55 * g2 + j) = μ 1 (55 * g2 + j) := by
  unfold faultM
  split
  · rw [muD (by omega)]
  · exact goTo_n hg hj
theorem say_row {μ : MU} {g c : Nat} {x : Int32} (hc : c ≠ 34 ∧ c ≠ 35 ∧ c ≠ 36 ∧ c ≠ 37) : (sayM μ g x) c = μ c := by
  unfold sayM
  split
  · dsimp only
    rw [mu_row (by omega), mu_row (by omega)]
  · dsimp only
    rw [mu_row (by omega), mu_row (by omega)]
/-- the inputs that wait -/
def QOK (μ : MU) (g : Nat) : Prop := ∀ k, k < (μ 1 (55 * g + 54)).toNatClampNeg → ∃ r, r < 10000 ∧ μ 2 (512 * g + k) = nI r
theorem tk_val {μ : MU} {g : Nat} : ∀ k j, j < 512 → (tkU μ g k) 2 (512 * g + j) = if j < k then (tkU μ g k) 2 (512 * g + j) else μ 2 (512 * g + j)
  | 0, j, _ => by rw [if_neg (by omega)]; rfl
  | k + 1, j, hj => by
    by_cases h : j < k + 1
    · rw [if_pos h]
    · rw [if_neg h]
      unfold tkU
      rw [muD (by omega), tk_val k j hj, if_neg (by omega)]
theorem tk_sh {μ : MU} {g : Nat} : ∀ k, k < 512 → ∀ j, j < k → (tkU μ g k) 2 (512 * g + j) = μ 2 (512 * g + (j + 1))
  | 0, _, j, hj => absurd hj (Nat.not_lt_zero j)
  | k + 1, hk, j, hj => by
    unfold tkU
    by_cases h : j = k
    · subst h
      rw [muS ⟨rfl, rfl⟩]
      by_cases h2 : j + 1 < 512
      · have := tk_val (μ := μ) (g := g) j (j + 1) h2
        rw [if_neg (by omega)] at this
        rw [Nat.add_assoc]
        exact this
      · omega
    · rw [muD (by omega)]
      exact tk_sh k (by omega) j (by omega)
theorem tak_row {μ : MU} {g c : Nat} (hc : c ≠ 1 ∧ c ≠ 2) : (takM μ g).1 c = μ c := by
  unfold takM
  split
  · rfl
  · dsimp only
    rw [tkU_row hc.2, mu_row hc.1]
theorem tak_1 {μ : MU} {g : Nat} : (takM μ g).1 1 = if μ 1 (55 * g + 54) = 0 then μ 1 else (mu μ 1 (55 * g + 54) (μ 1 (55 * g + 54) - 1)) 1 := by
  unfold takM
  split
  · rfl
  · dsimp only
    rw [tkU_row (by omega)]
theorem tak_ok {μ : MU} {g : Nat} (hR : ROK μ g) (hQ : QOK μ g) : ROK (takM μ g).1 g ∧ QOK (takM μ g).1 g ∧ ∃ r, r < 10000 ∧ (takM μ g).2 = nI r := by
  obtain ⟨m, hm1, hm2⟩ := hR.many
  by_cases h0 : μ 1 (55 * g + 54) = 0
  · have e : takM μ g = (μ, 0) := by unfold takM; rw [if_pos h0]
    rw [e]
    exact ⟨hR, hQ, 0, by omega, rfl⟩
  · have hm : m ≠ 0 := fun z => h0 (by rw [hm1, z]; rfl)
    have e1 : (takM μ g).1 1 = (mu μ 1 (55 * g + 54) (nI (m - 1))) 1 := by
      rw [tak_1, if_neg h0, hm1, show (1 : Int32) = nI 1 from rfl, nI_sub (by omega)]
    have hR1 : ROK (takM μ g).1 g := ROK_row (ROK_1 (k := 54) hR (rng_n (r := m - 1) (by show m - 1 < 513; omega))) e1
    refine ⟨hR1, ?_, ?_⟩
    · intro k hk
      rw [e1, muS ⟨rfl, rfl⟩, nI_cl (by omega)] at hk
      have e2 : (takM μ g).1 = tkU (mu μ 1 (55 * g + 54) (nI (m - 1))) g (m - 1) := by
        unfold takM
        rw [if_neg h0]
        dsimp only
        rw [muS ⟨rfl, rfl⟩, hm1, show (1 : Int32) = nI 1 from rfl, nI_sub (by omega), nI_cl (by omega)]
      rw [e2, tk_sh (m - 1) (by omega) k hk, muD (by omega)]
      exact hQ (k + 1) (by rw [hm1, nI_cl (by omega)]; omega)
    · have e3 : (takM μ g).2 = μ 2 (512 * g) := by unfold takM; rw [if_neg h0]
      rw [e3]
      exact hQ 0 (by rw [hm1, nI_cl (by omega)]; omega)
