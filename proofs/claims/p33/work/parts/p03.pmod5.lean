def PAG (μ : MU) (g : Nat) : Prop := ∀ page, page < 8 → μ 27 (8 * g + page) = 1 → ∃ j, j < 16 ∧ μ 28 (8 * g + page) = nI j
/-- what the model's rows are at every moment -/
def TI (μ : MU) (n : Nat) : Prop := n ≤ 5 ∧ μ 0 26 = nI n ∧ (∀ g, g < n → ROK μ g ∧ PRG μ g ∧ PAG μ g ∧ ∃ h, h < 2 ∧ μ 15 g = nI h) ∧ ∀ h, h < 2 → μ 39 h = -1 ∨ ∃ l, l < n ∧ μ 39 h = nI l
def SAY (μ : MU) (g t : Nat) : Prop := ∃ a b r, μ 35 g = nI a ∧ μ 37 g = nI b ∧ μ 24 g = nI r ∧ a + b ≤ r ∧ r ≤ t
theorem SAY.kok {μ : MU} {g t : Nat} (h : SAY μ g t) (hP : PAG μ g) (ht : t < 3000) : KOK μ g := by
  obtain ⟨a, b, r, h1, h2, h3, h4, h5⟩ := h
  exact ⟨hP, ⟨a, by omega, h1⟩, b, by omega, h2⟩
def canM (μ : MU) (g : Nat) (h : Int32) : Bool := decide (μ 15 g = h) && decide (μ 1 (55 * g + 49) = 0) && decide (μ 18 g = 0)
theorem m_canRun {E : EE} {κ : K} {g : Nat} {h : Int32} (hg : g < 5) : f_X11_canRun E κ (nI g) h = some (κ, if canM (kV κ 5 0) g h = true then 1 else 0) := by
  unfold f_X11_canRun f_X11_canRun_e canM
  rw [gd_t (i5 hg), nI_cl (by omega)]
  by_cases h1 : kV κ 5 0 15 g = h
  · rw [if_pos h1, l55, nI_mul, l49, nI_add, gd_t (iN (by omega) (by omega)), nI_cl (by omega)]
    by_cases h2 : kV κ 5 0 1 (55 * g + 49) = 0
    · rw [if_pos h2, gdi (by omega)]
      by_cases h3 : kV κ 5 0 18 g = 0
      · rw [if_pos h3, bd_s, gd_t (Or.inr rfl)]
        simp [h1, h2, h3]
      · rw [if_neg h3, bd_s, gd_t (Or.inl rfl)]
        simp [h3]
    · rw [if_neg h2, bd_s, gd_t (Or.inl rfl)]
      simp [h2]
  · rw [if_neg h1, bd_s, gd_t (Or.inl rfl)]
    simp [h1]
/-- whose turn it is, from the one numbered s on -/
def chL (μ : MU) (n h s : Nat) : MU × Int32 := match fstU (fun k => canM μ ((s + k) % n) (nI h)) n with
  | some k => (mu (mu μ 39 h (nI ((s + k) % n))) 40 h 1, nI ((s + k) % n))
  | none => (μ, -1)
def chM (μ : MU) (n h : Nat) : MU × Int32 :=
  if μ 39 h = -1 then chL μ n h 0
  else
    let l := (μ 39 h).toNatClampNeg
    if canM μ l (nI h) = true then (if μ 16 l ≤ μ 40 h then chL μ n h (l + 1) else (mu μ 40 h (μ 40 h + 1), μ 39 h))
    else chL μ n h (l + 1)
theorem m_chL {E : EE} {κ : K} {n h s : Nat} {x2 : Int32} (hn : n ≤ 5) (hh : h < 2) (hG : kV κ 5 0 0 26 = nI n) (hx : ∀ k, x2 + nI (k + 1) = nI (s + k)) (hs : s ≤ 5) : f_X11_chosen_b50 E FU κ (nI h) x2 1 = some (putM κ (chL (kV κ 5 0) n h s).1, (chL (kV κ 5 0) n h s).2) := by
  have loop : ∀ (d i m : Nat), i + d = n → d < m → fstU (fun k => canM (kV κ 5 0) ((s + k) % n) (nI h)) i = none → f_X11_chosen_b50 E m κ (nI h) x2 (nI (i + 1)) = some (putM κ (chL (kV κ 5 0) n h s).1, (chL (kV κ 5 0) n h s).2) := by
    intro d
    induction d with
    | zero =>
      intro i m hi hm hnone
      obtain ⟨m, rfl⟩ : ∃ q, m = q + 1 := ⟨m - 1, by omega⟩
      have hin : i = n := by omega
      subst hin
      rw [f_X11_chosen_b50, hG, if_pos (nI_lt (by omega) (by omega))]
      unfold chL
      rw [hnone, put_self]
    | succ d ih =>
      intro i m hi hm hnone
      obtain ⟨m, rfl⟩ : ∃ q, m = q + 1 := ⟨m - 1, by omega⟩
      rw [f_X11_chosen_b50, hG, if_neg (by rw [nI_ltI (by omega) (by omega)]; omega), gd_t (by rw [nI_e0 (by omega)]; omega), nmE, hx i, nI_mod (by omega) (by omega)]
      have hlt : (s + i) % n < n := Nat.mod_lt _ (by omega)
      rw [m_canRun (by omega), bd_s]
      by_cases hc : canM (kV κ 5 0) ((s + i) % n) (nI h) = true
      · rw [if_pos hc, if_neg (by decide)]
        have e : fstU (fun k => canM (kV κ 5 0) ((s + k) % n) (nI h)) n = some i := fstU_eq (by omega) hc (fun j hj => fstU_none hnone j hj)
        unfold f_X11_chosen_b78 chL
        rw [e]
        simp (disch := omega) only [nmE, l2, l3, l4, l5, l6, l7, l8, l9, l13, l16, l17, l31, l49, l50, l51, l52, l53, l54, l55, l72, l512, l3000, nI_mul, nI_add, nI_1, nI_cl, gdi, set5, put_kV, put_put, bd_s]
      · rw [if_neg hc, if_pos rfl]
        have hn2 : fstU (fun k => canM (kV κ 5 0) ((s + k) % n) (nI h)) (i + 1) = none := by
          unfold fstU
          rw [hnone]
          dsimp only
          rw [if_neg hc]
        simp only [nmE, nI_1]
        exact ih (i + 1) m (by omega) (by omega) hn2
  exact loop n 0 FU (by omega) (by unfold FU; omega) rfl
theorem m_chosen {E : EE} {κ : K} {n h : Nat} (hT : TI (kV κ 5 0) n) (hh : h < 2) : f_X11_chosen E κ (nI h) = some (putM κ (chM (kV κ 5 0) n h).1, (chM (kV κ 5 0) n h).2) := by
  obtain ⟨hn, hG, -, hL⟩ := hT
  unfold f_X11_chosen f_X11_chosen_b48 chM
  rw [gd_t (iN hh (by omega)), nI_cl (by omega), nmE]
  rcases hL h hh with hl | ⟨l, hl1, hl⟩
  · rw [if_pos hl, if_pos hl, hl]
    exact m_chL hn hh hG (fun k => by rw [show nI (k + 1) = nI k + 1 from (nI_1 k).symm, Int32.add_comm, Int32.add_assoc, show (1 : Int32) + -1 = 0 from by decide, Int32.add_zero, Nat.zero_add]) (by omega)
  · have hne : ¬ kV κ 5 0 39 h = -1 := by rw [hl, nI_m1 (by omega)]; exact id
    rw [if_neg hne, if_neg hne, hl, m_canRun (by omega), bd_s]
    dsimp only
    rw [nI_cl (by omega)]
    have hch := m_chL (E := E) (κ := κ) (n := n) (h := h) (s := l + 1) (x2 := nI l) hn hh hG (fun k => by rw [nI_add]; congr 1; omega) (by omega)
    by_cases hc : canM (kV κ 5 0) l (nI h) = true
    · simp only [if_pos hc]
      rw [if_neg (by decide), gdi (by omega), gdi (by omega)]
      by_cases hw : kV κ 5 0 16 l ≤ kV κ 5 0 40 h
      · rw [if_pos hw, if_pos hw]
        exact hch
      · rw [if_neg hw, if_neg hw, gdi (by omega), gdi (by omega), nmE, set5]
    · simp only [if_neg hc, if_true]
      exact hch
theorem chL_2 {μ : MU} {n h s : Nat} : (chL μ n h s).2 = -1 ∨ ∃ g, g < n ∧ (chL μ n h s).2 = nI g ∧ canM μ g (nI h) = true := by
  unfold chL
  cases hf : fstU (fun k => canM μ ((s + k) % n) (nI h)) n with
  | none => exact Or.inl rfl
  | some k =>
    obtain ⟨h1, h2⟩ := fstU_lt hf
    exact Or.inr ⟨(s + k) % n, Nat.mod_lt _ (by omega), rfl, h2⟩
theorem chM_2 {μ : MU} {n h : Nat} (hT : TI μ n) (hh : h < 2) : (chM μ n h).2 = -1 ∨ ∃ g, g < n ∧ (chM μ n h).2 = nI g ∧ canM μ g (nI h) = true := by
  unfold chM
  split
  · exact chL_2
  · rename_i hne
    obtain ⟨l, hl1, hl⟩ := (hT.2.2.2 h hh).resolve_left hne
    dsimp only
    rw [hl, nI_cl (by have := hT.1; omega)]
    split
    · rename_i hc
      split
      · exact chL_2
      · exact Or.inr ⟨l, hl1, rfl, hc⟩
    · exact chL_2
theorem chL_row {μ : MU} {n h s c : Nat} (hc : c ≠ 39 ∧ c ≠ 40) : (chL μ n h s).1 c = μ c := by
  unfold chL
  split
  · dsimp only
    rw [mu_row hc.2, mu_row hc.1]
  · rfl
theorem chM_row {μ : MU} {n h c : Nat} (hc : c ≠ 39 ∧ c ≠ 40) : (chM μ n h).1 c = μ c := by
  unfold chM
  split
  · exact chL_row hc
  · dsimp only
    split
    · split
      · exact chL_row hc
      · exact mu_row hc.2
    · exact chL_row hc
/-- the time that was stolen -/
def stlU (μ : MU) (h : Int32) (g : Nat) : Nat → MU
  | 0 => μ
  | k + 1 => mu (stlU μ h g k) 23 k ((stlU μ h g k) 23 k + (if k = g then 0 else if canM (stlU μ h g k) k h = true then 1 else 0))
theorem stlU_row {μ : MU} {h : Int32} {g c : Nat} (hc : c ≠ 23) : ∀ k, (stlU μ h g k) c = μ c
  | 0 => rfl
  | k + 1 => by
    unfold stlU
    rw [mu_row hc, stlU_row hc k]
theorem m_steal {E : EE} {kk : K → Int32 → Option (K × Unit)} {κ : K} {n h g : Nat} (hn : n ≤ 5) (hG : kV κ 5 0 0 26 = nI n) (hg : g < n) : f_X11_tickOnce_b155 E kk κ (nI h) (nI g) = f_X11_tickOnce_b205 E kk (putM κ (stlU (kV κ 5 0) (nI h) g n)) (nI h) (nI g) := by
  have loop : ∀ (d i m : Nat), i + d = n → d < m → f_X11_tickOnce_b158 E kk m (putM κ (stlU (kV κ 5 0) (nI h) g i)) (nI h) (nI g) (nI i) = f_X11_tickOnce_b205 E kk (putM κ (stlU (kV κ 5 0) (nI h) g n)) (nI h) (nI g) := by
    intro d
    induction d with
    | zero =>
      intro i m hi hm
      obtain ⟨m, rfl⟩ : ∃ q, m = q + 1 := ⟨m - 1, by omega⟩
      rw [f_X11_tickOnce_b158, put_kV, stlU_row (by omega), hG, if_pos (nI_le (by omega) (by omega)), show i = n by omega]
    | succ d ih =>
      intro i m hi hm
      obtain ⟨m, rfl⟩ : ∃ q, m = q + 1 := ⟨m - 1, by omega⟩
      have hr := ih (i + 1) m (by omega) (by omega)
      rw [f_X11_tickOnce_b158, put_kV, stlU_row (by omega), hG, if_neg (by rw [nI_leI (by omega) (by omega)]; omega), if_neg (by rw [nI_m1 (by omega)]; exact id), gd_t (i5 (by omega)), nI_cl (by omega)]
      unfold f_X11_tickOnce_b196 f_X11_tickOnce_b197
      rw [show stlU (kV κ 5 0) (nI h) g (i + 1) = mu (stlU (kV κ 5 0) (nI h) g i) 23 i ((stlU (kV κ 5 0) (nI h) g i) 23 i + (if i = g then 0 else if canM (stlU (kV κ 5 0) (nI h) g i) i (nI h) = true then 1 else 0)) from rfl] at hr
      by_cases hig : i = g
      · rw [if_pos hig] at hr
        rw [if_pos (by rw [hig]), gd_t (i5 (by omega)), nI_cl (by omega), nmE, nmE, nI_1, set5, put_kV, put_put]
        exact hr
      · rw [if_neg hig] at hr
        rw [if_neg (by rw [nI_eq (by omega) (by omega)]; exact hig), m_canRun (by omega), bd_s, put_kV]
        by_cases hc : canM (stlU (kV κ 5 0) (nI h) g i) i (nI h) = true
        · rw [if_pos hc] at hr
          rw [if_pos hc, if_neg (by decide), gd_t (i5 (by omega)), nI_cl (by omega), nmE, nmE, nI_1, set5, put_kV, put_put]
          exact hr
        · rw [if_neg hc] at hr
          rw [if_neg hc, if_pos rfl, gd_t (i5 (by omega)), nI_cl (by omega), nmE, nmE, nI_1, set5, put_kV, put_put]
          exact hr
  have := loop n 0 FU (by omega) (by unfold FU; omega)
  rw [show stlU (kV κ 5 0) (nI h) g 0 = kV κ 5 0 from rfl, put_self] at this
  exact this
theorem m_steal0 {E : EE} {kk : K → Int32 → Option (K × Unit)} {κ : K} {h : Nat} : f_X11_tickOnce_b155 E kk κ (nI h) (-1) = kk κ (nI (h + 1)) := by
  have key : ∀ m x3, f_X11_tickOnce_b158 E kk (m + 1) κ (nI h) (-1) x3 = kk κ (nI (h + 1)) := by
    intro m x3
    rw [f_X11_tickOnce_b158]
    unfold f_X11_tickOnce_b205 f_X11_tickOnce_b215
    rw [if_pos rfl, if_pos rfl, nmE, nI_1]
    split <;> rfl
  exact key 99999 0
def hostM (μ : MU) (n h : Nat) : MU :=
  if μ 38 h = 0 then
    (if (chM μ n h).2 = -1 then (chM μ n h).1
     else runM (stlU (chM μ n h).1 (nI h) (chM μ n h).2.toNatClampNeg n) n (chM μ n h).2.toNatClampNeg h)
  else μ
theorem m_host {E : EE} {κ : K} {n h t m : Nat} (hT : TI (kV κ 5 0) n) (hh : h < 2) (hS : ∀ g, g < n → kV κ 5 0 15 g = nI h → SAY (kV κ 5 0) g t) (ht : t < 3000) : f_X11_tickOnce_b132 E (m + 1) κ (nI h) = f_X11_tickOnce_b132 E m (putM κ (hostM (kV κ 5 0) n h)) (nI (h + 1)) := by
  have hn := hT.1
  rw [f_X11_tickOnce_b132, l2, if_neg (by rw [nI_leI (by omega) (by omega)]; omega), gd_t (iN hh (by omega)), nI_cl (by omega)]
  unfold hostM
  by_cases hf : kV κ 5 0 38 h = 0
  · rw [if_pos hf, if_pos hf, m_chosen hT hh, bd_s]
    rcases chM_2 hT hh with hc | ⟨g, hg, hc, hcan⟩
    · rw [if_pos hc, hc, m_steal0]
    · rw [if_neg (by rw [hc, nI_m1 (by omega)]; exact id), hc, nI_cl (by omega)]
      have hch : kV κ 5 0 15 g = nI h := by
        unfold canM at hcan
        simp only [Bool.and_eq_true, decide_eq_true_eq] at hcan
        exact hcan.1.1
      rw [m_steal hn (by rw [put_kV, chM_row (by omega)]; exact hT.2.1) hg, put_put, put_kV]
      unfold f_X11_tickOnce_b205 f_X11_tickOnce_b215
      rw [if_neg (by rw [nI_m1 (by omega)]; exact id)]
      obtain ⟨g1, g2, g3, -⟩ := hT.2.2.1 g hg
      have er : ∀ c, c ≠ 23 → c ≠ 39 → c ≠ 40 → (stlU (chM (kV κ 5 0) n h).1 (nI h) g n) c = kV κ 5 0 c := fun c c1 c2 c3 => (stlU_row c1 n).trans (chM_row ⟨c2, c3⟩)
      have hrun := m_run (E := E) (κ := putM κ (stlU (chM (kV κ 5 0) n h).1 (nI h) g n)) (n := n) (g := g) (h := h) hn (by rw [put_kV, er 0 (by omega) (by omega) (by omega)]; exact hT.2.1) (by omega) hh (by rw [put_kV, er 15 (by omega) (by omega) (by omega)]; exact hch) (by rw [put_kV]; exact ROK_row g1 (er 1 (by omega) (by omega) (by omega))) (by rw [put_kV]; exact KOK_row ((hS g hg hch).kok g3 ht) (er 27 (by omega) (by omega) (by omega)) (er 28 (by omega) (by omega) (by omega)) (er 35 (by omega) (by omega) (by omega)) (er 37 (by omega) (by omega) (by omega))) (by rw [put_kV]; unfold PRG; rw [er 13 (by omega) (by omega) (by omega), er 14 (by omega) (by omega) (by omega)]; exact g2)
      rw [hrun, bd_s, put_kV, put_put, nmE, nI_1]
  · rw [if_neg hf, if_neg hf, m_steal0, put_self]
/-- timers go off, sleepers wake -/
def wkM (μ : MU) (g : Nat) : MU :=
  let μ1 := if μ 1 (55 * g + 50) = μ 0 41 + 1 then mu (mu μ 1 (55 * g + 50) (-1)) 1 (55 * g + 51) 1 else μ
  mu μ1 1 (55 * g + 49) (if μ1 1 (55 * g + 49) = 1 then (if μ1 1 (55 * g + 51) = 1 then 0 else if μ1 1 (55 * g + 52) = 1 then 0 else μ1 1 (55 * g + 49)) else μ1 1 (55 * g + 49))
def wkU (μ : MU) : Nat → MU
  | 0 => μ
  | g + 1 => wkM (wkU μ g) g
theorem wkM_row {μ : MU} {g c : Nat} (hc : c ≠ 1) : (wkM μ g) c = μ c := by
  unfold wkM
  rw [mu_row hc]
  split
  · rw [mu_row hc, mu_row hc]
  · rfl
theorem wkU_row {μ : MU} {c : Nat} (hc : c ≠ 1) : ∀ g, (wkU μ g) c = μ c
  | 0 => rfl
  | g + 1 => by
    unfold wkU
    rw [wkM_row hc, wkU_row hc g]
theorem m_wake {E : EE} {κ : K} {n : Nat} (hn : n ≤ 5) (hG : kV κ 5 0 0 26 = nI n) : f_X11_tickOnce_b2 E FU κ 0 = f_X11_tickOnce_b130 E (putM κ (wkU (kV κ 5 0) n)) := by
  have loop : ∀ (d i m : Nat), i + d = n → d < m → f_X11_tickOnce_b2 E m (putM κ (wkU (kV κ 5 0) i)) (nI i) = f_X11_tickOnce_b130 E (putM κ (wkU (kV κ 5 0) n)) := by
    intro d
    induction d with
    | zero =>
      intro i m hi hm
      obtain ⟨m, rfl⟩ : ∃ q, m = q + 1 := ⟨m - 1, by omega⟩
      rw [f_X11_tickOnce_b2, put_kV, wkU_row (by omega), hG, if_pos (nI_le (by omega) (by omega)), show i = n by omega]
    | succ d ih =>
      intro i m hi hm
      obtain ⟨m, rfl⟩ : ∃ q, m = q + 1 := ⟨m - 1, by omega⟩
      have hr := ih (i + 1) m (by omega) (by omega)
      rw [f_X11_tickOnce_b2, put_kV, wkU_row (by omega), hG, if_neg (by rw [nI_leI (by omega) (by omega)]; omega)]
      rw [show wkU (kV κ 5 0) (i + 1) = wkM (wkU (kV κ 5 0) i) i from rfl] at hr
      have e0 : kV κ 5 0 0 41 = (wkU (kV κ 5 0) i) 0 41 := by rw [wkU_row (by omega)]
      rw [e0]
      generalize wkU (kV κ 5 0) i = μ at hr ⊢
      have tail : ∀ μ1 : MU, f_X11_tickOnce_b2 E m (putM κ (mu μ1 1 (55 * i + 49) (if μ1 1 (55 * i + 49) = 1 then (if μ1 1 (55 * i + 51) = 1 then 0 else if μ1 1 (55 * i + 52) = 1 then 0 else μ1 1 (55 * i + 49)) else μ1 1 (55 * i + 49)))) (nI (i + 1)) = f_X11_tickOnce_b130 E (putM κ (wkU (kV κ 5 0) n)) → f_X11_tickOnce_b53 E (f_X11_tickOnce_b2 E m) (putM κ μ1) (nI i) (nI (55 * i)) = f_X11_tickOnce_b130 E (putM κ (wkU (kV κ 5 0) n)) := by
        intro μ1 hz
        unfold f_X11_tickOnce_b53 f_X11_tickOnce_b92 f_X11_tickOnce_b96 f_X11_tickOnce_b97 f_X11_tickOnce_b123
        simp (disch := omega) only [nmE, l2, l3, l4, l5, l6, l7, l8, l9, l13, l16, l17, l31, l49, l50, l51, l52, l53, l54, l55, l72, l512, l3000, nI_mul, nI_add, nI_1, nI_cl, gdi, set5, put_kV, put_put, bd_s]
        by_cases h49 : μ1 1 (55 * i + 49) = 1
        · rw [if_pos h49] at hz
          rw [if_pos h49]
          by_cases h51 : μ1 1 (55 * i + 51) = 1
          · rw [if_pos h51] at hz
            rw [if_pos h51, if_neg (by decide)]
            exact hz
          · rw [if_neg h51] at hz
            rw [if_neg h51]
            by_cases h52 : μ1 1 (55 * i + 52) = 1
            · rw [if_pos h52] at hz
              rw [if_pos h52, if_neg (by decide)]
              exact hz
            · rw [if_neg h52] at hz
              rw [if_neg h52, if_pos trivial]
              exact hz
        · rw [if_neg h49] at hz
          rw [if_neg h49, if_pos trivial]
          exact hz
      simp (disch := omega) only [nmE, l2, l3, l4, l5, l6, l7, l8, l9, l13, l16, l17, l31, l49, l50, l51, l52, l53, l54, l55, l72, l512, l3000, nI_mul, nI_add, nI_1, nI_cl, gdi, set5, put_kV, put_put, bd_s]
      unfold wkM at hr
      by_cases h50 : μ 1 (55 * i + 50) = μ 0 41 + 1
      · rw [if_pos h50] at hr
        rw [if_pos h50]
        exact tail _ hr
      · rw [if_neg h50] at hr
        rw [if_neg h50]
        exact tail _ hr
  have := loop n 0 FU (by omega) (by unfold FU; omega)
  rw [show wkU (kV κ 5 0) 0 = kV κ 5 0 from rfl, put_self] at this
  exact this
