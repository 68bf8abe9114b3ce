theorem mu_self {μ : MU} {c k : Nat} {x : Int32} (h : μ c k = x) : mu μ c k x = μ := by
  funext c' k'
  unfold mu
  split
  · rename_i e; rw [e.1, e.2]; exact h.symm
  · rfl
theorem mu_mu {μ : MU} {c k : Nat} {x y : Int32} : mu (mu μ c k x) c k y = mu μ c k y := by
  funext c' k'
  unfold mu
  split <;> rfl
theorem RH_key {w μ : MU} {n h key : Nat} (hR : RH w μ n h) (hk : key < 40) (hg : key / 8 < n) (hh : μ 15 (key / 8) = nI h) : w 1 key = μ 28 key := by
  rw [hR.1 key hk, if_pos ⟨hg, hh⟩]
theorem oldU_but {μ : MU} {h : Nat} {but : Int32} : ∀ i, oldU μ h but i = -1 ∨ oldU μ h but i ≠ but
  | 0 => Or.inl rfl
  | i + 1 => by
    have ih := oldU_but (μ := μ) (h := h) (but := but) i
    rw [oldU_s]
    split
    · exact ih
    · rename_i e
      split
      · exact Or.inr e
      · split
        · exact ih
        · exact Or.inr e
theorem oldU_16 (μ : MU) (h : Nat) (but : Int32) : ∃ o, o < 16 ∧ oldU μ h but 16 = nI o ∧ nI o ≠ but := by
  obtain ⟨o, h1, h2⟩ := oldU_ne μ h but 14 (by omega)
  refine ⟨o, h1, h2, ?_⟩
  rcases oldU_but (μ := μ) (h := h) (but := but) 16 with e | e
  · rw [show (16 : Nat) = 14 + 2 from rfl, h2, nI_m1 (by omega)] at e; exact e.elim
  · rw [show (16 : Nat) = 14 + 2 from rfl, h2] at e; exact e
/-- the frame that is taken, and what the model's rows are then -/
theorem frM_key {μ : MU} {n h key : Nat} {but : Int32} (hk : μ 28 key = -1 ∨ μ 28 key = but) : (frM μ n h but).1 28 key = μ 28 key ∧ (frM μ n h but).1 27 key = μ 27 key := by
  unfold frM
  cases fstU (freeU μ n (nI h)) 16 with
  | some f => exact ⟨rfl, rfl⟩
  | none =>
    dsimp only
    obtain ⟨o, h1, h2, h3⟩ := oldU_16 μ h but
    have hz : onF μ (nI h) (oldU μ h but 16) key = false := by
      unfold onF
      rw [h2, decide_eq_false (p := μ 28 key = nI o) (fun z => by
        rcases hk with e | e
        · rw [e, m1_nI (by omega)] at z; exact z
        · rw [e] at z; exact h3 z.symm), Bool.and_false]
    obtain ⟨e1, e2⟩ := swapU_28 (μ := μ) (h := nI h) (f := oldU μ h but 16) (k := key) (8 * n)
    rw [e1, e2, if_neg (by rw [hz]; exact fun z => Bool.false_ne_true z.2), if_neg (by rw [hz]; exact fun z => Bool.false_ne_true z.2)]
    exact ⟨rfl, rfl⟩
theorem RH_holdH {w μ : MU} {n h key : Nat} {s : Int32} (hn : n ≤ 5) (hh2 : h < 2) (hR : RH w μ n h) (hk : key < 40) (hg : key / 8 < n) (hh : μ 15 (key / 8) = nI h) (hw : w 1 key = -1) : RH (holdH w key s) (mu (mu (frM μ n h s).1 28 key (frM μ n h s).2) 29 (16 * h + (frM μ n h s).2.toNatClampNeg) (w 0 5)) n h := by
  have h28 : μ 28 key = -1 := (RH_key hR hk hg hh).symm.trans hw
  unfold holdH frM
  rw [RH_low hn hR]
  cases hl : lowF w with
  | some f =>
    have hf := (fstU_lt hl).1
    dsimp only
    rw [nI_cl (by omega)]
    unfold putH
    dsimp only
    rw [mu_row (show (0 : Nat) ≠ 2 by omega), mu_row (show (0 : Nat) ≠ 1 by omega), mu_row (show (2 : Nat) ≠ 1 by omega)]
    exact RH_use (RH_put hR hk hg hh hf hw) hf
  | none =>
    dsimp only
    rw [RH_old hR]
    obtain ⟨o, h1, h2, _⟩ := oldU_16 μ h s
    rw [h2, nI_cl (by omega)]
    have hR2 := RH_swap hn h1 hR
    have h15 : (swapU μ (nI h) (nI o) (8 * n)) 15 = μ 15 := swapU_row (by omega) _
    have hw2 : (mvH w o (-1)) 1 key = -1 := by
      rw [mvH_1 hk, hw, if_neg (by rw [m1_nI (by omega)]; exact id)]
    unfold putH
    dsimp only
    rw [mu_row (show (0 : Nat) ≠ 2 by omega), mu_row (show (0 : Nat) ≠ 1 by omega), mu_row (show (2 : Nat) ≠ 1 by omega)]
    have e0 : (mvH w o (-1)) 0 = w 0 := by
      unfold mvH
      rw [mu_row (by omega), mvU_row (by omega)]
    rw [e0]
    exact RH_use (RH_put hR2 hk hg (by rw [h15]; exact hh) h1 hw2) h1
/-- a frame that two hold is left: what is free is the same -/
theorem frM_left {w μ : MU} {n h key f : Nat} (hn : n ≤ 5) (hh2 : h < 2) (hR : RH w μ n h) (hk : key < 40) (hg : key / 8 < n) (hh : μ 15 (key / 8) = nI h) (hf : f < 16) (h28 : μ 28 key = nI f) (h2 : ¬ holdM μ n (nI h) (nI f) ≤ 1) :
    (frM (mu μ 28 key (-1)) n h (nI f)).2 = (frM μ n h (nI f)).2 ∧ (∀ x, (mu (frM (mu μ 28 key (-1)) n h (nI f)).1 28 key x) 28 = (mu (frM μ n h (nI f)).1 28 key x) 28) := by
  have hw : w 1 key = nI f := (RH_key hR hk hg hh).trans h28
  have hRa := RH_leave hR hk hf hw
  have e2 : ∀ f2, f2 < 16 → freeU (mu μ 28 key (-1)) n (nI h) f2 = freeU μ n (nI h) f2 := by
    intro f2 hf2
    rw [RH_free hn hf2 hRa, RH_free hn hf2 hR]
    unfold leaveH
    rw [if_neg (by rw [hw, nI_m1 (by omega)]; exact id), hw, nI_cl (by omega), mu_row (show (2 : Nat) ≠ 1 by omega)]
    by_cases e : f2 = f
    · subst e
      rw [muS ⟨rfl, rfl⟩]
      rw [RH_hold hn hf2 hR] at h2
      rw [hR.2.1 f2 hf2] at h2 ⊢
      have hc := cntU_le (inF w (nI f2)) 40
      rw [i32_1, nI_le' (by omega) (by omega)] at h2
      rw [i32_1, nI_sub (by omega), decide_eq_false (by rw [nI_e0 (by omega)]; omega), decide_eq_false (by rw [nI_e0 (by omega)]; omega)]
    · rw [muD (by omega)]
  have e3 : ∀ i, oldU (mu μ 28 key (-1)) h (nI f) i = oldU μ h (nI f) i := by
    intro i
    induction i with
    | zero => rfl
    | succ i ih => rw [oldU_s, oldU_s, ih, mu_row (show (29 : Nat) ≠ 28 by omega)]
  unfold frM
  rw [fstU_congr e2]
  cases fstU (freeU μ n (nI h)) 16 with
  | some f2 =>
    refine ⟨rfl, fun x => ?_⟩
    dsimp only
    rw [mu_mu]
  | none =>
    dsimp only
    rw [e3]
    refine ⟨rfl, fun x => ?_⟩
    obtain ⟨o, h1, h2, h3⟩ := oldU_16 μ h (nI f)
    rw [h2]
    funext k
    by_cases e : k = key
    · subst e; rw [muS ⟨rfl, rfl⟩, muS ⟨rfl, rfl⟩]
    · rw [muD (by omega), muD (by omega), (swapU_28 (8 * n)).1, (swapU_28 (8 * n)).1]
      have ek : onF (mu μ 28 key (-1)) (nI h) (nI o) k = onF μ (nI h) (nI o) k := by
        unfold onF
        rw [mu_row (show (15 : Nat) ≠ 28 by omega), muD (by omega)]
      rw [ek, muD (by omega)]
theorem holdH_0 {w : MU} {key : Nat} {s : Int32} : (holdH w key s) 0 = w 0 := by
  have put0 : ∀ (w : MU) (f : Nat), (putH w key f) 0 = w 0 := fun w f => by
    unfold putH
    try dsimp only
    rw [mu_row (by omega), mu_row (by omega), mu_row (by omega)]
  unfold holdH
  cases lowF w with
  | some f => exact put0 w f
  | none =>
    dsimp only
    rw [put0]
    unfold mvH
    rw [mu_row (by omega), mvU_row (by omega)]
theorem leaveH_0 {w : MU} {key : Nat} : (leaveH w key) 0 = w 0 := by
  unfold leaveH
  split
  · rfl
  · rw [mu_row (by omega), mu_row (by omega)]
def touchP (μ : MU) (n g page : Nat) (w : Int32) (h : Nat) : MU :=
  if μ 27 (8 * g + page) = 1 then
    (if w = 0 then μ else if holdM μ n (nI h) (μ 28 (8 * g + page)) ≤ 1 then μ
     else
       let r := frM μ n h (μ 28 (8 * g + page))
       mu (mu r.1 25 (6 * g + 2) (r.1 25 (6 * g + 2) + 1)) 28 (8 * g + page) r.2)
  else
    let r := frM μ n h (-1)
    let k := if r.1 27 (8 * g + page) = 0 then 6 * g else 6 * g + 1
    mu (mu (mu r.1 25 k (r.1 25 k + 1)) 27 (8 * g + page) 1) 28 (8 * g + page) r.2
theorem touch_P {μ : MU} {n g page h : Nat} {w : Int32} : touchM μ n g page w h = markM (touchP μ n g page w h) g page w h := by
  unfold touchM touchP
  split
  · split
    · rfl
    · split <;> rfl
  · rfl
theorem fr_27 {μ : MU} {n h key : Nat} {but : Int32} (hF : FRM μ n) (hk : key / 8 < n) : ((frM μ n h but).1 27 key = 0 ↔ μ 27 key = 0) := by
  unfold frM
  cases fstU (freeU μ n (nI h)) 16 with
  | some f => exact Iff.rfl
  | none =>
    dsimp only
    rw [(swapU_28 (8 * n)).2]
    split
    · rename_i e
      obtain ⟨o, h1, h2, _⟩ := oldU_16 μ h but
      rw [h2] at e
      have e2 := e.2
      unfold onF at e2
      rw [Bool.and_eq_true] at e2
      have e3 := of_decide_eq_true e2.2
      rcases hF key hk with ⟨z, _⟩ | ⟨_, z⟩
      · rw [z]; exact ⟨fun y => absurd y (by decide), fun y => absurd y (by decide)⟩
      · rw [z, m1_nI (by omega)] at e3; exact e3.elim
    · exact Iff.rfl
theorem fr_28 {μ : MU} {n h key : Nat} {but : Int32} (hh : μ 15 (key / 8) ≠ nI h) : (frM μ n h but).1 28 key = μ 28 key := by
  unfold frM
  cases fstU (freeU μ n (nI h)) 16 with
  | some f => rfl
  | none =>
    dsimp only
    rw [(swapU_28 (8 * n)).1, if_neg]
    intro z
    have e2 := z.2
    unfold onF at e2
    rw [Bool.and_eq_true] at e2
    exact hh (of_decide_eq_true e2.1)
theorem FRM_fr {μ : MU} {n h : Nat} {but : Int32} (hF : FRM μ n) : FRM (frM μ n h but).1 n := by
  unfold frM
  cases fstU (freeU μ n (nI h)) 16 with
  | some f => exact hF
  | none => exact FRM_swap hF
theorem FRM_row {μ μ' : MU} {n : Nat} (hF : FRM μ n) (e27 : μ' 27 = μ 27) (e28 : μ' 28 = μ 28) : FRM μ' n := fun key hk => by rw [e27, e28]; exact hF key hk
theorem FRM_set1 {μ : MU} {n key f : Nat} (hF : FRM μ n) (hf : f < 16) (h1 : μ 27 key = 1) : FRM (mu μ 28 key (nI f)) n := by
  intro k2 hk2
  by_cases e : k2 = key
  · subst e
    exact Or.inl ⟨by rw [mu_row (by omega)]; exact h1, f, hf, muS ⟨rfl, rfl⟩⟩
  · rw [mu_row (show (27 : Nat) ≠ 28 by omega), muD (by omega)]
    exact hF k2 hk2
theorem FRM_27 {μ : MU} {n key f : Nat} (hF : FRM μ n) (hf : f < 16) : FRM (mu (mu μ 27 key 1) 28 key (nI f)) n := by
  intro k2 hk2
  by_cases e : k2 = key
  · subst e
    exact Or.inl ⟨by rw [mu_row (by omega)]; exact muS ⟨rfl, rfl⟩, f, hf, muS ⟨rfl, rfl⟩⟩
  · rw [mu_row (show (27 : Nat) ≠ 28 by omega), muD (by omega), muD (by omega), mu_row (show (28 : Nat) ≠ 27 by omega)]
    exact hF k2 hk2
theorem FRM_0 {μ : MU} {n key : Nat} (hF : FRM μ n) : FRM (mu (mu μ 27 key 0) 28 key (-1)) n := by
  intro k2 hk2
  by_cases e : k2 = key
  · subst e
    exact Or.inr ⟨Or.inl (by rw [mu_row (by omega)]; exact muS ⟨rfl, rfl⟩), muS ⟨rfl, rfl⟩⟩
  · rw [mu_row (show (27 : Nat) ≠ 28 by omega), muD (by omega), muD (by omega), mu_row (show (28 : Nat) ≠ 27 by omega)]
    exact hF k2 hk2
/-- what a touch leaves to others -/
theorem tP_oth {μ : MU} {n g page h : Nat} {w : Int32} (hp : page < 8) (hF : FRM μ n) (hh : μ 15 g = nI h) (hh2 : h < 2) :
    (∀ key, key / 8 < n → key ≠ 8 * g + page → ((touchP μ n g page w h) 27 key = 0 ↔ μ 27 key = 0)) ∧
    (∀ key, μ 15 (key / 8) ≠ nI h → (touchP μ n g page w h) 28 key = μ 28 key) ∧
    (∀ k, k / 6 ≠ g → (touchP μ n g page w h) 25 k = μ 25 k) ∧
    (∀ c, c ≠ 25 → c ≠ 27 → c ≠ 28 → (touchP μ n g page w h) c = μ c) ∧
    FRM (touchP μ n g page w h) n := by
  have hg8 : ∀ key, μ 15 (key / 8) ≠ nI h → key ≠ 8 * g + page := fun key z e => z (by rw [e, show (8 * g + page) / 8 = g from by omega]; exact hh)
  unfold touchP
  by_cases h1 : μ 27 (8 * g + page) = 1
  · rw [if_pos h1]
    split
    · exact ⟨fun _ _ _ => Iff.rfl, fun _ _ => rfl, fun _ _ => rfl, fun _ _ _ _ => rfl, hF⟩
    · split
      · exact ⟨fun _ _ _ => Iff.rfl, fun _ _ => rfl, fun _ _ => rfl, fun _ _ _ _ => rfl, hF⟩
      · dsimp only
        refine ⟨fun key hk hne => ?_, fun key hk => ?_, fun k hk => ?_, fun c c1 c2 c3 => ?_, ?_⟩
        · rw [mu_row (by omega), mu_row (by omega)]; exact fr_27 hF hk
        · rw [muD (by have := hg8 key hk; omega), mu_row (by omega)]; exact fr_28 hk
        · rw [mu_row (by omega), muD (by omega), frM_row _ _ _ _ (by omega)]
        · rw [mu_row c3, mu_row c1, frM_row _ _ _ _ (by omega)]
        · obtain ⟨f, hf, e⟩ := frM_2 μ n h (μ 28 (8 * g + page))
          rw [e]
          refine FRM_set1 (FRM_row (FRM_fr hF) (mu_row (by omega)) (mu_row (by omega))) hf ?_
          rw [mu_row (by omega), (frM_key (Or.inr rfl)).2]
          exact h1
  · rw [if_neg h1]
    dsimp only
    refine ⟨fun key hk hne => ?_, fun key hk => ?_, fun k hk => ?_, fun c c1 c2 c3 => ?_, ?_⟩
    · rw [mu_row (by omega), muD (by omega), mu_row (by omega)]; exact fr_27 hF hk
    · rw [muD (by have := hg8 key hk; omega), mu_row (by omega), mu_row (by omega)]; exact fr_28 hk
    · rw [mu_row (by omega), mu_row (by omega), muD (by split <;> omega), frM_row _ _ _ _ (by omega)]
    · rw [mu_row c3, mu_row c2, mu_row c1, frM_row _ _ _ _ (by omega)]
    · obtain ⟨f, hf, e⟩ := frM_2 μ n h (-1)
      rw [e]
      exact FRM_27 (FRM_row (FRM_fr hF) (mu_row (by omega)) (mu_row (by omega))) hf
theorem touch_oth {μ : MU} {n g page h : Nat} {w : Int32} (hp : page < 8) (hF : FRM μ n) (hh : μ 15 g = nI h) (hh2 : h < 2) (hk1 : ∃ j, j < 16 ∧ (touchP μ n g page w h) 28 (8 * g + page) = nI j) :
    (∀ key, key / 8 < n → key ≠ 8 * g + page → ((touchM μ n g page w h) 27 key = 0 ↔ μ 27 key = 0)) ∧
    (∀ k, k / 6 ≠ g → (touchM μ n g page w h) 25 k = μ 25 k) ∧ (∀ k, k ≠ g → (touchM μ n g page w h) 31 k = μ 31 k) ∧
    FRM (touchM μ n g page w h) n ∧
    (∀ h2 w2, h2 < 2 → h2 ≠ h → RH w2 μ n h2 → RH w2 (touchM μ n g page w h) n h2) := by
  obtain ⟨p1, p2, p3, p4, p5⟩ := tP_oth (w := w) hp hF hh hh2
  have m : ∀ c, c ≠ 29 → c ≠ 31 → (touchM μ n g page w h) c = (touchP μ n g page w h) c := fun c c1 c2 => by
    rw [touch_P]; exact mark_row ⟨c1, c2⟩
  refine ⟨fun key a b => by rw [m 27 (by omega) (by omega)]; exact p1 key a b, fun k a => by rw [m 25 (by omega) (by omega)]; exact p3 k a, fun k a => ?_, FRM_row p5 (m 27 (by omega) (by omega)) (m 28 (by omega) (by omega)), fun h2 w2 hb hne hR => ?_⟩
  · rw [touch_P]
    unfold markM
    try dsimp only
    rw [muD (by omega), mu_row (by omega)]
    exact congrFun (p4 31 (by omega) (by omega) (by omega)) k
  · refine RH_congr hR (fun g2 _ => by rw [m 15 (by omega) (by omega), p4 15 (by omega) (by omega) (by omega)]) (fun key hk h15 => ?_) (fun f hf => ?_)
    · rw [m 28 (by omega) (by omega)]
      exact p2 key (fun z => hne (by rw [z, nI_eq' (by omega) (by omega)] at h15; exact h15.symm))
    · obtain ⟨j, hj, ej⟩ := hk1
      rw [touch_P]
      unfold markM
      try dsimp only
      rw [mu_row (by omega), ej, nI_cl (by omega), muD (by omega)]
      exact congrFun (p4 29 (by omega) (by omega) (by omega)) _
