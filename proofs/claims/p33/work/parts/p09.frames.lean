theorem fstU_ext {p q : Nat → Bool} {N M : Nat} (hNM : N ≤ M) (h1 : ∀ j, j < N → p j = q j) (h2 : ∀ j, N ≤ j → j < M → q j = false) : fstU p N = fstU q M := by
  cases h : fstU p N with
  | some j =>
    obtain ⟨a, b⟩ := fstU_lt h
    refine (fstU_eq (by omega) (by rw [← h1 j a]; exact b) (fun i hi => ?_)).symm
    rw [← h1 i (by omega)]
    exact fstU_min h i hi
  | none =>
    cases hq : fstU q M with
    | none => rfl
    | some j =>
      obtain ⟨a, b⟩ := fstU_lt hq
      by_cases hj : j < N
      · rw [← h1 j hj, fstU_none h j hj] at b; cases b
      · rw [h2 j (by omega) a] at b; cases b
theorem cntU_ext {p q : Nat → Bool} {N : Nat} (h1 : ∀ j, j < N → p j = q j) : ∀ d, (∀ j, N ≤ j → j < N + d → q j = false) → cntU p N = cntU q (N + d)
  | 0, _ => cntU_congr h1
  | d + 1, h2 => by
    rw [cntU_ext h1 d (fun j a b => h2 j a (by omega))]
    show cntU q (N + d) = cntU q (N + d) + (if q (N + d) = true then 1 else 0)
    rw [h2 (N + d) (by omega) (by omega)]
    rfl
theorem cntU_0 {p : Nat → Bool} : ∀ {n : Nat}, cntU p n = 0 ↔ ∀ j, j < n → p j = false
  | 0 => ⟨fun _ j h => absurd h (Nat.not_lt_zero j), fun _ => rfl⟩
  | n + 1 => by
    have ih := cntU_0 (p := p) (n := n)
    constructor
    · intro h j hj
      unfold cntU at h
      by_cases e : p n = true
      · rw [if_pos e] at h; omega
      · rw [if_neg e] at h
        by_cases hjn : j = n
        · subst hjn; exact Bool.eq_false_iff.mpr e
        · exact ih.mp (by omega) j (by omega)
    · intro h
      unfold cntU
      rw [ih.mpr (fun j hj => h j (by omega)), if_neg (by rw [h n (by omega)]; decide)]
theorem cntU_one {p q : Nat → Bool} {k : Nat} (hp : p k = false) (hq : q k = true) (h : ∀ j, j ≠ k → p j = q j) : ∀ {n : Nat}, cntU q n = cntU p n + (if k < n then 1 else 0)
  | 0 => rfl
  | n + 1 => by
    have ih := cntU_one hp hq h (n := n)
    unfold cntU
    rw [ih]
    by_cases e : n = k
    · subst e
      rw [hp, hq, if_neg (by omega), if_pos rfl, if_neg (by decide), if_pos (by omega)]
    · rw [h n e]
      by_cases hk : k < n
      · have hk2 : k < n + 1 := by omega
        simp only [hk, hk2, if_true]; omega
      · have hk2 : ¬ k < n + 1 := by omega
        simp only [hk, hk2, if_false]; omega
/-- a host of the class's against the model's rows -/
def RH (w μ : MU) (n h : Nat) : Prop := (∀ key, key < 40 → w 1 key = if key / 8 < n ∧ μ 15 (key / 8) = nI h then μ 28 key else -1) ∧ (∀ f, f < 16 → w 2 f = nI (cntU (inF w (nI f)) 40)) ∧ ∀ f, f < 16 → w 3 f = μ 29 (16 * h + f)
/-- the model's pages: held in a frame, or in none -/
def FRM (μ : MU) (n : Nat) : Prop := ∀ key, key / 8 < n → (μ 27 key = 1 ∧ ∃ f, f < 16 ∧ μ 28 key = nI f) ∨ ((μ 27 key = 0 ∨ μ 27 key = 2) ∧ μ 28 key = -1)
theorem RH_pred {w μ : MU} {n h f : Nat} (hn : n ≤ 5) (hf : f < 2147483648) (hR : RH w μ n h) : (∀ j, j < 8 * n → onF μ (nI h) (nI f) j = inF w (nI f) j) ∧ ∀ j, 8 * n ≤ j → j < 40 → inF w (nI f) j = false := by
  constructor
  · intro j hj
    unfold onF inF
    rw [hR.1 j (by omega)]
    by_cases e : μ 15 (j / 8) = nI h
    · rw [if_pos ⟨by omega, e⟩]; simp [e]
    · rw [if_neg (fun z => e z.2)]
      simp only [e, decide_false, Bool.false_and]
      exact (decide_eq_false (by rw [m1_nI hf]; exact id)).symm
  · intro j h1 h2
    unfold inF
    rw [hR.1 j h2, if_neg (fun z => absurd z.1 (by omega))]
    exact decide_eq_false (by rw [m1_nI hf]; exact id)
theorem RH_page {w μ : MU} {n h f : Nat} (hn : n ≤ 5) (hf : f < 2147483648) (hR : RH w μ n h) : pageM μ n (nI h) (nI f) = pgI (fstU (inF w (nI f)) 40) := by
  obtain ⟨h1, h2⟩ := RH_pred hn hf hR
  unfold pageM
  rw [fstU_ext (by omega) h1 h2]
theorem RH_hold {w μ : MU} {n h f : Nat} (hn : n ≤ 5) (hf : f < 16) (hR : RH w μ n h) : holdM μ n (nI h) (nI f) = w 2 f := by
  obtain ⟨h1, h2⟩ := RH_pred (f := f) hn (by omega) hR
  unfold holdM
  rw [hR.2.1 f hf]
  congr 1
  have := cntU_ext h1 (40 - 8 * n) (fun j a b => h2 j a (by omega))
  rw [show 8 * n + (40 - 8 * n) = 40 by omega] at this
  exact this
theorem RH_free {w μ : MU} {n h f : Nat} (hn : n ≤ 5) (hf : f < 16) (hR : RH w μ n h) : freeU μ n (nI h) f = decide (w 2 f = 0) := by
  unfold freeU
  rw [RH_page hn (by omega) hR, hR.2.1 f hf]
  have hle := cntU_le (inF w (nI f)) 40
  cases hq : fstU (inF w (nI f)) 40 with
  | some j =>
    obtain ⟨a, b⟩ := fstU_lt hq
    have hne : cntU (inF w (nI f)) 40 ≠ 0 := fun z => by rw [cntU_0.mp z j a] at b; cases b
    rw [decide_eq_false (by show ¬ nI j = -1; rw [nI_m1 (by omega)]; exact id), decide_eq_false (by rw [nI_e0 (by omega)]; exact hne)]
  | none =>
    rw [cntU_0.mpr (fstU_none hq)]
    rfl
theorem RH_low {w μ : MU} {n h : Nat} (hn : n ≤ 5) (hR : RH w μ n h) : fstU (freeU μ n (nI h)) 16 = lowF w := fstU_congr fun f hf => RH_free hn hf hR
theorem obU_s {w : MU} {s st : Int32} {i : Nat} : obU w s st (i + 1) = if nI i = s then obU w s st i else if w 3 (obU w s st i).toNatClampNeg ≤ w 3 i then obU w s st i else nI i := rfl
theorem oldU_s {μ : MU} {h : Nat} {s : Int32} {i : Nat} : oldU μ h s (i + 1) = if nI i = s then oldU μ h s i else if oldU μ h s i = -1 then nI i else if μ 29 (16 * h + (oldU μ h s i).toNatClampNeg) ≤ μ 29 (16 * h + i) then oldU μ h s i else nI i := rfl
theorem RH_old {w μ : MU} {n h : Nat} (hR : RH w μ n h) {s : Int32} : oldB w s = oldU μ h s 16 := by
  have hU := hR.2.2
  have st : ∀ st : Nat, st < 16 → ∀ i, i + 2 ≤ 16 → obU w s (nI st) (i + 2) = oldU μ h s (i + 2) ∨ obU w s (nI st) 2 ≠ oldU μ h s 2 := by
    intro st hst i
    induction i with
    | zero =>
      intro _
      by_cases e : obU w s (nI st) 2 = oldU μ h s 2
      · exact Or.inl e
      · exact Or.inr e
    | succ i ih =>
      intro hi
      rcases ih (by omega) with e | e
      · refine Or.inl ?_
        obtain ⟨j, hj, ej⟩ := oldU_ne μ h s i (by omega)
        show (if nI (i + 2) = s then obU w s (nI st) (i + 2) else if w 3 (obU w s (nI st) (i + 2)).toNatClampNeg ≤ w 3 (i + 2) then obU w s (nI st) (i + 2) else nI (i + 2)) = (if nI (i + 2) = s then oldU μ h s (i + 2) else if oldU μ h s (i + 2) = -1 then nI (i + 2) else if μ 29 (16 * h + (oldU μ h s (i + 2)).toNatClampNeg) ≤ μ 29 (16 * h + (i + 2)) then oldU μ h s (i + 2) else nI (i + 2))
        rw [e, ej, nI_cl (by omega), hU j (by omega), hU (i + 2) (by omega)]
        split
        · rfl
        · rw [if_neg (show ¬ nI j = -1 by rw [nI_m1 (by omega)]; exact id)]
      · exact Or.inr e
  unfold oldB
  by_cases h0 : s = 0
  · rw [if_pos h0]
    refine (st 1 (by omega) 14 (by omega)).resolve_right (fun z => z ?_)
    subst h0
    have o1 : oldU μ h 0 1 = -1 := by rw [oldU_s, if_pos (by decide)]; rfl
    have b1 : obU w 0 (nI 1) 1 = nI 1 := by rw [obU_s, if_pos (by decide)]; rfl
    have n1 : ¬ nI 1 = 0 := by decide
    rw [obU_s, if_neg n1, oldU_s, if_neg n1, b1, o1, if_pos (show (-1 : Int32) = -1 from rfl)]
    split <;> rfl
  · rw [if_neg h0]
    refine (st 0 (by omega) 14 (by omega)).resolve_right (fun z => z ?_)
    have h0' : ¬ nI 0 = s := fun z => h0 (by rw [← z]; rfl)
    have o1 : oldU μ h s 1 = nI 0 := by
      rw [oldU_s, if_neg h0', if_pos (show oldU μ h s 0 = -1 from rfl)]
    have b1 : obU w s (nI 0) 1 = nI 0 := by
      rw [obU_s, if_neg h0']
      split <;> rfl
    rw [obU_s, oldU_s, b1, o1, nI_cl (by omega), hU 0 (by omega), hU 1 (by omega)]
    split
    · rfl
    · rw [if_neg (show ¬ nI 0 = -1 by decide)]
/-! the model swaps a frame out, the class moves its pages -/
theorem swapU_28 {μ : MU} {h f : Int32} {k : Nat} : ∀ p, (swapU μ h f p) 28 k = (if k < p ∧ onF μ h f k = true then -1 else μ 28 k) ∧ (swapU μ h f p) 27 k = (if k < p ∧ onF μ h f k = true then 2 else μ 27 k)
  | 0 => ⟨by rw [if_neg (fun z => absurd z.1 (Nat.not_lt_zero k))]; rfl, by rw [if_neg (fun z => absurd z.1 (Nat.not_lt_zero k))]; rfl⟩
  | p + 1 => by
    obtain ⟨i1, i2⟩ := swapU_28 (μ := μ) (h := h) (f := f) (k := k) p
    have ep : onF (swapU μ h f p) h f p = onF μ h f p := by
      have := (swapU_28 (μ := μ) (h := h) (f := f) (k := p) p).1
      rw [if_neg (fun z => absurd z.1 (Nat.lt_irrefl p))] at this
      unfold onF
      rw [this, swapU_15]
    unfold swapU
    rw [ep]
    by_cases e : onF μ h f p = true
    · rw [if_pos e]
      by_cases hk : k = p
      · subst hk
        rw [muD (by omega), muS ⟨rfl, rfl⟩, muS ⟨rfl, rfl⟩, if_pos ⟨by omega, e⟩, if_pos ⟨by omega, e⟩]
        exact ⟨rfl, rfl⟩
      · rw [muD (by omega), muD (by omega), muD (by omega), muD (by omega), i1, i2]
        by_cases z : k < p ∧ onF μ h f k = true
        · rw [if_pos z, if_pos z, if_pos ⟨by omega, z.2⟩, if_pos ⟨by omega, z.2⟩]; exact ⟨rfl, rfl⟩
        · rw [if_neg z, if_neg z, if_neg (fun y => z ⟨by omega, y.2⟩), if_neg (fun y => z ⟨by omega, y.2⟩)]; exact ⟨rfl, rfl⟩
    · rw [if_neg e, i1, i2]
      by_cases z : k < p ∧ onF μ h f k = true
      · rw [if_pos z, if_pos z, if_pos ⟨by omega, z.2⟩, if_pos ⟨by omega, z.2⟩]; exact ⟨rfl, rfl⟩
      · have z' : ¬ (k < p + 1 ∧ onF μ h f k = true) := fun y => by
          by_cases hk : k = p
          · rw [hk] at y; exact e y.2
          · exact z ⟨by omega, y.2⟩
        rw [if_neg z, if_neg z, if_neg z', if_neg z']; exact ⟨rfl, rfl⟩
theorem swapU_row {μ : MU} {h f : Int32} {c : Nat} (hc : c ≠ 27 ∧ c ≠ 28) : ∀ p, (swapU μ h f p) c = μ c
  | 0 => rfl
  | p + 1 => by
    unfold swapU
    split
    · rw [mu_row hc.1, mu_row hc.2, swapU_row hc p]
    · exact swapU_row hc p
theorem mvH_1 {w : MU} {f k : Nat} {p : Int32} (hk : k < 40) : (mvH w f p) 1 k = if w 1 k = nI f then p else w 1 k := by
  unfold mvH
  rw [muD (by omega), mvU_lt 40 hk]
theorem RH_swap {w μ : MU} {n h f : Nat} (hn : n ≤ 5) (hf : f < 16) (hR : RH w μ n h) : RH (mvH w f (-1)) (swapU μ (nI h) (nI f) (8 * n)) n h := by
  obtain ⟨h1, h2, h3⟩ := hR
  refine ⟨fun key hk => ?_, fun f2 hf2 => ?_, fun f2 hf2 => ?_⟩
  · rw [mvH_1 hk, swapU_row (by omega), (swapU_28 (8 * n)).1, h1 key hk]
    by_cases e : key / 8 < n ∧ μ 15 (key / 8) = nI h
    · rw [if_pos e, if_pos e]
      by_cases z : μ 28 key = nI f
      · rw [if_pos z, if_pos ⟨by omega, by simp [onF, e.2, z]⟩]
      · rw [if_neg z, if_neg (fun y => z (by simpa [onF, e.2] using y.2))]
    · rw [if_neg e, if_neg e, ite_self]
  · have hl := cntU_le (inF w (nI f2)) 40
    by_cases e : f2 = f
    · subst e
      have : cntU (inF (mvH w f2 (-1)) (nI f2)) 40 = 0 := cntU_0.mpr fun j hj => by
        unfold inF
        rw [mvH_1 hj]
        split
        · exact decide_eq_false (by rw [m1_nI (by omega)]; exact id)
        · exact decide_eq_false (by assumption)
      rw [this]
      unfold mvH
      exact muS ⟨rfl, rfl⟩
    · have : cntU (inF (mvH w f (-1)) (nI f2)) 40 = cntU (inF w (nI f2)) 40 := cntU_congr fun j hj => by
        unfold inF
        rw [mvH_1 hj]
        split
        · rename_i z
          rw [z, decide_eq_false (by rw [m1_nI (by omega)]; exact id), decide_eq_false (by rw [nI_eq' (by omega) (by omega)]; omega)]
        · rfl
      rw [this, ← h2 f2 hf2]
      unfold mvH
      rw [muD (by omega), mvU_row (by omega)]
  · unfold mvH
    rw [mu_row (by omega), mvU_row (by omega), swapU_row (by omega)]
    exact h3 f2 hf2
/-- the other host isn't touched by that -/
theorem RH_swap2 {w μ : MU} {n h h2 : Nat} {f : Int32} (hh : h2 ≠ h) (hb : h < 2 ∧ h2 < 2) (hR : RH w μ n h2) : RH w (swapU μ (nI h) f (8 * n)) n h2 := by
  obtain ⟨a1, a2, a3⟩ := hR
  refine ⟨fun key hk => ?_, a2, fun f2 hf2 => by rw [swapU_row (by omega)]; exact a3 f2 hf2⟩
  rw [a1 key hk, swapU_row (by omega)]
  by_cases e : key / 8 < n ∧ μ 15 (key / 8) = nI h2
  · rw [if_pos e, if_pos e, (swapU_28 (8 * n)).1, if_neg]
    intro y
    have := y.2
    unfold onF at this
    rw [e.2] at this
    simp only [Bool.and_eq_true, decide_eq_true_eq] at this
    rw [nI_eq' (by omega) (by omega)] at this
    exact hh this.1
  · rw [if_neg e, if_neg e]
theorem FRM_swap {μ : MU} {n : Nat} {h f : Int32} (hF : FRM μ n) : FRM (swapU μ h f (8 * n)) n := by
  intro key hk
  rw [(swapU_28 (8 * n)).1, (swapU_28 (8 * n)).2]
  by_cases z : key < 8 * n ∧ onF μ h f key = true
  · rw [if_pos z, if_pos z]; exact Or.inr ⟨Or.inr rfl, rfl⟩
  · rw [if_neg z, if_neg z]; exact hF key hk
