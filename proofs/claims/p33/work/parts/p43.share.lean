/-! pages that are alike -/
def wd (μ : MU) (x k : Nat) : Int32 := μ 1 (55 * (x / 8) + (17 + (4 * (x % 8) + k)))
def lkB (μ : MU) (x y : Nat) : Bool := decide (wd μ x 0 = wd μ y 0 ∧ wd μ x 1 = wd μ y 1 ∧ wd μ x 2 = wd μ y 2 ∧ wd μ x 3 = wd μ y 3)
theorem lk_iff {μ : MU} {x y : Nat} : lkB μ x y = true ↔ ∀ k, k < 4 → wd μ x k = wd μ y k := by
  unfold lkB
  rw [decide_eq_true_iff]
  constructor
  · rintro ⟨a, b, c, d⟩ k hk
    have : k = 0 ∨ k = 1 ∨ k = 2 ∨ k = 3 := by omega
    rcases this with rfl | rfl | rfl | rfl
    · exact a
    · exact b
    · exact c
    · exact d
  · exact fun h => ⟨h 0 (by omega), h 1 (by omega), h 2 (by omega), h 3 (by omega)⟩
theorem lk_t {μ : MU} {x y z : Nat} (h : lkB μ x y = true) : lkB μ x z = lkB μ y z := by
  have e := lk_iff.mp h
  cases h1 : lkB μ y z
  · refine Bool.eq_false_iff.mpr (fun h2 => Bool.eq_false_iff.mp h1 (lk_iff.mpr (fun k hk => ?_)))
    rw [← e k hk]
    exact lk_iff.mp h2 k hk
  · exact lk_iff.mpr (fun k hk => by rw [e k hk]; exact lk_iff.mp h1 k hk)
theorem m_areLike {E : EE} {κ : K} {x y : Nat} (hx : x < 40) (hy : y < 40) : f_X11_areLike E κ (nI x) (nI y) = some (κ, if lkB (kV κ 5 0) x y = true then 1 else 0) := by
  have ix : ∀ z k, z < 40 → k < 4 → (((55 * ((nI z : Int32) / 8)) + 17) + (4 * (nI z - nI z / 8 * 8))) + nI k = nI (55 * (z / 8) + (17 + (4 * (z % 8) + k))) := fun z k hz hk => by
    rw [l8, nI_mod (by omega) (by omega), nI_div (by omega) (by omega), l55, l17, l4, nI_mul, nI_mul, nI_add, nI_add, nI_add]
    congr 1
    omega
  have l0 : ∀ d k m, k + d = 4 → d < m → f_X11_areLike_b5 E m κ (nI x) (nI y) 0 (nI k) = some (κ, 0) := by
    intro d
    induction d with
    | zero =>
      intro k m hk hm
      obtain ⟨m, rfl⟩ : ∃ q, m = q + 1 := ⟨m - 1, by omega⟩
      rw [f_X11_areLike_b5, if_pos (by rw [l4, nI_le' (by omega) (by omega)]; omega)]
    | succ d ih =>
      intro k m hk hm
      obtain ⟨m, rfl⟩ : ∃ q, m = q + 1 := ⟨m - 1, by omega⟩
      rw [f_X11_areLike_b5, if_neg (by rw [l4, nI_le' (by omega) (by omega)]; omega), if_pos rfl, f_X11_areLike_b72, f_X11_areLike_b73, nmE, nI_1]
      exact ih (k + 1) m (by omega) (by omega)
  have l1 : ∀ d k m, k + d = 4 → d < m → (∀ j, j < k → wd (kV κ 5 0) x j = wd (kV κ 5 0) y j) → f_X11_areLike_b5 E m κ (nI x) (nI y) 1 (nI k) = some (κ, if lkB (kV κ 5 0) x y = true then 1 else 0) := by
    intro d
    induction d with
    | zero =>
      intro k m hk hm hz
      obtain ⟨m, rfl⟩ : ∃ q, m = q + 1 := ⟨m - 1, by omega⟩
      rw [f_X11_areLike_b5, if_pos (by rw [l4, nI_le' (by omega) (by omega)]; omega), if_pos (lk_iff.mpr (fun j hj => hz j (by omega)))]
    | succ d ih =>
      intro k m hk hm hz
      obtain ⟨m, rfl⟩ : ∃ q, m = q + 1 := ⟨m - 1, by omega⟩
      rw [f_X11_areLike_b5, if_neg (by rw [l4, nI_le' (by omega) (by omega)]; omega), if_neg (by decide), ix x k hx (by omega), ix y k hy (by omega), nI_cl (by omega), nI_cl (by omega), gdi (by omega), gdi (by omega)]
      by_cases e : wd (kV κ 5 0) x k = wd (kV κ 5 0) y k
      · rw [if_pos (show kV κ 5 0 1 (55 * (x / 8) + (17 + (4 * (x % 8) + k))) = kV κ 5 0 1 (55 * (y / 8) + (17 + (4 * (y % 8) + k))) from e), f_X11_areLike_b73, nmE, nI_1]
        exact ih (k + 1) m (by omega) (by omega) (fun j hj => by
          by_cases z : j = k
          · rw [z]; exact e
          · exact hz j (by omega))
      · rw [if_neg (show ¬ kV κ 5 0 1 (55 * (x / 8) + (17 + (4 * (x % 8) + k))) = kV κ 5 0 1 (55 * (y / 8) + (17 + (4 * (y % 8) + k))) from e), f_X11_areLike_b72, f_X11_areLike_b73, nmE, nI_1, l0 d (k + 1) m (by omega) (by omega), if_neg (fun z => e (lk_iff.mp z k (by omega)))]
  have := l1 4 0 FU (by omega) (by unfold FU; omega) (fun j hj => absurd hj (by omega))
  rw [nI_0] at this
  rw [f_X11_areLike, f_X11_areLike_e, this, bd_s]
  split
  · exact gd_t (Or.inr rfl)
  · exact gd_t (Or.inl rfl)
theorem kA_w {E : EE} {κ : K} {g : Nat} (hg : g < cntE E 0) : kA E κ (0, g, 9) = some (32, kV κ 0 g 9) := by
  have hl : liveC E 0 g 9 = true := by
    unfold liveC
    rw [decide_eq_true hg]
    rfl
  unfold kA
  rw [if_neg (fun z => by cases z), if_neg (by show ¬ 0 = 8; decide), if_pos hl, if_pos (show kd 0 9 = 20 from rfl)]
  rfl
theorem c_pages {E : EE} {κ : K} {μ : MU} {x y : Nat} (hx : x / 8 < E.1) (hy : y / 8 < E.1) (hw : ∀ z k, z / 8 < E.1 → k < 4 → kV κ 0 (z / 8) 9 (4 * (z % 8) + k) = wd μ z k) (hx4 : x < 40) (hy4 : y < 40) : f_X10_arePagesAlike E κ (0, x / 8, 9) (nI (x % 8)) (0, y / 8, 9) (nI (y % 8)) = some (κ, if lkB μ x y = true then 1 else 0) := by
  have ix : ∀ z k, (nI (z % 8) : Int32) * 4 + nI k = nI (4 * (z % 8) + k) := fun z k => by rw [l4, nI_mul, nI_add, Nat.mul_comm]
  have l1 : ∀ d k m, k + d = 4 → d < m → (∀ j, j < k → wd μ x j = wd μ y j) → f_X10_arePagesAlike_b3 E (0, x / 8, 9) (0, y / 8, 9) m κ (nI (x % 8)) (nI (y % 8)) (nI k) = some (κ, if lkB μ x y = true then 1 else 0) := by
    intro d
    induction d with
    | zero =>
      intro k m hk hm hz
      obtain ⟨m, rfl⟩ : ∃ q, m = q + 1 := ⟨m - 1, by omega⟩
      rw [f_X10_arePagesAlike_b3, if_pos (by rw [l4, nI_le' (by omega) (by omega)]; omega), if_pos (lk_iff.mpr (fun j hj => hz j (by omega)))]
    | succ d ih =>
      intro k m hk hm hz
      obtain ⟨m, rfl⟩ : ∃ q, m = q + 1 := ⟨m - 1, by omega⟩
      rw [f_X10_arePagesAlike_b3, if_neg (by rw [l4, nI_le' (by omega) (by omega)]; omega), kA_w (show x / 8 < cntE E 0 from hx), tmpG_s, ix x k, nI_cl (by omega), gdi (by omega), kA_w (show y / 8 < cntE E 0 from hy), tmpG_s, ix y k, nI_cl (by omega), gdi (by omega), hw x k hx (by omega), hw y k hy (by omega)]
      by_cases e : wd μ x k = wd μ y k
      · rw [if_pos e, nmE, nI_1]
        exact ih (k + 1) m (by omega) (by omega) (fun j hj => by
          by_cases z : j = k
          · rw [z]; exact e
          · exact hz j (by omega))
      · rw [if_neg e, if_neg (fun z => e (lk_iff.mp z k (by omega)))]
  have := l1 4 0 FU (by omega) (by unfold FU; omega) (fun j hj => absurd hj (by omega))
  rw [nI_0] at this
  rw [f_X10_arePagesAlike, f_X10_arePagesAlike_e, this, bd_s]
  split
  · exact gd_t (Or.inr rfl)
  · exact gd_t (Or.inl rfl)
/-- a page of a guest that is not sealed -/
def okS (μ : MU) (n : Nat) (o : Option Nat) (p : Nat) : Prop := o = some p ∧ p / 8 < n ∧ μ 17 (p / 8) = 0
theorem c_alike {E : EE} {κ : K} {μ : MU} {o o' : Option Nat} (hn : E.1 ≤ 5) (hL : LsI E κ 1 E.1) (ho : ∀ p, o = some p → p / 8 < E.1) (ho' : ∀ p, o' = some p → p / 8 < E.1) (hw : ∀ z k, z / 8 < E.1 → k < 4 → kV κ 0 (z / 8) 9 (4 * (z % 8) + k) = wd μ z k) (hs : ∀ g, g < E.1 → kV κ 0 g 0 2 = μ 17 g) : ∃ b : Int32, (b = 0 ∨ b = 1) ∧ f_X10_areAlike E κ (pgI o) (pgI o') = some (κ, b) ∧ (b = 1 ↔ ∃ p q, okS μ E.1 o p ∧ okS μ E.1 o' q ∧ lkB μ p q = true) := by
  rw [f_X10_areAlike, f_X10_areAlike_e]
  cases o with
  | none =>
    refine ⟨0, Or.inl rfl, ?_, fun z => absurd z (by decide), ?_⟩
    · rw [if_pos (show pgI none = -1 from rfl), bd_s, gd_t (Or.inl rfl)]
    · rintro ⟨p, q, ⟨z, _⟩, _⟩
      cases z
  | some p =>
    have hp := ho p rfl
    cases o' with
    | none =>
      refine ⟨0, Or.inl rfl, ?_, fun z => absurd z (by decide), ?_⟩
      · rw [if_neg (show ¬ pgI (some p) = -1 by show ¬ nI p = -1; rw [nI_m1 (by omega)]; exact id), if_pos (show pgI none = -1 from rfl), bd_s, gd_t (Or.inl rfl)]
      · rintro ⟨p, q, _, ⟨z, _⟩, _⟩
        cases z
    | some q =>
      have hq := ho' q rfl
      have n1 : ¬ pgI (some p) = -1 := by show ¬ nI p = -1; rw [nI_m1 (by omega)]; exact id
      have n2 : ¬ pgI (some q) = -1 := by show ¬ nI q = -1; rw [nI_m1 (by omega)]; exact id
      rw [if_neg n1, if_neg n2]
      show ∃ b : Int32, (b = 0 ∨ b = 1) ∧ bd (bd (f_Jx4a65c_get_915e3_L1 E κ (nI p / 8)) _) _ = _ ∧ _
      rw [l8, nI_div (by omega) (by omega), get_ok hL hn hp, bd_s, gd_t (show p / 8 < cntE E 0 from hp)]
      show ∃ b : Int32, (b = 0 ∨ b = 1) ∧ bd (bd (f_Jx4a65c_get_915e3_L1 E κ (nI q / nI 8)) _) _ = _ ∧ _
      rw [nI_div (by omega) (by omega), get_ok hL hn hq, bd_s, gd_t (show q / 8 < cntE E 0 from hq), hs _ hp, hs _ hq]
      by_cases z1 : μ 17 (p / 8) = 0
      · rw [if_pos z1]
        by_cases z2 : μ 17 (q / 8) = 0
        · rw [if_pos z2]
          show ∃ b : Int32, (b = 0 ∨ b = 1) ∧ bd (bd (f_X10_arePagesAlike E κ (0, p / 8, 9) (nI p - nI p / nI 8 * nI 8) (0, q / 8, 9) (nI q - nI q / nI 8 * nI 8)) _) _ = _ ∧ _
          rw [nI_mod (by omega) (by omega), nI_mod (by omega) (by omega), c_pages hp hq hw (by omega) (by omega), bd_s]
          by_cases e : lkB μ p q = true
          · rw [if_pos e, if_neg (by decide), bd_s]
            exact ⟨1, Or.inr rfl, gd_t (Or.inr rfl), fun _ => ⟨p, q, ⟨rfl, hp, z1⟩, ⟨rfl, hq, z2⟩, e⟩, fun _ => rfl⟩
          · rw [if_neg e, if_pos rfl, bd_s]
            refine ⟨0, Or.inl rfl, gd_t (Or.inl rfl), fun z => absurd z (by decide), ?_⟩
            rintro ⟨p', q', ⟨x1, _⟩, ⟨x2, _⟩, x3⟩
            cases x1
            cases x2
            exact absurd x3 e
        · rw [if_neg z2, bd_s]
          refine ⟨0, Or.inl rfl, gd_t (Or.inl rfl), fun z => absurd z (by decide), ?_⟩
          rintro ⟨p', q', ⟨x1, _⟩, ⟨x2, _, x4⟩, x3⟩
          cases x2
          exact absurd x4 z2
      · rw [if_neg z1, bd_s]
        refine ⟨0, Or.inl rfl, gd_t (Or.inl rfl), fun z => absurd z (by decide), ?_⟩
        rintro ⟨p', q', ⟨x1, _, x4⟩, _, x3⟩
        cases x1
        exact absurd x4 z1
theorem m_canShare {E : EE} {κ : K} {n : Nat} {o : Option Nat} (hn : n ≤ 5) (ho : ∀ p, o = some p → p / 8 < n) : ∃ b : Int32, (b = 0 ∨ b = 1) ∧ f_X11_canShare E κ (pgI o) = some (κ, b) ∧ (b = 1 ↔ ∃ p, okS (kV κ 5 0) n o p) := by
  rw [f_X11_canShare, f_X11_canShare_e]
  cases o with
  | none =>
    refine ⟨0, Or.inl rfl, ?_, fun z => absurd z (by decide), ?_⟩
    · rw [if_pos (show pgI none = -1 from rfl), bd_s, gd_t (Or.inl rfl)]
    · rintro ⟨p, z, _⟩
      cases z
  | some p =>
    have hp := ho p rfl
    rw [if_neg (show ¬ pgI (some p) = -1 by show ¬ nI p = -1; rw [nI_m1 (by omega)]; exact id)]
    show ∃ b : Int32, (b = 0 ∨ b = 1) ∧ bd (gd (¬ ((nI p / 8) < 0 ∨ 5 ≤ (nI p / 8).toNatClampNeg)) (if kV κ 5 0 17 (nI p / 8).toNatClampNeg = 0 then some (κ, 1) else some (κ, 0))) _ = _ ∧ _
    rw [l8, nI_div (by omega) (by omega), nI_cl (by omega), gdi (by omega)]
    by_cases z : kV κ 5 0 17 (p / 8) = 0
    · rw [if_pos z, bd_s]
      exact ⟨1, Or.inr rfl, gd_t (Or.inr rfl), fun _ => ⟨p, rfl, hp, z⟩, fun _ => rfl⟩
    · rw [if_neg z, bd_s]
      refine ⟨0, Or.inl rfl, gd_t (Or.inl rfl), fun z => absurd z (by decide), ?_⟩
      rintro ⟨p', x1, _, x2⟩
      cases x1
      exact absurd x2 z
/-! frames are merged -/
theorem fstU_or {p q r : Nat → Bool} {n a b : Nat} (h : ∀ j, j < n → r j = (p j || q j)) (ha : fstU p n = some a) (hb : fstU q n = some b) : fstU r n = some (if a < b then a else b) := by
  obtain ⟨a1, a2⟩ := fstU_lt ha
  obtain ⟨b1, b2⟩ := fstU_lt hb
  have a3 := fstU_min ha
  have b3 := fstU_min hb
  split
  · rename_i z
    exact fstU_eq a1 (by rw [h a a1, a2, Bool.true_or]) (fun i hi => by rw [h i (by omega), a3 i hi, b3 i (by omega), Bool.or_false])
  · rename_i z
    exact fstU_eq b1 (by rw [h b b1, b2, Bool.or_true]) (fun i hi => by rw [h i (by omega), a3 i (by omega), b3 i hi, Bool.or_false])
theorem cntU_or {p q r : Nat → Bool} : ∀ {n : Nat}, (∀ j, j < n → r j = (p j || q j) ∧ ¬ (p j = true ∧ q j = true)) → cntU r n = cntU p n + cntU q n
  | 0, _ => rfl
  | n + 1, h => by
    have ih := cntU_or (n := n) (p := p) (q := q) (r := r) (fun j hj => h j (by omega))
    obtain ⟨h1, h2⟩ := h n (by omega)
    unfold cntU
    rw [ih, h1]
    cases hp : p n
    · cases hq : q n <;> simp <;> omega
    · cases hq : q n
      · simp; omega
      · exact absurd ⟨hp, hq⟩ h2
def mgU (μ : MU) (h : Nat) (hi lo : Nat) : Nat → MU
  | 0 => μ
  | p + 1 => mu (mgU μ h hi lo p) 28 p (if onF (mgU μ h hi lo p) (nI h) (nI hi) p = true then nI lo else (mgU μ h hi lo p) 28 p)
def mgM (μ : MU) (n h lo hi : Nat) : MU := mu (mgU μ h hi lo (8 * n)) 29 (16 * h + lo) (if μ 29 (16 * h + hi) ≤ μ 29 (16 * h + lo) then μ 29 (16 * h + lo) else μ 29 (16 * h + hi))
theorem mgU_row {μ : MU} {h hi lo c : Nat} (hc : c ≠ 28) : ∀ p, (mgU μ h hi lo p) c = μ c
  | 0 => rfl
  | p + 1 => by
    unfold mgU
    rw [mu_row hc, mgU_row hc p]
theorem mgU_ge {μ : MU} {h hi lo j : Nat} : ∀ p, p ≤ j → (mgU μ h hi lo p) 28 j = μ 28 j
  | 0, _ => rfl
  | p + 1, hp => by
    unfold mgU
    rw [muD (by omega), mgU_ge p (by omega)]
theorem mgU_28 {μ : MU} {h hi lo j : Nat} : ∀ p, (mgU μ h hi lo p) 28 j = if j < p ∧ onF μ (nI h) (nI hi) j = true then nI lo else μ 28 j
  | 0 => by rw [if_neg (fun z => absurd z.1 (by omega))]; rfl
  | p + 1 => by
    have on : onF (mgU μ h hi lo p) (nI h) (nI hi) p = onF μ (nI h) (nI hi) p := by
      unfold onF
      rw [mgU_row (by omega), mgU_ge p (Nat.le_refl p)]
    show (mu (mgU μ h hi lo p) 28 p _) 28 j = _
    by_cases e : j = p
    · subst e
      rw [muS ⟨rfl, rfl⟩, on, mgU_ge j (Nat.le_refl j)]
      by_cases z : onF μ (nI h) (nI hi) j = true
      · rw [if_pos z, if_pos ⟨by omega, z⟩]
      · rw [if_neg z, if_neg (fun y => z y.2)]
    · rw [muD (by omega), mgU_28 p]
      by_cases z : onF μ (nI h) (nI hi) j = true
      · by_cases y : j < p
        · rw [if_pos ⟨y, z⟩, if_pos ⟨by omega, z⟩]
        · rw [if_neg (fun x => y x.1), if_neg (fun x => by omega)]
      · rw [if_neg (fun x => z x.2), if_neg (fun x => z x.2)]
theorem mg_1 {w : MU} {lo hi j : Nat} (hj : j < 40) : (mergeH w lo hi) 1 j = if w 1 j = nI hi then nI lo else w 1 j := by
  unfold mergeH
  rw [mvH_1 hj, mu_row (by omega), mu_row (by omega)]
theorem mg_in {w : MU} {lo hi f j : Nat} (h1 : lo < 16) (h2 : hi < 16) (hne : lo ≠ hi) (hf : f < 16) (hj : j < 40) : inF (mergeH w lo hi) (nI f) j = if f = lo then (inF w (nI lo) j || inF w (nI hi) j) else if f = hi then false else inF w (nI f) j := by
  unfold inF
  rw [mg_1 hj]
  by_cases e : w 1 j = nI hi
  · rw [if_pos e, e]
    by_cases a : f = lo
    · rw [if_pos a, a, decide_eq_true rfl, decide_eq_true (show nI hi = nI hi from rfl), Bool.or_true]
    · rw [if_neg a, decide_eq_false (by rw [nI_eq' (by omega) (by omega)]; omega)]
      by_cases b : f = hi
      · rw [if_pos b]
      · rw [if_neg b, decide_eq_false (by rw [nI_eq' (by omega) (by omega)]; omega)]
  · rw [if_neg e]
    by_cases a : f = lo
    · rw [if_pos a, a, decide_eq_false e, Bool.or_false]
    · rw [if_neg a]
      by_cases b : f = hi
      · rw [if_pos b, b, decide_eq_false e]
      · rw [if_neg b]
theorem RH_merge {w μ : MU} {n h lo hi : Nat} (hn : n ≤ 5) (hh : h < 2) (hR : RH w μ n h) (h1 : lo < 16) (h2 : hi < 16) (hne : lo ≠ hi) : RH (mergeH w lo hi) (mgM μ n h lo hi) n h := by
  have r28 : ∀ j, (mgM μ n h lo hi) 28 j = if j < 8 * n ∧ onF μ (nI h) (nI hi) j = true then nI lo else μ 28 j := fun j => by
    unfold mgM
    rw [mu_row (by omega), mgU_28]
  have r15 : (mgM μ n h lo hi) 15 = μ 15 := by
    unfold mgM
    rw [mu_row (by omega), mgU_row (by omega)]
  refine ⟨fun key hk => ?_, fun f hf => ?_, fun f hf => ?_⟩
  · have hw := hR.1 key hk
    rw [mg_1 hk, r15, r28]
    by_cases e : key / 8 < n ∧ μ 15 (key / 8) = nI h
    · rw [if_pos e] at hw
      rw [if_pos e, hw]
      by_cases z : μ 28 key = nI hi
      · rw [if_pos z, if_pos ⟨by omega, by unfold onF; rw [decide_eq_true e.2, decide_eq_true z]; rfl⟩]
      · rw [if_neg z, if_neg (fun y => z (by
          have := y.2
          unfold onF at this
          rw [Bool.and_eq_true] at this
          exact of_decide_eq_true this.2))]
    · rw [if_neg e] at hw
      rw [if_neg e, hw, if_neg (by rw [m1_nI (by omega)]; exact id)]
  · have c := fun f (hf : f < 16) => hR.2.1 f hf
    have hlo := c lo h1
    have hhi := c hi h2
    by_cases a : f = hi
    · have z : (mergeH w lo hi) 2 f = 0 := by
        unfold mergeH mvH
        rw [a]
        exact muS ⟨rfl, rfl⟩
      have y : cntU (inF (mergeH w lo hi) (nI f)) 40 = 0 := cntU_0.mpr (fun j hj => by rw [mg_in h1 h2 hne hf hj, if_neg (by omega), if_pos a])
      rw [z, y]
      rfl
    · by_cases b : f = lo
      · have z : (mergeH w lo hi) 2 f = w 2 lo + w 2 hi := by
          unfold mergeH mvH
          rw [muD (by omega), mvU_row (by omega), mu_row (by omega), b]
          exact muS ⟨rfl, rfl⟩
        have y : cntU (inF (mergeH w lo hi) (nI f)) 40 = cntU (inF w (nI lo)) 40 + cntU (inF w (nI hi)) 40 := cntU_or (fun j hj => ⟨by rw [mg_in h1 h2 hne hf hj, if_pos b], fun x => by
          have x1 : w 1 j = nI lo := of_decide_eq_true x.1
          have x2 : w 1 j = nI hi := of_decide_eq_true x.2
          rw [x1, nI_eq' (by omega) (by omega)] at x2
          exact hne x2⟩)
        rw [z, y, hlo, hhi, nI_add]
      · have z : (mergeH w lo hi) 2 f = w 2 f := by
          unfold mergeH mvH
          rw [muD (by omega), mvU_row (by omega), mu_row (by omega), muD (by omega)]
        have y : cntU (inF (mergeH w lo hi) (nI f)) 40 = cntU (inF w (nI f)) 40 := cntU_congr (fun j hj => by rw [mg_in h1 h2 hne hf hj, if_neg b, if_neg a])
        rw [z, y]
        exact c f hf
  · have hlo := hR.2.2 lo h1
    have hhi := hR.2.2 hi h2
    have m29 : ∀ k, (mgU μ h hi lo (8 * n)) 29 k = μ 29 k := fun k => by rw [mgU_row (by omega)]
    by_cases b : f = lo
    · subst b
      have z : (mergeH w f hi) 3 f = if w 3 f < w 3 hi then w 3 hi else w 3 f := by
        unfold mergeH mvH
        rw [mu_row (by omega), mvU_row (by omega)]
        exact muS ⟨rfl, rfl⟩
      rw [z, hlo, hhi]
      unfold mgM
      rw [muS ⟨rfl, rfl⟩]
      by_cases e : μ 29 (16 * h + hi) ≤ μ 29 (16 * h + f)
      · rw [if_pos e, if_neg (Int32.not_lt.mpr e)]
      · rw [if_neg e, if_pos (Int32.not_le.mp e)]
    · have z : (mergeH w lo hi) 3 f = w 3 f := by
        unfold mergeH mvH
        rw [mu_row (by omega), mvU_row (by omega), muD (by omega), mu_row (by omega)]
      rw [z, hR.2.2 f hf]
      unfold mgM
      rw [muD (by omega), m29]
theorem FRM_mg {μ : MU} {n h lo hi : Nat} (hF : FRM μ n) (h1 : lo < 16) (h2 : hi < 16) : FRM (mgM μ n h lo hi) n := fun key hk => by
  have r27 : (mgM μ n h lo hi) 27 = μ 27 := by
    unfold mgM
    rw [mu_row (by omega), mgU_row (by omega)]
  have r28 : (mgM μ n h lo hi) 28 key = if key < 8 * n ∧ onF μ (nI h) (nI hi) key = true then nI lo else μ 28 key := by
    unfold mgM
    rw [mu_row (by omega), mgU_28]
  rw [r27, r28]
  by_cases e : key < 8 * n ∧ onF μ (nI h) (nI hi) key = true
  · rw [if_pos e]
    rcases hF key hk with ⟨a, b⟩ | ⟨a, b⟩
    · exact Or.inl ⟨a, lo, h1, rfl⟩
    · have := e.2
      unfold onF at this
      rw [Bool.and_eq_true, b] at this
      exact absurd (of_decide_eq_true this.2) (by rw [m1_nI (by omega)]; exact id)
  · rw [if_neg e]
    exact hF key hk
