/-! THE MODEL over its rows alone: mu is what family 5 holds -/
abbrev MU : Type := Nat → Nat → Int32
def mu (μ : MU) (c k : Nat) (x : Int32) : MU := fun c' k' => if c' = c ∧ k' = k then x else μ c' k'
def putM (κ : K) (μ : MU) : K := (fun f i c k => if f = 5 ∧ i = 0 then μ c k else κ.1 f i c k, κ.2)
theorem put_kV {κ : K} {μ : MU} : kV (putM κ μ) 5 0 = μ := by
  funext c k
  show (if (5 : Nat) = 5 ∧ (0 : Nat) = 0 then μ c k else κ.1 5 0 c k) = μ c k
  rw [if_pos ⟨rfl, rfl⟩]
theorem put_put {κ : K} {μ μ' : MU} : putM (putM κ μ) μ' = putM κ μ' := by
  unfold putM
  congr 1
  funext f i c k
  dsimp only
  split <;> rfl
theorem set5 {κ : K} {c k : Nat} {x : Int32} : setV κ 5 0 c k x = putM κ (mu (kV κ 5 0) c k x) := by
  unfold setV putM
  congr 1
  funext f i c' k'
  unfold mu
  by_cases h : f = 5 ∧ i = 0
  · obtain ⟨rfl, rfl⟩ := h
    by_cases h2 : c' = c ∧ k' = k
    · rw [if_pos ⟨rfl, rfl, h2.1, h2.2⟩, if_pos ⟨rfl, rfl⟩, if_pos h2]
    · rw [if_neg (fun z => h2 ⟨z.2.2.1, z.2.2.2⟩), if_pos ⟨rfl, rfl⟩, if_neg h2]
      rfl
  · rw [if_neg h, if_neg (fun z => h ⟨z.1, z.2.1⟩)]
theorem put_self {κ : K} : putM κ (kV κ 5 0) = κ := by
  unfold putM
  refine Prod.ext ?_ rfl
  funext f i c k
  dsimp only
  split
  · rename_i h; rw [h.1, h.2]; rfl
  · rfl
theorem put_f {κ : K} {μ : MU} {f i c k : Nat} (h : f ≠ 5) : kV (putM κ μ) f i c k = kV κ f i c k := if_neg (fun z => h z.1)
theorem put_ff {κ : K} {μ : MU} {f : Nat} (h : f ≠ 5) : kV (putM κ μ) f = kV κ f := by
  funext i c k
  exact put_f h
theorem put_N {κ : K} {μ : MU} : kN (putM κ μ) = kN κ := rfl
theorem put_P {κ : K} {μ : MU} : kP (putM κ μ) = kP κ := rfl
theorem put_C {κ : K} {μ : MU} : kC (putM κ μ) = kC κ := rfl
theorem muS {μ : MU} {c k c' k' : Nat} {x : Int32} (h : c' = c ∧ k' = k) : mu μ c k x c' k' = x := if_pos h
theorem muD {μ : MU} {c k c' k' : Nat} {x : Int32} (h : ¬ (c' = c ∧ k' = k)) : mu μ c k x c' k' = μ c' k' := if_neg h
theorem i5 {g : Nat} (h : g < 5) : ¬ (nI g < 0 ∨ 5 ≤ (nI g).toNatClampNeg) := nI_in h (by omega)
theorem iN {j N : Nat} (h : j < N) (hN : N < 2147483648) : ¬ (nI j < 0 ∨ N ≤ (nI j).toNatClampNeg) := nI_in h hN
def restI (x : Int32) : Int32 := ((x - x / 10000 * 10000) + 10000) - ((x - x / 10000 * 10000) + 10000) / 10000 * 10000
def clockM (μ : MU) (g : Nat) : Int32 := restI ((μ 0 41 - μ 22 g) * μ 20 g + μ 21 g)
def shiftM (μ : MU) (g : Nat) (x : Int32) : MU := mu μ 21 g (restI (x - (μ 0 41 - μ 22 g) * μ 20 g))
theorem m_clock {E : EE} {κ : K} {g : Nat} (hg : g < 5) : f_X11_clock E κ (nI g) = some (κ, clockM (kV κ 5 0) g) := by
  unfold f_X11_clock f_X11_rest
  rw [gd_t (i5 hg), gd_t (i5 hg), gd_t (i5 hg), bd_s, nI_cl (by omega)]
  rfl
theorem m_shift {E : EE} {κ : K} {g : Nat} {x : Int32} (hg : g < 5) : f_X11_shift E κ (nI g) x = some (putM κ (shiftM (kV κ 5 0) g x), ()) := by
  unfold f_X11_shift f_X11_rest
  rw [gd_t (i5 hg), gd_t (i5 hg), bd_s, gd_t (i5 hg), nmE, nI_cl (by omega), set5]
  rfl
/-! counting and finding -/
def cntU (p : Nat → Bool) : Nat → Nat
  | 0 => 0
  | n + 1 => cntU p n + (if p n then 1 else 0)
def fstU (p : Nat → Bool) : Nat → Option Nat
  | 0 => none
  | n + 1 => match fstU p n with
    | some j => some j
    | none => if p n then some n else none
def pgI : Option Nat → Int32
  | none => -1
  | some j => nI j
theorem cntU_le (p : Nat → Bool) : ∀ n, cntU p n ≤ n
  | 0 => Nat.le_refl _
  | n + 1 => by
    have := cntU_le p n
    unfold cntU
    split <;> omega
theorem fstU_lt {p : Nat → Bool} : ∀ {n j : Nat}, fstU p n = some j → j < n ∧ p j = true
  | n + 1, j, h => by
    unfold fstU at h
    cases hq : fstU p n with
    | some i =>
      rw [hq] at h
      cases h
      have := fstU_lt hq
      exact ⟨by omega, this.2⟩
    | none =>
      rw [hq] at h
      dsimp only at h
      split at h
      · cases h
        exact ⟨by omega, by assumption⟩
      · cases h
theorem fstU_none {p : Nat → Bool} : ∀ {n : Nat}, fstU p n = none → ∀ j, j < n → p j = false
  | 0, _, j, hj => absurd hj (Nat.not_lt_zero j)
  | n + 1, h, j, hj => by
    unfold fstU at h
    cases hq : fstU p n with
    | some i => rw [hq] at h; cases h
    | none =>
      rw [hq] at h
      dsimp only at h
      split at h
      · cases h
      · rename_i hz
        by_cases hjn : j = n
        · subst hjn; exact Bool.eq_false_iff.mpr hz
        · exact fstU_none hq j (by omega)
theorem fstU_min {p : Nat → Bool} : ∀ {n j : Nat}, fstU p n = some j → ∀ i, i < j → p i = false
  | n + 1, j, h, i, hi => by
    unfold fstU at h
    cases hq : fstU p n with
    | some i2 => rw [hq] at h; cases h; exact fstU_min hq i hi
    | none =>
      rw [hq] at h
      dsimp only at h
      split at h
      · cases h; exact fstU_none hq i hi
      · cases h
theorem fstU_eq {p : Nat → Bool} {n j : Nat} (hj : j < n) (hp : p j = true) (hm : ∀ i, i < j → p i = false) : fstU p n = some j := by
  cases h : fstU p n with
  | none => rw [fstU_none h j hj] at hp; cases hp
  | some i =>
    obtain ⟨h1, h2⟩ := fstU_lt h
    have h3 := fstU_min h
    rcases Nat.lt_trichotomy i j with z | z | z
    · rw [hm i z] at h2; cases h2
    · rw [z]
    · rw [h3 j z] at hp; cases hp
theorem fstU_congr {p q : Nat → Bool} : ∀ {n : Nat}, (∀ j, j < n → p j = q j) → fstU p n = fstU q n
  | 0, _ => rfl
  | n + 1, h => by
    unfold fstU
    rw [fstU_congr (n := n) (fun j hj => h j (by omega)), h n (by omega)]
theorem cntU_congr {p q : Nat → Bool} : ∀ {n : Nat}, (∀ j, j < n → p j = q j) → cntU p n = cntU q n
  | 0, _ => rfl
  | n + 1, h => by
    unfold cntU
    rw [cntU_congr (n := n) (fun j hj => h j (by omega)), h n (by omega)]
/-- a page that a frame of a host holds -/
def onF (μ : MU) (h f : Int32) (p : Nat) : Bool := decide (μ 15 (p / 8) = h) && decide (μ 28 p = f)
def holdM (μ : MU) (n : Nat) (h f : Int32) : Int32 := nI (cntU (onF μ h f) (8 * n))
def pageM (μ : MU) (n : Nat) (h f : Int32) : Int32 := pgI (fstU (onF μ h f) (8 * n))
theorem m_holders {E : EE} {κ : K} {n : Nat} {h f : Int32} (hG : kV κ 5 0 0 26 = nI n) (hn : n ≤ 5) : f_X11_holders E κ h f = some (κ, holdM (kV κ 5 0) n h f) := by
  have loop : ∀ (d i m : Nat), i + d = 8 * n → d < m → f_X11_holders_b5 E m κ h f (nI (cntU (onF (kV κ 5 0) h f) i)) (nI i) = some (κ, holdM (kV κ 5 0) n h f) := by
    intro d
    induction d with
    | zero =>
      intro i m hi hm
      obtain ⟨m, rfl⟩ : ∃ q, m = q + 1 := ⟨m - 1, by omega⟩
      rw [f_X11_holders_b5, hG, show (8 : Int32) = nI 8 from rfl, nI_mul, if_pos (nI_le (by omega) (by omega))]
      rw [show i = 8 * n by omega]
      rfl
    | succ d ih =>
      intro i m hi hm
      obtain ⟨m, rfl⟩ : ∃ q, m = q + 1 := ⟨m - 1, by omega⟩
      have hr := ih (i + 1) m (by omega) (by omega)
      rw [cntU] at hr
      rw [f_X11_holders_b5, hG, show (8 : Int32) = nI 8 from rfl, nI_mul, if_neg (by rw [nI_leI (by omega) (by omega)]; omega), nI_div (by omega) (by omega), gd_t (i5 (by omega)), nI_cl (by omega)]
      unfold f_X11_holders_b47 f_X11_holders_b48
      simp only [nmE]
      by_cases h1 : kV κ 5 0 15 (i / 8) = h
      · rw [if_pos h1, gd_t (iN (by omega) (by omega)), nI_cl (by omega)]
        by_cases h2 : kV κ 5 0 28 i = f
        · rw [if_pos h2]
          have e : onF (kV κ 5 0) h f i = true := by simp [onF, h1, h2]
          rw [e, if_pos rfl] at hr
          rw [show (1 : Int32) = nI 1 from rfl, nI_add, nI_add]
          exact hr
        · rw [if_neg h2]
          have e : onF (kV κ 5 0) h f i = false := by simp [onF, h2]
          rw [e] at hr
          rw [show (1 : Int32) = nI 1 from rfl, show (0 : Int32) = nI 0 from rfl, nI_add, nI_add]
          exact hr
      · rw [if_neg h1]
        have e : onF (kV κ 5 0) h f i = false := by simp [onF, h1]
        rw [e] at hr
        rw [show (1 : Int32) = nI 1 from rfl, show (0 : Int32) = nI 0 from rfl, nI_add, nI_add]
        exact hr
  exact loop (8 * n) 0 FU (by omega) (by unfold FU; omega)
theorem m_pageIn {E : EE} {κ : K} {n : Nat} {h f : Int32} (hG : kV κ 5 0 0 26 = nI n) (hn : n ≤ 5) : f_X11_pageIn E κ h f = some (κ, pageM (kV κ 5 0) n h f) := by
  have loop : ∀ (d i m : Nat), i + d = 8 * n → d < m → f_X11_pageIn_b5 E m κ h f (pgI (fstU (onF (kV κ 5 0) h f) i)) (nI i) = some (κ, pageM (kV κ 5 0) n h f) := by
    intro d
    induction d with
    | zero =>
      intro i m hi hm
      obtain ⟨m, rfl⟩ : ∃ q, m = q + 1 := ⟨m - 1, by omega⟩
      rw [f_X11_pageIn_b5, hG, show (8 : Int32) = nI 8 from rfl, nI_mul, if_pos (nI_le (by omega) (by omega))]
      rw [show i = 8 * n by omega]
      rfl
    | succ d ih =>
      intro i m hi hm
      obtain ⟨m, rfl⟩ : ∃ q, m = q + 1 := ⟨m - 1, by omega⟩
      have hr := ih (i + 1) m (by omega) (by omega)
      rw [fstU] at hr
      rw [f_X11_pageIn_b5, hG, show (8 : Int32) = nI 8 from rfl, nI_mul, if_neg (by rw [nI_leI (by omega) (by omega)]; omega)]
      unfold f_X11_pageIn_b52 f_X11_pageIn_b53
      simp only [nmE]
      rw [show (1 : Int32) = nI 1 from rfl, nI_add]
      cases hq : fstU (onF (kV κ 5 0) h f) i with
      | some j =>
        rw [hq] at hr
        have hj := (fstU_lt hq).1
        rw [if_neg (by show ¬ nI j = -1; rw [nI_m1 (by omega)]; exact id)]
        exact hr
      | none =>
        rw [hq] at hr
        dsimp only at hr
        rw [if_pos (show pgI none = -nI 1 from rfl), nI_div (by omega) (by omega), gd_t (i5 (by omega)), nI_cl (by omega)]
        by_cases h1 : kV κ 5 0 15 (i / 8) = h
        · rw [if_pos h1, gd_t (iN (by omega) (by omega)), nI_cl (by omega)]
          by_cases h2 : kV κ 5 0 28 i = f
          · rw [if_pos h2]
            have e : onF (kV κ 5 0) h f i = true := by simp [onF, h1, h2]
            rw [e, if_pos rfl] at hr
            exact hr
          · rw [if_neg h2]
            have e : onF (kV κ 5 0) h f i = false := by simp [onF, h2]
            rw [e] at hr
            exact hr
        · rw [if_neg h1]
          have e : onF (kV κ 5 0) h f i = false := by simp [onF, h1]
          rw [e] at hr
          exact hr
  exact loop (8 * n) 0 FU (by omega) (by unfold FU; omega)
/-! rows of a guest -/
def goToM (μ : MU) (g : Nat) (x : Int32) : MU :=
  let μ1 := mu μ 1 (55 * g + 6) (μ 1 (55 * g + 4))
  let μ2 := mu μ1 1 (55 * g + 4) (μ1 1 (55 * g + 5))
  let μ3 := mu μ2 1 (55 * g + 8) 1
  mu μ3 1 (55 * g + 7) x
theorem m_goTo {E : EE} {κ : K} {g : Nat} {x : Int32} (hg : g < 5) : f_X11_goTo E κ (nI g) x = some (putM κ (goToM (kV κ 5 0) g x), ()) := by
  unfold f_X11_goTo
  simp only [nmE, show (55 : Int32) = nI 55 from rfl, show (4 : Int32) = nI 4 from rfl, show (6 : Int32) = nI 6 from rfl, show (5 : Int32) = nI 5 from rfl, show (8 : Int32) = nI 8 from rfl, show (7 : Int32) = nI 7 from rfl, nI_mul, nI_add]
  rw [gd_t (iN (by omega) (by omega)), gd_t (iN (by omega) (by omega)), gd_t (iN (by omega) (by omega)), gd_t (iN (by omega) (by omega)), gd_t (iN (by omega) (by omega)), gd_t (iN (by omega) (by omega))]
  rw [nI_cl (by omega), nI_cl (by omega), nI_cl (by omega), nI_cl (by omega), nI_cl (by omega)]
  simp only [set5, put_kV, put_put]
  rfl
def faultM (μ : MU) (g : Nat) : MU := if μ 1 (55 * g + 5) = -1 ∨ μ 1 (55 * g + 8) = 1 then mu μ 1 (55 * g + 49) 3 else goToM μ g 1
theorem m_fault {E : EE} {κ : K} {g : Nat} (hg : g < 5) : f_X11_fault E κ (nI g) = some (putM κ (faultM (kV κ 5 0) g), ()) := by
  unfold f_X11_fault f_X11_fault_b30 faultM
  simp only [nmE, show (55 : Int32) = nI 55 from rfl, show (49 : Int32) = nI 49 from rfl, show (5 : Int32) = nI 5 from rfl, show (8 : Int32) = nI 8 from rfl, nI_mul, nI_add]
  rw [gd_t (iN (by omega) (by omega)), gd_t (iN (by omega) (by omega)), gd_t (iN (by omega) (by omega)), nI_cl (by omega), nI_cl (by omega), nI_cl (by omega), m_goTo hg, bd_s, set5]
  by_cases h1 : kV κ 5 0 1 (55 * g + 5) = -1
  · rw [if_pos h1, if_pos (Or.inl h1)]
  · by_cases h2 : kV κ 5 0 1 (55 * g + 8) = 1
    · rw [if_neg h1, if_pos h2, if_pos (Or.inr h2)]
    · rw [if_neg h1, if_neg h2, if_neg (fun z => z.elim h1 h2)]
