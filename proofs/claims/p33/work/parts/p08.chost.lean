/-- the rows of a member of family f -/
def pv (κ : K) (f i : Nat) (w : MU) : K := (fun f' i' c k => if f' = f ∧ i' = i then w c k else κ.1 f' i' c k, κ.2)
theorem pv_kV {κ : K} {f i : Nat} {w : MU} : kV (pv κ f i w) f i = w := by
  funext c k
  show (if f = f ∧ i = i then w c k else κ.1 f i c k) = w c k
  rw [if_pos ⟨rfl, rfl⟩]
theorem pv_n {κ : K} {f i f' i' : Nat} {w : MU} (h : ¬ (f' = f ∧ i' = i)) : kV (pv κ f i w) f' i' = kV κ f' i' := by
  funext c k
  exact if_neg h
theorem pv_pv {κ : K} {f i : Nat} {w w' : MU} : pv (pv κ f i w) f i w' = pv κ f i w' := by
  unfold pv
  congr 1
  funext f' i' c k
  dsimp only
  split <;> rfl
theorem setp {κ : K} {f i c k : Nat} {x : Int32} : setV κ f i c k x = pv κ f i (mu (kV κ f i) c k x) := by
  unfold setV pv
  congr 1
  funext f' i' c' k'
  unfold mu
  by_cases h : f' = f ∧ i' = i
  · obtain ⟨rfl, rfl⟩ := h
    by_cases h2 : c' = c ∧ k' = k
    · rw [if_pos ⟨rfl, rfl, h2.1, h2.2⟩, if_pos ⟨rfl, rfl⟩, if_pos h2]
    · rw [if_neg (fun z => h2 ⟨z.2.2.1, z.2.2.2⟩), if_pos ⟨rfl, rfl⟩, if_neg h2]
      rfl
  · rw [if_neg h, if_neg (fun z => h ⟨z.1, z.2.1⟩)]
theorem pv_self {κ : K} {f i : Nat} : pv κ f i (kV κ f i) = κ := by
  unfold pv
  refine Prod.ext ?_ rfl
  funext f' i' c k
  dsimp only
  split
  · rename_i h; rw [h.1, h.2]; rfl
  · rfl
theorem pv_N {κ : K} {f i : Nat} {w : MU} : kN (pv κ f i w) = kN κ := rfl
theorem pv_P {κ : K} {f i : Nat} {w : MU} : kP (pv κ f i w) = kP κ := rfl
theorem pv_C {κ : K} {f i : Nat} {w : MU} : kC (pv κ f i w) = kC κ := rfl
theorem pv_T {κ : K} {f i : Nat} {w : MU} : kT (pv κ f i w) = kT κ := rfl
/-! a host: 1 frame of key, 2 pages in, 3 used at -/
def inF (w : MU) (f : Int32) (key : Nat) : Bool := decide (w 1 key = f)
theorem h_keyIn {E : EE} {κ : K} {h : Nat} {f : Int32} : f_X2_keyIn E κ h f = some (κ, pgI (fstU (inF (kV κ 2 h) f) 40)) := by
  have loop : ∀ (d i m : Nat), i + d = 40 → d < m → fstU (inF (kV κ 2 h) f) i = none → f_X2_keyIn_b2 E h m κ f (nI i) = some (κ, pgI (fstU (inF (kV κ 2 h) f) 40)) := by
    intro d
    induction d with
    | zero =>
      intro i m hi hm hnone
      obtain ⟨m, rfl⟩ : ∃ q, m = q + 1 := ⟨m - 1, by omega⟩
      have e : i = 40 := by omega
      subst e
      rw [f_X2_keyIn_b2, if_pos (nI_le (by omega) (by omega)), hnone]
      rfl
    | succ d ih =>
      intro i m hi hm hnone
      obtain ⟨m, rfl⟩ : ∃ q, m = q + 1 := ⟨m - 1, by omega⟩
      rw [f_X2_keyIn_b2, if_neg (by rw [nI_leI (by omega) (by omega)]; omega), gd_t (iN (by omega) (by omega)), nI_cl (by omega)]
      by_cases hf : kV κ 2 h 1 i = f
      · have e : fstU (inF (kV κ 2 h) f) 40 = some i := fstU_eq (by omega) (by simp [inF, hf]) (fun j hj => fstU_none hnone j hj)
        rw [if_pos hf, e]
        rfl
      · rw [if_neg hf, nmE, nI_1]
        refine ih (i + 1) m (by omega) (by omega) ?_
        unfold fstU
        rw [hnone]
        dsimp only
        rw [if_neg (by simp [inF, hf])]
  exact loop 40 0 FU (by omega) (by unfold FU; omega) rfl
def lowF (w : MU) : Option Nat := fstU (fun f => decide (w 2 f = 0)) 16
theorem h_lowestFree {E : EE} {κ : K} {h : Nat} : f_X2_lowestFree E κ h = some (κ, pgI (lowF (kV κ 2 h))) := by
  have loop : ∀ (d i m : Nat), i + d = 16 → d < m → fstU (fun f => decide (kV κ 2 h 2 f = 0)) i = none → f_X2_lowestFree_b2 E h m κ (nI i) = some (κ, pgI (lowF (kV κ 2 h))) := by
    intro d
    induction d with
    | zero =>
      intro i m hi hm hnone
      obtain ⟨m, rfl⟩ : ∃ q, m = q + 1 := ⟨m - 1, by omega⟩
      have e : i = 16 := by omega
      subst e
      unfold lowF
      rw [f_X2_lowestFree_b2, if_pos (by decide), hnone]
      rfl
    | succ d ih =>
      intro i m hi hm hnone
      obtain ⟨m, rfl⟩ : ∃ q, m = q + 1 := ⟨m - 1, by omega⟩
      rw [f_X2_lowestFree_b2, l16, if_neg (by rw [nI_leI (by omega) (by omega)]; omega), gd_t (iN (by omega) (by omega)), nI_cl (by omega)]
      by_cases hf : kV κ 2 h 2 i = 0
      · have e : lowF (kV κ 2 h) = some i := fstU_eq (by omega) (by simp [hf]) (fun j hj => fstU_none hnone j hj)
        rw [if_pos hf, e]
        rfl
      · rw [if_neg hf, nmE, nI_1]
        refine ih (i + 1) m (by omega) (by omega) ?_
        unfold fstU
        rw [hnone]
        dsimp only
        rw [if_neg (by simp [hf])]
  exact loop 16 0 FU (by omega) (by unfold FU; omega) rfl
def obU (w : MU) (s st : Int32) : Nat → Int32
  | 0 => st
  | i + 1 => if nI i = s then obU w s st i else if w 3 (obU w s st i).toNatClampNeg ≤ w 3 i then obU w s st i else nI i
theorem obU_lt {w : MU} {s : Int32} {st : Nat} (hst : st < 16) : ∀ i, i ≤ 16 → ∃ j, j < 16 ∧ obU w s (nI st) i = nI j
  | 0, _ => ⟨st, hst, rfl⟩
  | i + 1, hi => by
    obtain ⟨j, h1, h2⟩ := obU_lt (w := w) (s := s) hst i (by omega)
    unfold obU
    split
    · exact ⟨j, h1, h2⟩
    · split
      · exact ⟨j, h1, h2⟩
      · exact ⟨i, by omega, rfl⟩
def oldB (w : MU) (s : Int32) : Int32 := obU w s (if s = 0 then nI 1 else nI 0) 16
theorem oldB_lt (w : MU) (s : Int32) : ∃ j, j < 16 ∧ oldB w s = nI j := by
  unfold oldB
  split
  · exact obU_lt (by omega) 16 (by omega)
  · exact obU_lt (by omega) 16 (by omega)
theorem h_oldestBut {E : EE} {κ : K} {h : Nat} {s : Int32} : f_X2_oldestBut E κ h s = some (κ, oldB (kV κ 2 h) s) := by
  have loop : ∀ (st : Nat), st < 16 → ∀ (d i m : Nat), i + d = 16 → d < m → f_X2_oldestBut_b12 E h m κ s (obU (kV κ 2 h) s (nI st) i) (nI i) = some (κ, obU (kV κ 2 h) s (nI st) 16) := by
    intro st hst d
    induction d with
    | zero =>
      intro i m hi hm
      obtain ⟨m, rfl⟩ : ∃ q, m = q + 1 := ⟨m - 1, by omega⟩
      have e : i = 16 := by omega
      subst e
      rw [f_X2_oldestBut_b12, if_pos (by decide)]
    | succ d ih =>
      intro i m hi hm
      obtain ⟨m, rfl⟩ : ∃ q, m = q + 1 := ⟨m - 1, by omega⟩
      have hr := ih (i + 1) m (by omega) (by omega)
      rw [show obU (kV κ 2 h) s (nI st) (i + 1) = (if nI i = s then obU (kV κ 2 h) s (nI st) i else if kV κ 2 h 3 (obU (kV κ 2 h) s (nI st) i).toNatClampNeg ≤ kV κ 2 h 3 i then obU (kV κ 2 h) s (nI st) i else nI i) from rfl] at hr
      rw [f_X2_oldestBut_b12, l16, if_neg (by rw [nI_leI (by omega) (by omega)]; omega)]
      unfold f_X2_oldestBut_b40
      simp only [nmE, nI_1]
      by_cases hs : nI i = s
      · rw [if_pos hs] at hr ⊢
        exact hr
      · rw [if_neg hs] at hr ⊢
        obtain ⟨j, h1, h2⟩ := obU_lt (w := kV κ 2 h) (s := s) hst i (by omega)
        rw [gd_t (iN (by omega) (by omega)), h2, gd_t (iN (by omega) (by omega))]
        rw [h2] at hr
        rw [nI_cl (by omega), nI_cl (by omega)]
        rw [nI_cl (by omega)] at hr
        by_cases hu : kV κ 2 h 3 j ≤ kV κ 2 h 3 i
        · rw [if_pos hu] at hr ⊢
          exact hr
        · rw [if_neg hu] at hr ⊢
          exact hr
  unfold f_X2_oldestBut f_X2_oldestBut_b9 oldB
  by_cases h0 : s = 0
  · rw [if_pos h0, if_pos h0]
    exact loop 1 (by omega) 16 0 FU (by omega) (by unfold FU; omega)
  · rw [if_neg h0, if_neg h0]
    exact loop 0 (by omega) 16 0 FU (by omega) (by unfold FU; omega)
/-- all pages of a frame go to another place -/
def mvU (w : MU) (f p : Int32) : Nat → MU
  | 0 => w
  | i + 1 => if (mvU w f p i) 1 i = f then mu (mvU w f p i) 1 i p else mvU w f p i
theorem mvU_row {w : MU} {f p : Int32} {c : Nat} (hc : c ≠ 1) : ∀ i, (mvU w f p i) c = w c
  | 0 => rfl
  | i + 1 => by
    unfold mvU
    split
    · rw [mu_row hc, mvU_row hc i]
    · exact mvU_row hc i
theorem mvU_ge {w : MU} {f p : Int32} {k : Nat} : ∀ i, i ≤ k → (mvU w f p i) 1 k = w 1 k
  | 0, _ => rfl
  | i + 1, h => by
    unfold mvU
    split
    · rw [muD (by omega), mvU_ge i (by omega)]
    · exact mvU_ge i (by omega)
theorem mvU_lt {w : MU} {f p : Int32} {k : Nat} : ∀ i, k < i → (mvU w f p i) 1 k = if w 1 k = f then p else w 1 k
  | 0, h => absurd h (Nat.not_lt_zero k)
  | i + 1, h => by
    unfold mvU
    by_cases e : k = i
    · subst e
      rw [mvU_ge k (Nat.le_refl k)]
      split
      · exact muS ⟨rfl, rfl⟩
      · exact mvU_ge k (Nat.le_refl k)
    · split
      · rw [muD (by omega), mvU_lt i (by omega)]
      · exact mvU_lt i (by omega)
def mvH (w : MU) (f : Nat) (p : Int32) : MU := mu (mvU w (nI f) p 40) 2 f 0
theorem h_moveAll {E : EE} {κ : K} {h f : Nat} {p : Int32} (hf : f < 16) : f_X2_moveAll E κ h (nI f) p = some (pv κ 2 h (mvH (kV κ 2 h) f p), ()) := by
  have loop : ∀ (d i m : Nat), i + d = 40 → d < m → f_X2_moveAll_b2 E h m (pv κ 2 h (mvU (kV κ 2 h) (nI f) p i)) (nI f) p (nI i) = some (pv κ 2 h (mvH (kV κ 2 h) f p), ()) := by
    intro d
    induction d with
    | zero =>
      intro i m hi hm
      obtain ⟨m, rfl⟩ : ∃ q, m = q + 1 := ⟨m - 1, by omega⟩
      have e : i = 40 := by omega
      subst e
      rw [f_X2_moveAll_b2, if_pos (nI_le (by omega) (by omega))]
      unfold f_X2_moveAll_b34 mvH
      simp (disch := omega) only [nmE, l2, l3, l4, l5, l6, l7, l8, l9, l16, nI_mul, nI_add, nI_1, nI_cl, gdi, setp, pv_kV, pv_pv, bd_s]
    | succ d ih =>
      intro i m hi hm
      obtain ⟨m, rfl⟩ : ∃ q, m = q + 1 := ⟨m - 1, by omega⟩
      have hr := ih (i + 1) m (by omega) (by omega)
      rw [show mvU (kV κ 2 h) (nI f) p (i + 1) = (if (mvU (kV κ 2 h) (nI f) p i) 1 i = nI f then mu (mvU (kV κ 2 h) (nI f) p i) 1 i p else mvU (kV κ 2 h) (nI f) p i) from rfl] at hr
      rw [f_X2_moveAll_b2, if_neg (by rw [nI_leI (by omega) (by omega)]; omega)]
      unfold f_X2_moveAll_b28
      simp (disch := omega) only [nmE, l2, l3, l4, l5, l6, l7, l8, l9, l16, nI_mul, nI_add, nI_1, nI_cl, gdi, setp, pv_kV, pv_pv, bd_s]
      by_cases hz : (mvU (kV κ 2 h) (nI f) p i) 1 i = nI f
      · rw [if_pos hz] at hr ⊢
        exact hr
      · rw [if_neg hz] at hr ⊢
        exact hr
  have := loop 40 0 FU (by omega) (by unfold FU; omega)
  rw [show mvU (kV κ 2 h) (nI f) p 0 = kV κ 2 h from rfl, pv_self] at this
  exact this
def leaveH (w : MU) (key : Nat) : MU := if w 1 key = -1 then w else mu (mu w 2 (w 1 key).toNatClampNeg (w 2 (w 1 key).toNatClampNeg - 1)) 1 key (-1)
theorem h_leave {E : EE} {κ : K} {h key : Nat} (hk : key < 40) (hF : kV κ 2 h 1 key = -1 ∨ ∃ f, f < 16 ∧ kV κ 2 h 1 key = nI f) : f_X2_leave E κ h (nI key) = some (pv κ 2 h (leaveH (kV κ 2 h) key), ()) := by
  unfold f_X2_leave leaveH
  rw [gd_t (iN hk (by omega)), nI_cl (by omega), nmE]
  rcases hF with hF | ⟨f, hf, hF⟩
  · rw [if_pos hF, if_pos hF, pv_self]
  · have hne : ¬ kV κ 2 h 1 key = -1 := by rw [hF, nI_m1 (by omega)]; exact id
    rw [if_neg hne, if_neg hne, hF]
    simp (disch := omega) only [nmE, l2, l3, l4, l5, l6, l7, l8, l9, l16, nI_mul, nI_add, nI_1, nI_cl, gdi, setp, pv_kV, pv_pv, bd_s]
def putH (w : MU) (key f : Nat) : MU :=
  let w1 := mu w 1 key (nI f)
  let w2 := mu w1 2 f (w1 2 f + 1)
  mu w2 3 f (w2 0 5)
def holdH (w : MU) (key : Nat) (s : Int32) : MU := match lowF w with
  | some f => putH w key f
  | none => putH (mvH w (oldB w s).toNatClampNeg (-1)) key (oldB w s).toNatClampNeg
theorem h_hold {E : EE} {κ : K} {h key : Nat} {s : Int32} (hk : key < 40) : f_X2_hold E κ h (nI key) s = some (pv κ 2 h (holdH (kV κ 2 h) key s), ()) := by
  have put : ∀ (w : MU) (f : Nat), f < 16 → f_X2_hold_b22 E h (pv κ 2 h w) (nI key) (nI f) = some (pv κ 2 h (putH w key f), ()) := by
    intro w f hf
    unfold f_X2_hold_b22 putH
    simp (disch := omega) only [nmE, l2, l3, l4, l5, l6, l7, l8, l9, l16, nI_mul, nI_add, nI_1, nI_cl, gdi, setp, pv_kV, pv_pv, bd_s]
  unfold f_X2_hold holdH
  rw [h_lowestFree, bd_s]
  cases hl : lowF (kV κ 2 h) with
  | some f =>
    have hf := (fstU_lt hl).1
    have e : ¬ pgI (some f) = -1 := by
      show ¬ nI f = -1
      rw [nI_m1 (by omega)]; exact id
    rw [if_neg e]
    have := put (kV κ 2 h) f hf
    rw [pv_self] at this
    exact this
  | none =>
    rw [if_pos (show pgI none = -1 from rfl), h_oldestBut, bd_s]
    obtain ⟨j, hj, ej⟩ := oldB_lt (kV κ 2 h) s
    rw [ej, h_moveAll hj, bd_s, nI_cl (by omega)]
    exact put _ j hj
def mergeH (w : MU) (lo hi : Nat) : MU :=
  let w1 := mu w 2 lo (w 2 lo + w 2 hi)
  let w2 := mu w1 3 lo (if w1 3 lo < w1 3 hi then w1 3 hi else w1 3 lo)
  mvH w2 hi (nI lo)
theorem h_merge {E : EE} {κ : K} {h lo hi : Nat} (h1 : lo < 16) (h2 : hi < 16) : f_X2_merge E κ h (nI lo) (nI hi) = some (pv κ 2 h (mergeH (kV κ 2 h) lo hi), ()) := by
  unfold f_X2_merge mergeH
  simp (disch := omega) only [nmE, l2, l3, l4, l5, l6, l7, l8, l9, l16, nI_mul, nI_add, nI_1, nI_cl, gdi, setp, pv_kV, pv_pv, bd_s]
  rw [h_moveAll h2, bd_s, pv_kV, pv_pv]
