/-! a machine at (f, i, c): part 0 its fields, 1 registers, 2 views, 3 words -/
def setm (v : MU) (c : Nat) (m : MU) : MU := fun c' k => if c ≤ c' ∧ c' < c + 4 then m (c' - c) k else v c' k
def mc (v : MU) (c : Nat) : MU := fun j k => v (c + j) k
def pm (κ : K) (f i c : Nat) (m : MU) : K := pv κ f i (setm (kV κ f i) c m)
theorem setm_in {v m : MU} {c j : Nat} (hj : j < 4) : (setm v c m) (c + j) = m j := by
  funext k
  unfold setm
  rw [if_pos ⟨by omega, by omega⟩, Nat.add_sub_cancel_left]
theorem setm_out {v m : MU} {c c' : Nat} (h : ¬ (c ≤ c' ∧ c' < c + 4)) : (setm v c m) c' = v c' := by
  funext k
  exact if_neg h
theorem pm_0 {κ : K} {f i c : Nat} {m : MU} : kV (pm κ f i c m) f i c = m 0 := by
  unfold pm
  rw [pv_kV]
  exact setm_in (j := 0) (by omega)
theorem pm_1 {κ : K} {f i c : Nat} {m : MU} : kV (pm κ f i c m) f i (c + 1) = m 1 := by
  unfold pm
  rw [pv_kV]
  exact setm_in (by omega)
theorem pm_2 {κ : K} {f i c : Nat} {m : MU} : kV (pm κ f i c m) f i (c + 2) = m 2 := by
  unfold pm
  rw [pv_kV]
  exact setm_in (by omega)
theorem pm_3 {κ : K} {f i c : Nat} {m : MU} : kV (pm κ f i c m) f i (c + 3) = m 3 := by
  unfold pm
  rw [pv_kV]
  exact setm_in (by omega)
theorem pm_n {κ : K} {f i c f' i' c' : Nat} {m : MU} (h : ¬ (f' = f ∧ i' = i ∧ c ≤ c' ∧ c' < c + 4)) : kV (pm κ f i c m) f' i' c' = kV κ f' i' c' := by
  unfold pm
  by_cases e : f' = f ∧ i' = i
  · obtain ⟨rfl, rfl⟩ := e
    rw [pv_kV]
    exact setm_out (fun z => h ⟨rfl, rfl, z⟩)
  · rw [pv_n e]
theorem pm_P {κ : K} {f i c : Nat} {m : MU} : kP (pm κ f i c m) = kP κ := rfl
theorem pm_N {κ : K} {f i c : Nat} {m : MU} : kN (pm κ f i c m) = kN κ := rfl
theorem pm_C {κ : K} {f i c : Nat} {m : MU} : kC (pm κ f i c m) = kC κ := rfl
theorem pm_pm {κ : K} {f i c : Nat} {m m' : MU} : pm (pm κ f i c m) f i c m' = pm κ f i c m' := by
  unfold pm
  rw [pv_kV, pv_pv]
  congr 1
  funext c' k
  unfold setm
  split <;> rfl
theorem pm_eq {κ : K} {f i c : Nat} {m : MU} (h : ∀ j, j < 4 → kV κ f i (c + j) = m j) : pm κ f i c m = κ := by
  have e : setm (kV κ f i) c m = kV κ f i := by
    funext c' k
    by_cases z : c ≤ c' ∧ c' < c + 4
    · obtain ⟨j, rfl⟩ : ∃ j, c' = c + j := ⟨c' - c, by omega⟩
      rw [setm_in (by omega), h j (by omega)]
    · rw [setm_out z]
  unfold pm
  rw [e, pv_self]
theorem pm_self {κ : K} {f i c : Nat} : pm κ f i c (mc (kV κ f i) c) = κ := pm_eq fun _ _ => rfl
theorem setm_mu {v m : MU} {c j k : Nat} {x : Int32} (hj : j < 4) : mu (setm v c m) (c + j) k x = setm v c (mu m j k x) := by
  funext c' k'
  unfold mu setm
  dsimp only
  by_cases z : c ≤ c' ∧ c' < c + 4
  · rw [if_pos z, if_pos z]
    by_cases e : c' = c + j ∧ k' = k
    · rw [if_pos e, if_pos (show c' - c = j ∧ k' = k from ⟨by omega, e.2⟩)]
    · rw [if_neg e, if_neg (show ¬ (c' - c = j ∧ k' = k) from fun y => e ⟨by omega, y.2⟩)]
  · rw [if_neg z, if_neg z, if_neg (by omega)]
theorem ps_j {κ : K} {f i c j k : Nat} {m : MU} {x : Int32} (hj : j < 4) : setV (pm κ f i c m) f i (c + j) k x = pm κ f i c (mu m j k x) := by
  rw [setp]
  unfold pm
  rw [pv_kV, pv_pv, setm_mu hj]
theorem ps_0 {κ : K} {f i c k : Nat} {m : MU} {x : Int32} : setV (pm κ f i c m) f i c k x = pm κ f i c (mu m 0 k x) := ps_j (j := 0) (by omega)
theorem ps_1 {κ : K} {f i c k : Nat} {m : MU} {x : Int32} : setV (pm κ f i c m) f i (c + 1) k x = pm κ f i c (mu m 1 k x) := ps_j (by omega)
theorem ps_2 {κ : K} {f i c k : Nat} {m : MU} {x : Int32} : setV (pm κ f i c m) f i (c + 2) k x = pm κ f i c (mu m 2 k x) := ps_j (by omega)
theorem ps_3 {κ : K} {f i c k : Nat} {m : MU} {x : Int32} : setV (pm κ f i c m) f i (c + 3) k x = pm κ f i c (mu m 3 k x) := ps_j (by omega)
/-! a step -/
def enterC (m : MU) (why : Int32) : MU := mu (mu (mu (mu m 0 5 (m 0 3)) 0 3 (m 0 4)) 0 7 1) 0 6 why
def faultC (m : MU) : MU := if m 0 4 = -1 then mu m 0 8 3 else if m 0 7 = 0 then enterC m 1 else mu m 0 8 3
def clrC (m : MU) (p : Nat) : Nat → MU
  | 0 => m
  | k + 1 => mu (clrC m p k) 3 (4 * p + k) 0
def adC (m : MU) (b : Nat) : Option Nat := if 31 < (m 1 b).toNatClampNeg then none else if m 2 ((m 1 b).toNatClampNeg / 4) = 8 then none else some (4 * (m 2 ((m 1 b).toNatClampNeg / 4)).toNatClampNeg + (m 1 b).toNatClampNeg % 4)
def accC (m : MU) (wr : Int32) (a q : Nat) : MU := if wr = 0 then mu (mu m 1 a (m 3 q)) 0 3 (m 0 3 + 1) else mu (mu m 3 q (m 1 a)) 0 3 (m 0 3 + 1)
def stepM (m : MU) (w a b : Nat) (X : Int32) (pend : Bool) : MU :=
  if w = 0 then mu (mu m 1 a (nI b)) 0 3 (m 0 3 + 1)
  else if w = 1 then mu (mu m 1 a ((m 1 a + m 1 b) - (m 1 a + m 1 b) / 10000 * 10000)) 0 3 (m 0 3 + 1)
  else if w = 2 then (match adC m b with
    | none => faultC m
    | some q => accC m 0 a q)
  else if w = 3 then (match adC m b with
    | none => faultC m
    | some q => accC m 1 a q)
  else if w = 4 then mu m 0 3 (if m 1 a = 0 then m 0 3 + 1 else nI b)
  else if w = 5 then mu (mu m 2 a (nI b)) 0 3 (m 0 3 + 1)
  else if w = 6 then mu m 0 3 (m 0 3 + 1)
  else if w = 7 then mu (mu m 1 a (if b = 2 then m 0 6 else X)) 0 3 (m 0 3 + 1)
  else if w = 8 then (if pend = true then mu m 0 3 (m 0 3 + 1) else mu (mu m 0 8 1) 0 3 (m 0 3 + 1))
  else if w = 9 then mu (mu m 0 4 (nI b)) 0 3 (m 0 3 + 1)
  else if w = 10 then mu (mu m 0 7 (nI b)) 0 3 (m 0 3 + 1)
  else if w = 11 then mu (mu m 0 7 0) 0 3 (m 0 5)
  else if w = 12 then mu (clrC m b 4) 0 3 (m 0 3 + 1)
  else mu (mu m 0 8 2) 0 3 (m 0 3 + 1)
theorem c_enter {E : EE} {κ : K} {f i c : Nat} {m : MU} {why : Int32} : f_X3_enterHandler E (pm κ f i c m) f i c why = some (pm κ f i c (enterC m why), ()) := by
  rw [f_X3_enterHandler, nmE, pm_0, ps_0, nmE, pm_0, ps_0, nmE, ps_0, nmE, ps_0]
  rw [show (mu m 0 5 (m 0 3)) 0 4 = m 0 4 from muD (by omega)]
  rfl
theorem c_fault {E : EE} {κ : K} {f i c : Nat} {m : MU} : f_X3_fault E (pm κ f i c m) f i c = some (pm κ f i c (faultC m), ()) := by
  rw [f_X3_fault, pm_0]
  unfold faultC f_X3_fault_b15
  by_cases h1 : m 0 4 = -1
  · rw [if_pos h1, if_pos h1, nmE, ps_0]
  · rw [if_neg h1, if_neg h1]
    by_cases h2 : m 0 7 = 0
    · rw [if_pos h2, if_pos h2, c_enter, bd_s]
    · rw [if_neg h2, if_neg h2, nmE, ps_0]
theorem c_clear {E : EE} {κ : K} {f i c p : Nat} {m : MU} (hp : p < 8) : f_X3_clear E (pm κ f i c m) f i c (nI p) = some (pm κ f i c (clrC m p 4), ()) := by
  have loop : ∀ (d j n : Nat), j + d = 4 → d < n → f_X3_clear_b2 E f i c n (pm κ f i c (clrC m p j)) (nI p) (nI j) = some (pm κ f i c (clrC m p 4), ()) := by
    intro d
    induction d with
    | zero =>
      intro j n hj hn
      obtain ⟨n, rfl⟩ : ∃ q, n = q + 1 := ⟨n - 1, by omega⟩
      have e : j = 4 := by omega
      subst e
      rw [f_X3_clear_b2, l4, if_pos (by rw [nI_le' (by omega) (by omega)]; exact Nat.le_refl _)]
    | succ d ih =>
      intro j n hj hn
      obtain ⟨n, rfl⟩ : ∃ q, n = q + 1 := ⟨n - 1, by omega⟩
      rw [f_X3_clear_b2, l4, if_neg (by rw [nI_le' (by omega) (by omega)]; omega), nI_mul, nI_add, nI_cl (by omega), gdi (by omega), nmE, ps_3, nmE, nI_1, Nat.mul_comm p 4]
      exact ih (j + 1) n (by omega) (by omega)
  rw [f_X3_clear, i32_0]
  exact loop 4 0 FU (by omega) (by unfold FU; omega)
/-- what a machine's rows are -/
def MOK (m : MU) : Prop := (∀ k, k < 4 → ∃ r, r < 10000 ∧ m 1 k = nI r) ∧ (∀ k, k < 8 → ∃ r, r < 9 ∧ m 2 k = nI r) ∧ ∃ x, x < 25 ∧ m 0 3 = nI x
theorem c_word {E : EE} {κ : K} {f i c b : Nat} {m : MU} (hm : MOK m) (hb : b < 4) : f_X3_wordAt E (pm κ f i c m) f i c (m 1 b) = some (pm κ f i c m, match adC m b with | none => -1 | some q => nI q) := by
  obtain ⟨r, hr, er⟩ := hm.1 b hb
  unfold adC
  rw [f_X3_wordAt, er, nI_cl (by omega), if_neg (nI_pos (by omega)), show (32 : Int32) = nI 32 from rfl]
  by_cases h : 31 < r
  · rw [if_neg (by rw [nI_lt' (by omega) (by omega)]; omega), if_pos h]
  · rw [if_pos (by rw [nI_lt' (by omega) (by omega)]; omega), if_neg h, l4, nI_div (by omega) (by omega), nI_cl (by omega), gdi (by omega), nmE, pm_2]
    obtain ⟨y, hy, ey⟩ := hm.2.1 (r / 4) (by omega)
    rw [ey, l8, nI_cl (by omega)]
    by_cases h8 : y = 8
    · rw [if_neg (by rw [nI_lt' (by omega) (by omega)]; omega), if_pos (by rw [h8])]
    · rw [if_pos (by rw [nI_lt' (by omega) (by omega)]; omega), if_neg (by rw [nI_eq' (by omega) (by omega)]; exact h8)]
      dsimp only
      rw [nI_mul, show nI r - nI (r / 4) * nI 4 = nI (r % 4) from by rw [← nI_div (by omega) (by omega), nI_mod (by omega) (by omega)], nI_add, Nat.mul_comm]
theorem adC_lt {m : MU} {b q : Nat} (hm : MOK m) (hb : b < 4) (h : adC m b = some q) : q < 32 ∧ ∃ y, y < 8 ∧ m 2 ((m 1 b).toNatClampNeg / 4) = nI y ∧ q / 4 = y ∧ (m 1 b).toNatClampNeg ≤ 31 ∧ q = 4 * y + (m 1 b).toNatClampNeg % 4 := by
  unfold adC at h
  split at h
  · cases h
  · split at h
    · cases h
    · rename_i h1 h2
      obtain ⟨y, hy, ey⟩ := hm.2.1 ((m 1 b).toNatClampNeg / 4) (by omega)
      rw [ey] at h
      rw [ey, l8, nI_eq' (by omega) (by omega)] at h2
      rw [nI_cl (by omega)] at h
      cases h
      exact ⟨by omega, y, by omega, ey, by omega, by omega, rfl⟩
theorem c_chgG {E : EE} {κ : K} {f i c s w : Nat} {a b X : Int32} {m : MU} {pend : Bool} (hV : VI w a b) (hw : w = 0 ∨ w = 1 ∨ w = 4 ∨ w = 5 ∨ w = 9 ∨ w = 10 ∨ w = 11) : f_X3_change_G E (pm κ f i c m) f i c (nI w) a b s = some (pm κ f i c (stepM m w a.toNatClampNeg b.toNatClampNeg X pend), ()) := by
  obtain ⟨v1, v2, v3, v4, v5, v6, v7, v8, v9⟩ := hV
  rw [f_X3_change_G, nmE, pm_0]
  rcases hw with rfl | rfl | rfl | rfl | rfl | rfl | rfl
  · obtain ⟨a, ha, rfl⟩ := v2 (by omega)
    obtain ⟨b, hb, rfl⟩ := v6 rfl
    rw [if_pos (show nI 0 = 0 from rfl), nI_cl (by omega), nI_cl (by omega), gdi (by omega), nmE, ps_1, f_X3_change_G_b188, nmE, ps_0]
    rfl
  · obtain ⟨a, ha, rfl⟩ := v2 (by omega)
    obtain ⟨b, hb, rfl⟩ := v4 (by omega)
    rw [if_neg (show ¬ nI 1 = 0 by decide), if_pos (show nI 1 = 1 from rfl), nI_cl (by omega), nI_cl (by omega), gdi (by omega), gdi (by omega), gdi (by omega), nmE, pm_1, ps_1, f_X3_change_G_b188, nmE, ps_0]
    rfl
  · obtain ⟨a, ha, rfl⟩ := v2 (by omega)
    obtain ⟨b, hb, rfl⟩ := v7 (by omega)
    rw [if_neg (show ¬ nI 4 = 0 by decide), if_neg (show ¬ nI 4 = 1 by decide), if_neg (show ¬ nI 4 = 2 by decide), if_neg (show ¬ nI 4 = 3 by decide), if_pos (show nI 4 = 4 from rfl), nI_cl (by omega), nI_cl (by omega), gdi (by omega), pm_1]
    unfold f_X3_change_G_b123 f_X3_change_G_b188
    rw [nmE, nmE, ps_0, ps_0, show stepM m 4 a b X pend = mu m 0 3 (if m 1 a = 0 then m 0 3 + 1 else nI b) from rfl]
    split <;> rfl
  · obtain ⟨⟨a, ha, rfl⟩, b, hb, rfl⟩ := v3 rfl
    rw [if_neg (show ¬ nI 5 = 0 by decide), if_neg (show ¬ nI 5 = 1 by decide), if_neg (show ¬ nI 5 = 2 by decide), if_neg (show ¬ nI 5 = 3 by decide), if_neg (show ¬ nI 5 = 4 by decide), if_pos (show nI 5 = 5 from rfl), nI_cl (by omega), nI_cl (by omega), gdi (by omega), nmE, ps_2, f_X3_change_G_b188, nmE, ps_0]
    rfl
  · obtain ⟨b, hb, rfl⟩ := v7 (by omega)
    rw [if_neg (show ¬ nI 9 = 0 by decide), if_neg (show ¬ nI 9 = 1 by decide), if_neg (show ¬ nI 9 = 2 by decide), if_neg (show ¬ nI 9 = 3 by decide), if_neg (show ¬ nI 9 = 4 by decide), if_neg (show ¬ nI 9 = 5 by decide), if_neg (show ¬ nI 9 = 6 by decide), if_neg (show ¬ nI 9 = 7 by decide), if_neg (show ¬ nI 9 = 8 by decide), if_pos (show nI 9 = 9 from rfl), nI_cl (by omega), nmE, ps_0, f_X3_change_G_b188, nmE, ps_0]
    rfl
  · obtain ⟨b, hb, rfl⟩ := v8 (by omega)
    rw [if_neg (show ¬ nI 10 = 0 by decide), if_neg (show ¬ nI 10 = 1 by decide), if_neg (show ¬ nI 10 = 2 by decide), if_neg (show ¬ nI 10 = 3 by decide), if_neg (show ¬ nI 10 = 4 by decide), if_neg (show ¬ nI 10 = 5 by decide), if_neg (show ¬ nI 10 = 6 by decide), if_neg (show ¬ nI 10 = 7 by decide), if_neg (show ¬ nI 10 = 8 by decide), if_neg (show ¬ nI 10 = 9 by decide), if_pos (show nI 10 = 10 from rfl), nI_cl (by omega)]
    unfold f_X3_change_G_b157 f_X3_change_G_b188
    have e : b = 0 ∨ b = 1 := by omega
    rcases e with rfl | rfl
    · rw [if_neg (by decide), gd_t (Or.inl rfl), nmE, ps_0, nmE, ps_0]
      rfl
    · rw [if_pos (show nI 1 = 1 from rfl), gd_t (Or.inr rfl), nmE, ps_0, nmE, ps_0]
      rfl
  · rw [if_neg (show ¬ nI 11 = 0 by decide), if_neg (show ¬ nI 11 = 1 by decide), if_neg (show ¬ nI 11 = 2 by decide), if_neg (show ¬ nI 11 = 3 by decide), if_neg (show ¬ nI 11 = 4 by decide), if_neg (show ¬ nI 11 = 5 by decide), if_neg (show ¬ nI 11 = 6 by decide), if_neg (show ¬ nI 11 = 7 by decide), if_neg (show ¬ nI 11 = 8 by decide), if_neg (show ¬ nI 11 = 9 by decide), if_neg (show ¬ nI 11 = 10 by decide), if_pos (show nI 11 = 11 from rfl), nmE, nmE, ps_0, f_X3_change_G_b188, nmE, ps_0]
    rfl
theorem c_accG {E : EE} {κ κ1 : K} {f i c s a q wr : Nat} {m : MU} (ha : a < 4) (hq : q < 32) (hr : f_X1_reach E κ s (nI (q / 4)) (nI wr) = some (κ1, ())) (hm : ∀ j, j < 4 → kV κ1 f i (c + j) = m j) : f_X3_access_G E κ f i c (nI wr) (nI a) (nI q) s = some (pm κ1 f i c (accC m (nI wr) a q), ()) := by
  have e1 : κ1 = pm κ1 f i c m := (pm_eq hm).symm
  rw [f_X3_access_G, if_neg (by rw [nI_m1 (by omega)]; exact id), l4, nI_div (by omega) (by omega), hr, bd_s, nI_cl (by omega), nI_cl (by omega), gdi (by omega), gdi (by omega)]
  unfold accC f_X3_access_G_b50
  rw [e1]
  by_cases h : nI wr = 0
  · rw [if_pos h, if_pos h, nmE, pm_3, ps_1, nmE, pm_0, ps_0, ← e1, mu_row (show (0 : Nat) ≠ 1 by omega)]
  · rw [if_neg h, if_neg h, gdi (by omega), gdi (by omega), nmE, pm_1, ps_3, nmE, pm_0, ps_0, ← e1, mu_row (show (0 : Nat) ≠ 3 by omega)]
theorem c_lsG {E : EE} {κ : K} {f i c g s w a b : Nat} {m : MU} (hm : MOK m) (ha : a < 4) (hb : b < 4) (hw : w = 2 ∨ w = 3) (hκ : ∀ j, j < 4 → kV κ f i (c + j) = m j) (κ1 : K) (hr : ∀ q, adC m b = some q → f_X1_reach E κ s (nI (q / 4)) (nI (w - 2)) = some (κ1, ()) ∧ ∀ j, j < 4 → kV κ1 f i (c + j) = m j) (h0 : adC m b = none → κ1 = κ) : f_X3_doNext_G_b68 E f i c g s κ (nI a) (nI b) (nI w) = some (pm κ1 f i c (stepM m w a b 0 false), ()) := by
  have e0 : κ = pm κ f i c m := (pm_eq hκ).symm
  have e68 : f_X3_doNext_G_b68 E f i c g s κ (nI a) (nI b) (nI w) = f_X3_doNext_G_b80 E f i c g s κ (nI a) (nI b) (nI (w - 2)) := by
    unfold f_X3_doNext_G_b68
    rcases hw with rfl | rfl
    · rw [if_neg (show ¬ nI 2 = 3 by decide)]; rfl
    · rw [if_pos (show nI 3 = 3 from rfl)]; rfl
  have e80 : f_X3_doNext_G_b80 E f i c g s κ (nI a) (nI b) (nI (w - 2)) = bd (f_X3_access_G E κ f i c (nI (w - 2)) (nI a) (match adC m b with | none => -1 | some q => nI q) s) fun κ16 _ => some (κ16, ()) := by
    rw [f_X3_doNext_G_b80, nI_cl (by omega), gdi (by omega), hκ 1 (by omega)]
    rw [show f_X3_wordAt E κ f i c (m 1 b) = some (κ, match adC m b with | none => -1 | some q => nI q) from by
      have := c_word (E := E) (κ := κ) (f := f) (i := i) (c := c) hm hb
      rw [← e0] at this
      exact this]
    rw [bd_s]
  rw [e68, e80]
  cases ha2 : adC m b with
  | none =>
    dsimp only
    rw [f_X3_access_G, if_pos rfl, h0 ha2]
    rw [show f_X3_fault E κ f i c = some (pm κ f i c (faultC m), ()) from by
      have := c_fault (E := E) (κ := κ) (f := f) (i := i) (c := c) (m := m)
      rw [← e0] at this
      exact this]
    rw [bd_s, bd_s]
    rcases hw with rfl | rfl
    · rw [show stepM m 2 a b 0 false = faultC m from by show (match adC m b with | none => faultC m | some q => accC m 0 a q) = _; rw [ha2]]
    · rw [show stepM m 3 a b 0 false = faultC m from by show (match adC m b with | none => faultC m | some q => accC m 1 a q) = _; rw [ha2]]
  | some q =>
    dsimp only
    obtain ⟨hr1, hr2⟩ := hr q ha2
    rw [c_accG ha (adC_lt hm hb ha2).1 hr1 hr2, bd_s]
    rcases hw with rfl | rfl
    · rw [show stepM m 2 a b 0 false = accC m (nI (2 - 2)) a q from by show (match adC m b with | none => faultC m | some q => accC m 0 a q) = _; rw [ha2]; rfl]
    · rw [show stepM m 3 a b 0 false = accC m (nI (3 - 2)) a q from by show (match adC m b with | none => faultC m | some q => accC m 1 a q) = _; rw [ha2]; rfl]
theorem c_outG {E : EE} {κ κ1 κ2 : K} {f i c g s a : Nat} {b X : Int32} {b2 : Nat} {m : MU} {pend : Bool} (ha : a < 4) (h1 : f_X1_countExit E κ s 3 = some (κ1, ())) (hm1 : kV κ1 f i (c + 1) = m 1) (h2 : f_X1_tell E κ1 s b (m 1 a) = some (κ2, ())) (hm : ∀ j, j < 4 → kV κ2 f i (c + j) = m j) : f_X3_doNext_G_b113 E f i c g s κ (nI a) b (nI 6) = some (pm κ2 f i c (stepM m 6 a b2 X pend), ()) := by
  have e1 : κ2 = pm κ2 f i c m := (pm_eq hm).symm
  unfold f_X3_doNext_G_b113 f_X3_doNext_G_b126
  rw [if_pos (show nI 6 = 6 from rfl), f_X3_tellOrTake_G, h1, bd_s, if_neg (by decide), nI_cl (by omega), gdi (by omega), hm1, h2, bd_s, f_X3_tellOrTake_G_b49, nmE, bd_s]
  rw [e1, pm_0, ps_0, ← e1]
  rfl
theorem c_inG {E : EE} {κ κ1 κ2 : K} {f i c g s a b : Nat} {X : Int32} {m : MU} {pend : Bool} (ha : a < 4) (hb : b < 3) (h1 : f_X1_countExit E κ s 3 = some (κ1, ())) (h6 : kV κ1 f i c 6 = m 0 6) (h2 : ¬ b = 2 → f_X1_takeFrom E κ1 s (nI b) = some (κ2, X)) (h3 : b = 2 → κ2 = κ1) (hm : ∀ j, j < 4 → kV κ2 f i (c + j) = m j) : f_X3_doNext_G_b113 E f i c g s κ (nI a) (nI b) (nI 7) = some (pm κ2 f i c (stepM m 7 a b X pend), ()) := by
  have e1 : κ2 = pm κ2 f i c m := (pm_eq hm).symm
  have b48 : ∀ x, f_X3_tellOrTake_G_b48 E f i c s κ2 x (nI a) = some (pm κ2 f i c (mu (mu m 1 a x) 0 3 (m 0 3 + 1)), ()) := by
    intro x
    rw [f_X3_tellOrTake_G_b48, nI_cl (by omega), gdi (by omega), nmE, f_X3_tellOrTake_G_b49, nmE, e1, ps_1, pm_0, ps_0, ← e1, mu_row (show (0 : Nat) ≠ 1 by omega)]
  rw [show stepM m 7 a b X pend = mu (mu m 1 a (if b = 2 then m 0 6 else X)) 0 3 (m 0 3 + 1) from rfl]
  unfold f_X3_doNext_G_b113 f_X3_doNext_G_b126
  rw [if_neg (show ¬ nI 7 = 6 by decide), f_X3_tellOrTake_G, h1, bd_s, if_pos rfl, l2]
  by_cases e : b = 2
  · rw [if_pos (by rw [e]), if_pos e, h6, ← h3 e, b48, bd_s]
  · rw [if_neg (by rw [nI_eq' (by omega) (by omega)]; exact e), if_neg e, h2 e, bd_s, b48, bd_s]
theorem c_restG {E : EE} {κ κ1 : K} {f i c g s w : Nat} {X : Int32} {a b : Nat} {m : MU} {pend : Bool} (hw : w = 8 ∨ w = 13) (h1 : f_X1_countExit E κ s 4 = some (κ1, ())) (hp : f_X1_isInterruptPending E κ1 s = some (κ1, if pend = true then 1 else 0)) (hm : ∀ j, j < 4 → kV κ1 f i (c + j) = m j) : f_X3_doNext_G_b150 E f i c g s κ (nI w) = some (pm κ1 f i c (stepM m w a b X pend), ()) := by
  have e1 : κ1 = pm κ1 f i c m := (pm_eq hm).symm
  unfold f_X3_doNext_G_b150 f_X3_doNext_G_b163
  rcases hw with rfl | rfl
  · rw [show stepM m 8 a b X pend = (if pend = true then mu m 0 3 (m 0 3 + 1) else mu (mu m 0 8 1) 0 3 (m 0 3 + 1)) from rfl]
    rw [if_neg (show ¬ nI 8 = 13 by decide), f_X3_rest_G, h1, bd_s, if_pos rfl, hp, bd_s]
    unfold f_X3_rest_G_b29
    cases pend with
    | true =>
      rw [if_pos rfl, if_pos rfl, if_neg (show ¬ (1 : Int32) = 0 by decide), nmE, bd_s, e1, pm_0, ps_0, ← e1]
    | false =>
      rw [if_neg (show ¬ false = true by decide), if_neg (show ¬ false = true by decide), if_pos (show (0 : Int32) = 0 from rfl), nmE, nmE, bd_s, e1, ps_0, pm_0, ps_0, ← e1]
      rw [show (mu m 0 8 1) 0 3 = m 0 3 from muD (by omega)]
  · rw [show stepM m 13 a b X pend = mu (mu m 0 8 2) 0 3 (m 0 3 + 1) from rfl]
    rw [if_pos (show nI 13 = 13 from rfl), f_X3_rest_G, h1, bd_s, if_neg (by decide)]
    unfold f_X3_rest_G_b29
    rw [nmE, nmE, bd_s, e1, ps_0, pm_0, ps_0, ← e1]
    rw [show (mu m 0 8 2) 0 3 = m 0 3 from muD (by omega)]
theorem c_getG {E : EE} {κ κ1 : K} {f i c s b : Nat} {a X : Int32} {a2 : Nat} {m : MU} {pend : Bool} (hb : b < 8) (hκ : ∀ j, j < 4 → kV κ f i (c + j) = m j) (h : f_X1_giveBack E (pm κ f i c (clrC m b 4)) s (nI b) = some (κ1, ())) (hm : ∀ j, j < 4 → kV κ1 f i (c + j) = (clrC m b 4) j) : f_X3_change_G E κ f i c (nI 12) a (nI b) s = some (pm κ1 f i c (stepM m 12 a2 b X pend), ()) := by
  have e0 : κ = pm κ f i c m := (pm_eq hκ).symm
  have e1 : κ1 = pm κ1 f i c (clrC m b 4) := (pm_eq hm).symm
  rw [f_X3_change_G, nmE, if_neg (show ¬ nI 12 = 0 by decide), if_neg (show ¬ nI 12 = 1 by decide), if_neg (show ¬ nI 12 = 2 by decide), if_neg (show ¬ nI 12 = 3 by decide), if_neg (show ¬ nI 12 = 4 by decide), if_neg (show ¬ nI 12 = 5 by decide), if_neg (show ¬ nI 12 = 6 by decide), if_neg (show ¬ nI 12 = 7 by decide), if_neg (show ¬ nI 12 = 8 by decide), if_neg (show ¬ nI 12 = 9 by decide), if_neg (show ¬ nI 12 = 10 by decide), if_neg (show ¬ nI 12 = 11 by decide)]
  rw [show f_X3_clear E κ f i c (nI b) = some (pm κ f i c (clrC m b 4), ()) from by
    have := c_clear (E := E) (κ := κ) (f := f) (i := i) (c := c) (m := m) hb
    rw [← e0] at this
    exact this]
  rw [bd_s, h, bd_s, f_X3_change_G_b188, nmE, show kV κ f i c = m 0 from hκ 0 (by omega), e1, ps_0, ← e1]
  rfl
theorem c_fetchG {E : EE} {κ : K} {f i c g s x N w : Nat} {a b : Int32} (h3 : kV κ f i c 3 = nI x) (hx : x < N) (hN : kV κ 0 g 1 3 = nI N) (hN24 : N ≤ 24) (e3 : kV κ 0 g 3 x = a) (e4 : kV κ 0 g 4 x = b) (e2 : kV κ 0 g 2 x = nI w) :
    f_X3_doNext_G E κ f i c g s = (if nI w = 2 then f_X3_doNext_G_b68 E f i c g s κ a b (nI w) else if nI w = 3 then f_X3_doNext_G_b68 E f i c g s κ a b (nI w) else if nI w = 6 then f_X3_doNext_G_b113 E f i c g s κ a b (nI w) else if nI w = 7 then f_X3_doNext_G_b113 E f i c g s κ a b (nI w) else if nI w = 8 then f_X3_doNext_G_b150 E f i c g s κ (nI w) else if nI w = 13 then f_X3_doNext_G_b150 E f i c g s κ (nI w) else bd (f_X3_change_G E κ f i c (nI w) a b s) fun κ32 _ => some (κ32, ())) := by
  rw [f_X3_doNext_G, h3, hN, if_neg (nI_pos (by omega)), if_pos (by rw [nI_lt' (by omega) (by omega)]; exact hx), nI_cl (by omega), gdi (by omega), nmE, gdi (by omega), nmE, gdi (by omega), nmE, e3, e4, e2]
theorem c_stopG {E : EE} {κ : K} {f i c g s x N : Nat} {m : MU} (hκ : ∀ j, j < 4 → kV κ f i (c + j) = m j) (h3 : kV κ f i c 3 = nI x) (hx : ¬ x < N) (hN : kV κ 0 g 1 3 = nI N) (hN24 : N ≤ 24) (hx2 : x < 25) : f_X3_doNext_G E κ f i c g s = some (pm κ f i c (mu m 0 8 2), ()) := by
  have e0 : κ = pm κ f i c m := (pm_eq hκ).symm
  rw [f_X3_doNext_G, h3, hN, if_neg (nI_pos (by omega)), if_neg (by rw [nI_lt' (by omega) (by omega)]; exact hx), f_X3_doNext_G_b18, nmE, e0, ps_0, ← e0]
theorem c_chgR {E : EE} {κ : K} {f i c s w : Nat} {a b X : Int32} {m : MU} {pend : Bool} (hV : VI w a b) (hw : w = 0 ∨ w = 1 ∨ w = 4 ∨ w = 5 ∨ w = 9 ∨ w = 10 ∨ w = 11) : f_X3_change_R E (pm κ f i c m) f i c (nI w) a b s = some (pm κ f i c (stepM m w a.toNatClampNeg b.toNatClampNeg X pend), ()) := by
  obtain ⟨v1, v2, v3, v4, v5, v6, v7, v8, v9⟩ := hV
  rw [f_X3_change_R, nmE, pm_0]
  rcases hw with rfl | rfl | rfl | rfl | rfl | rfl | rfl
  · obtain ⟨a, ha, rfl⟩ := v2 (by omega)
    obtain ⟨b, hb, rfl⟩ := v6 rfl
    rw [if_pos (show nI 0 = 0 from rfl), nI_cl (by omega), nI_cl (by omega), gdi (by omega), nmE, ps_1, f_X3_change_R_b188, nmE, ps_0]
    rfl
  · obtain ⟨a, ha, rfl⟩ := v2 (by omega)
    obtain ⟨b, hb, rfl⟩ := v4 (by omega)
    rw [if_neg (show ¬ nI 1 = 0 by decide), if_pos (show nI 1 = 1 from rfl), nI_cl (by omega), nI_cl (by omega), gdi (by omega), gdi (by omega), gdi (by omega), nmE, pm_1, ps_1, f_X3_change_R_b188, nmE, ps_0]
    rfl
  · obtain ⟨a, ha, rfl⟩ := v2 (by omega)
    obtain ⟨b, hb, rfl⟩ := v7 (by omega)
    rw [if_neg (show ¬ nI 4 = 0 by decide), if_neg (show ¬ nI 4 = 1 by decide), if_neg (show ¬ nI 4 = 2 by decide), if_neg (show ¬ nI 4 = 3 by decide), if_pos (show nI 4 = 4 from rfl), nI_cl (by omega), nI_cl (by omega), gdi (by omega), pm_1]
    unfold f_X3_change_R_b123 f_X3_change_R_b188
    rw [nmE, nmE, ps_0, ps_0, show stepM m 4 a b X pend = mu m 0 3 (if m 1 a = 0 then m 0 3 + 1 else nI b) from rfl]
    split <;> rfl
  · obtain ⟨⟨a, ha, rfl⟩, b, hb, rfl⟩ := v3 rfl
    rw [if_neg (show ¬ nI 5 = 0 by decide), if_neg (show ¬ nI 5 = 1 by decide), if_neg (show ¬ nI 5 = 2 by decide), if_neg (show ¬ nI 5 = 3 by decide), if_neg (show ¬ nI 5 = 4 by decide), if_pos (show nI 5 = 5 from rfl), nI_cl (by omega), nI_cl (by omega), gdi (by omega), nmE, ps_2, f_X3_change_R_b188, nmE, ps_0]
    rfl
  · obtain ⟨b, hb, rfl⟩ := v7 (by omega)
    rw [if_neg (show ¬ nI 9 = 0 by decide), if_neg (show ¬ nI 9 = 1 by decide), if_neg (show ¬ nI 9 = 2 by decide), if_neg (show ¬ nI 9 = 3 by decide), if_neg (show ¬ nI 9 = 4 by decide), if_neg (show ¬ nI 9 = 5 by decide), if_neg (show ¬ nI 9 = 6 by decide), if_neg (show ¬ nI 9 = 7 by decide), if_neg (show ¬ nI 9 = 8 by decide), if_pos (show nI 9 = 9 from rfl), nI_cl (by omega), nmE, ps_0, f_X3_change_R_b188, nmE, ps_0]
    rfl
  · obtain ⟨b, hb, rfl⟩ := v8 (by omega)
    rw [if_neg (show ¬ nI 10 = 0 by decide), if_neg (show ¬ nI 10 = 1 by decide), if_neg (show ¬ nI 10 = 2 by decide), if_neg (show ¬ nI 10 = 3 by decide), if_neg (show ¬ nI 10 = 4 by decide), if_neg (show ¬ nI 10 = 5 by decide), if_neg (show ¬ nI 10 = 6 by decide), if_neg (show ¬ nI 10 = 7 by decide), if_neg (show ¬ nI 10 = 8 by decide), if_neg (show ¬ nI 10 = 9 by decide), if_pos (show nI 10 = 10 from rfl), nI_cl (by omega)]
    unfold f_X3_change_R_b157 f_X3_change_R_b188
    have e : b = 0 ∨ b = 1 := by omega
    rcases e with rfl | rfl
    · rw [if_neg (by decide), gd_t (Or.inl rfl), nmE, ps_0, nmE, ps_0]
      rfl
    · rw [if_pos (show nI 1 = 1 from rfl), gd_t (Or.inr rfl), nmE, ps_0, nmE, ps_0]
      rfl
  · rw [if_neg (show ¬ nI 11 = 0 by decide), if_neg (show ¬ nI 11 = 1 by decide), if_neg (show ¬ nI 11 = 2 by decide), if_neg (show ¬ nI 11 = 3 by decide), if_neg (show ¬ nI 11 = 4 by decide), if_neg (show ¬ nI 11 = 5 by decide), if_neg (show ¬ nI 11 = 6 by decide), if_neg (show ¬ nI 11 = 7 by decide), if_neg (show ¬ nI 11 = 8 by decide), if_neg (show ¬ nI 11 = 9 by decide), if_neg (show ¬ nI 11 = 10 by decide), if_pos (show nI 11 = 11 from rfl), nmE, nmE, ps_0, f_X3_change_R_b188, nmE, ps_0]
    rfl
theorem c_accR {E : EE} {κ κ1 : K} {f i c s a q wr : Nat} {m : MU} (ha : a < 4) (hq : q < 32) (hr : f_X6_reach E κ s (nI (q / 4)) (nI wr) = some (κ1, ())) (hm : ∀ j, j < 4 → kV κ1 f i (c + j) = m j) : f_X3_access_R E κ f i c (nI wr) (nI a) (nI q) s = some (pm κ1 f i c (accC m (nI wr) a q), ()) := by
  have e1 : κ1 = pm κ1 f i c m := (pm_eq hm).symm
  rw [f_X3_access_R, if_neg (by rw [nI_m1 (by omega)]; exact id), l4, nI_div (by omega) (by omega), hr, bd_s, nI_cl (by omega), nI_cl (by omega), gdi (by omega), gdi (by omega)]
  unfold accC f_X3_access_R_b50
  rw [e1]
  by_cases h : nI wr = 0
  · rw [if_pos h, if_pos h, nmE, pm_3, ps_1, nmE, pm_0, ps_0, ← e1, mu_row (show (0 : Nat) ≠ 1 by omega)]
  · rw [if_neg h, if_neg h, gdi (by omega), gdi (by omega), nmE, pm_1, ps_3, nmE, pm_0, ps_0, ← e1, mu_row (show (0 : Nat) ≠ 3 by omega)]
theorem c_lsR {E : EE} {κ : K} {f i c g s w a b : Nat} {m : MU} (hm : MOK m) (ha : a < 4) (hb : b < 4) (hw : w = 2 ∨ w = 3) (hκ : ∀ j, j < 4 → kV κ f i (c + j) = m j) (κ1 : K) (hr : ∀ q, adC m b = some q → f_X6_reach E κ s (nI (q / 4)) (nI (w - 2)) = some (κ1, ()) ∧ ∀ j, j < 4 → kV κ1 f i (c + j) = m j) (h0 : adC m b = none → κ1 = κ) : f_X3_doNext_R_b68 E f i c g s κ (nI a) (nI b) (nI w) = some (pm κ1 f i c (stepM m w a b 0 false), ()) := by
  have e0 : κ = pm κ f i c m := (pm_eq hκ).symm
  have e68 : f_X3_doNext_R_b68 E f i c g s κ (nI a) (nI b) (nI w) = f_X3_doNext_R_b80 E f i c g s κ (nI a) (nI b) (nI (w - 2)) := by
    unfold f_X3_doNext_R_b68
    rcases hw with rfl | rfl
    · rw [if_neg (show ¬ nI 2 = 3 by decide)]; rfl
    · rw [if_pos (show nI 3 = 3 from rfl)]; rfl
  have e80 : f_X3_doNext_R_b80 E f i c g s κ (nI a) (nI b) (nI (w - 2)) = bd (f_X3_access_R E κ f i c (nI (w - 2)) (nI a) (match adC m b with | none => -1 | some q => nI q) s) fun κ16 _ => some (κ16, ()) := by
    rw [f_X3_doNext_R_b80, nI_cl (by omega), gdi (by omega), hκ 1 (by omega)]
    rw [show f_X3_wordAt E κ f i c (m 1 b) = some (κ, match adC m b with | none => -1 | some q => nI q) from by
      have := c_word (E := E) (κ := κ) (f := f) (i := i) (c := c) hm hb
      rw [← e0] at this
      exact this]
    rw [bd_s]
  rw [e68, e80]
  cases ha2 : adC m b with
  | none =>
    dsimp only
    rw [f_X3_access_R, if_pos rfl, h0 ha2]
    rw [show f_X3_fault E κ f i c = some (pm κ f i c (faultC m), ()) from by
      have := c_fault (E := E) (κ := κ) (f := f) (i := i) (c := c) (m := m)
      rw [← e0] at this
      exact this]
    rw [bd_s, bd_s]
    rcases hw with rfl | rfl
    · rw [show stepM m 2 a b 0 false = faultC m from by show (match adC m b with | none => faultC m | some q => accC m 0 a q) = _; rw [ha2]]
    · rw [show stepM m 3 a b 0 false = faultC m from by show (match adC m b with | none => faultC m | some q => accC m 1 a q) = _; rw [ha2]]
  | some q =>
    dsimp only
    obtain ⟨hr1, hr2⟩ := hr q ha2
    rw [c_accR ha (adC_lt hm hb ha2).1 hr1 hr2, bd_s]
    rcases hw with rfl | rfl
    · rw [show stepM m 2 a b 0 false = accC m (nI (2 - 2)) a q from by show (match adC m b with | none => faultC m | some q => accC m 0 a q) = _; rw [ha2]; rfl]
    · rw [show stepM m 3 a b 0 false = accC m (nI (3 - 2)) a q from by show (match adC m b with | none => faultC m | some q => accC m 1 a q) = _; rw [ha2]; rfl]
theorem c_outR {E : EE} {κ κ1 κ2 : K} {f i c g s a : Nat} {b X : Int32} {b2 : Nat} {m : MU} {pend : Bool} (ha : a < 4) (h1 : f_X6_countExit E κ s 3 = some (κ1, ())) (hm1 : kV κ1 f i (c + 1) = m 1) (h2 : f_X6_tell E κ1 s b (m 1 a) = some (κ2, ())) (hm : ∀ j, j < 4 → kV κ2 f i (c + j) = m j) : f_X3_doNext_R_b113 E f i c g s κ (nI a) b (nI 6) = some (pm κ2 f i c (stepM m 6 a b2 X pend), ()) := by
  have e1 : κ2 = pm κ2 f i c m := (pm_eq hm).symm
  unfold f_X3_doNext_R_b113 f_X3_doNext_R_b126
  rw [if_pos (show nI 6 = 6 from rfl), f_X3_tellOrTake_R, h1, bd_s, if_neg (by decide), nI_cl (by omega), gdi (by omega), hm1, h2, bd_s, f_X3_tellOrTake_R_b49, nmE, bd_s]
  rw [e1, pm_0, ps_0, ← e1]
  rfl
theorem c_inR {E : EE} {κ κ1 κ2 : K} {f i c g s a b : Nat} {X : Int32} {m : MU} {pend : Bool} (ha : a < 4) (hb : b < 3) (h1 : f_X6_countExit E κ s 3 = some (κ1, ())) (h6 : kV κ1 f i c 6 = m 0 6) (h2 : ¬ b = 2 → f_X6_takeFrom E κ1 s (nI b) = some (κ2, X)) (h3 : b = 2 → κ2 = κ1) (hm : ∀ j, j < 4 → kV κ2 f i (c + j) = m j) : f_X3_doNext_R_b113 E f i c g s κ (nI a) (nI b) (nI 7) = some (pm κ2 f i c (stepM m 7 a b X pend), ()) := by
  have e1 : κ2 = pm κ2 f i c m := (pm_eq hm).symm
  have b48 : ∀ x, f_X3_tellOrTake_R_b48 E f i c s κ2 x (nI a) = some (pm κ2 f i c (mu (mu m 1 a x) 0 3 (m 0 3 + 1)), ()) := by
    intro x
    rw [f_X3_tellOrTake_R_b48, nI_cl (by omega), gdi (by omega), nmE, f_X3_tellOrTake_R_b49, nmE, e1, ps_1, pm_0, ps_0, ← e1, mu_row (show (0 : Nat) ≠ 1 by omega)]
  rw [show stepM m 7 a b X pend = mu (mu m 1 a (if b = 2 then m 0 6 else X)) 0 3 (m 0 3 + 1) from rfl]
  unfold f_X3_doNext_R_b113 f_X3_doNext_R_b126
  rw [if_neg (show ¬ nI 7 = 6 by decide), f_X3_tellOrTake_R, h1, bd_s, if_pos rfl, l2]
  by_cases e : b = 2
  · rw [if_pos (by rw [e]), if_pos e, h6, ← h3 e, b48, bd_s]
  · rw [if_neg (by rw [nI_eq' (by omega) (by omega)]; exact e), if_neg e, h2 e, bd_s, b48, bd_s]
theorem c_restR {E : EE} {κ κ1 : K} {f i c g s w : Nat} {X : Int32} {a b : Nat} {m : MU} {pend : Bool} (hw : w = 8 ∨ w = 13) (h1 : f_X6_countExit E κ s 4 = some (κ1, ())) (hp : f_X6_isInterruptPending E κ1 s = some (κ1, if pend = true then 1 else 0)) (hm : ∀ j, j < 4 → kV κ1 f i (c + j) = m j) : f_X3_doNext_R_b150 E f i c g s κ (nI w) = some (pm κ1 f i c (stepM m w a b X pend), ()) := by
  have e1 : κ1 = pm κ1 f i c m := (pm_eq hm).symm
  unfold f_X3_doNext_R_b150 f_X3_doNext_R_b163
  rcases hw with rfl | rfl
  · rw [show stepM m 8 a b X pend = (if pend = true then mu m 0 3 (m 0 3 + 1) else mu (mu m 0 8 1) 0 3 (m 0 3 + 1)) from rfl]
    rw [if_neg (show ¬ nI 8 = 13 by decide), f_X3_rest_R, h1, bd_s, if_pos rfl, hp, bd_s]
    unfold f_X3_rest_R_b29
    cases pend with
    | true =>
      rw [if_pos rfl, if_pos rfl, if_neg (show ¬ (1 : Int32) = 0 by decide), nmE, bd_s, e1, pm_0, ps_0, ← e1]
    | false =>
      rw [if_neg (show ¬ false = true by decide), if_neg (show ¬ false = true by decide), if_pos (show (0 : Int32) = 0 from rfl), nmE, nmE, bd_s, e1, ps_0, pm_0, ps_0, ← e1]
      rw [show (mu m 0 8 1) 0 3 = m 0 3 from muD (by omega)]
  · rw [show stepM m 13 a b X pend = mu (mu m 0 8 2) 0 3 (m 0 3 + 1) from rfl]
    rw [if_pos (show nI 13 = 13 from rfl), f_X3_rest_R, h1, bd_s, if_neg (by decide)]
    unfold f_X3_rest_R_b29
    rw [nmE, nmE, bd_s, e1, ps_0, pm_0, ps_0, ← e1]
    rw [show (mu m 0 8 2) 0 3 = m 0 3 from muD (by omega)]
theorem c_getR {E : EE} {κ κ1 : K} {f i c s b : Nat} {a X : Int32} {a2 : Nat} {m : MU} {pend : Bool} (hb : b < 8) (hκ : ∀ j, j < 4 → kV κ f i (c + j) = m j) (h : f_X6_giveBack E (pm κ f i c (clrC m b 4)) s (nI b) = some (κ1, ())) (hm : ∀ j, j < 4 → kV κ1 f i (c + j) = (clrC m b 4) j) : f_X3_change_R E κ f i c (nI 12) a (nI b) s = some (pm κ1 f i c (stepM m 12 a2 b X pend), ()) := by
  have e0 : κ = pm κ f i c m := (pm_eq hκ).symm
  have e1 : κ1 = pm κ1 f i c (clrC m b 4) := (pm_eq hm).symm
  rw [f_X3_change_R, nmE, if_neg (show ¬ nI 12 = 0 by decide), if_neg (show ¬ nI 12 = 1 by decide), if_neg (show ¬ nI 12 = 2 by decide), if_neg (show ¬ nI 12 = 3 by decide), if_neg (show ¬ nI 12 = 4 by decide), if_neg (show ¬ nI 12 = 5 by decide), if_neg (show ¬ nI 12 = 6 by decide), if_neg (show ¬ nI 12 = 7 by decide), if_neg (show ¬ nI 12 = 8 by decide), if_neg (show ¬ nI 12 = 9 by decide), if_neg (show ¬ nI 12 = 10 by decide), if_neg (show ¬ nI 12 = 11 by decide)]
  rw [show f_X3_clear E κ f i c (nI b) = some (pm κ f i c (clrC m b 4), ()) from by
    have := c_clear (E := E) (κ := κ) (f := f) (i := i) (c := c) (m := m) hb
    rw [← e0] at this
    exact this]
  rw [bd_s, h, bd_s, f_X3_change_R_b188, nmE, show kV κ f i c = m 0 from hκ 0 (by omega), e1, ps_0, ← e1]
  rfl
theorem c_fetchR {E : EE} {κ : K} {f i c g s x N w : Nat} {a b : Int32} (h3 : kV κ f i c 3 = nI x) (hx : x < N) (hN : kV κ 0 g 1 3 = nI N) (hN24 : N ≤ 24) (e3 : kV κ 0 g 3 x = a) (e4 : kV κ 0 g 4 x = b) (e2 : kV κ 0 g 2 x = nI w) :
    f_X3_doNext_R E κ f i c g s = (if nI w = 2 then f_X3_doNext_R_b68 E f i c g s κ a b (nI w) else if nI w = 3 then f_X3_doNext_R_b68 E f i c g s κ a b (nI w) else if nI w = 6 then f_X3_doNext_R_b113 E f i c g s κ a b (nI w) else if nI w = 7 then f_X3_doNext_R_b113 E f i c g s κ a b (nI w) else if nI w = 8 then f_X3_doNext_R_b150 E f i c g s κ (nI w) else if nI w = 13 then f_X3_doNext_R_b150 E f i c g s κ (nI w) else bd (f_X3_change_R E κ f i c (nI w) a b s) fun κ32 _ => some (κ32, ())) := by
  rw [f_X3_doNext_R, h3, hN, if_neg (nI_pos (by omega)), if_pos (by rw [nI_lt' (by omega) (by omega)]; exact hx), nI_cl (by omega), gdi (by omega), nmE, gdi (by omega), nmE, gdi (by omega), nmE, e3, e4, e2]
theorem c_stopR {E : EE} {κ : K} {f i c g s x N : Nat} {m : MU} (hκ : ∀ j, j < 4 → kV κ f i (c + j) = m j) (h3 : kV κ f i c 3 = nI x) (hx : ¬ x < N) (hN : kV κ 0 g 1 3 = nI N) (hN24 : N ≤ 24) (hx2 : x < 25) : f_X3_doNext_R E κ f i c g s = some (pm κ f i c (mu m 0 8 2), ()) := by
  have e0 : κ = pm κ f i c m := (pm_eq hκ).symm
  rw [f_X3_doNext_R, h3, hN, if_neg (nI_pos (by omega)), if_neg (by rw [nI_lt' (by omega) (by omega)]; exact hx), f_X3_doNext_R_b18, nmE, e0, ps_0, ← e0]
