theorem RH_congr {w μ μ' : MU} {n h : Nat} (hR : RH w μ n h) (e15 : ∀ g, g < n → μ' 15 g = μ 15 g) (e28 : ∀ key, key / 8 < n → μ 15 (key / 8) = nI h → μ' 28 key = μ 28 key) (e29 : ∀ f, f < 16 → μ' 29 (16 * h + f) = μ 29 (16 * h + f)) : RH w μ' n h := by
  obtain ⟨h1, h2, h3⟩ := hR
  refine ⟨fun key hk => ?_, h2, fun f hf => by rw [e29 f hf]; exact h3 f hf⟩
  rw [h1 key hk]
  by_cases e : key / 8 < n
  · rw [e15 _ e]
    by_cases z : μ 15 (key / 8) = nI h
    · rw [if_pos ⟨e, z⟩, if_pos ⟨e, z⟩, e28 key e z]
    · rw [if_neg (fun y => z y.2), if_neg (fun y => z y.2)]
  · rw [if_neg (fun y => e y.1), if_neg (fun y => e y.1)]
theorem RH_use {w μ : MU} {n h f : Nat} {x : Int32} (hR : RH w μ n h) (hf : f < 16) : RH (mu w 3 f x) (mu μ 29 (16 * h + f) x) n h := by
  obtain ⟨h1, h2, h3⟩ := hR
  refine ⟨fun key hk => by rw [muD (by omega), mu_row (by omega), mu_row (by omega)]; exact h1 key hk, fun f2 hf2 => ?_, fun f2 hf2 => ?_⟩
  · rw [muD (by omega), h2 f2 hf2]
    have e : inF (mu w 3 f x) (nI f2) = inF w (nI f2) := by
      funext key
      unfold inF
      rw [muD (by omega)]
    rw [e]
  · by_cases e : f2 = f
    · subst e; rw [muS ⟨rfl, rfl⟩, muS ⟨rfl, rfl⟩]
    · rw [muD (by omega), muD (by omega)]; exact h3 f2 hf2
theorem RH_use2 {w μ : MU} {n h h2 f : Nat} {x : Int32} (hR : RH w μ n h2) (hf : f < 16) (hh : h ≠ h2) : RH w (mu μ 29 (16 * h + f) x) n h2 :=
  RH_congr hR (fun g _ => by rw [mu_row (by omega)]) (fun key _ _ => by rw [mu_row (by omega)]) (fun f2 hf2 => muD (by omega))
theorem RH_row {w μ μ' : MU} {n h : Nat} (hR : RH w μ n h) (e15 : μ' 15 = μ 15) (e28 : μ' 28 = μ 28) (e29 : μ' 29 = μ 29) : RH w μ' n h :=
  RH_congr hR (fun g _ => by rw [e15]) (fun key _ _ => by rw [e28]) (fun f _ => by rw [e29])
theorem RH_wrow {w w' μ : MU} {n h : Nat} (hR : RH w μ n h) (e1 : w' 1 = w 1) (e2 : w' 2 = w 2) (e3 : w' 3 = w 3) : RH w' μ n h := by
  obtain ⟨h1, h2, h3⟩ := hR
  refine ⟨fun key hk => by rw [e1]; exact h1 key hk, fun f hf => ?_, fun f hf => by rw [e3]; exact h3 f hf⟩
  have e : inF w' (nI f) = inF w (nI f) := by
    funext key
    unfold inF
    rw [e1]
  rw [e2, e]
  exact h2 f hf
theorem RH_put {w μ : MU} {n h key f : Nat} (hR : RH w μ n h) (hk : key < 40) (hg : key / 8 < n) (hh : μ 15 (key / 8) = nI h) (hf : f < 16) (hw : w 1 key = -1) : RH (mu (mu w 1 key (nI f)) 2 f (w 2 f + 1)) (mu μ 28 key (nI f)) n h := by
  obtain ⟨h1, h2, h3⟩ := hR
  have ein : ∀ f2, inF (mu (mu w 1 key (nI f)) 2 f (w 2 f + 1)) (nI f2) = inF (mu w 1 key (nI f)) (nI f2) := by
    intro f2
    funext k2
    unfold inF
    rw [muD (by omega)]
  refine ⟨fun k2 hk2 => ?_, fun f2 hf2 => ?_, fun f2 hf2 => ?_⟩
  · rw [muD (by omega), mu_row (show (15 : Nat) ≠ 28 by omega)]
    by_cases e : k2 = key
    · subst e; rw [muS ⟨rfl, rfl⟩, muS ⟨rfl, rfl⟩, if_pos ⟨hg, hh⟩]
    · rw [muD (by omega), muD (by omega)]; exact h1 k2 hk2
  · rw [ein]
    by_cases e : f2 = f
    · subst e
      rw [muS ⟨rfl, rfl⟩, h2 f2 hf2, nI_1]
      congr 1
      rw [cntU_one (p := inF w (nI f2)) (q := inF (mu w 1 key (nI f2)) (nI f2)) (k := key) (by unfold inF; rw [hw]; exact decide_eq_false (by rw [m1_nI (by omega)]; exact id)) (by unfold inF; rw [muS ⟨rfl, rfl⟩]; exact decide_eq_true rfl) (fun j hj => by unfold inF; rw [muD (by omega)]), if_pos hk]
    · rw [muD (by omega), muD (by omega), h2 f2 hf2]
      congr 1
      refine cntU_congr fun j hj => ?_
      unfold inF
      by_cases z : j = key
      · subst z
        rw [muS ⟨rfl, rfl⟩, hw, decide_eq_false (by rw [m1_nI (by omega)]; exact id), decide_eq_false (by rw [nI_eq' (by omega) (by omega)]; omega)]
      · rw [muD (by omega)]
  · rw [mu_row (by omega), mu_row (by omega), mu_row (by omega)]
    exact h3 f2 hf2
theorem RH_leave {w μ : MU} {n h key f : Nat} (hR : RH w μ n h) (hk : key < 40) (hf : f < 16) (hw : w 1 key = nI f) : RH (leaveH w key) (mu μ 28 key (-1)) n h := by
  obtain ⟨h1, h2, h3⟩ := hR
  have hne : ¬ w 1 key = -1 := by rw [hw, nI_m1 (by omega)]; exact id
  unfold leaveH
  rw [if_neg hne, hw, nI_cl (by omega)]
  have ein : ∀ f2, inF (mu (mu w 2 f (w 2 f - 1)) 1 key (-1)) (nI f2) = inF (mu w 1 key (-1)) (nI f2) := by
    intro f2
    funext k2
    unfold inF
    by_cases e : k2 = key
    · subst e; rw [muS ⟨rfl, rfl⟩, muS ⟨rfl, rfl⟩]
    · rw [muD (by omega), muD (by omega), muD (by omega)]
  have hlive : key / 8 < n ∧ μ 15 (key / 8) = nI h := by
    have := h1 key hk
    rw [hw] at this
    by_cases e : key / 8 < n ∧ μ 15 (key / 8) = nI h
    · exact e
    · rw [if_neg e, nI_m1 (by omega)] at this; exact this.elim
  refine ⟨fun k2 hk2 => ?_, fun f2 hf2 => ?_, fun f2 hf2 => ?_⟩
  · rw [mu_row (show (15 : Nat) ≠ 28 by omega)]
    by_cases e : k2 = key
    · subst e; rw [muS ⟨rfl, rfl⟩, muS ⟨rfl, rfl⟩, if_pos hlive]
    · rw [muD (by omega), muD (by omega), muD (by omega)]; exact h1 k2 hk2
  · rw [ein]
    by_cases e : f2 = f
    · subst e
      rw [muD (by omega), muS ⟨rfl, rfl⟩, h2 f2 hf2]
      rw [cntU_one (p := inF (mu w 1 key (-1)) (nI f2)) (q := inF w (nI f2)) (k := key) (by unfold inF; rw [muS ⟨rfl, rfl⟩]; exact decide_eq_false (by rw [m1_nI (by omega)]; exact id)) (by unfold inF; rw [hw]; exact decide_eq_true rfl) (fun j hj => by unfold inF; rw [muD (by omega)]), if_pos hk]
      rw [show (1 : Int32) = nI 1 from rfl, nI_sub (by omega), Nat.add_sub_cancel]
    · rw [muD (by omega), muD (by omega), h2 f2 hf2]
      congr 1
      refine cntU_congr fun j hj => ?_
      unfold inF
      by_cases z : j = key
      · subst z
        rw [muS ⟨rfl, rfl⟩, hw, decide_eq_false (by rw [nI_eq' (by omega) (by omega)]; omega), decide_eq_false (by rw [m1_nI (by omega)]; exact id)]
      · rw [muD (by omega)]
  · rw [mu_row (by omega), mu_row (by omega), mu_row (by omega)]
    exact h3 f2 hf2
theorem RH_28 {w μ : MU} {n h h2 key : Nat} {x : Int32} (hR : RH w μ n h2) (hh : h ≠ h2) (hb : h < 2 ∧ h2 < 2) (hk : μ 15 (key / 8) = nI h) : RH w (mu μ 28 key x) n h2 :=
  RH_congr hR (fun g _ => by rw [mu_row (by omega)]) (fun k2 _ h15 => muD (fun z => by rw [z.2, hk, nI_eq' (by omega) (by omega)] at h15; exact hh h15)) (fun f _ => by rw [mu_row (by omega)])
/-! sets of pages -/
def clrB (B p : Nat) : Nat := if B.testBit p then B - 2 ^ p else B
def setB (B p : Nat) : Nat := if B.testBit p then B else B + 2 ^ p
def bitI (p : Nat) : Int32 := (1 : Int32) <<< (nI p &&& 31)
theorem bit_and : ∀ B, B < 256 → ∀ p, p < 8 → decide (nI B &&& bitI p = 0) = !B.testBit p := by decide +kernel
theorem bit_clr : ∀ B, B < 256 → ∀ p, p < 8 → nI B &&& (bitI p ^^^ (-1)) = nI (clrB B p) := by decide +kernel
theorem bit_set : ∀ B, B < 256 → ∀ p, p < 8 → nI B ||| bitI p = nI (setB B p) := by decide +kernel
theorem clr_lt : ∀ B, B < 256 → ∀ p, p < 8 → clrB B p < 256 := by decide +kernel
theorem set_lt : ∀ B, B < 256 → ∀ p, p < 8 → setB B p < 256 := by decide +kernel
theorem clr_bit : ∀ B, B < 256 → ∀ p, p < 8 → ∀ q, q < 8 → (clrB B p).testBit q = (B.testBit q && decide (q ≠ p)) := by decide +kernel
theorem set_bit : ∀ B, B < 256 → ∀ p, p < 8 → ∀ q, q < 8 → (setB B p).testBit q = (B.testBit q || decide (q = p)) := by decide +kernel
