/-! THE PURE PART: how the words of the pure functions are worked out -/
theorem nmE {α β : Type} {a : α} {f : α → β} : nm a f = f a := rfl
theorem bd_s {α β : Type} {κ : K} {x : α} {f : K → α → Option β} : bd (some (κ, x)) f = f κ x := rfl
theorem bx_s {α β : Type} {κ : K} {x : α} {f : K → α → Option (K × (β ⊕ Nat))} : bx (some (κ, .inl x)) f = f κ x := rfl
theorem bx_r {α β : Type} {κ : K} {e : Nat} {f : K → α → Option (K × (β ⊕ Nat))} : bx (some (κ, .inr e)) f = some (κ, .inr e) := rfl
theorem optG_s {α : Type} {j n : Nat} {a : Option α} {f : Nat → Option α} (h : j < n) : optG (some j) n a f = f j := if_pos h
theorem optG_0 {α : Type} {n : Nat} {a : Option α} {f : Nat → Option α} : optG none n a f = a := rfl
theorem vS {κ : K} {f i c k f' i' c' k' : Nat} {x : Int32} (h : f' = f ∧ i' = i ∧ c' = c ∧ k' = k) : kV (setV κ f i c k x) f' i' c' k' = x := if_pos h
theorem vD {κ : K} {f i c k f' i' c' k' : Nat} {x : Int32} (h : ¬ (f' = f ∧ i' = i ∧ c' = c ∧ k' = k)) : kV (setV κ f i c k x) f' i' c' k' = kV κ f' i' c' k' := if_neg h
theorem aS {κ : K} {f i c f' i' c' k' : Nat} {a : Nat → Int32} (h : f' = f ∧ i' = i ∧ c' = c) : kV (setA κ f i c a) f' i' c' k' = a k' := if_pos h
theorem aD {κ : K} {f i c f' i' c' k' : Nat} {a : Nat → Int32} (h : ¬ (f' = f ∧ i' = i ∧ c' = c)) : kV (setA κ f i c a) f' i' c' k' = kV κ f' i' c' k' := if_neg h
theorem nS {κ : K} {f i c n f' i' c' : Nat} (h : f' = f ∧ i' = i ∧ c' = c) : kN (setN κ f i c n) f' i' c' = n := if_pos h
theorem nD {κ : K} {f i c n f' i' c' : Nat} (h : ¬ (f' = f ∧ i' = i ∧ c' = c)) : kN (setN κ f i c n) f' i' c' = kN κ f' i' c' := if_neg h
theorem pS {κ : K} {f i c k f' i' c' k' : Nat} {x : Option Nat} (h : f' = f ∧ i' = i ∧ c' = c ∧ k' = k) : kP (setP κ f i c k x) f' i' c' k' = x := if_pos h
theorem pD {κ : K} {f i c k f' i' c' k' : Nat} {x : Option Nat} (h : ¬ (f' = f ∧ i' = i ∧ c' = c ∧ k' = k)) : kP (setP κ f i c k x) f' i' c' k' = kP κ f' i' c' k' := if_neg h
theorem vN {κ : K} {f i c n : Nat} : kV (setN κ f i c n) = kV κ := rfl
theorem vP {κ : K} {f i c k : Nat} {x : Option Nat} : kV (setP κ f i c k x) = kV κ := rfl
theorem vT {κ : K} {t : Option (Nat × (Nat → Int32))} : kV (setT κ t) = kV κ := rfl
theorem vC {κ : K} {a b : Nat} : kV (addC κ a b) = kV κ := rfl
theorem nV {κ : K} {f i c k : Nat} {x : Int32} : kN (setV κ f i c k x) = kN κ := rfl
theorem nA {κ : K} {f i c : Nat} {a : Nat → Int32} : kN (setA κ f i c a) = kN κ := rfl
theorem nP {κ : K} {f i c k : Nat} {x : Option Nat} : kN (setP κ f i c k x) = kN κ := rfl
theorem nT {κ : K} {t : Option (Nat × (Nat → Int32))} : kN (setT κ t) = kN κ := rfl
theorem nC {κ : K} {a b : Nat} : kN (addC κ a b) = kN κ := rfl
theorem pV {κ : K} {f i c k : Nat} {x : Int32} : kP (setV κ f i c k x) = kP κ := rfl
theorem pA {κ : K} {f i c : Nat} {a : Nat → Int32} : kP (setA κ f i c a) = kP κ := rfl
theorem pN {κ : K} {f i c n : Nat} : kP (setN κ f i c n) = kP κ := rfl
theorem pT {κ : K} {t : Option (Nat × (Nat → Int32))} : kP (setT κ t) = kP κ := rfl
theorem pC {κ : K} {a b : Nat} : kP (addC κ a b) = kP κ := rfl
theorem cV {κ : K} {f i c k : Nat} {x : Int32} : kC (setV κ f i c k x) = kC κ := rfl
theorem cA {κ : K} {f i c : Nat} {a : Nat → Int32} : kC (setA κ f i c a) = kC κ := rfl
theorem cN {κ : K} {f i c n : Nat} : kC (setN κ f i c n) = kC κ := rfl
theorem cP {κ : K} {f i c k : Nat} {x : Option Nat} : kC (setP κ f i c k x) = kC κ := rfl
theorem cT {κ : K} {t : Option (Nat × (Nat → Int32))} : kC (setT κ t) = kC κ := rfl
theorem cC {κ : K} {a b : Nat} : kC (addC κ a b) = ((kC κ).1 + a, (kC κ).2 + b) := rfl
theorem tT {κ : K} {t : Option (Nat × (Nat → Int32))} : kT (setT κ t) = t := rfl
theorem tV {κ : K} {f i c k : Nat} {x : Int32} : kT (setV κ f i c k x) = kT κ := rfl
theorem tA {κ : K} {f i c : Nat} {a : Nat → Int32} : kT (setA κ f i c a) = kT κ := rfl
theorem tC {κ : K} {a b : Nat} : kT (addC κ a b) = kT κ := rfl
/-! numbers -/
theorem i32l (n : Nat) : (OfNat.ofNat n : Int32) = nI n := rfl
theorem i32_0 : (0 : Int32) = nI 0 := rfl
theorem i32_1 : (1 : Int32) = nI 1 := rfl
theorem nI_mul (a b : Nat) : nI a * nI b = nI (a * b) := (Int32.ofNat_mul a b).symm
theorem nI_sub {a b : Nat} (h : b ≤ a) : nI a - nI b = nI (a - b) := by
  obtain ⟨c, rfl⟩ := Nat.exists_eq_add_of_le h
  rw [← nI_add, Int32.add_comm, Int32.add_sub_cancel, Nat.add_sub_cancel_left]
theorem nI_lt0 {n : Nat} (h : n < 2147483648) : (nI n < nI 0) = False := eq_false (by rw [nI_0]; exact nI_pos h)
theorem nI_div {a b : Nat} (ha : a < 2147483648) (hb : b < 2147483648) : nI a / nI b = nI (a / b) := by
  have h1 : a / b < 2147483648 := Nat.lt_of_le_of_lt (Nat.div_le_self a b) ha
  apply Int32.toInt_inj.mp
  rw [Int32.toInt_div, nI_toInt ha, nI_toInt hb, nI_toInt h1]
  show Int.bmod (Int.tdiv (a : Int) (b : Int)) (2 ^ 32) = ((a / b : Nat) : Int)
  rw [show Int.tdiv (a : Int) (b : Int) = ((a / b : Nat) : Int) from rfl]
  generalize a / b = q at h1 ⊢
  rw [Int.bmod_def]
  have h2 : (q : Int) % ((2 ^ 32 : Nat) : Int) = (q : Int) := Int.emod_eq_of_lt (by omega) (by omega)
  rw [h2, if_pos (by omega)]
theorem nI_mod {a b : Nat} (ha : a < 2147483648) (hb : b < 2147483648) : nI a - nI a / nI b * nI b = nI (a % b) := by
  rw [nI_div ha hb, nI_mul]
  have h := Nat.div_add_mod a b
  rw [Nat.mul_comm] at h
  rw [nI_sub (by omega)]
  congr 1
  omega
theorem nI_m1 {n : Nat} (h : n < 2147483648) : (nI n = -1) = False := by
  refine eq_false fun z => ?_
  have h1 := nI_toInt h
  rw [z] at h1
  have h2 : (-1 : Int32).toInt = -1 := by decide
  omega
theorem m1_nI {n : Nat} (h : n < 2147483648) : (-1 = nI n) = False := eq_false fun z => (nI_m1 h).mp z.symm
theorem nI_cl {n : Nat} (h : n < 2147483648) : (nI n).toNatClampNeg = n := nI_clamp h
theorem nI_le' {a b : Nat} (ha : a < 2147483648) (hb : b < 2147483648) : (nI a ≤ nI b) = (a ≤ b) := propext (nI_leI ha hb)
theorem nI_lt' {a b : Nat} (ha : a < 2147483648) (hb : b < 2147483648) : (nI a < nI b) = (a < b) := propext (nI_ltI ha hb)
theorem nI_eq' {a b : Nat} (ha : a < 2147483648) (hb : b < 2147483648) : (nI a = nI b) = (a = b) := propext (nI_eq ha hb)
theorem vp_no {a : Int32} {n : Nat} (hn : n < 2147483648) (h : ¬ vp_in a n) : a < 0 ∨ nI n ≤ a := by
  rw [vp_in_iff] at h
  by_cases h0 : a < 0
  · exact Or.inl h0
  · refine Or.inr ?_
    obtain ⟨j, hj, rfl⟩ := nI_of h0
    rw [nI_toInt hj] at h
    rw [nI_leI hn hj]
    omega
/-! LISTS of the hall -/
def LsI (E : EE) (κ : K) (c n : Nat) : Prop := kV κ 4 0 c 2 = nI n ∧ (n = 0 → cnt4 E c = 0 ∧ kP κ 4 0 c 1 = none) ∧ (0 < n → ¬ cnt4 E c = 0 ∧ kP κ 4 0 c 1 = some 0 ∧ ∀ k, kP κ 4 0 (c + 3) k = if k < n then some k else none)
theorem checkPlace_ok {E : EE} {κ : K} {j n : Nat} (hj : j < n) (hn : n < 2147483648) : f_X10_checkPlace E κ (nI j) (nI n) = some (κ, .inl ()) := by
  unfold f_X10_checkPlace
  rw [if_neg (nI_pos (by omega)), if_pos ((nI_ltI (by omega) hn).mpr hj)]
theorem checkPlace_no {E : EE} {κ : K} {a : Int32} {n : Nat} (hn : n < 2147483648) (h : ¬ vp_in a n) : f_X10_checkPlace E κ a (nI n) = some (addC κ 1 6, .inr 1) := by
  unfold f_X10_checkPlace f_X10_checkPlace_b9
  rcases vp_no hn h with h | h
  · rw [if_pos h]
  · by_cases h0 : a < 0
    · rw [if_pos h0]
    · rw [if_neg h0, if_neg]
      exact Int32.not_lt.mpr h
theorem guestAt_ok {E : EE} {κ : K} (hL : LsI E κ 1 E.1) (h5 : E.1 ≤ 5) {g : Nat} (hg : g < E.1) : f_X10_guestAt E κ (nI g) = some (κ, .inl g) := by
  obtain ⟨h1, -, h3⟩ := hL
  obtain ⟨h4, h6, h7⟩ := h3 (by omega)
  unfold f_X10_guestAt f_Jx4a65c_size_8abf5_L1
  rw [bd_s, h1, checkPlace_ok hg (by omega), bx_s]
  unfold f_Jx4a65c_get_915e3_L1 f_J15_checkIndex_7cf53 f_J3_checkIndex_8e157 f_Jx4a65c_elementData_915e3_L1
  rw [h1, if_neg (nI_pos (by omega)), if_pos ((nI_ltI (by omega) (by omega)).mpr hg), bd_s, bd_s, gd_t ⟨h6, h4⟩, gd_t (nI_in (by omega) (by omega)), nI_cl (by omega), h7, if_pos hg, optG_s (show g < cntE E 0 from hg), bd_s, gd_t (show g < cntE E 0 from hg), bd_s, gd_t (show g < cntE E 0 from hg)]
theorem guestAt_no {E : EE} {κ : K} (hL : LsI E κ 1 E.1) (h5 : E.1 ≤ 5) {a : Int32} (ha : ¬ vp_in a E.1) : f_X10_guestAt E κ a = some (addC κ 1 6, .inr 1) := by
  unfold f_X10_guestAt f_Jx4a65c_size_8abf5_L1
  rw [bd_s, hL.1, checkPlace_no (by omega) ha, bx_r]
theorem snapAt_ok {E : EE} {κ : K} (hL : LsI E κ 2 E.2.1) (h5 : E.2.1 ≤ 10) {g : Nat} (hg : g < E.2.1) : f_X10_snapshotAt E κ (nI g) = some (κ, .inl g) := by
  obtain ⟨h1, -, h3⟩ := hL
  obtain ⟨h4, h6, h7⟩ := h3 (by omega)
  unfold f_X10_snapshotAt f_Jx4a65c_size_8abf5_L2
  rw [bd_s, h1, checkPlace_ok hg (by omega), bx_s]
  unfold f_Jx4a65c_get_915e3_L2 f_J15_checkIndex_7cf53 f_J3_checkIndex_8e157 f_Jx4a65c_elementData_915e3_L2
  rw [h1, if_neg (nI_pos (by omega)), if_pos ((nI_ltI (by omega) (by omega)).mpr hg), bd_s, bd_s, gd_t ⟨h6, h4⟩, gd_t (nI_in (by omega) (by omega)), nI_cl (by omega), h7, if_pos hg, optG_s (show g < cntE E 1 from hg), bd_s, gd_t (show g < cntE E 1 from hg), bd_s, gd_t (show g < cntE E 1 from hg)]
theorem snapAt_no {E : EE} {κ : K} (hL : LsI E κ 2 E.2.1) (h5 : E.2.1 ≤ 10) {a : Int32} (ha : ¬ vp_in a E.2.1) : f_X10_snapshotAt E κ a = some (addC κ 1 6, .inr 1) := by
  unfold f_X10_snapshotAt f_Jx4a65c_size_8abf5_L2
  rw [bd_s, hL.1, checkPlace_no (by omega) ha, bx_r]
theorem hostAt_ok {E : EE} {κ : K} (hH : E.2.2.2.1 = 1) {j : Nat} (hj : j < 2) : f_X10_hostAt E κ (nI j) = some (κ, .inl j) := by
  unfold f_X10_hostAt
  rw [show (2 : Int32) = nI 2 from rfl, checkPlace_ok hj (by omega), bx_s, gd_t (nI_in hj (by omega)), nmE, nI_cl (by omega), gd_t]
  show j < 2 * E.2.2.2.1
  omega
theorem hostAt_no {E : EE} {κ : K} {a : Int32} (ha : ¬ vp_in a 2) : f_X10_hostAt E κ a = some (addC κ 1 6, .inr 1) := by
  unfold f_X10_hostAt
  rw [show (2 : Int32) = nI 2 from rfl, checkPlace_no (by omega) ha, bx_r]
/-! the model's small words -/
theorem in_nI {E : EE} {κ : K} {j lo hi : Nat} (hj : j < 2147483648) (hl : lo < 2147483648) (hh : hi < 2147483648) : f_X11_in E κ (nI j) (nI lo) (nI hi) = some (κ, if lo ≤ j ∧ j ≤ hi then 1 else 0) := by
  unfold f_X11_in f_X11_in_e
  simp only [nI_lt' hj hl, nI_lt' hh hj]
  by_cases h1 : j < lo
  · rw [if_pos h1, bd_s, gd_t (Or.inl rfl), if_neg (by omega)]
  · by_cases h2 : hi < j
    · rw [if_neg h1, if_pos h2, bd_s, gd_t (Or.inl rfl), if_neg (by omega)]
    · rw [if_neg h1, if_neg h2, bd_s, gd_t (Or.inr rfl), if_pos (by omega)]
theorem in_t {E : EE} {κ : K} {a lo hi : Int32} (h1 : ¬ a < lo) (h2 : ¬ hi < a) : f_X11_in E κ a lo hi = some (κ, 1) := by
  unfold f_X11_in f_X11_in_e
  rw [if_neg h1, if_neg h2, bd_s, gd_t (Or.inr rfl)]
theorem in_f {E : EE} {κ : K} {a lo hi : Int32} (h : a < lo ∨ hi < a) : f_X11_in E κ a lo hi = some (κ, 0) := by
  unfold f_X11_in f_X11_in_e
  by_cases h1 : a < lo
  · rw [if_pos h1, bd_s, gd_t (Or.inl rfl)]
  · rw [if_neg h1, if_pos (h.resolve_left h1), bd_s, gd_t (Or.inl rfl)]
theorem Int32_le_sub1 {a : Int32} {n : Nat} (hn : n < 2147483648) : (nI n - 1 < a ∨ a < 0) ↔ ¬ vp_in a n := by
  by_cases h0 : a < 0
  · refine ⟨fun _ z => ?_, fun _ => Or.inr h0⟩
    exact z (Or.inl h0)
  · obtain ⟨j, hj, rfl⟩ := nI_of h0
    rw [vp_in_iff, nI_toInt hj]
    by_cases hz : n = 0
    · subst hz
      refine ⟨fun _ => by omega, fun _ => Or.inl ?_⟩
      rw [Int32.lt_iff_toInt_lt, nI_toInt hj, show (nI 0 - 1).toInt = -1 from by decide]
      omega
    · rw [show (1 : Int32) = nI 1 from rfl, nI_sub (by omega), nI_lt' (by omega) hj]
      constructor
      · intro h
        rcases h with h | h
        · omega
        · exact absurd h h0
      · intro h
        exact Or.inl (by omega)
theorem isGuest_t {E : EE} {κ : K} {n : Nat} (hG : kV κ 5 0 0 26 = nI n) (hn : n ≤ 5) {g : Nat} (hg : g < n) : f_X11_isGuest E κ (nI g) = some (κ, 1) := by
  unfold f_X11_isGuest f_X11_isGuest_e
  have h : ¬ (nI n - 1 < nI g ∨ nI g < 0) := fun z => (Int32_le_sub1 (by omega)).mp z (vp_in_nI hg (by omega))
  rw [hG, in_t (fun z => h (Or.inr z)) (fun z => h (Or.inl z)), bd_s, bd_s, gd_t (Or.inr rfl)]
theorem isGuest_f {E : EE} {κ : K} {n : Nat} (hG : kV κ 5 0 0 26 = nI n) (hn : n ≤ 5) {a : Int32} (ha : ¬ vp_in a n) : f_X11_isGuest E κ a = some (κ, 0) := by
  unfold f_X11_isGuest f_X11_isGuest_e
  have h := (Int32_le_sub1 (by omega)).mpr ha
  rw [hG, in_f h.symm, bd_s, bd_s, gd_t (Or.inl rfl)]
theorem refused_0 {E : EE} {κ : K} : f_X11_refused E κ 0 = some (setV κ 5 0 0 0 0, 0) := by
  unfold f_X11_refused f_X11_refused_e
  rw [nmE, if_pos rfl, bd_s, gd_t (Or.inl rfl)]
theorem refused_n {E : EE} {κ : K} {a : Int32} (h : ¬ a = 0) : f_X11_refused E κ a = some (setV κ 5 0 0 0 a, 1) := by
  unfold f_X11_refused f_X11_refused_e
  rw [nmE, if_neg h, bd_s, gd_t (Or.inr rfl)]
