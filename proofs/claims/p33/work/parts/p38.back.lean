/-! pages that are all 0 -/
def zpB (w : Nat → Int32) (p : Nat) : Bool := decide (w (4 * p + 0) = 0 ∧ w (4 * p + 1) = 0 ∧ w (4 * p + 2) = 0 ∧ w (4 * p + 3) = 0)
theorem zp_iff {w : Nat → Int32} {p : Nat} : zpB w p = true ↔ ∀ j, j < 4 → w (4 * p + j) = 0 := by
  unfold zpB
  rw [decide_eq_true_iff]
  constructor
  · rintro ⟨a, b, c, d⟩ j hj
    have : j = 0 ∨ j = 1 ∨ j = 2 ∨ j = 3 := by omega
    rcases this with rfl | rfl | rfl | rfl
    · exact a
    · exact b
    · exact c
    · exact d
  · intro h
    exact ⟨h 0 (by omega), h 1 (by omega), h 2 (by omega), h 3 (by omega)⟩
theorem zero_E {E : EE} {κ : K} {f i c p : Nat} (hp : p < 8) : f_X8_isZero E κ f i c (nI p) = some (κ, if zpB (kV κ f i (c + 4)) p = true then 1 else 0) := by
  have loop : ∀ d k m, k + d = 4 → d < m → (∀ j, j < k → kV κ f i (c + 4) (4 * p + j) = 0) → f_X8_isZero_b2 E f i c m κ (nI p) (nI k) = some (κ, if zpB (kV κ f i (c + 4)) p = true then 1 else 0) := by
    intro d
    induction d with
    | zero =>
      intro k m hk hm hz
      obtain ⟨m, rfl⟩ : ∃ q, m = q + 1 := ⟨m - 1, by omega⟩
      rw [f_X8_isZero_b2, if_pos (by rw [l4, nI_le' (by omega) (by omega)]; omega), if_pos (zp_iff.mpr (fun j hj => hz j (by omega)))]
    | succ d ih =>
      intro k m hk hm hz
      obtain ⟨m, rfl⟩ : ∃ q, m = q + 1 := ⟨m - 1, by omega⟩
      have ek : (nI p : Int32) * 4 + nI k = nI (4 * p + k) := by rw [l4, nI_mul, nI_add, Nat.mul_comm]
      rw [f_X8_isZero_b2, if_neg (by rw [l4, nI_le' (by omega) (by omega)]; omega), ek, nI_cl (by omega), gdi (by omega)]
      by_cases e : kV κ f i (c + 4) (4 * p + k) = 0
      · rw [if_pos e, nmE, nI_1]
        exact ih (k + 1) m (by omega) (by omega) (fun j hj => by
          by_cases z : j = k
          · rw [z]; exact e
          · exact hz j (by omega))
      · rw [if_neg e, if_neg (fun z => e (zp_iff.mp z k (by omega)))]
  have := loop 4 0 FU (by omega) (by unfold FU; omega) (fun j hj => absurd hj (by omega))
  rw [nI_0] at this
  rw [f_X8_isZero, f_X8_isZero_e, this, bd_s]
  split
  · exact gd_t (Or.inr rfl)
  · exact gd_t (Or.inl rfl)
theorem kA_5 {E : EE} {κ : K} {c : Nat} (_ : 0 < cntE E 5) (_ : c = 1 ∨ c = 3 ∨ c = 4 ∨ c = 7 ∨ c = 8) : kA5 E κ (5, 0, c) = some (sl 5 c, kV κ 5 0 c) := rfl
theorem tmpG_s {α : Type} {n : Nat} {a : Nat → Int32} {f : Nat → (Nat → Int32) → Option α} : tmpG (some (n, a)) f = f n a := rfl
theorem m_isZero {E : EE} {κ : K} {g p : Nat} (hE : 0 < cntE E 5) (hg : g < 5) (hp : p < 8) : f_X11_isZero E κ (5, 0, 1) (nI (55 * g)) (nI p) = some (κ, if zpB (fun k => kV κ 5 0 1 (55 * g + (17 + k))) p = true then 1 else 0) := by
  have l0 : ∀ d k m, k + d = 4 → d < m → f_X11_isZero_b6 E (5, 0, 1) m κ (nI (55 * g)) (nI p) 0 (nI k) = some (κ, 0) := by
    intro d
    induction d with
    | zero =>
      intro k m hk hm
      obtain ⟨m, rfl⟩ : ∃ q, m = q + 1 := ⟨m - 1, by omega⟩
      rw [f_X11_isZero_b6, if_pos (by rw [l4, nI_le' (by omega) (by omega)]; omega)]
    | succ d ih =>
      intro k m hk hm
      obtain ⟨m, rfl⟩ : ∃ q, m = q + 1 := ⟨m - 1, by omega⟩
      rw [f_X11_isZero_b6, if_neg (by rw [l4, nI_le' (by omega) (by omega)]; omega), if_pos rfl, f_X11_isZero_b37, f_X11_isZero_b38, nmE, nI_1]
      exact ih (k + 1) m (by omega) (by omega)
  have l1 : ∀ d k m, k + d = 4 → d < m → (∀ j, j < k → kV κ 5 0 1 (55 * g + (17 + (4 * p + j))) = 0) → f_X11_isZero_b6 E (5, 0, 1) m κ (nI (55 * g)) (nI p) 1 (nI k) = some (κ, if zpB (fun k => kV κ 5 0 1 (55 * g + (17 + k))) p = true then 1 else 0) := by
    intro d
    induction d with
    | zero =>
      intro k m hk hm hz
      obtain ⟨m, rfl⟩ : ∃ q, m = q + 1 := ⟨m - 1, by omega⟩
      rw [f_X11_isZero_b6, if_pos (by rw [l4, nI_le' (by omega) (by omega)]; omega), if_pos (zp_iff.mpr (fun j hj => hz j (by omega)))]
    | succ d ih =>
      intro k m hk hm hz
      obtain ⟨m, rfl⟩ : ∃ q, m = q + 1 := ⟨m - 1, by omega⟩
      have ek : ((nI (55 * g) + 17) + (4 * nI p)) + nI k = nI (55 * g + (17 + (4 * p + k))) := by rw [l17, l4, nI_mul, nI_add, nI_add, nI_add]; congr 1; omega
      rw [f_X11_isZero_b6, if_neg (by rw [l4, nI_le' (by omega) (by omega)]; omega), if_neg (by decide), kA_5 hE (Or.inl rfl), tmpG_s, ek, nI_cl (by omega), show sl 5 1 = 275 from rfl, gdi (by omega)]
      by_cases e : kV κ 5 0 1 (55 * g + (17 + (4 * p + k))) = 0
      · rw [if_pos e, f_X11_isZero_b38, nmE, nI_1]
        exact ih (k + 1) m (by omega) (by omega) (fun j hj => by
          by_cases z : j = k
          · rw [z]; exact e
          · exact hz j (by omega))
      · rw [if_neg e, f_X11_isZero_b37, f_X11_isZero_b38, nmE, nI_1, l0 d (k + 1) m (by omega) (by omega), if_neg (fun z => e (zp_iff.mp z k (by omega)))]
  have := l1 4 0 FU (by omega) (by unfold FU; omega) (fun j hj => absurd hj (by omega))
  rw [nI_0] at this
  rw [f_X11_isZero, f_X11_isZero_e, this, bd_s]
  split
  · exact gd_t (Or.inr rfl)
  · exact gd_t (Or.inl rfl)
def zS (w : Nat → Int32) : Nat → Nat
  | 0 => 0
  | k + 1 => if zpB w k = true then setB (zS w k) k else zS w k
theorem zS_lt (w : Nat → Int32) : ∀ k, k ≤ 8 → zS w k < 256
  | 0, _ => (by show 0 < 256; omega)
  | k + 1, h => by
    unfold zS
    split
    · exact set_lt _ (zS_lt w k (by omega)) k (by omega)
    · exact zS_lt w k (by omega)
theorem zS_bit (w : Nat → Int32) {p : Nat} (hp : p < 8) : ∀ k, k ≤ 8 → (zS w k).testBit p = (decide (p < k) && zpB w p)
  | 0, _ => by
    rw [decide_eq_false (by omega)]
    exact Nat.zero_testBit p
  | k + 1, h => by
    have ih := zS_bit w hp k (by omega)
    unfold zS
    by_cases e : zpB w k = true
    · rw [if_pos e, set_bit _ (zS_lt w k (by omega)) k (by omega) p hp, ih]
      by_cases e2 : p = k
      · rw [decide_eq_true e2, decide_eq_true (show p < k + 1 by omega), e2, e, Bool.or_true, Bool.true_and]
      · rw [decide_eq_false e2, Bool.or_false, decide_eq_decide.mpr (show p < k ↔ p < k + 1 by omega)]
    · rw [if_neg e, ih]
      by_cases e2 : p = k
      · rw [e2, Bool.eq_false_iff.mpr e, Bool.and_false, Bool.and_false]
      · rw [decide_eq_decide.mpr (show p < k ↔ p < k + 1 by omega)]
theorem popU_zS (w : Nat → Int32) : ∀ k, k ≤ 8 → popU (zS w 8) k + cntU (fun p => !zpB w p) k = k
  | 0, _ => rfl
  | k + 1, h => by
    have ih := popU_zS w k (by omega)
    have hb := zS_bit w (p := k) (by omega) 8 (Nat.le_refl _)
    rw [decide_eq_true (show k < 8 by omega), Bool.true_and] at hb
    unfold popU cntU
    rw [hb]
    cases zpB w k
    · simp only [Bool.not_false, if_true, Bool.false_eq_true, if_false]; omega
    · simp only [Bool.not_true, if_true, Bool.false_eq_true, if_false]; omega
/-! the class -/
theorem set_set {κ : K} {f i c k : Nat} {x y : Int32} : setV (setV κ f i c k x) f i c k y = setV κ f i c k y := by
  rw [setp, setp, pv_kV, pv_pv, mu_mu, ← setp]
def gbK (κ4 : K) (g Z : Nat) : K := setV (setV (setV (setV κ4 0 g 0 14 (nI Z)) 0 g 0 15 (-1)) 0 g 0 17 1) 0 g 0 18 0
theorem gb_loop {E : EE} {κ4 : K} {g f1 i1 c1 : Nat} : f_X1_goBackTo_b19 E g f1 i1 c1 FU (setV κ4 0 g 0 14 0) 0 = some (gbK κ4 g (zS (kV κ4 0 g 9) 8), nI (8 - pop (zS (kV κ4 0 g 9) 8))) := by
  have e9 : ∀ x : Int32, kV (setV κ4 0 g 0 14 x) 0 g 9 = kV κ4 0 g 9 := fun x => by
    funext k
    exact vD (by omega)
  have loop : ∀ d k m, k + d = 8 → d < m → f_X1_goBackTo_b19 E g f1 i1 c1 m (setV κ4 0 g 0 14 (nI (zS (kV κ4 0 g 9) k))) (nI k) = some (gbK κ4 g (zS (kV κ4 0 g 9) 8), nI (8 - pop (zS (kV κ4 0 g 9) 8))) := by
    intro d
    induction d with
    | zero =>
      intro k m hk hm
      obtain ⟨m, rfl⟩ : ∃ q, m = q + 1 := ⟨m - 1, by omega⟩
      have e : k = 8 := by omega
      subst e
      have e14 : kV (gbK κ4 g (zS (kV κ4 0 g 9) 8)) 0 g 0 14 = nI (zS (kV κ4 0 g 9) 8) := by
        unfold gbK
        rw [vD (by omega), vD (by omega), vD (by omega), vS ⟨rfl, rfl, rfl, rfl⟩]
      rw [f_X1_goBackTo_b19, if_pos (by rw [l8, nI_le' (by omega) (by omega)]; exact Nat.le_refl _), f_X1_goBackTo_b54, nmE, nmE, nmE]
      show bd (f_J6_bitCount_0f7a4 E (gbK κ4 g (zS (kV κ4 0 g 9) 8)) (kV (gbK κ4 g (zS (kV κ4 0 g 9) 8)) 0 g 0 14)) _ = _
      rw [e14, bitCount_E (zS_lt _ 8 (Nat.le_refl _)), bd_s, l8, nI_sub (show pop _ ≤ 8 from popU_le _ 8)]
    | succ d ih =>
      intro k m hk hm
      obtain ⟨m, rfl⟩ : ∃ q, m = q + 1 := ⟨m - 1, by omega⟩
      have ez : zpB (kV (setV κ4 0 g 0 14 (nI (zS (kV κ4 0 g 9) k))) 0 g (5 + 4)) k = zpB (kV κ4 0 g 9) k := by rw [show 5 + 4 = 9 from rfl, e9]
      rw [f_X1_goBackTo_b19, if_neg (by rw [l8, nI_le' (by omega) (by omega)]; omega), zero_E (by omega), bd_s, ez]
      have ih2 := ih (k + 1) m (by omega) (by omega)
      by_cases e : zpB (kV κ4 0 g 9) k = true
      · have es : zS (kV κ4 0 g 9) (k + 1) = setB (zS (kV κ4 0 g 9) k) k := by
          show (if _ then _ else _) = _
          rw [if_pos e]
        rw [es] at ih2
        rw [if_pos e, if_neg (by decide), vS ⟨rfl, rfl, rfl, rfl⟩, show (1 : Int32) <<< (nI k &&& 31) = bitI k from rfl, bit_set _ (zS_lt _ k (by omega)) k (by omega), nmE, set_set, f_X1_goBackTo_b48, nmE, nI_1, ih2]
      · have es : zS (kV κ4 0 g 9) (k + 1) = zS (kV κ4 0 g 9) k := by
          show (if _ then _ else _) = _
          rw [if_neg e]
        rw [es] at ih2
        rw [if_neg e, if_pos rfl, f_X1_goBackTo_b48, nmE, nI_1, ih2]
  have := loop 8 0 FU (by omega) (by unfold FU; omega)
  rw [nI_0] at this
  exact this
theorem gbK_V {κ : K} {g Z : Nat} : (∀ f i c, ¬ (f = 0 ∧ i = g ∧ c = 0) → kV (gbK κ g Z) f i c = kV κ f i c) ∧ (∀ k, k ≠ 14 → k ≠ 15 → k ≠ 17 → k ≠ 18 → kV (gbK κ g Z) 0 g 0 k = kV κ 0 g 0 k) ∧ kV (gbK κ g Z) 0 g 0 14 = nI Z ∧ kV (gbK κ g Z) 0 g 0 15 = -1 ∧ kV (gbK κ g Z) 0 g 0 17 = 1 ∧ kV (gbK κ g Z) 0 g 0 18 = 0 := by
  unfold gbK
  refine ⟨fun f i c z => ?_, fun k a b c d => ?_, ?_, ?_, ?_, vS ⟨rfl, rfl, rfl, rfl⟩⟩
  · funext k
    rw [vD (by omega), vD (by omega), vD (by omega), vD (by omega)]
  · rw [vD (by omega), vD (by omega), vD (by omega), vD (by omega)]
  · rw [vD (by omega), vD (by omega), vD (by omega), vS ⟨rfl, rfl, rfl, rfl⟩]
  · rw [vD (by omega), vD (by omega), vS ⟨rfl, rfl, rfl, rfl⟩]
  · rw [vD (by omega), vS ⟨rfl, rfl, rfl, rfl⟩]
/-- the class gives a guest a state that was kept -/
theorem gb_cls {E : EE} {κ : K} {n ns g h f1 i1 c1 s1 s2 s3 s4 d1 d2 d3 d4 : Nat} {a1 a2 a3 a4 b1 b2 b3 b4 : Nat → Int32} (hH : E.2.2.2.1 = 1) (hh : h < 2) (hg : g < n) (hn : n ≤ 5) (hP : kP κ 0 g 0 8 = some h) (h0 : kV κ 0 g 0 0 = nI g) (hFr : ∀ p, p < 8 → kV κ 2 h 1 (8 * g + p) = -1 ∨ ∃ f, f < 16 ∧ kV κ 2 h 1 (8 * g + p) = nI f) (hf : (f1 = 9 ∧ c1 = 0) ∨ (f1 = 0 ∧ i1 = g ∧ c1 = 19)) (hM7 : kV κ f1 i1 (c1 + 1) 7 = 0 ∨ kV κ f1 i1 (c1 + 1) 7 = 1) (h7 : kV κ f1 i1 c1 7 = 0 ∨ kV κ f1 i1 c1 7 = 1) (h8 : kV κ f1 i1 c1 8 = 0 ∨ kV κ f1 i1 c1 8 = 1) (hS : FOUR κ f1 i1 c1 s1 s2 s3 s4 a1 a2 a3 a4) (hD : FOUR κ 0 g 5 d1 d2 d3 d4 b1 b2 b3 b4) : ∃ κ', f_X1_goBackTo E κ g f1 i1 c1 = some (κ', nI (8 - pop (zS (kV κ f1 i1 (c1 + 4)) 8))) ∧ (∀ f i, ¬ (f = 0 ∧ i = g) → ¬ (f = 2 ∧ i = h) → kV κ' f i = kV κ f i) ∧ kV κ' 2 h = lvU (kV κ 2 h) g 8 ∧ (∀ c, c ≠ 0 → c < 5 ∨ 18 ≤ c → kV κ' 0 g c = kV κ 0 g c) ∧ (∀ k, k ≠ 14 → k ≠ 15 → k ≠ 17 → k ≠ 18 → kV κ' 0 g 0 k = kV κ 0 g 0 k) ∧ (kV κ' 0 g 0 14 = nI (zS (kV κ f1 i1 (c1 + 4)) 8) ∧ kV κ' 0 g 0 15 = -1 ∧ kV κ' 0 g 0 17 = 1 ∧ kV κ' 0 g 0 18 = 0) ∧ (∀ j k, rel j k → kV κ' 0 g (6 + j) k = kV κ f1 i1 (c1 + 1 + j) k) ∧ FOUR κ' 0 g 5 s1 s2 s3 s4 a1 a2 a3 a4 ∧ (∀ k, 5 ≤ k → k ≤ 9 → kV κ' 0 g 5 k = kV κ f1 i1 c1 k) ∧ (∀ f i c, ¬ (f = 0 ∧ i = g ∧ 5 ≤ c ∧ c < 18) → kN κ' f i c = kN κ f i c) ∧ kP κ' = kP κ ∧ PAID n ns 0 0 κ κ' := by
  have hlv := leave_E (E := E) (κ := κ) (g := g) (h := h) hH hh hP h0 (by omega) hFr
  let κ1 : K := pv κ 2 h (lvU (kV κ 2 h) g 8)
  have e1 : ∀ f i, ¬ (f = 2 ∧ i = h) → kV κ1 f i = kV κ f i := fun f i z => pv_n z
  have hs1 : kV κ1 f1 i1 = kV κ f1 i1 := e1 f1 i1 (by omega)
  have hg1 : kV κ1 0 g = kV κ 0 g := e1 0 g (by omega)
  have mv : ∀ {f i c s q}, NUM κ f i c s q → ¬ (f = 2 ∧ i = h) → NUM κ1 f i c s q := fun z w => NUM_K z (by rw [e1 _ _ w]) (by rw [e1 _ _ w]) rfl
  obtain ⟨κ2, p1, p2, p3, p4, p5, p6, p7, p8⟩ := copy8 (E := E) (κ := κ1) (n := n) (ns := ns) (f0 := 0) (i0 := g) (c0 := 5) (f1 := f1) (i1 := i1) (c1 := c1) (by omega) (by rw [hs1]; exact hM7) (by rw [hs1]; exact h7) (by rw [hs1]; exact h8) ⟨mv hS.1 (by omega), mv hS.2.1 (by omega), mv hS.2.2.1 (by omega), mv hS.2.2.2 (by omega)⟩ ⟨mv hD.1 (by omega), mv hD.2.1 (by omega), mv hD.2.2.1 (by omega), mv hD.2.2.2 (by omega)⟩ (fun j hj => by rcases hj with rfl | rfl | rfl | rfl <;> exact ⟨num_mem0 g (by omega) _ (by decide), al0 hg⟩)
  obtain ⟨w1, w2, w3, w4, w5, w6⟩ := gbK_V (κ := κ2) (g := g) (Z := zS (kV κ2 0 g 9) 8)
  have ez : ∀ k, k < 32 → kV κ2 0 g 9 k = kV κ f1 i1 (c1 + 4) k := fun k hk => by
    have := p6 3 k (Or.inr (Or.inr (Or.inr ⟨rfl, hk⟩)))
    rw [hs1] at this
    exact this
  have eZ : ∀ j, j ≤ 8 → zS (kV κ2 0 g 9) j = zS (kV κ f1 i1 (c1 + 4)) j := by
    intro j
    induction j with
    | zero => exact fun _ => rfl
    | succ j ih =>
      intro hj
      have eb : zpB (kV κ2 0 g 9) j = zpB (kV κ f1 i1 (c1 + 4)) j := by
        unfold zpB
        rw [ez _ (by omega), ez _ (by omega), ez _ (by omega), ez _ (by omega)]
      show (if _ then _ else _) = if _ then _ else _
      rw [eb, ih (by omega)]
  rw [eZ 8 (Nat.le_refl _)] at w1 w2 w3 w4 w5 w6
  refine ⟨gbK κ2 g (zS (kV κ f1 i1 (c1 + 4)) 8), ?_, fun f i a b => ?_, ?_, fun c a b => ?_, fun k a b c d => ?_, ⟨w3, w4, w5, w6⟩, fun j k hr => ?_, ?_, fun k a b => ?_, fun f i c z => p3 f i c (by omega), p4, ((PAID_same (n := n) (s := ns) (κ := κ) (κ' := κ1) rfl rfl).trans p5).up (by omega) (by omega)⟩
  · rw [f_X1_goBackTo, hlv, bd_s, p1, bd_s, nmE, gb_loop, eZ 8 (Nat.le_refl _)]
  · funext c
    rw [w1 f i c (by omega), p2 f i c (by omega), e1 f i b]
  · funext c
    rw [w1 2 h c (by omega), p2 2 h c (by omega)]
    show kV (pv κ 2 h _) 2 h c = _
    rw [pv_kV]
  · rw [w1 0 g c (by omega), p2 0 g c (by omega), hg1]
  · rw [w2 k a b c d, p2 0 g 0 (by omega), hg1]
  · have hj : j < 4 := by
      unfold rel at hr
      omega
    rw [w1 0 g (6 + j) (by omega), show 6 + j = 5 + 1 + j from by omega, p6 j k hr, hs1]
  · have nR : ∀ {c s q}, NUM κ2 0 g c s q → 0 < c → NUM (gbK κ2 g (zS (kV κ f1 i1 (c1 + 4)) 8)) 0 g c s q := fun z w => NUM_K z (by rw [w1 0 g _ (by omega)]) (w1 0 g _ (by omega)) rfl
    exact ⟨nR p7.1 (by omega), nR p7.2.1 (by omega), nR p7.2.2.1 (by omega), nR p7.2.2.2 (by omega)⟩
  · rw [w1 0 g 5 (by omega), p8 k a b, hs1]
/-! the model -/
def tbM (μ : MU) (x : Int32) : Int32 := if x = -1 then -1 else μ 0 41 + x
def gb2M (μ : MU) (c2 a g : Nat) : MU := mu (blkM μ 1 (55 * g) (fun k => μ c2 (a + k)) 55) 1 (55 * g + 50) (tbM μ (μ c2 (a + 50)))
def gb3M (μ : MU) (c2 a c4 q g m : Nat) : MU := blkM (gb2M μ c2 a g) 2 (512 * g) (fun k => μ c4 (q + k)) m
def gb4M (μ : MU) (c2 a c4 q g m : Nat) : MU := shiftM (gb3M μ c2 a c4 q g m) g (μ c2 (a + 53))
def knU (μ : MU) (g : Nat) : Nat → MU
  | 0 => μ
  | k + 1 => mu (mu (knU μ g k) 27 (8 * g + k) (if zpB (fun j => μ 1 (55 * g + (17 + j))) k = true then 0 else 2)) 28 (8 * g + k) (-1)
def gbM (μ : MU) (c2 a c4 q g m : Nat) : MU := mu (mu (knU (gb4M μ c2 a c4 q g m) g 8) 30 g 0) 19 g 1
theorem kn_row {μ : MU} {g c : Nat} (hc : c ≠ 27 ∧ c ≠ 28) : ∀ k, (knU μ g k) c = μ c
  | 0 => rfl
  | k + 1 => by
    unfold knU
    rw [mu_row hc.2, mu_row hc.1, kn_row hc k]
theorem kn_28 {μ : MU} {g : Nat} : ∀ k, (knU μ g k) 28 = (n28 μ g k) 28
  | 0 => rfl
  | k + 1 => by
    funext j
    show (mu (mu (knU μ g k) 27 (8 * g + k) _) 28 (8 * g + k) (-1)) 28 j = (mu (n28 μ g k) 28 (8 * g + k) (-1)) 28 j
    by_cases e : j = 8 * g + k
    · rw [muS ⟨rfl, e⟩, muS ⟨rfl, e⟩]
    · rw [muD (by omega), muD (by omega), muD (by omega), kn_28 k]
theorem kn_27 {μ : MU} {g j : Nat} : ∀ k, (knU μ g k) 27 j = if 8 * g ≤ j ∧ j < 8 * g + k then (if zpB (fun i => μ 1 (55 * g + (17 + i))) (j - 8 * g) = true then 0 else 2) else μ 27 j
  | 0 => by rw [if_neg (by omega)]; rfl
  | k + 1 => by
    show (mu (mu (knU μ g k) 27 (8 * g + k) _) 28 (8 * g + k) (-1)) 27 j = _
    rw [mu_row (by omega)]
    by_cases e : j = 8 * g + k
    · rw [muS ⟨rfl, e⟩, if_pos (show 8 * g ≤ j ∧ j < 8 * g + (k + 1) by omega), show j - 8 * g = k from by omega]
    · rw [muD (by omega), kn_27 k]
      by_cases e2 : 8 * g ≤ j ∧ j < 8 * g + k
      · rw [if_pos e2, if_pos (show 8 * g ≤ j ∧ j < 8 * g + (k + 1) by omega)]
      · rw [if_neg e2, if_neg (by omega)]
theorem gb_mod {E : EE} {κ : K} {c2 a c4 q g m : Nat} (hE : 0 < cntE E 5) (hg : g < 5) (hc : (c2 = 3 ∧ c4 = 4) ∨ (c2 = 7 ∧ c4 = 8)) (ha : a + 55 ≤ sl 5 c2) (hq : q + 512 ≤ sl 5 c4) (hm : kV κ 5 0 c2 (a + 54) = nI m) (hm5 : m ≤ 512) : f_X11_giveBack E κ (nI g) (5, 0, c2) (nI a) (5, 0, c4) (nI q) = some (putM κ (gbM (kV κ 5 0) c2 a c4 q g m), nI (8 - pop (zS (fun j => (gb4M (kV κ 5 0) c2 a c4 q g m) 1 (55 * g + (17 + j))) 8))) := by
  have hs2 : sl 5 c2 < 100000 := by rcases hc with ⟨rfl, _⟩ | ⟨rfl, _⟩ <;> decide
  have hs4 : sl 5 c4 < 100000 := by rcases hc with ⟨_, rfl⟩ | ⟨_, rfl⟩ <;> decide
  have k2 : ∀ κ : K, kA5 E κ (5, 0, c2) = some (sl 5 c2, kV κ 5 0 c2) := fun κ => kA_5 hE (by omega)
  have k4 : ∀ κ : K, kA5 E κ (5, 0, c4) = some (sl 5 c4, kV κ 5 0 c4) := fun κ => kA_5 hE (by omega)
  let μ : MU := kV κ 5 0
  let w : Nat → Int32 := fun j => (gb4M μ c2 a c4 q g m) 1 (55 * g + (17 + j))
  have l4' : ∀ d k mm, k + d = 8 → d < mm → f_X11_giveBack_b129 E (5, 0, c2) (5, 0, c4) mm (putM κ (knU (gb4M μ c2 a c4 q g m) g k)) (nI g) (nI (cntU (fun p => !zpB w p) k)) (nI k) = some (putM κ (gbM μ c2 a c4 q g m), nI (cntU (fun p => !zpB w p) 8)) := by
    intro d
    induction d with
    | zero =>
      intro k mm hk hmm
      obtain ⟨mm, rfl⟩ : ∃ q, mm = q + 1 := ⟨mm - 1, by omega⟩
      have e : k = 8 := by omega
      subst e
      rw [f_X11_giveBack_b129, if_pos (by rw [l8, nI_le' (by omega) (by omega)]; exact Nat.le_refl _), f_X11_giveBack_b208, nI_cl (by omega), gdi (by omega), nmE, gdi (by omega), nmE]
      simp only [set5, put_kV, put_put]
      rfl
    | succ d ih =>
      intro k mm hk hmm
      obtain ⟨mm, rfl⟩ : ∃ q, mm = q + 1 := ⟨mm - 1, by omega⟩
      have ez : zpB (fun j => kV (putM κ (knU (gb4M μ c2 a c4 q g m) g k)) 5 0 1 (55 * g + (17 + j))) k = zpB w k := by
        rw [put_kV, kn_row (by omega)]
      have hcn := cntU_le (fun p => !zpB w p) k
      have ih2 := ih (k + 1) mm (by omega) (by omega)
      have step : ∀ (x8 x b : Int32), x = (if zpB w k = true then 0 else 2) → (if x8 = 0 then (1 : Int32) else 0) = b → nI (cntU (fun p => !zpB w p) k) + b = nI (cntU (fun p => !zpB w p) (k + 1)) → f_X11_giveBack_b173 E (5, 0, c2) (5, 0, c4) (f_X11_giveBack_b129 E (5, 0, c2) (5, 0, c4) mm) (putM κ (knU (gb4M μ c2 a c4 q g m) g k)) (nI g) (nI (cntU (fun p => !zpB w p) k)) (nI k) x8 x ((8 * nI g) + nI k) = some (putM κ (gbM μ c2 a c4 q g m), nI (cntU (fun p => !zpB w p) 8)) := fun x8 x b hx hb hcc => by
        rw [f_X11_giveBack_b173, l8, nI_mul, nI_add, nI_cl (by omega), gdi (by omega), nmE, gdi (by omega), nmE]
        simp only [set5, put_kV, put_put]
        rw [hx]
        by_cases e8 : x8 = 0
        · rw [if_pos e8] at hb
          subst hb
          rw [if_pos e8, f_X11_giveBack_b199, nmE, hcc, nmE, nI_1]
          exact ih2
        · rw [if_neg e8] at hb
          subst hb
          rw [if_neg e8, f_X11_giveBack_b199, nmE, hcc, nmE, nI_1]
          exact ih2
      rw [f_X11_giveBack_b129, if_neg (by rw [l8, nI_le' (by omega) (by omega)]; omega), l55, nI_mul, m_isZero hE hg (by omega), bd_s, ez]
      by_cases e : zpB w k = true
      · rw [if_pos e, if_neg (by decide)]
        refine step 1 0 0 (by rw [if_pos e]) (if_neg (by decide)) ?_
        show _ = nI (cntU (fun p => !zpB w p) k + (if (!zpB w k) = true then 1 else 0))
        rw [e, if_neg (by decide), i32_0, nI_add]
      · rw [if_neg e, if_pos rfl]
        refine step 0 2 1 (by rw [if_neg e]) (if_pos rfl) ?_
        show _ = nI (cntU (fun p => !zpB w p) k + (if (!zpB w k) = true then 1 else 0))
        rw [Bool.eq_false_iff.mpr e, if_pos (by decide), nI_1]
  have fin := l4' 8 0 FU (by omega) (by unfold FU; omega)
  rw [nI_0, show nI (cntU (fun p => !zpB w p) 0) = 0 from rfl, show knU (gb4M μ c2 a c4 q g m) g 0 = gb4M μ c2 a c4 q g m from rfl, show cntU (fun p => !zpB w p) 8 = 8 - pop (zS w 8) from by have := popU_zS w 8 (Nat.le_refl _); unfold pop; omega] at fin
  have g3 : ∀ k, (gb3M μ c2 a c4 q g k) c2 = μ c2 := fun k => by
    unfold gb3M gb2M
    rw [blk_row (by omega), mu_row (by omega), blk_row (by omega)]
  have g3q : ∀ k, (gb3M μ c2 a c4 q g k) c4 = μ c4 := fun k => by
    unfold gb3M gb2M
    rw [blk_row (by omega), mu_row (by omega), blk_row (by omega)]
  have l3' : ∀ d k mm, k + d = m → d < mm → f_X11_giveBack_b74 E (5, 0, c2) (5, 0, c4) mm (putM κ (gb3M μ c2 a c4 q g k)) (nI g) (nI a) (nI q) (nI k) = some (putM κ (gbM μ c2 a c4 q g m), nI (8 - pop (zS w 8))) := by
    intro d
    induction d with
    | zero =>
      intro k mm hk hmm
      obtain ⟨mm, rfl⟩ : ∃ q, mm = q + 1 := ⟨mm - 1, by omega⟩
      have e : k = m := by omega
      subst e
      rw [f_X11_giveBack_b74, k2, tmpG_s, l54, nI_add, nI_cl (by omega), gdi (by omega), put_kV, g3, show μ c2 (a + 54) = nI k from hm, if_pos (by rw [nI_le' (by omega) (by omega)]; exact Nat.le_refl _), f_X11_giveBack_b112, k2, tmpG_s, l53, nI_add, nI_cl (by omega), gdi (by omega), put_kV, g3, m_shift hg, bd_s, put_kV, put_put]
      exact fin
    | succ d ih =>
      intro k mm hk hmm
      obtain ⟨mm, rfl⟩ : ∃ q, mm = q + 1 := ⟨mm - 1, by omega⟩
      rw [f_X11_giveBack_b74, k2, tmpG_s, l54, nI_add, nI_cl (by omega), gdi (by omega), put_kV, g3, show μ c2 (a + 54) = nI m from hm, if_neg (by rw [nI_le' (by omega) (by omega)]; omega), k4, tmpG_s, nI_add, nI_cl (by omega), gdi (by omega), l512, nI_mul, nI_add, nI_cl (by omega), gdi (by omega), put_kV, g3q, nmE, nI_1, nmE, set5, put_kV, put_put, show mu (gb3M μ c2 a c4 q g k) 2 (512 * g + k) (μ c4 (q + k)) = gb3M μ c2 a c4 q g (k + 1) from blk_s (f := fun k => μ c4 (q + k))]
      exact ih (k + 1) mm (by omega) (by omega)
  have fin3 := l3' m 0 FU (by omega) (by unfold FU; omega)
  rw [nI_0, show gb3M μ c2 a c4 q g 0 = gb2M μ c2 a g from blk_0] at fin3
  have l1 : ∀ d k mm, k + d = 55 → d < mm → f_X11_giveBack_b3 E (5, 0, c2) (5, 0, c4) mm (putM κ (blkM μ 1 (55 * g) (fun k => μ c2 (a + k)) k)) (nI g) (nI a) (nI q) (nI k) = some (putM κ (gbM μ c2 a c4 q g m), nI (8 - pop (zS w 8))) := by
    intro d
    induction d with
    | zero =>
      intro k mm hk hmm
      obtain ⟨mm, rfl⟩ : ∃ q, mm = q + 1 := ⟨mm - 1, by omega⟩
      have e : k = 55 := by omega
      subst e
      have last : ∀ x : Int32, x = tbM μ (μ c2 (a + 50)) → f_X11_giveBack_b70 E (5, 0, c2) (5, 0, c4) (putM κ (blkM μ 1 (55 * g) (fun k => μ c2 (a + k)) 55)) (nI g) (nI a) (nI q) x (nI (55 * g) + 50) = some (putM κ (gbM μ c2 a c4 q g m), nI (8 - pop (zS w 8))) := fun x hx => by
        rw [f_X11_giveBack_b70, l50, nI_add, nI_cl (by omega), gdi (by omega), nmE, set5, put_kV, put_put, hx]
        exact fin3
      rw [f_X11_giveBack_b3, if_pos (show (55 : Int32) ≤ nI 55 by decide), f_X11_giveBack_b34, k2, tmpG_s, show (nI a : Int32) + 50 = nI (a + 50) from by rw [l50, nI_add], nI_cl (by omega), gdi (by omega), put_kV, blk_row (show c2 ≠ 1 by omega), l55, nI_mul]
      by_cases z : μ c2 (a + 50) = -1
      · rw [if_pos z]
        exact last _ (by unfold tbM; rw [if_pos z])
      · rw [if_neg z, tmpG_s, gdi (by omega), blk_row (show 0 ≠ 1 by omega)]
        exact last _ (by unfold tbM; rw [if_neg z])
    | succ d ih =>
      intro k mm hk hmm
      obtain ⟨mm, rfl⟩ : ∃ q, mm = q + 1 := ⟨mm - 1, by omega⟩
      rw [f_X11_giveBack_b3, if_neg (by rw [l55, nI_le' (by omega) (by omega)]; omega), k2, tmpG_s, nI_add, nI_cl (by omega), gdi (by omega), l55, nI_mul, nI_add, nI_cl (by omega), gdi (by omega), put_kV, blk_row (show c2 ≠ 1 by omega), nmE, nI_1, nmE, set5, put_kV, put_put, show mu (blkM μ 1 (55 * g) (fun k => μ c2 (a + k)) k) 1 (55 * g + k) (μ c2 (a + k)) = blkM μ 1 (55 * g) (fun k => μ c2 (a + k)) (k + 1) from blk_s (f := fun k => μ c2 (a + k))]
      exact ih (k + 1) mm (by omega) (by omega)
  have := l1 55 0 FU (by omega) (by unfold FU; omega)
  rw [nI_0, blk_0, show putM κ μ = κ from put_self] at this
  exact this
