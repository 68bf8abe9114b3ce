theorem l10 : (10 : Int32) = nI 10 := rfl
theorem l11 : (11 : Int32) = nI 11 := rfl
theorem l12 : (12 : Int32) = nI 12 := rfl
def clrU (μ : MU) (g page : Nat) : Nat → MU
  | 0 => μ
  | k + 1 => mu (clrU μ g page k) 1 (55 * g + 17 + 4 * page + k) 0
def giveM (μ : MU) (g page : Nat) : MU :=
  let μ1 := mu (clrU μ g page 4) 27 (8 * g + page) 0
  let μ2 := mu μ1 28 (8 * g + page) (-1)
  mu μ2 31 g (μ2 31 g ||| (if μ2 30 g = 0 then (0 : Int32) else (1 : Int32) <<< (nI page &&& 31)))
theorem m_give {E : EE} {κ : K} {g page : Nat} {nx : Int32} (hg : g < 5) (hp : page < 8) : f_X11_doOther_b153 E FU κ (nI g) (nI page) nx (nI (55 * g)) 0 = some (putM κ (giveM (kV κ 5 0) g page), nx) := by
  have loop : ∀ (d i m : Nat), i + d = 4 → d < m → f_X11_doOther_b153 E m (putM κ (clrU (kV κ 5 0) g page i)) (nI g) (nI page) nx (nI (55 * g)) (nI i) = some (putM κ (giveM (kV κ 5 0) g page), nx) := by
    intro d
    induction d with
    | zero =>
      intro i m hi hm
      obtain ⟨m, rfl⟩ : ∃ q, m = q + 1 := ⟨m - 1, by omega⟩
      rw [f_X11_doOther_b153, l4, if_pos (nI_le (by omega) (by omega)), show i = 4 by omega]
      unfold f_X11_doOther_b183 f_X11_doOther_b230 giveM
      simp (disch := omega) only [nmE, l2, l3, l4, l5, l6, l7, l8, l9, l13, l16, l17, l31, l49, l50, l51, l52, l53, l54, l55, l72, l512, l3000, nI_mul, nI_add, nI_1, nI_cl, gdi, set5, put_kV, put_put, bd_s]
      by_cases h : mu (mu (clrU (kV κ 5 0) g page 4) 27 (8 * g + page) 0) 28 (8 * g + page) (-1) 30 g = 0
      · rw [if_pos h, if_pos h]
      · rw [if_neg h, if_neg h]
    | succ d ih =>
      intro i m hi hm
      obtain ⟨m, rfl⟩ : ∃ q, m = q + 1 := ⟨m - 1, by omega⟩
      have hr := ih (i + 1) m (by omega) (by omega)
      rw [show clrU (kV κ 5 0) g page (i + 1) = mu (clrU (kV κ 5 0) g page i) 1 (55 * g + 17 + 4 * page + i) 0 from rfl] at hr
      rw [f_X11_doOther_b153, l4, if_neg (by rw [nI_leI (by omega) (by omega)]; omega)]
      simp (disch := omega) only [nmE, l2, l3, l4, l5, l6, l7, l8, l9, l13, l16, l17, l31, l49, l50, l51, l52, l53, l54, l55, l72, l512, l3000, nI_mul, nI_add, nI_1, nI_cl, gdi, set5, put_kV, put_put, bd_s]
      exact hr
  have := loop 4 0 FU (by omega) (by unfold FU; omega)
  rw [show clrU (kV κ 5 0) g page 0 = kV κ 5 0 from rfl, put_self] at this
  exact this
def othM (μ : MU) (g w b : Nat) (nx : Int32) : MU × Int32 :=
  if w = 8 then
    let μ1 := mu μ 25 (6 * g + 4) (μ 25 (6 * g + 4) + 1)
    (mu μ1 1 (55 * g + 49) (if μ1 1 (55 * g + 51) = 1 then 0 else if μ1 1 (55 * g + 52) = 1 then 0 else 1), nx)
  else if w = 9 then (mu μ 1 (55 * g + 5) (nI b), nx)
  else if w = 10 then (mu μ 1 (55 * g + 8) (nI b), nx)
  else if w = 11 then
    let μ1 := mu μ 1 (55 * g + 8) 0
    (μ1, μ1 1 (55 * g + 6))
  else if w = 12 then (giveM μ g b, nx)
  else
    let μ1 := mu μ 25 (6 * g + 4) (μ 25 (6 * g + 4) + 1)
    (mu μ1 1 (55 * g + 49) 2, nx)
theorem m_doOther {E : EE} {κ : K} {g w : Nat} {b nx : Int32} (hg : g < 5) (hw : w < 14) (hb : w = 12 → ∃ r, r < 8 ∧ b = nI r) (hb2 : w = 9 ∨ w = 10 → ∃ r, r < 24 ∧ b = nI r) : f_X11_doOther E κ (nI g) (nI w) b nx = some (putM κ (othM (kV κ 5 0) g w b.toNatClampNeg nx).1, (othM (kV κ 5 0) g w b.toNatClampNeg nx).2) := by
  unfold f_X11_doOther f_X11_doOther_b92 f_X11_doOther_b97 othM
  simp (disch := omega) only [nmE, l2, l3, l4, l5, l6, l7, l8, l9, l13, l16, l17, l31, l49, l50, l51, l52, l53, l54, l55, l72, l512, l3000, nI_mul, nI_add, nI_1, l10, l11, l12, nI_eq', nI_cl, gdi, set5, put_kV, put_put, bd_s]
  by_cases h8 : w = 8
  · rw [if_pos h8, if_pos h8]
    dsimp only
    by_cases h1 : mu (kV κ 5 0) 25 (6 * g + 4) (kV κ 5 0 25 (6 * g + 4) + 1) 1 (55 * g + 51) = 1
    · rw [if_pos h1, if_pos h1]
    · by_cases h2 : mu (kV κ 5 0) 25 (6 * g + 4) (kV κ 5 0 25 (6 * g + 4) + 1) 1 (55 * g + 52) = 1
      · rw [if_neg h1, if_neg h1, if_pos h2, if_pos h2]
      · rw [if_neg h1, if_neg h1, if_neg h2, if_neg h2]
  · rw [if_neg h8, if_neg h8]
    by_cases h9 : w = 9
    · obtain ⟨r, hr, rfl⟩ := hb2 (Or.inl h9)
      rw [if_pos h9, if_pos h9, nI_cl (by omega)]
    · rw [if_neg h9, if_neg h9]
      by_cases h10 : w = 10
      · obtain ⟨r, hr, rfl⟩ := hb2 (Or.inr h10)
        rw [if_pos h10, if_pos h10, nI_cl (by omega)]
      · rw [if_neg h10, if_neg h10]
        by_cases h11 : w = 11
        · rw [if_pos h11, if_pos h11]
        · rw [if_neg h11, if_neg h11]
          by_cases h12 : w = 12
          · obtain ⟨r, hr, rfl⟩ := hb h12
            rw [if_pos h12, if_pos h12, nI_cl (by omega), m_give hg hr]
          · rw [if_neg h12, if_neg h12]
/-- what a row's numbers may be -/
def lim (k : Nat) : Nat := if k < 4 then 10000 else if k = 4 then 25 else if k = 5 then 24 else if k = 6 then 25 else if k = 7 then 4 else if k = 8 then 2 else if k < 17 then 8 else if k < 49 then 10000 else if k = 49 then 4 else if k = 50 then 20000 else if k < 53 then 2 else if k = 53 then 10000 else 513
def rng (k : Nat) (v : Int32) : Prop := (v = -1 ∧ (k = 5 ∨ (9 ≤ k ∧ k < 17) ∨ k = 50)) ∨ ∃ r, v = nI r ∧ r < lim k
def ROK (μ : MU) (g : Nat) : Prop := ∀ k, k < 55 → rng k (μ 1 (55 * g + k))
theorem ROK.reg {μ : MU} {g k : Nat} (h : ROK μ g) (hk : k < 4) : ∃ r, μ 1 (55 * g + k) = nI r ∧ r < 10000 := by
  rcases h k (by omega) with ⟨_, z⟩ | ⟨r, h1, h2⟩
  · omega
  · unfold lim at h2
    rw [if_pos hk] at h2
    exact ⟨r, h1, h2⟩
theorem ROK.view {μ : MU} {g k : Nat} (h : ROK μ g) (hk : k < 8) : μ 1 (55 * g + 9 + k) = -1 ∨ ∃ r, μ 1 (55 * g + 9 + k) = nI r ∧ r < 8 := by
  have h1 := h (9 + k) (by omega)
  rw [← Nat.add_assoc] at h1
  rcases h1 with ⟨z, _⟩ | ⟨r, h1, h2⟩
  · exact Or.inl z
  · unfold lim at h2
    rw [if_neg (by omega), if_neg (by omega), if_neg (by omega), if_neg (by omega), if_neg (by omega), if_neg (by omega), if_pos (by omega)] at h2
    exact Or.inr ⟨r, h1, h2⟩
theorem ROK.many {μ : MU} {g : Nat} (h : ROK μ g) : ∃ r, μ 1 (55 * g + 54) = nI r ∧ r ≤ 512 := by
  rcases h 54 (by omega) with ⟨_, z⟩ | ⟨r, h1, h2⟩
  · omega
  · exact ⟨r, h1, Nat.le_of_lt_succ h2⟩
theorem ROK.nx {μ : MU} {g : Nat} (h : ROK μ g) : ∃ r, μ 1 (55 * g + 4) = nI r ∧ r < 25 := by
  rcases h 4 (by omega) with ⟨_, z⟩ | ⟨r, h1, h2⟩
  · omega
  · exact ⟨r, h1, h2⟩
/-- an instruction that may stand in a program -/
def VI (w : Nat) (a b : Int32) : Prop := w < 14 ∧ (w < 5 ∨ w = 6 ∨ w = 7 → ∃ r, r < 4 ∧ a = nI r) ∧ (w = 5 → (∃ r, r < 8 ∧ a = nI r) ∧ ∃ r, r < 9 ∧ b = nI r) ∧ (w = 1 ∨ w = 2 ∨ w = 3 → ∃ r, r < 4 ∧ b = nI r) ∧ (w = 12 → ∃ r, r < 8 ∧ b = nI r) ∧ (w = 0 → ∃ r, r < 10000 ∧ b = nI r) ∧ (w = 4 ∨ w = 9 → ∃ r, r < 24 ∧ b = nI r) ∧ (w = 6 ∨ w = 10 → ∃ r, r < 2 ∧ b = nI r) ∧ (w = 7 → ∃ r, r < 3 ∧ b = nI r)
def lsM (μ : MU) (n g w a b h : Nat) : MU :=
  let q := (μ 1 (55 * g + b)).toNatClampNeg
  if 31 < q then faultM μ g
  else if μ 1 (55 * g + 9 + q / 4) = -1 then faultM μ g
  else
    let v := (μ 1 (55 * g + 9 + q / 4)).toNatClampNeg
    let μ1 := touchM μ n g v (if w = 3 then 1 else 0) h
    if w = 2 then mu (mu μ1 1 (55 * g + a) (μ1 1 (55 * g + 17 + 4 * v + q % 4))) 1 (55 * g + 4) (μ 1 (55 * g + 4) + 1)
    else mu (mu μ1 1 (55 * g + 17 + 4 * v + q % 4) (μ1 1 (55 * g + a))) 1 (55 * g + 4) (μ 1 (55 * g + 4) + 1)
def doM (μ : MU) (n g w a b h : Nat) : MU :=
  let nx := μ 1 (55 * g + 4) + 1
  if w = 0 then mu (mu μ 1 (55 * g + a) (nI b)) 1 (55 * g + 4) nx
  else if w = 1 then mu (mu μ 1 (55 * g + a) ((μ 1 (55 * g + a) + μ 1 (55 * g + b)) - (μ 1 (55 * g + a) + μ 1 (55 * g + b)) / 10000 * 10000)) 1 (55 * g + 4) nx
  else if w = 2 then lsM μ n g 2 a b h
  else if w = 3 then lsM μ n g 3 a b h
  else if w = 4 then mu μ 1 (55 * g + 4) (if μ 1 (55 * g + a) = 0 then nx else nI b)
  else if w = 5 then mu (mu μ 1 (55 * g + 9 + a) (if b = 8 then -1 else nI b)) 1 (55 * g + 4) nx
  else if w = 6 then
    let μ1 := mu μ 25 (6 * g + 3) (μ 25 (6 * g + 3) + 1)
    if b = 0 then mu (sayM μ1 g (μ1 1 (55 * g + a))) 1 (55 * g + 4) nx
    else mu (mu μ1 1 (55 * g + 50) (if μ1 1 (55 * g + a) = 0 then -1 else μ1 0 41 + 1 + μ1 1 (55 * g + a))) 1 (55 * g + 4) nx
  else if w = 7 then
    let μ1 := mu μ 25 (6 * g + 3) (μ 25 (6 * g + 3) + 1)
    let r := if b = 0 then takM μ1 g else if b = 1 then (μ1, clockM μ1 g) else (μ1, μ1 1 (55 * g + 7))
    mu (mu r.1 1 (55 * g + a) r.2) 1 (55 * g + 4) nx
  else
    let r := othM μ g w b nx
    mu r.1 1 (55 * g + 4) r.2
theorem nI_e0 {n : Nat} (h : n < 2147483648) : (nI n = 0) = (n = 0) := by rw [show (0 : Int32) = nI 0 from rfl, nI_eq' h (by omega)]
theorem nI_e1 {n : Nat} (h : n < 2147483648) : (nI n = 1) = (n = 1) := by rw [show (1 : Int32) = nI 1 from rfl, nI_eq' h (by omega)]
theorem fst_mk {α β : Type} {a : α} {b : β} : (a, b).1 = a := rfl
theorem snd_mk {α β : Type} {a : α} {b : β} : (a, b).2 = b := rfl
theorem m_fin {E : EE} {κ : K} {g : Nat} {x : Int32} (hg : g < 5) : f_X11_doOne_b466 E κ (nI (55 * g)) x = some (putM κ (mu (kV κ 5 0) 1 (55 * g + 4) x), ()) := by
  unfold f_X11_doOne_b466
  simp (disch := omega) only [nmE, l2, l3, l4, l5, l6, l7, l8, l9, l13, l16, l17, l31, l49, l50, l51, l52, l53, l54, l55, l72, l512, l3000, nI_mul, nI_add, nI_1, nI_cl, gdi, set5, put_kV, put_put, bd_s]
/-- what an instruction needs beside its row -/
def KOK (μ : MU) (g : Nat) : Prop := (∀ page, page < 8 → μ 27 (8 * g + page) = 1 → ∃ j, j < 16 ∧ μ 28 (8 * g + page) = nI j) ∧ (∃ a, a < 3000 ∧ μ 35 g = nI a) ∧ ∃ b, b < 3000 ∧ μ 37 g = nI b
theorem m_ls {E : EE} {κ : K} {n g w a b h : Nat} (hn : n ≤ 5) (hG : kV κ 5 0 0 26 = nI n) (hg : g < 5) (hh : h < 2) (hH : kV κ 5 0 15 g = nI h) (hR : ROK (kV κ 5 0) g) (hK : KOK (kV κ 5 0) g) (ha : a < 4) (hb : b < 4) (hw : w = 2 ∨ w = 3) : (gd (¬ ((nI (55 * g + b)) < 0 ∨ 275 ≤ (nI (55 * g + b)).toNatClampNeg)) (nm ((kV κ 5 0 1) (nI (55 * g + b)).toNatClampNeg) fun y16 => if 31 < y16 then f_X11_doOne_b156 E κ (nI g) else gd (¬ (((nI (55 * g) + 9) + (y16 / 4)) < 0 ∨ 275 ≤ ((nI (55 * g) + 9) + (y16 / 4)).toNatClampNeg)) (if (kV κ 5 0 1) ((nI (55 * g) + 9) + (y16 / 4)).toNatClampNeg = (-1) then f_X11_doOne_b156 E κ (nI g) else gd (¬ (((nI (55 * g) + 9) + (y16 / 4)) < 0 ∨ 275 ≤ ((nI (55 * g) + 9) + (y16 / 4)).toNatClampNeg)) (nm ((kV κ 5 0 1) ((nI (55 * g) + 9) + (y16 / 4)).toNatClampNeg) fun y24 => if nI w = 3 then f_X11_doOne_b193 E κ (nI w) (nI a) (nI (55 * g)) (kV κ 5 0 1 (55 * g + 4) + 1) y16 y24 1 y24 (nI g) else f_X11_doOne_b193 E κ (nI w) (nI a) (nI (55 * g)) (kV κ 5 0 1 (55 * g + 4) + 1) y16 y24 0 y24 (nI g))))) = some (putM κ (lsM (kV κ 5 0) n g w a b h), ()) := by
  obtain ⟨q, hq, hq2⟩ := hR.reg hb
  rw [gd_t (iN (by omega) (by omega)), nI_cl (by omega), nmE, hq]
  unfold f_X11_doOne_b156 lsM
  dsimp only
  rw [hq, nI_cl (by omega), l31, l4, l9, nI_add]
  simp only [nI_lt' (show 31 < 2147483648 by omega) (show q < 2147483648 by omega)]
  by_cases h31 : 31 < q
  · rw [if_pos h31, if_pos h31, m_fault hg, bd_s]
  · rw [if_neg h31, if_neg h31, nI_div (by omega) (by omega), nI_add, gd_t (iN (by omega) (by omega)), nI_cl (by omega)]
    by_cases hv : kV κ 5 0 1 (55 * g + 9 + q / 4) = -1
    · rw [if_pos hv, if_pos hv, m_fault hg, bd_s]
    · rw [if_neg hv, if_neg hv]
      obtain ⟨v, hv1, hv2⟩ := (hR.view (k := q / 4) (by omega)).resolve_left hv
      simp (disch := omega) only [gdi, nmE]
      rw [hv1, nI_cl (by omega)]
      unfold f_X11_doOne_b193
      have hkk := hK.1 v hv2
      simp only [nmE]
      rw [l4, nI_mod (by omega) (by omega), l17, l3, l2]
      simp (disch := omega) only [nI_mul, nI_add, nI_eq', nI_cl]
      rcases hw with rfl | rfl
      · simp only [Nat.reduceEqDiff, reduceIte]
        rw [m_touch hn hG hg hv2 hh hH hkk, bd_s]
        simp (disch := omega) only [gdi, set5, put_kV, put_put]
        rw [m_fin hg, put_kV, put_put]
      · rw [if_pos rfl, if_pos rfl, m_touch hn hG hg hv2 hh hH hkk, bd_s, if_neg (by omega), if_neg (by omega)]
        simp (disch := omega) only [gdi, set5, put_kV, put_put]
        rw [m_fin hg, put_kV, put_put]
theorem KOK_mu {μ : MU} {g c k : Nat} {x : Int32} (h : KOK μ g) (hc : c ≠ 27 ∧ c ≠ 28 ∧ c ≠ 35 ∧ c ≠ 37) : KOK (mu μ c k x) g := by
  obtain ⟨h1, ⟨a, h2, h3⟩, b, h4, h5⟩ := h
  refine ⟨fun page hp hk => ?_, ⟨a, h2, by rw [muD (by omega)]; exact h3⟩, b, h4, by rw [muD (by omega)]; exact h5⟩
  rw [muD (by omega)] at hk
  obtain ⟨j, q1, q2⟩ := h1 page hp hk
  exact ⟨j, q1, by rw [muD (by omega)]; exact q2⟩
set_option maxHeartbeats 4000000 in
theorem m_doOne {E : EE} {κ : K} {n g w h : Nat} {a b : Int32} (hn : n ≤ 5) (hG : kV κ 5 0 0 26 = nI n) (hg : g < 5) (hh : h < 2) (hH : kV κ 5 0 15 g = nI h) (hR : ROK (kV κ 5 0) g) (hK : KOK (kV κ 5 0) g) (hV : VI w a b) : f_X11_doOne E κ (nI g) (nI w) a b = some (putM κ (doM (kV κ 5 0) n g w a.toNatClampNeg b.toNatClampNeg h), ()) := by
  obtain ⟨v0, v1, v2, v3, v4, v5, v6, v7, v8⟩ := hV
  unfold f_X11_doOne
  rw [nmE, l55, nI_mul, l4, nI_add, gd_t (iN (by omega) (by omega)), nI_cl (by omega), nmE, ← l4]
  unfold doM
  dsimp only
  by_cases h0 : w = 0
  · subst h0
    obtain ⟨a, ha, rfl⟩ := v1 (by omega)
    obtain ⟨b, hb, rfl⟩ := v5 rfl
    rw [nI_cl (show a < 2147483648 by omega), nI_cl (show b < 2147483648 by omega)]
    rw [if_pos rfl, if_pos i0, nI_add, gd_t (iN (by omega) (by omega)), nI_cl (by omega), nmE, m_fin hg, set5, put_kV, put_put]
  rw [if_neg h0, if_neg (by rw [nI_e0 (by omega)]; exact h0)]
  by_cases h1 : w = 1
  · subst h1
    obtain ⟨a, ha, rfl⟩ := v1 (by omega)
    obtain ⟨b, hb, rfl⟩ := v3 (by omega)
    rw [nI_cl (show a < 2147483648 by omega), nI_cl (show b < 2147483648 by omega)]
    rw [if_pos rfl, if_pos (by decide), nI_add, nI_add, gd_t (iN (by omega) (by omega)), gd_t (iN (by omega) (by omega)), gd_t (iN (by omega) (by omega)), nI_cl (by omega), nI_cl (by omega), nmE, m_fin hg, set5, put_kV, put_put]
  rw [if_neg h1, if_neg (by rw [nI_e1 (by omega)]; exact h1)]
  by_cases h2 : w = 2
  · subst h2
    obtain ⟨a, ha, rfl⟩ := v1 (by omega)
    obtain ⟨b, hb, rfl⟩ := v3 (by omega)
    rw [nI_cl (show a < 2147483648 by omega), nI_cl (show b < 2147483648 by omega)]
    rw [if_pos rfl, if_pos (by decide), nI_add]
    exact m_ls hn hG hg hh hH hR hK ha hb (Or.inl rfl)
  rw [if_neg h2, if_neg (by rw [l2, nI_eq' (by omega) (by omega)]; exact h2)]
  by_cases h3 : w = 3
  · subst h3
    obtain ⟨a, ha, rfl⟩ := v1 (by omega)
    obtain ⟨b, hb, rfl⟩ := v3 (by omega)
    rw [nI_cl (show a < 2147483648 by omega), nI_cl (show b < 2147483648 by omega)]
    rw [if_pos rfl, if_pos (by decide), nI_add]
    exact m_ls hn hG hg hh hH hR hK ha hb (Or.inr rfl)
  rw [if_neg h3, if_neg (by rw [l3, nI_eq' (by omega) (by omega)]; exact h3)]
  by_cases h4 : w = 4
  · subst h4
    obtain ⟨a, ha, rfl⟩ := v1 (by omega)
    obtain ⟨b, hb, rfl⟩ := v6 (by omega)
    rw [nI_cl (show a < 2147483648 by omega), nI_cl (show b < 2147483648 by omega)]
    rw [if_pos rfl, if_pos (by decide), nI_add, gd_t (iN (by omega) (by omega)), nI_cl (by omega)]
    unfold f_X11_doOne_b275
    by_cases hz : kV κ 5 0 1 (55 * g + a) = 0
    · rw [if_pos hz, if_pos hz, m_fin hg]
    · rw [if_neg hz, if_neg hz, m_fin hg]
  rw [if_neg h4, if_neg (by rw [l4, nI_eq' (by omega) (by omega)]; exact h4)]
  by_cases h5 : w = 5
  · subst h5
    obtain ⟨⟨a, ha, rfl⟩, b, hb, rfl⟩ := v2 rfl
    rw [nI_cl (show a < 2147483648 by omega), nI_cl (show b < 2147483648 by omega)]
    rw [if_pos rfl, if_pos (by decide), l9, nI_add, nI_add]
    unfold f_X11_doOne_b304
    simp (disch := omega) only [l8, nI_eq']
    by_cases hz : b = 8
    · rw [if_pos hz, if_pos hz, gd_t (iN (by omega) (by omega)), nI_cl (by omega), nmE, m_fin hg, set5, put_kV, put_put]
    · rw [if_neg hz, if_neg hz, gd_t (iN (by omega) (by omega)), nI_cl (by omega), nmE, m_fin hg, set5, put_kV, put_put]
  rw [if_neg h5, if_neg (by rw [l5, nI_eq' (by omega) (by omega)]; exact h5)]
  by_cases h6 : w = 6
  · subst h6
    obtain ⟨a, ha, rfl⟩ := v1 (by omega)
    obtain ⟨b, hb, rfl⟩ := v7 (by omega)
    rw [nI_cl (show a < 2147483648 by omega), nI_cl (show b < 2147483648 by omega)]
    rw [if_pos rfl, if_pos (by decide)]
    simp (disch := omega) only [nmE, l2, l3, l4, l5, l6, l7, l8, l9, l13, l16, l17, l31, l49, l50, l51, l52, l53, l54, l55, l72, l512, l3000, nI_mul, nI_add, nI_1, nI_cl, gdi, set5, put_kV, put_put, bd_s]
    simp (disch := omega) only [nI_e0]
    have hK2 := KOK_mu hK (c := 25) (k := 6 * g + 3) (x := kV κ 5 0 25 (6 * g + 3) + 1) (by omega)
    obtain ⟨-, ⟨sa, k1, k2⟩, sb, k3, k4⟩ := hK2
    by_cases hz : b = 0
    · rw [if_pos hz, if_pos hz, m_say hg (a := sa) (b := sb) (by rw [put_kV]; exact k2) k1 (by rw [put_kV]; exact k4) k3, bd_s, m_fin hg, put_kV, put_kV, put_put, put_put]
    · rw [if_neg hz, if_neg hz]
      unfold f_X11_doOne_b386
      by_cases hy : mu (kV κ 5 0) 25 (6 * g + 3) (kV κ 5 0 25 (6 * g + 3) + 1) 1 (55 * g + a) = 0
      · rw [if_pos hy, if_pos hy, gd_t (iN (by omega) (by omega)), nI_cl (by omega), nmE, m_fin hg, set5, put_kV, put_kV, put_put, put_put]
      · rw [if_neg hy, if_neg hy, gd_t (iN (by omega) (by omega)), nI_cl (by omega), nmE, m_fin hg, set5, put_kV, put_kV, put_put, put_put]
  rw [if_neg h6, if_neg (by rw [l6, nI_eq' (by omega) (by omega)]; exact h6)]
  by_cases h7 : w = 7
  · subst h7
    obtain ⟨a, ha, rfl⟩ := v1 (by omega)
    obtain ⟨b, hb, rfl⟩ := v8 (by omega)
    rw [nI_cl (show a < 2147483648 by omega), nI_cl (show b < 2147483648 by omega)]
    rw [if_pos rfl, if_pos (by decide)]
    simp (disch := omega) only [nmE, l2, l3, l4, l5, l6, l7, l8, l9, l13, l16, l17, l31, l49, l50, l51, l52, l53, l54, l55, l72, l512, l3000, nI_mul, nI_add, nI_1, nI_cl, gdi, set5, put_kV, put_put, bd_s]
    simp (disch := omega) only [nI_e0, nI_e1]
    unfold f_X11_doOne_b450
    by_cases hz : b = 0
    · obtain ⟨mm, hm1, hm2⟩ := hR.many
      rw [if_pos hz, if_pos hz, m_takeInput hg (m0 := mm) (by rw [put_kV, muD (by omega)]; exact hm1) hm2, bd_s, gd_t (iN (by omega) (by omega)), nI_cl (by omega), nmE, m_fin hg, set5]
      simp only [put_kV, put_put]
    · rw [if_neg hz, if_neg hz]
      by_cases hy : b = 1
      · rw [if_pos hy, if_pos hy, m_clock hg, bd_s, gd_t (iN (by omega) (by omega)), nI_cl (by omega), nmE, m_fin hg, set5]
        simp only [put_kV, put_put]
      · rw [if_neg hy, if_neg hy, gd_t (iN (by omega) (by omega)), nI_cl (by omega), nmE, m_fin hg, set5]
        simp only [put_kV, put_put]
  rw [if_neg h7, if_neg (by rw [l7, nI_eq' (by omega) (by omega)]; exact h7), m_doOther hg v0 v4 (fun z => z.elim (fun z => v6 (Or.inr z)) (fun z => (v7 (Or.inr z)).imp fun r hr => ⟨by omega, hr.2⟩)), bd_s, m_fin hg, put_kV, put_put]
