theorem l2 : (2 : Int32) = nI 2 := rfl
theorem l3 : (3 : Int32) = nI 3 := rfl
theorem l4 : (4 : Int32) = nI 4 := rfl
theorem l5 : (5 : Int32) = nI 5 := rfl
theorem l6 : (6 : Int32) = nI 6 := rfl
theorem l7 : (7 : Int32) = nI 7 := rfl
theorem l8 : (8 : Int32) = nI 8 := rfl
theorem l9 : (9 : Int32) = nI 9 := rfl
theorem l13 : (13 : Int32) = nI 13 := rfl
theorem l16 : (16 : Int32) = nI 16 := rfl
theorem l17 : (17 : Int32) = nI 17 := rfl
theorem l31 : (31 : Int32) = nI 31 := rfl
theorem l49 : (49 : Int32) = nI 49 := rfl
theorem l50 : (50 : Int32) = nI 50 := rfl
theorem l51 : (51 : Int32) = nI 51 := rfl
theorem l52 : (52 : Int32) = nI 52 := rfl
theorem l53 : (53 : Int32) = nI 53 := rfl
theorem l54 : (54 : Int32) = nI 54 := rfl
theorem l55 : (55 : Int32) = nI 55 := rfl
theorem l72 : (72 : Int32) = nI 72 := rfl
theorem l512 : (512 : Int32) = nI 512 := rfl
theorem l3000 : (3000 : Int32) = nI 3000 := rfl
theorem gdi {α : Type} {j N : Nat} {a : Option α} {inst : Decidable (¬ (nI j < 0 ∨ N ≤ j))} (h : j < N ∧ N < 2147483648) : @gd α (¬ (nI j < 0 ∨ N ≤ j)) inst a = a := if_pos (fun z => z.elim (fun y => nI_pos (by omega) y) (by omega))
theorem i0 : (nI 0 : Int32) = 0 := nI_0
theorem ltz {n : Nat} (h : n < 2147483648) : (nI n < 0) = False := eq_false (nI_pos h)
/-- frames that are free, and the oldest -/
def freeU (μ : MU) (n : Nat) (h : Int32) (f : Nat) : Bool := decide (pageM μ n h (nI f) = -1)
def oldU (μ : MU) (h : Nat) (but : Int32) : Nat → Int32
  | 0 => -1
  | i + 1 => if nI i = but then oldU μ h but i else if oldU μ h but i = -1 then nI i else if μ 29 (16 * h + (oldU μ h but i).toNatClampNeg) ≤ μ 29 (16 * h + i) then oldU μ h but i else nI i
def swapU (μ : MU) (h f : Int32) : Nat → MU
  | 0 => μ
  | p + 1 => if onF (swapU μ h f p) h f p = true then mu (mu (swapU μ h f p) 28 p (-1)) 27 p 2 else swapU μ h f p
def frM (μ : MU) (n h : Nat) (but : Int32) : MU × Int32 := match fstU (freeU μ n (nI h)) 16 with
  | some f => (μ, nI f)
  | none => (swapU μ (nI h) (oldU μ h but 16) (8 * n), oldU μ h but 16)
theorem oldU_cases (μ : MU) (h : Nat) (but : Int32) : ∀ i, oldU μ h but i = -1 ∨ ∃ j, j < i ∧ oldU μ h but i = nI j
  | 0 => Or.inl rfl
  | i + 1 => by
    have ih := oldU_cases μ h but i
    have ih2 : oldU μ h but i = -1 ∨ ∃ j, j < i + 1 ∧ oldU μ h but i = nI j := ih.imp id (fun ⟨j, h1, h2⟩ => ⟨j, by omega, h2⟩)
    unfold oldU
    split
    · exact ih2
    · split
      · exact Or.inr ⟨i, by omega, rfl⟩
      · split
        · exact ih2
        · exact Or.inr ⟨i, by omega, rfl⟩
theorem swapU_15 (μ : MU) (h f : Int32) : ∀ p, (swapU μ h f p) 15 = μ 15
  | 0 => rfl
  | p + 1 => by
    unfold swapU
    split
    · funext k
      rw [muD (by omega), muD (by omega), swapU_15 μ h f p]
    · exact swapU_15 μ h f p
theorem swapU_0 (μ : MU) (h f : Int32) : ∀ p, (swapU μ h f p) 0 = μ 0
  | 0 => rfl
  | p + 1 => by
    unfold swapU
    split
    · funext k
      rw [muD (by omega), muD (by omega), swapU_0 μ h f p]
    · exact swapU_0 μ h f p
theorem m_swap {E : EE} {n : Nat} {h : Nat} {f : Int32} (hn : n ≤ 5) {κ : K} {μ : MU} (hG : μ 0 26 = nI n) : f_X11_freeFrame_b88 E (putM κ μ) (nI h) f = some (putM κ (swapU μ (nI h) f (8 * n)), f) := by
  have loop : ∀ (d i m : Nat), i + d = 8 * n → d < m → f_X11_freeFrame_b91 E m (putM κ (swapU μ (nI h) f i)) (nI h) f (nI i) = some (putM κ (swapU μ (nI h) f (8 * n)), f) := by
    intro d
    induction d with
    | zero =>
      intro i m hi hm
      obtain ⟨m, rfl⟩ : ∃ q, m = q + 1 := ⟨m - 1, by omega⟩
      rw [f_X11_freeFrame_b91, put_kV, swapU_0, hG, l8, nI_mul, if_pos (nI_le (by omega) (by omega))]
      rw [show i = 8 * n by omega]
    | succ d ih =>
      intro i m hi hm
      obtain ⟨m, rfl⟩ : ∃ q, m = q + 1 := ⟨m - 1, by omega⟩
      have hr := ih (i + 1) m (by omega) (by omega)
      rw [swapU] at hr
      rw [f_X11_freeFrame_b91, put_kV, swapU_0, hG, l8, nI_mul, if_neg (by rw [nI_leI (by omega) (by omega)]; omega), nI_div (by omega) (by omega), gd_t (i5 (by omega)), nI_cl (by omega)]
      unfold f_X11_freeFrame_b144
      simp only [nmE, nI_1]
      by_cases h1 : (swapU μ (nI h) f i) 15 (i / 8) = nI h
      · rw [if_pos h1, gd_t (iN (by omega) (by omega)), nI_cl (by omega)]
        by_cases h2 : (swapU μ (nI h) f i) 28 i = f
        · have e : onF (swapU μ (nI h) f i) (nI h) f i = true := by simp [onF, h1, h2]
          rw [if_pos e] at hr
          rw [if_pos h2]
          simp (disch := omega) only [gdi, set5, put_kV, put_put]
          exact hr
        · have e : ¬ onF (swapU μ (nI h) f i) (nI h) f i = true := by simp [onF, h2]
          rw [if_neg e] at hr
          rw [if_neg h2]
          exact hr
      · have e : ¬ onF (swapU μ (nI h) f i) (nI h) f i = true := by simp [onF, h1]
        rw [if_neg e] at hr
        rw [if_neg h1]
        exact hr
  exact loop (8 * n) 0 FU (by omega) (by unfold FU; omega)
theorem m_freeFrame {E : EE} {n : Nat} {h : Nat} {but : Int32} (hn : n ≤ 5) (hh : h < 2) {κ : K} (hG : kV κ 5 0 0 26 = nI n) : f_X11_freeFrame E κ (nI h) but = some (putM κ (frM (kV κ 5 0) n h but).1, (frM (kV κ 5 0) n h but).2) := by
  have loop : ∀ (d i m : Nat), i + d = 16 → d < m → fstU (freeU (kV κ 5 0) n (nI h)) i = none → f_X11_freeFrame_b5 E m κ (nI h) but (oldU (kV κ 5 0) h but i) (nI i) = some (putM κ (frM (kV κ 5 0) n h but).1, (frM (kV κ 5 0) n h but).2) := by
    intro d
    induction d with
    | zero =>
      intro i m hi hm hnone
      obtain ⟨m, rfl⟩ : ∃ q, m = q + 1 := ⟨m - 1, by omega⟩
      have hi16 : i = 16 := by omega
      subst hi16
      rw [f_X11_freeFrame_b5, if_pos (by decide)]
      have := m_swap (E := E) (h := h) (f := oldU (kV κ 5 0) h but 16) hn (κ := κ) (μ := kV κ 5 0) hG
      rw [put_self] at this
      rw [this]
      unfold frM
      rw [hnone]
    | succ d ih =>
      intro i m hi hm hnone
      obtain ⟨m, rfl⟩ : ∃ q, m = q + 1 := ⟨m - 1, by omega⟩
      rw [f_X11_freeFrame_b5, l16, if_neg (by rw [nI_leI (by omega) (by omega)]; omega), m_pageIn hG hn, bd_s]
      by_cases hf : pageM (kV κ 5 0) n (nI h) (nI i) = -1
      · rw [if_pos hf]
        have e : fstU (freeU (kV κ 5 0) n (nI h)) 16 = some i := fstU_eq (by omega) (by simp [freeU, hf]) (fun j hj => fstU_none hnone j hj)
        unfold frM
        rw [e, put_self]
      · rw [if_neg hf]
        have hn2 : fstU (freeU (kV κ 5 0) n (nI h)) (i + 1) = none := by
          unfold fstU
          rw [hnone]
          dsimp only
          rw [if_neg]
          simp [freeU, hf]
        have hr := ih (i + 1) m (by omega) (by omega) hn2
        unfold oldU at hr
        unfold f_X11_freeFrame_b57 f_X11_freeFrame_b62 f_X11_freeFrame_b80 f_X11_freeFrame_b81
        simp only [nmE, nI_1]
        by_cases ho : oldU (kV κ 5 0) h but i = -1
        · rw [if_pos ho] at hr
          rw [if_pos ho]
          by_cases hb : nI i = but
          · rw [if_pos hb] at hr
            rw [if_pos hb]
            exact hr
          · rw [if_neg hb] at hr
            rw [if_neg hb, if_neg (by decide)]
            exact hr
        · obtain ⟨j, hj, hoj⟩ := (oldU_cases (kV κ 5 0) h but i).resolve_left ho
          rw [if_neg ho] at hr
          rw [if_neg ho]
          rw [hoj] at hr ⊢
          rw [nI_cl (by omega)] at hr
          simp (disch := omega) only [nI_mul, nI_add, nI_cl, gdi]
          by_cases hu : kV κ 5 0 29 (16 * h + j) ≤ kV κ 5 0 29 (16 * h + i)
          · rw [if_pos hu] at hr ⊢
            by_cases hb : nI i = but
            · rw [if_pos hb] at hr ⊢
              exact hr
            · rw [if_neg hb] at hr ⊢
              simp only [if_true]
              exact hr
          · rw [if_neg hu] at hr ⊢
            by_cases hb : nI i = but
            · rw [if_pos hb] at hr ⊢
              exact hr
            · rw [if_neg hb] at hr ⊢
              rw [if_neg (by decide)]
              exact hr
  exact loop 16 0 FU (by omega) (by unfold FU; omega) rfl
/-- where instructions reach a page -/
def markM (μ : MU) (g page : Nat) (w : Int32) (h : Nat) : MU :=
  let μ1 := mu μ 29 (16 * h + (μ 28 (8 * g + page)).toNatClampNeg) (μ 0 41 + 1)
  mu μ1 31 g (μ1 31 g ||| (if w = 0 then (0 : Int32) else if μ1 30 g = 0 then 0 else (1 : Int32) <<< (nI page &&& 31)))
def touchM (μ : MU) (n g page : Nat) (w : Int32) (h : Nat) : MU :=
  if μ 27 (8 * g + page) = 1 then
    (if w = 0 then markM μ g page w h
     else if holdM μ n (nI h) (μ 28 (8 * g + page)) ≤ 1 then markM μ g page w h
     else
       let r := frM μ n h (μ 28 (8 * g + page))
       let μ1 := mu r.1 25 (6 * g + 2) (r.1 25 (6 * g + 2) + 1)
       markM (mu μ1 28 (8 * g + page) r.2) g page w h)
  else
    let r := frM μ n h (-1)
    let k := if r.1 27 (8 * g + page) = 0 then 6 * g else 6 * g + 1
    let μ1 := mu r.1 25 k (r.1 25 k + 1)
    let μ2 := mu μ1 27 (8 * g + page) 1
    markM (mu μ2 28 (8 * g + page) r.2) g page w h
theorem m_mark {E : EE} {κ : K} {g page h j : Nat} {w : Int32} (hg : g < 5) (hp : page < 8) (hh : h < 2) (hj : kV κ 5 0 28 (8 * g + page) = nI j) (hj16 : j < 16) : f_X11_touch_b145 E κ (nI g) (nI page) w (nI (8 * g + page)) (nI h) = some (putM κ (markM (kV κ 5 0) g page w h), ()) := by
  unfold f_X11_touch_b145 f_X11_touch_b195 f_X11_touch_b196
  rw [gd_t (iN (by omega) (by omega)), nI_cl (by omega), hj]
  simp (disch := omega) only [nmE, l2, l3, l4, l5, l6, l7, l8, l9, l13, l16, l17, l31, l49, l50, l51, l52, l53, l54, l55, l72, l512, l3000, nI_mul, nI_add, nI_1, nI_cl, gdi, set5, put_kV, put_put, bd_s]
  unfold markM
  rw [hj, nI_cl (by omega)]
  dsimp only
  by_cases hw : w = 0
  · rw [if_pos hw, if_pos hw]
  · rw [if_neg hw, if_neg hw]
    by_cases hm : mu (kV κ 5 0) 29 (16 * h + j) (kV κ 5 0 0 41 + 1) 30 g = 0
    · rw [if_pos hm, if_pos hm]
    · rw [if_neg hm, if_neg hm]
      rfl
