/-! a guest's row in the model -/
def row (μ : MU) (g : Nat) : Nat → Int32 := fun k => μ 1 (55 * g + k)
def urw (r : Nat → Int32) (k : Nat) (x : Int32) : Nat → Int32 := fun j => if j = k then x else r j
theorem urw_s {r : Nat → Int32} {k j : Nat} {x : Int32} (h : j = k) : urw r k x j = x := if_pos h
theorem urw_n {r : Nat → Int32} {k j : Nat} {x : Int32} (h : j ≠ k) : urw r k x j = r j := if_neg h
theorem row_mu {μ : MU} {g k j : Nat} {x : Int32} (hj : j = 55 * g + k) : row (mu μ 1 j x) g = urw (row μ g) k x := by
  funext i
  unfold row
  by_cases e : i = k
  · rw [urw_s e, muS ⟨rfl, by omega⟩]
  · rw [urw_n e, muD (by omega)]
theorem row_c {μ : MU} {g c j : Nat} {x : Int32} (hc : c ≠ 1) : row (mu μ c j x) g = row μ g := by
  unfold row
  rw [mu_row (Ne.symm hc)]
theorem row_e {μ μ' : MU} {g : Nat} (h : μ' 1 = μ 1) : row μ' g = row μ g := by
  unfold row
  rw [h]
def vw (x : Int32) : Int32 := if x = -1 then 8 else x
def MCH (m : MU) (r : Nat → Int32) : Prop := (∀ k, k < 4 → m 1 k = r k) ∧ m 0 3 = r 4 ∧ m 0 4 = r 5 ∧ m 0 5 = r 6 ∧ m 0 6 = r 7 ∧ m 0 7 = r 8 ∧ m 0 8 = r 49 ∧ (∀ k, k < 8 → m 2 k = vw (r (9 + k))) ∧ ∀ k, k < 32 → m 3 k = r (17 + k)
theorem MCH_r {m : MU} {r r' : Nat → Int32} (h : MCH m r) (e : ∀ k, k < 50 → r' k = r k) : MCH m r' := by
  obtain ⟨h1, h2, h3, h4, h5, h6, h7, h8, h9⟩ := h
  exact ⟨fun k hk => by rw [e k (by omega)]; exact h1 k hk, by rw [e 4 (by omega)]; exact h2, by rw [e 5 (by omega)]; exact h3, by rw [e 6 (by omega)]; exact h4, by rw [e 7 (by omega)]; exact h5, by rw [e 8 (by omega)]; exact h6, by rw [e 49 (by omega)]; exact h7, fun k hk => by rw [e (9 + k) (by omega)]; exact h8 k hk, fun k hk => by rw [e (17 + k) (by omega)]; exact h9 k hk⟩
theorem MCH_m {m m' : MU} {r : Nat → Int32} (h : MCH m r) (e : ∀ j, j < 4 → m' j = m j) : MCH m' r := by
  unfold MCH
  rw [e 0 (by omega), e 1 (by omega), e 2 (by omega), e 3 (by omega)]
  exact h
theorem MCH_up {m : MU} {r : Nat → Int32} {k : Nat} {x : Int32} (h : MCH m r) (hk : 50 ≤ k) : MCH m (urw r k x) := MCH_r h fun j hj => urw_n (by omega)
theorem MCH_reg {m : MU} {r : Nat → Int32} {x : Int32} {k : Nat} (h : MCH m r) (hk : k < 4) : MCH (mu m 1 k x) (urw r k x) := by
  obtain ⟨h1, h2, h3, h4, h5, h6, h7, h8, h9⟩ := h
  refine ⟨fun j hj => ?_, ?_, ?_, ?_, ?_, ?_, ?_, fun j hj => ?_, fun j hj => ?_⟩
  · by_cases e : j = k
    · subst e; rw [muS ⟨rfl, rfl⟩, urw_s rfl]
    · rw [muD (by omega), urw_n (by omega)]; exact h1 j hj
  · rw [muD (by omega), urw_n (by omega)]; exact h2
  · rw [muD (by omega), urw_n (by omega)]; exact h3
  · rw [muD (by omega), urw_n (by omega)]; exact h4
  · rw [muD (by omega), urw_n (by omega)]; exact h5
  · rw [muD (by omega), urw_n (by omega)]; exact h6
  · rw [muD (by omega), urw_n (by omega)]; exact h7
  · rw [muD (by omega), urw_n (by omega)]; exact h8 j hj
  · rw [muD (by omega), urw_n (by omega)]; exact h9 j hj
theorem MCH_next {m : MU} {r : Nat → Int32} {x : Int32} (h : MCH m r) : MCH (mu m 0 3 x) (urw r 4 x) := by
  obtain ⟨h1, h2, h3, h4, h5, h6, h7, h8, h9⟩ := h
  refine ⟨fun j hj => ?_, ?_, ?_, ?_, ?_, ?_, ?_, fun j hj => ?_, fun j hj => ?_⟩
  · rw [muD (by omega), urw_n (by omega)]; exact h1 j hj
  · rw [muS ⟨rfl, rfl⟩, urw_s rfl]
  · rw [muD (by omega), urw_n (by omega)]; exact h3
  · rw [muD (by omega), urw_n (by omega)]; exact h4
  · rw [muD (by omega), urw_n (by omega)]; exact h5
  · rw [muD (by omega), urw_n (by omega)]; exact h6
  · rw [muD (by omega), urw_n (by omega)]; exact h7
  · rw [muD (by omega), urw_n (by omega)]; exact h8 j hj
  · rw [muD (by omega), urw_n (by omega)]; exact h9 j hj
theorem MCH_hand {m : MU} {r : Nat → Int32} {x : Int32} (h : MCH m r) : MCH (mu m 0 4 x) (urw r 5 x) := by
  obtain ⟨h1, h2, h3, h4, h5, h6, h7, h8, h9⟩ := h
  refine ⟨fun j hj => ?_, ?_, ?_, ?_, ?_, ?_, ?_, fun j hj => ?_, fun j hj => ?_⟩
  · rw [muD (by omega), urw_n (by omega)]; exact h1 j hj
  · rw [muD (by omega), urw_n (by omega)]; exact h2
  · rw [muS ⟨rfl, rfl⟩, urw_s rfl]
  · rw [muD (by omega), urw_n (by omega)]; exact h4
  · rw [muD (by omega), urw_n (by omega)]; exact h5
  · rw [muD (by omega), urw_n (by omega)]; exact h6
  · rw [muD (by omega), urw_n (by omega)]; exact h7
  · rw [muD (by omega), urw_n (by omega)]; exact h8 j hj
  · rw [muD (by omega), urw_n (by omega)]; exact h9 j hj
theorem MCH_saved {m : MU} {r : Nat → Int32} {x : Int32} (h : MCH m r) : MCH (mu m 0 5 x) (urw r 6 x) := by
  obtain ⟨h1, h2, h3, h4, h5, h6, h7, h8, h9⟩ := h
  refine ⟨fun j hj => ?_, ?_, ?_, ?_, ?_, ?_, ?_, fun j hj => ?_, fun j hj => ?_⟩
  · rw [muD (by omega), urw_n (by omega)]; exact h1 j hj
  · rw [muD (by omega), urw_n (by omega)]; exact h2
  · rw [muD (by omega), urw_n (by omega)]; exact h3
  · rw [muS ⟨rfl, rfl⟩, urw_s rfl]
  · rw [muD (by omega), urw_n (by omega)]; exact h5
  · rw [muD (by omega), urw_n (by omega)]; exact h6
  · rw [muD (by omega), urw_n (by omega)]; exact h7
  · rw [muD (by omega), urw_n (by omega)]; exact h8 j hj
  · rw [muD (by omega), urw_n (by omega)]; exact h9 j hj
theorem MCH_cause {m : MU} {r : Nat → Int32} {x : Int32} (h : MCH m r) : MCH (mu m 0 6 x) (urw r 7 x) := by
  obtain ⟨h1, h2, h3, h4, h5, h6, h7, h8, h9⟩ := h
  refine ⟨fun j hj => ?_, ?_, ?_, ?_, ?_, ?_, ?_, fun j hj => ?_, fun j hj => ?_⟩
  · rw [muD (by omega), urw_n (by omega)]; exact h1 j hj
  · rw [muD (by omega), urw_n (by omega)]; exact h2
  · rw [muD (by omega), urw_n (by omega)]; exact h3
  · rw [muD (by omega), urw_n (by omega)]; exact h4
  · rw [muS ⟨rfl, rfl⟩, urw_s rfl]
  · rw [muD (by omega), urw_n (by omega)]; exact h6
  · rw [muD (by omega), urw_n (by omega)]; exact h7
  · rw [muD (by omega), urw_n (by omega)]; exact h8 j hj
  · rw [muD (by omega), urw_n (by omega)]; exact h9 j hj
theorem MCH_mask {m : MU} {r : Nat → Int32} {x : Int32} (h : MCH m r) : MCH (mu m 0 7 x) (urw r 8 x) := by
  obtain ⟨h1, h2, h3, h4, h5, h6, h7, h8, h9⟩ := h
  refine ⟨fun j hj => ?_, ?_, ?_, ?_, ?_, ?_, ?_, fun j hj => ?_, fun j hj => ?_⟩
  · rw [muD (by omega), urw_n (by omega)]; exact h1 j hj
  · rw [muD (by omega), urw_n (by omega)]; exact h2
  · rw [muD (by omega), urw_n (by omega)]; exact h3
  · rw [muD (by omega), urw_n (by omega)]; exact h4
  · rw [muD (by omega), urw_n (by omega)]; exact h5
  · rw [muS ⟨rfl, rfl⟩, urw_s rfl]
  · rw [muD (by omega), urw_n (by omega)]; exact h7
  · rw [muD (by omega), urw_n (by omega)]; exact h8 j hj
  · rw [muD (by omega), urw_n (by omega)]; exact h9 j hj
theorem MCH_how {m : MU} {r : Nat → Int32} {x : Int32} (h : MCH m r) : MCH (mu m 0 8 x) (urw r 49 x) := by
  obtain ⟨h1, h2, h3, h4, h5, h6, h7, h8, h9⟩ := h
  refine ⟨fun j hj => ?_, ?_, ?_, ?_, ?_, ?_, ?_, fun j hj => ?_, fun j hj => ?_⟩
  · rw [muD (by omega), urw_n (by omega)]; exact h1 j hj
  · rw [muD (by omega), urw_n (by omega)]; exact h2
  · rw [muD (by omega), urw_n (by omega)]; exact h3
  · rw [muD (by omega), urw_n (by omega)]; exact h4
  · rw [muD (by omega), urw_n (by omega)]; exact h5
  · rw [muD (by omega), urw_n (by omega)]; exact h6
  · rw [muS ⟨rfl, rfl⟩, urw_s rfl]
  · rw [muD (by omega), urw_n (by omega)]; exact h8 j hj
  · rw [muD (by omega), urw_n (by omega)]; exact h9 j hj
theorem MCH_view {m : MU} {r : Nat → Int32} {x : Int32} {k : Nat} (h : MCH m r) (hk : k < 8) : MCH (mu m 2 k (vw x)) (urw r (9 + k) x) := by
  obtain ⟨h1, h2, h3, h4, h5, h6, h7, h8, h9⟩ := h
  refine ⟨fun j hj => ?_, ?_, ?_, ?_, ?_, ?_, ?_, fun j hj => ?_, fun j hj => ?_⟩
  · rw [muD (by omega), urw_n (by omega)]; exact h1 j hj
  · rw [muD (by omega), urw_n (by omega)]; exact h2
  · rw [muD (by omega), urw_n (by omega)]; exact h3
  · rw [muD (by omega), urw_n (by omega)]; exact h4
  · rw [muD (by omega), urw_n (by omega)]; exact h5
  · rw [muD (by omega), urw_n (by omega)]; exact h6
  · rw [muD (by omega), urw_n (by omega)]; exact h7
  · by_cases e : j = k
    · subst e; rw [muS ⟨rfl, rfl⟩, urw_s rfl]
    · rw [muD (by omega), urw_n (by omega)]; exact h8 j hj
  · rw [muD (by omega), urw_n (by omega)]; exact h9 j hj
theorem MCH_word {m : MU} {r : Nat → Int32} {x : Int32} {k : Nat} (h : MCH m r) (hk : k < 32) : MCH (mu m 3 k x) (urw r (17 + k) x) := by
  obtain ⟨h1, h2, h3, h4, h5, h6, h7, h8, h9⟩ := h
  refine ⟨fun j hj => ?_, ?_, ?_, ?_, ?_, ?_, ?_, fun j hj => ?_, fun j hj => ?_⟩
  · rw [muD (by omega), urw_n (by omega)]; exact h1 j hj
  · rw [muD (by omega), urw_n (by omega)]; exact h2
  · rw [muD (by omega), urw_n (by omega)]; exact h3
  · rw [muD (by omega), urw_n (by omega)]; exact h4
  · rw [muD (by omega), urw_n (by omega)]; exact h5
  · rw [muD (by omega), urw_n (by omega)]; exact h6
  · rw [muD (by omega), urw_n (by omega)]; exact h7
  · rw [muD (by omega), urw_n (by omega)]; exact h8 j hj
  · by_cases e : j = k
    · subst e; rw [muS ⟨rfl, rfl⟩, urw_s rfl]
    · rw [muD (by omega), urw_n (by omega)]; exact h9 j hj
theorem MCH_mok {m μ : MU} {g : Nat} (h : MCH m (row μ g)) (hR : ROK μ g) : MOK m := by
  obtain ⟨h1, h2, h3, h4, h5, h6, h7, h8, h9⟩ := h
  refine ⟨fun k hk => ?_, fun k hk => ?_, ?_⟩
  · obtain ⟨r, e, hr⟩ := hR.reg hk
    exact ⟨r, hr, (h1 k hk).trans e⟩
  · rw [h8 k hk]
    unfold vw row
    rw [← Nat.add_assoc]
    rcases hR.view hk with e | ⟨r, e, hr⟩
    · rw [if_pos e]; exact ⟨8, by omega, rfl⟩
    · rw [e, if_neg (by rw [nI_m1 (by omega)]; exact id)]; exact ⟨r, by omega, rfl⟩
  · obtain ⟨r, e, hr⟩ := hR.nx
    exact ⟨r, hr, h2.trans e⟩
theorem sim_goTo {m μ : MU} {g : Nat} {x : Int32} (h : MCH m (row μ g)) : MCH (enterC m x) (row (goToM μ g x) g) := by
  have e : row (goToM μ g x) g = urw (urw (urw (urw (row μ g) 6 (row μ g 4)) 4 (row μ g 5)) 8 1) 7 x := by
    unfold goToM
    rw [row_mu rfl, row_mu rfl, row_mu rfl, row_mu rfl]
    rw [show (mu μ 1 (55 * g + 6) (μ 1 (55 * g + 4))) 1 (55 * g + 5) = μ 1 (55 * g + 5) from muD (by omega)]
    rfl
  rw [e]
  unfold enterC
  rw [h.2.1, h.2.2.1]
  exact MCH_cause (MCH_mask (MCH_next (MCH_saved h)))
theorem sim_fault {m μ : MU} {g : Nat} (h : MCH m (row μ g)) (hR : ROK μ g) : MCH (faultC m) (row (faultM μ g) g) := by
  have e8 : μ 1 (55 * g + 8) = 0 ∨ μ 1 (55 * g + 8) = 1 := by
    rcases hR 8 (by omega) with ⟨_, z⟩ | ⟨r, er, hr⟩
    · omega
    · have : r < 2 := hr
      have : r = 0 ∨ r = 1 := by omega
      rcases this with rfl | rfl
      · exact Or.inl er
      · exact Or.inr er
  unfold faultC faultM
  rw [h.2.2.1, h.2.2.2.2.2.1]
  show MCH (if μ 1 (55 * g + 5) = -1 then _ else if μ 1 (55 * g + 8) = 0 then _ else _) _
  by_cases h5 : μ 1 (55 * g + 5) = -1
  · rw [if_pos h5, if_pos (Or.inl h5), row_mu rfl]
    exact MCH_how h
  · rw [if_neg h5]
    rcases e8 with z | z
    · rw [if_pos z, if_neg (fun y => y.elim h5 (fun y => by rw [z] at y; exact absurd y (by decide)))]
      exact sim_goTo h
    · rw [if_neg (by rw [z]; decide), if_pos (Or.inr z), row_mu rfl]
      exact MCH_how h
theorem sim_clr {m μ : MU} {g p : Nat} (h : MCH m (row μ g)) (hp : p < 8) : ∀ k, k ≤ 4 → MCH (clrC m p k) (row (clrU μ g p k) g)
  | 0, _ => h
  | k + 1, hk => by
    unfold clrC clrU
    rw [row_mu (k := 17 + (4 * p + k)) (by omega)]
    exact MCH_word (sim_clr h hp k (by omega)) (by omega)
/-- a word's place, by the class's views and by the model's -/
theorem sim_ad {m μ : MU} {g b : Nat} (h : MCH m (row μ g)) (hR : ROK μ g) (hb : b < 4) :
    (adC m b = none → ∀ n w a h2, lsM μ n g w a b h2 = faultM μ g) ∧
    ∀ q, adC m b = some q → q < 32 ∧ q / 4 < 8 ∧ ∀ n w a h2, lsM μ n g w a b h2 = (if w = 2 then mu (mu (touchM μ n g (q / 4) (if w = 3 then 1 else 0) h2) 1 (55 * g + a) (μ 1 (55 * g + (17 + q)))) 1 (55 * g + 4) (μ 1 (55 * g + 4) + 1) else mu (mu (touchM μ n g (q / 4) (if w = 3 then 1 else 0) h2) 1 (55 * g + (17 + q)) (μ 1 (55 * g + a))) 1 (55 * g + 4) (μ 1 (55 * g + 4) + 1)) := by
  have hm := MCH_mok h hR
  have e1 : m 1 b = μ 1 (55 * g + b) := h.1 b hb
  constructor
  · intro ha n w a h2
    unfold adC at ha
    unfold lsM
    rw [e1] at ha
    by_cases h31 : 31 < (μ 1 (55 * g + b)).toNatClampNeg
    · rw [if_pos h31]
    · rw [if_neg h31] at ha ⊢
      have e2 : m 2 ((μ 1 (55 * g + b)).toNatClampNeg / 4) = vw (μ 1 (55 * g + (9 + (μ 1 (55 * g + b)).toNatClampNeg / 4))) := h.2.2.2.2.2.2.2.1 _ (by omega)
      rw [e2, ← Nat.add_assoc] at ha
      by_cases h8 : μ 1 (55 * g + 9 + (μ 1 (55 * g + b)).toNatClampNeg / 4) = -1
      · rw [if_pos h8]
      · obtain ⟨y, ey, hy⟩ := (hR.view (k := (μ 1 (55 * g + b)).toNatClampNeg / 4) (by omega)).resolve_left h8
        rw [ey] at ha
        have ev : vw (nI y) = nI y := if_neg (by rw [nI_m1 (by omega)]; exact id)
        rw [ev, if_neg (by rw [l8, nI_eq' (by omega) (by omega)]; omega)] at ha
        cases ha
  · intro q ha
    obtain ⟨a1, y, hy, a2, a3, a4, a5⟩ := adC_lt hm hb ha
    rw [e1] at a2 a4 a5
    refine ⟨a1, by omega, fun n w a h2 => ?_⟩
    have e2 : m 2 ((μ 1 (55 * g + b)).toNatClampNeg / 4) = vw (μ 1 (55 * g + (9 + (μ 1 (55 * g + b)).toNatClampNeg / 4))) := h.2.2.2.2.2.2.2.1 _ (by omega)
    rw [← Nat.add_assoc, a2] at e2
    have e3 : μ 1 (55 * g + 9 + (μ 1 (55 * g + b)).toNatClampNeg / 4) = nI y := by
      unfold vw at e2
      split at e2
      · rw [l8, nI_eq' (by omega) (by omega)] at e2; omega
      · exact e2.symm
    unfold lsM
    rw [if_neg (by omega), e3, if_neg (by rw [nI_m1 (by omega)]; exact id), nI_cl (by omega), a3]
    have e4 : 55 * g + 17 + 4 * y + (μ 1 (55 * g + b)).toNatClampNeg % 4 = 55 * g + (17 + q) := by omega
    dsimp only
    rw [e4, touch_row (by omega)]
theorem sim_ls {m μ : MU} {n g w a b h2 : Nat} {X : Int32} {pend : Bool} (h : MCH m (row μ g)) (hR : ROK μ g) (ha : a < 4) (hb : b < 4) (hw : w = 2 ∨ w = 3) : MCH (stepM m w a b X pend) (row (lsM μ n g w a b h2) g) := by
  obtain ⟨s1, s2⟩ := sim_ad h hR hb
  cases hq : adC m b with
  | none =>
    rw [s1 hq n w a h2]
    rcases hw with rfl | rfl
    · rw [show stepM m 2 a b X pend = faultC m from by show (match adC m b with | none => faultC m | some q => accC m 0 a q) = _; rw [hq]]
      exact sim_fault h hR
    · rw [show stepM m 3 a b X pend = faultC m from by show (match adC m b with | none => faultC m | some q => accC m 1 a q) = _; rw [hq]]
      exact sim_fault h hR
  | some q =>
    obtain ⟨q1, q2, q3⟩ := s2 q hq
    rw [q3 n w a h2]
    rcases hw with rfl | rfl
    · rw [show stepM m 2 a b X pend = accC m 0 a q from by show (match adC m b with | none => faultC m | some q => accC m 0 a q) = _; rw [hq]]
      rw [if_pos rfl, row_mu rfl, row_mu rfl, row_e (touch_row (by omega))]
      unfold accC
      rw [if_pos rfl, h.2.1, h.2.2.2.2.2.2.2.2 q q1]
      exact MCH_next (MCH_reg h ha)
    · rw [show stepM m 3 a b X pend = accC m 1 a q from by show (match adC m b with | none => faultC m | some q => accC m 1 a q) = _; rw [hq]]
      rw [if_neg (by omega), row_mu rfl, row_mu rfl, row_e (touch_row (by omega))]
      unfold accC
      rw [if_neg (by decide), h.2.1, h.1 a ha]
      exact MCH_next (MCH_word h q1)
theorem bit01 {μ : MU} {g k : Nat} (hR : ROK μ g) (hk : k = 8 ∨ k = 51 ∨ k = 52) : μ 1 (55 * g + k) = 0 ∨ μ 1 (55 * g + k) = 1 := by
  have hl : lim k = 2 := by rcases hk with rfl | rfl | rfl <;> rfl
  rcases hR k (by omega) with ⟨_, z⟩ | ⟨r, er, hr⟩
  · omega
  · rw [hl] at hr
    have : r = 0 ∨ r = 1 := by omega
    rcases this with rfl | rfl
    · exact Or.inl er
    · exact Or.inr er
/-- the class's step and the model's, on the machine -/
theorem sim_do {m μ : MU} {n g w a b h2 : Nat} {X : Int32} {pend : Bool} (h : MCH m (row μ g)) (hR : ROK μ g) (hV : VN w a b) (h0 : m 0 8 = 0) (hpd : w = 8 → (pend = true ↔ μ 1 (55 * g + 51) = 1 ∨ μ 1 (55 * g + 52) = 1)) (hX : w = 7 → (b = 0 → X = (takM (mu μ 25 (6 * g + 3) (μ 25 (6 * g + 3) + 1)) g).2) ∧ (b = 1 → X = clockM (mu μ 25 (6 * g + 3) (μ 25 (6 * g + 3) + 1)) g)) (hw : w < 14) : MCH (stepM m w a b X pend) (row (doM μ n g w a b h2) g) := by
  obtain ⟨v1, v2, v3, v4, v5, v6, v7, v8⟩ := hV
  have hnx : m 0 3 = row μ g 4 := h.2.1
  have cs : w = 0 ∨ w = 1 ∨ (w = 2 ∨ w = 3) ∨ w = 4 ∨ w = 5 ∨ w = 6 ∨ w = 7 ∨ w = 8 ∨ w = 9 ∨ w = 10 ∨ w = 11 ∨ w = 12 ∨ w = 13 := by omega
  rcases cs with rfl | rfl | e | rfl | rfl | rfl | rfl | rfl | rfl | rfl | rfl | rfl | rfl
  · show MCH (mu (mu m 1 a (nI b)) 0 3 (m 0 3 + 1)) (row (mu (mu μ 1 (55 * g + a) (nI b)) 1 (55 * g + 4) (μ 1 (55 * g + 4) + 1)) g)
    rw [row_mu rfl, row_mu rfl, hnx]
    exact MCH_next (MCH_reg h (v1 (by omega)))
  · show MCH (mu (mu m 1 a _) 0 3 (m 0 3 + 1)) (row (mu (mu μ 1 (55 * g + a) _) 1 (55 * g + 4) (μ 1 (55 * g + 4) + 1)) g)
    rw [row_mu rfl, row_mu rfl, hnx, h.1 a (v1 (by omega)), h.1 b (v3 (by omega))]
    exact MCH_next (MCH_reg h (v1 (by omega)))
  · have e2 : doM μ n g w a b h2 = lsM μ n g w a b h2 := by rcases e with rfl | rfl <;> rfl
    rw [e2]
    exact sim_ls h hR (v1 (by omega)) (v3 (by omega)) e
  · show MCH (mu m 0 3 _) (row (mu μ 1 (55 * g + 4) _) g)
    rw [row_mu rfl, hnx, h.1 a (v1 (by omega))]
    exact MCH_next h
  · show MCH (mu (mu m 2 a (nI b)) 0 3 (m 0 3 + 1)) (row (mu (mu μ 1 (55 * g + 9 + a) (if b = 8 then -1 else nI b)) 1 (55 * g + 4) (μ 1 (55 * g + 4) + 1)) g)
    rw [row_mu rfl, row_mu (k := 9 + a) (by omega), hnx]
    have ev : nI b = vw (if b = 8 then -1 else nI b) := by
      have := (v2 rfl).2
      unfold vw
      by_cases e : b = 8
      · rw [if_pos e, if_pos rfl, e]; rfl
      · rw [if_neg e, if_neg (by rw [nI_m1 (by omega)]; exact id)]
    have := MCH_next (x := row μ g 4 + 1) (MCH_view (x := if b = 8 then -1 else nI b) h (v2 rfl).1)
    rw [← ev] at this
    exact this
  · show MCH (mu m 0 3 (m 0 3 + 1)) (row (if b = 0 then mu (sayM _ g _) 1 (55 * g + 4) (μ 1 (55 * g + 4) + 1) else mu (mu _ 1 (55 * g + 50) _) 1 (55 * g + 4) (μ 1 (55 * g + 4) + 1)) g)
    rw [hnx]
    split
    · rw [row_mu rfl, row_e (say_row (by omega)), row_c (by omega)]
      exact MCH_next h
    · rw [row_mu rfl, row_mu rfl, row_c (by omega)]
      exact MCH_next (MCH_up h (by omega))
  · obtain ⟨x1, x2⟩ := hX rfl
    have hb3 := v8 rfl
    show MCH (mu (mu m 1 a (if b = 2 then m 0 6 else X)) 0 3 (m 0 3 + 1)) (row (mu (mu (if b = 0 then takM (mu μ 25 (6 * g + 3) (μ 25 (6 * g + 3) + 1)) g else if b = 1 then (mu μ 25 (6 * g + 3) (μ 25 (6 * g + 3) + 1), clockM (mu μ 25 (6 * g + 3) (μ 25 (6 * g + 3) + 1)) g) else (mu μ 25 (6 * g + 3) (μ 25 (6 * g + 3) + 1), (mu μ 25 (6 * g + 3) (μ 25 (6 * g + 3) + 1)) 1 (55 * g + 7))).1 1 (55 * g + a) (if b = 0 then takM (mu μ 25 (6 * g + 3) (μ 25 (6 * g + 3) + 1)) g else if b = 1 then (mu μ 25 (6 * g + 3) (μ 25 (6 * g + 3) + 1), clockM (mu μ 25 (6 * g + 3) (μ 25 (6 * g + 3) + 1)) g) else (mu μ 25 (6 * g + 3) (μ 25 (6 * g + 3) + 1), (mu μ 25 (6 * g + 3) (μ 25 (6 * g + 3) + 1)) 1 (55 * g + 7))).2) 1 (55 * g + 4) (μ 1 (55 * g + 4) + 1)) g)
    have b3 : b = 0 ∨ b = 1 ∨ b = 2 := by omega
    rw [row_mu rfl, row_mu rfl, hnx]
    rcases b3 with rfl | rfl | rfl
    · rw [if_neg (by omega), if_pos rfl, ← x1 rfl]
      refine MCH_next (MCH_reg ?_ (v1 (by omega)))
      refine MCH_r h fun k hk => ?_
      unfold row
      rw [tak_1]
      split
      · rw [mu_row (by omega)]
      · rw [muD (by omega), mu_row (by omega)]
    · rw [if_neg (by omega), if_neg (by omega), if_pos rfl, ← x2 rfl]
      refine MCH_next (MCH_reg ?_ (v1 (by omega)))
      rw [row_c (by omega)]
      exact h
    · rw [if_pos rfl, if_neg (by omega), if_neg (by omega)]
      dsimp only
      rw [mu_row (show (1 : Nat) ≠ 25 by omega), h.2.2.2.2.1]
      refine MCH_next (MCH_reg ?_ (v1 (by omega)))
      rw [row_c (by omega)]
      exact h
  · show MCH (if pend = true then mu m 0 3 (m 0 3 + 1) else mu (mu m 0 8 1) 0 3 (m 0 3 + 1)) (row (mu (mu (mu μ 25 (6 * g + 4) (μ 25 (6 * g + 4) + 1)) 1 (55 * g + 49) (if (mu μ 25 (6 * g + 4) (μ 25 (6 * g + 4) + 1)) 1 (55 * g + 51) = 1 then 0 else if (mu μ 25 (6 * g + 4) (μ 25 (6 * g + 4) + 1)) 1 (55 * g + 52) = 1 then 0 else 1)) 1 (55 * g + 4) (μ 1 (55 * g + 4) + 1)) g)
    rw [row_mu rfl, row_mu rfl, row_c (by omega), mu_row (show (1 : Nat) ≠ 25 by omega), hnx]
    by_cases hp : pend = true
    · rw [if_pos hp]
      have e49 : (if μ 1 (55 * g + 51) = 1 then (0 : Int32) else if μ 1 (55 * g + 52) = 1 then 0 else 1) = 0 := by
        rcases (hpd rfl).mp hp with z | z
        · rw [if_pos z]
        · rw [if_pos z]; split <;> rfl
      rw [e49]
      refine MCH_next (MCH_r h fun k hk => ?_)
      by_cases e : k = 49
      · subst e; rw [urw_s rfl, ← h.2.2.2.2.2.2.1, h0]
      · rw [urw_n e]
    · rw [if_neg hp]
      have e49 : (if μ 1 (55 * g + 51) = 1 then (0 : Int32) else if μ 1 (55 * g + 52) = 1 then 0 else 1) = 1 := by
        rw [if_neg (fun z => hp ((hpd rfl).mpr (Or.inl z))), if_neg (fun z => hp ((hpd rfl).mpr (Or.inr z)))]
      rw [e49]
      exact MCH_next (MCH_how h)
  · show MCH (mu (mu m 0 4 (nI b)) 0 3 (m 0 3 + 1)) (row (mu (mu μ 1 (55 * g + 5) (nI b)) 1 (55 * g + 4) (μ 1 (55 * g + 4) + 1)) g)
    rw [row_mu rfl, row_mu rfl, hnx]
    exact MCH_next (MCH_hand h)
  · show MCH (mu (mu m 0 7 (nI b)) 0 3 (m 0 3 + 1)) (row (mu (mu μ 1 (55 * g + 8) (nI b)) 1 (55 * g + 4) (μ 1 (55 * g + 4) + 1)) g)
    rw [row_mu rfl, row_mu rfl, hnx]
    exact MCH_next (MCH_mask h)
  · show MCH (mu (mu m 0 7 0) 0 3 (m 0 5)) (row (mu (mu μ 1 (55 * g + 8) 0) 1 (55 * g + 4) ((mu μ 1 (55 * g + 8) 0) 1 (55 * g + 6))) g)
    rw [row_mu rfl, row_mu rfl, muD (by omega), h.2.2.2.1]
    exact MCH_next (MCH_mask h)
  · show MCH (mu (clrC m b 4) 0 3 (m 0 3 + 1)) (row (mu (giveM μ g b) 1 (55 * g + 4) (μ 1 (55 * g + 4) + 1)) g)
    rw [row_mu rfl, row_e give_1, hnx]
    exact MCH_next (sim_clr h (v4 rfl) 4 (Nat.le_refl _))
  · show MCH (mu (mu m 0 8 2) 0 3 (m 0 3 + 1)) (row (mu (mu (mu μ 25 (6 * g + 4) (μ 25 (6 * g + 4) + 1)) 1 (55 * g + 49) 2) 1 (55 * g + 4) (μ 1 (55 * g + 4) + 1)) g)
    rw [row_mu rfl, row_mu rfl, row_c (by omega), hnx]
    exact MCH_next (MCH_how h)
