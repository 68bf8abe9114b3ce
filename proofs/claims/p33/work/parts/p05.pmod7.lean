/-- a step of a guest's: what it keeps; d numbers more are said -/
def SOK (d : Nat) (μ μ' : MU) (g : Nat) : Prop := ROK μ' g ∧ QOK μ' g ∧ (∀ g2 j, g2 ≠ g → j < 55 → μ' 1 (55 * g2 + j) = μ 1 (55 * g2 + j)) ∧ (∀ g2 j, g2 ≠ g → j < 512 → μ' 2 (512 * g2 + j) = μ 2 (512 * g2 + j)) ∧ (∀ g2, PAG μ g2 → PAG μ' g2) ∧
  (∀ c, c ≠ 1 → c ≠ 2 → c ≠ 25 → c ≠ 27 → c ≠ 28 → c ≠ 29 → c ≠ 31 → c ≠ 34 → c ≠ 35 → c ≠ 36 → c ≠ 37 → μ' c = μ c) ∧ (∀ g2, g2 ≠ g → μ' 35 g2 = μ 35 g2 ∧ μ' 37 g2 = μ 37 g2) ∧
  ∀ a b, μ 35 g = nI a → μ 37 g = nI b → ∃ a' b', μ' 35 g = nI a' ∧ μ' 37 g = nI b' ∧ a' + b' ≤ a + b + d
theorem SOK.trans {d1 d2 : Nat} {μ μ1 μ2 : MU} {g : Nat} (h : SOK d1 μ μ1 g) (h' : SOK d2 μ1 μ2 g) : SOK (d1 + d2) μ μ2 g := by
  obtain ⟨a1, a2, a3, a4, a5, a6, a7, a8⟩ := h
  obtain ⟨b1, b2, b3, b4, b5, b6, b7, b8⟩ := h'
  refine ⟨b1, b2, fun g2 j q1 q2 => (b3 g2 j q1 q2).trans (a3 g2 j q1 q2), fun g2 j q1 q2 => (b4 g2 j q1 q2).trans (a4 g2 j q1 q2), fun g2 hp => b5 g2 (a5 g2 hp), fun c h1 h2 h3 h4 h5 h6 h7 h8 h9 h10 h11 => (b6 c h1 h2 h3 h4 h5 h6 h7 h8 h9 h10 h11).trans (a6 c h1 h2 h3 h4 h5 h6 h7 h8 h9 h10 h11), fun g2 q => ⟨(b7 g2 q).1.trans (a7 g2 q).1, (b7 g2 q).2.trans (a7 g2 q).2⟩, fun a b e1 e2 => ?_⟩
  obtain ⟨x, y, f1, f2, f3⟩ := a8 a b e1 e2
  obtain ⟨x2, y2, k1, k2, k3⟩ := b8 x y f1 f2
  exact ⟨x2, y2, k1, k2, by omega⟩
theorem SOK.up {d e : Nat} {μ μ' : MU} {g : Nat} (h : SOK d μ μ' g) (he : d ≤ e) : SOK e μ μ' g := by
  obtain ⟨a1, a2, a3, a4, a5, a6, a7, a8⟩ := h
  exact ⟨a1, a2, a3, a4, a5, a6, a7, fun a b e1 e2 => by obtain ⟨x, y, f1, f2, f3⟩ := a8 a b e1 e2; exact ⟨x, y, f1, f2, by omega⟩⟩
theorem SOK.rfl {μ : MU} {g : Nat} (hR : ROK μ g) (hQ : QOK μ g) : SOK 0 μ μ g := ⟨hR, hQ, fun _ _ _ _ => Eq.refl _, fun _ _ _ _ => Eq.refl _, fun _ h => h, fun _ _ _ _ _ _ _ _ _ _ _ _ => Eq.refl _, fun _ _ => ⟨Eq.refl _, Eq.refl _⟩, fun a b h1 h2 => ⟨a, b, h1, h2, by omega⟩⟩
theorem s_row {μ μ' : MU} {g : Nat} (hR : ROK μ g) (hQ : QOK μ g) (e1 : μ' 1 = μ 1) (e2 : μ' 2 = μ 2) (hp : ∀ g2, PAG μ g2 → PAG μ' g2) (hr : ∀ c, c ≠ 1 → c ≠ 2 → c ≠ 25 → c ≠ 27 → c ≠ 28 → c ≠ 29 → c ≠ 31 → c ≠ 34 → c ≠ 35 → c ≠ 36 → c ≠ 37 → μ' c = μ c) (e35 : μ' 35 = μ 35) (e37 : μ' 37 = μ 37) : SOK 0 μ μ' g := by
  refine ⟨ROK_row hR e1, ?_, fun g2 j _ _ => by rw [e1], fun g2 j _ _ => by rw [e2], hp, hr, fun g2 _ => by rw [e35, e37]; exact ⟨Eq.refl _, Eq.refl _⟩, fun a b h1 h2 => ⟨a, b, by rw [e35]; exact h1, by rw [e37]; exact h2, by omega⟩⟩
  unfold QOK
  rw [e1, e2]
  exact hQ
theorem s_1 {μ : MU} {g j k : Nat} {x : Int32} (hR : ROK μ g) (hQ : QOK μ g) (hj : j = 55 * g + k) (hk : k < 54) (hx : rng k x) : SOK 0 μ (mu μ 1 j x) g := by
  subst hj
  refine ⟨ROK_1 hR hx, ?_, fun g2 j h1 h2 => muD (by omega), fun g2 j _ _ => muD (by omega), fun g2 hp => PAG_row hp (mu_row (by omega)) (mu_row (by omega)), fun c h1 _ _ _ _ _ _ _ _ _ _ => mu_row h1, fun g2 _ => ⟨muD (by omega), muD (by omega)⟩, fun a b h1 h2 => ⟨a, b, by rw [muD (by omega)]; exact h1, by rw [muD (by omega)]; exact h2, by omega⟩⟩
  intro k2 hk2
  rw [muD (by omega)] at hk2
  rw [muD (by omega)]
  exact hQ k2 hk2
theorem s_25 {μ : MU} {g k : Nat} {x : Int32} (hR : ROK μ g) (hQ : QOK μ g) : SOK 0 μ (mu μ 25 k x) g :=
  s_row hR hQ (mu_row (by omega)) (mu_row (by omega)) (fun g2 hp => PAG_row hp (mu_row (by omega)) (mu_row (by omega))) (fun c _ _ h _ _ _ _ _ _ _ _ => mu_row h) (mu_row (by omega)) (mu_row (by omega))
theorem s_touch {μ : MU} {n g page h : Nat} {w : Int32} (hR : ROK μ g) (hQ : QOK μ g) (hp : page < 8) : SOK 0 μ (touchM μ n g page w h) g :=
  s_row hR hQ (touch_row (by omega)) (touch_row (by omega)) (fun g2 hpp => PAG_touch hp hpp) (fun c _ _ _ _ _ _ _ _ _ _ _ => touch_row (by omega)) (touch_row (by omega)) (touch_row (by omega))
theorem s_goTo {μ : MU} {g x : Nat} (hR : ROK μ g) (hQ : QOK μ g) (hx : x < 4) (h5 : μ 1 (55 * g + 5) ≠ -1) : SOK 0 μ (goToM μ g (nI x)) g := by
  refine ⟨ROK_goTo hR hx h5, ?_, fun g2 j h1 h2 => goTo_n h1 h2, fun g2 j _ _ => by rw [goToM_row (by omega)], fun g2 hp => PAG_row hp (goToM_row (by omega)) (goToM_row (by omega)), fun c h1 _ _ _ _ _ _ _ _ _ _ => goToM_row h1, fun g2 _ => by rw [goToM_row (by omega), goToM_row (by omega)]; exact ⟨Eq.refl _, Eq.refl _⟩, fun a b h1 h2 => ⟨a, b, by rw [goToM_row (by omega)]; exact h1, by rw [goToM_row (by omega)]; exact h2, by omega⟩⟩
  intro k2 hk2
  have e : (goToM μ g (nI x)) 1 (55 * g + 54) = μ 1 (55 * g + 54) := by
    unfold goToM
    rw [muD (by omega), muD (by omega), muD (by omega), muD (by omega)]
  rw [e] at hk2
  rw [goToM_row (by omega)]
  exact hQ k2 hk2
theorem s_fault {μ : MU} {g : Nat} (hR : ROK μ g) (hQ : QOK μ g) : SOK 0 μ (faultM μ g) g := by
  unfold faultM
  split
  · exact s_1 (k := 49) hR hQ rfl (by omega) (rng_n (r := 3) (by decide))
  · rename_i hz
    exact s_goTo (x := 1) hR hQ (by omega) (fun z => hz (Or.inl z))
theorem s_give {μ : MU} {g page : Nat} (hR : ROK μ g) (hQ : QOK μ g) (hp : page < 8) : SOK 0 μ (giveM μ g page) g := by
  have e54 : (giveM μ g page) 1 (55 * g + 54) = μ 1 (55 * g + 54) := by
    rw [give_1]
    have key : ∀ k, k ≤ 4 → (clrU μ g page k) 1 (55 * g + 54) = μ 1 (55 * g + 54) := by
      intro k
      induction k with
      | zero => exact fun _ => rfl
      | succ k ih =>
        intro hk
        unfold clrU
        rw [muD (by omega), ih (by omega)]
    exact key 4 (by omega)
  refine ⟨ROK_row (ROK_clr hp hR 4 (by omega)) give_1, ?_, fun g2 j h1 h2 => by rw [give_1]; exact clr_n h1 hp h2 4 (by omega), fun g2 j _ _ => by rw [give_row (by omega)], fun g2 hpp => PAG_give hpp, fun c h1 _ _ _ _ _ _ _ _ _ _ => give_row (by omega), fun g2 _ => by rw [give_row (by omega), give_row (by omega)]; exact ⟨Eq.refl _, Eq.refl _⟩, fun a b h1 h2 => ⟨a, b, by rw [give_row (by omega)]; exact h1, by rw [give_row (by omega)]; exact h2, by omega⟩⟩
  intro k2 hk2
  rw [e54] at hk2
  rw [give_row (by omega)]
  exact hQ k2 hk2
theorem s_say {μ : MU} {g : Nat} {x : Int32} (hR : ROK μ g) (hQ : QOK μ g) : SOK 1 μ (sayM μ g x) g := by
  refine ⟨ROK_row hR (say_row (by omega)), ?_, fun g2 j _ _ => by rw [say_row (by omega)], fun g2 j _ _ => by rw [say_row (by omega)], fun g2 hp => PAG_row hp (say_row (by omega)) (say_row (by omega)), fun c _ _ _ _ _ _ _ _ _ _ _ => say_row (by omega), fun g2 hg => ?_, fun a b h1 h2 => ?_⟩
  · unfold QOK
    rw [say_row (by omega), say_row (by omega)]
    exact hQ
  · unfold sayM
    split
    · exact ⟨by rw [muD (by omega), muD (by omega)], by rw [muD (by omega), muD (by omega)]⟩
    · exact ⟨by rw [muD (by omega), muD (by omega)], by rw [muD (by omega), muD (by omega)]⟩
  · unfold sayM
    split
    · exact ⟨a + 1, b, by rw [muS ⟨rfl, rfl⟩, muD (by omega), h1, nI_1], by rw [muD (by omega), muD (by omega)]; exact h2, by omega⟩
    · exact ⟨a, b + 1, by rw [muD (by omega), muD (by omega)]; exact h1, by rw [muS ⟨rfl, rfl⟩, muD (by omega), h2, nI_1], by omega⟩
theorem tkU_n {μ : MU} {g g2 : Nat} (hg : g2 ≠ g) {j : Nat} (hj : j < 512) : ∀ k, k ≤ 512 → (tkU μ g k) 2 (512 * g2 + j) = μ 2 (512 * g2 + j)
  | 0, _ => rfl
  | k + 1, hk => by
    unfold tkU
    rw [muD (by omega), tkU_n hg hj k (by omega)]
theorem s_tak {μ : MU} {g : Nat} (hR : ROK μ g) (hQ : QOK μ g) : SOK 0 μ (takM μ g).1 g := by
  obtain ⟨h1, h2, -⟩ := tak_ok hR hQ
  obtain ⟨m, hm1, hm2⟩ := hR.many
  refine ⟨h1, h2, fun g2 j q1 q2 => ?_, fun g2 j q1 q2 => ?_, fun g2 hp => PAG_row hp (tak_row (by omega)) (tak_row (by omega)), fun c _ _ _ _ _ _ _ _ _ _ _ => tak_row (by omega), fun g2 _ => by rw [tak_row (by omega), tak_row (by omega)]; exact ⟨Eq.refl _, Eq.refl _⟩, fun a b e1 e2 => ⟨a, b, by rw [tak_row (by omega)]; exact e1, by rw [tak_row (by omega)]; exact e2, by omega⟩⟩
  · rw [tak_1]
    split
    · rfl
    · exact muD (by omega)
  · unfold takM
    split
    · rfl
    · rename_i h0
      dsimp only
      have hm : m ≠ 0 := fun z => h0 (by rw [hm1, z]; rfl)
      rw [muS ⟨rfl, rfl⟩, hm1, show (1 : Int32) = nI 1 from rfl, nI_sub (by omega), nI_cl (by omega), tkU_n q1 q2 _ (by omega), muD (by omega)]
/-- an instruction's numbers as they are used -/
def VN (w a b : Nat) : Prop := (w < 5 ∨ w = 6 ∨ w = 7 → a < 4) ∧ (w = 5 → a < 8 ∧ b < 9) ∧ (w = 1 ∨ w = 2 ∨ w = 3 → b < 4) ∧ (w = 12 → b < 8) ∧ (w = 0 → b < 10000) ∧ (w = 4 ∨ w = 9 → b < 24) ∧ (w = 6 ∨ w = 10 → b < 2) ∧ (w = 7 → b < 3)
theorem VI.vn {w : Nat} {a b : Int32} (h : VI w a b) : VN w a.toNatClampNeg b.toNatClampNeg := by
  obtain ⟨v0, v1, v2, v3, v4, v5, v6, v7, v8⟩ := h
  have key : ∀ {x : Int32} {N : Nat}, N < 2147483648 → (∃ r, r < N ∧ x = nI r) → x.toNatClampNeg < N := by
    intro x N hN hx
    obtain ⟨r, hr, rfl⟩ := hx
    rw [nI_cl (by omega)]
    exact hr
  exact ⟨fun z => key (by omega) (v1 z), fun z => ⟨key (by omega) (v2 z).1, key (by omega) (v2 z).2⟩, fun z => key (by omega) (v3 z), fun z => key (by omega) (v4 z), fun z => key (by omega) (v5 z), fun z => key (by omega) (v6 z), fun z => key (by omega) (v7 z), fun z => key (by omega) (v8 z)⟩
theorem rng_nx {μ : MU} {g : Nat} (hx : ∃ x, x < 24 ∧ μ 1 (55 * g + 4) = nI x) : rng 4 (μ 1 (55 * g + 4) + 1) := by
  obtain ⟨x, h1, h2⟩ := hx
  rw [h2, nI_1]
  exact rng_n (by show x + 1 < 25; omega)
theorem SOK.rok {d : Nat} {μ μ' : MU} {g : Nat} (h : SOK d μ μ' g) : ROK μ' g := h.1
theorem SOK.qok {d : Nat} {μ μ' : MU} {g : Nat} (h : SOK d μ μ' g) : QOK μ' g := h.2.1
theorem s_ls {μ : MU} {n g w a b h : Nat} (hR : ROK μ g) (hQ : QOK μ g) (ha : a < 4) (hb : b < 4) (hx : ∃ x, x < 24 ∧ μ 1 (55 * g + 4) = nI x) : SOK 0 μ (lsM μ n g w a b h) g := by
  obtain ⟨q, hq, hq2⟩ := hR.reg hb
  unfold lsM
  dsimp only
  rw [hq, nI_cl (by omega)]
  split
  · exact s_fault hR hQ
  · split
    · exact s_fault hR hQ
    · rename_i h31 hv
      obtain ⟨v, hv1, hv2⟩ := (hR.view (k := q / 4) (by omega)).resolve_left hv
      rw [hv1, nI_cl (by omega)]
      have s1 := s_touch (n := n) (h := h) (w := if w = 3 then 1 else 0) hR hQ hv2
      have er := touch_row (μ := μ) (n := n) (g := g) (page := v) (h := h) (w := if w = 3 then 1 else 0) (c := 1) (by omega)
      split
      · obtain ⟨r, h1, h2⟩ := ROK_word s1.rok (k := 4 * v + q % 4) (by omega)
        have s2 := s_1 (j := 55 * g + a) (k := a) (x := (touchM μ n g v (if w = 3 then 1 else 0) h) 1 (55 * g + 17 + 4 * v + q % 4)) s1.rok s1.qok rfl (by omega) (by rw [show 55 * g + 17 + 4 * v + q % 4 = 55 * g + (17 + (4 * v + q % 4)) by omega, h1]; exact rng_n (by rw [lim_reg ha]; exact h2))
        exact (s1.trans s2).trans (s_1 (k := 4) s2.rok s2.qok rfl (by omega) (rng_nx hx))
      · obtain ⟨r, h1, h2⟩ := s1.rok.reg ha
        have s2 := s_1 (j := 55 * g + 17 + 4 * v + q % 4) (k := 17 + (4 * v + q % 4)) (x := (touchM μ n g v (if w = 3 then 1 else 0) h) 1 (55 * g + a)) s1.rok s1.qok (by omega) (by omega) (by rw [h1]; exact rng_n (by rw [lim_word (by omega)]; exact h2))
        exact (s1.trans s2).trans (s_1 (k := 4) s2.rok s2.qok rfl (by omega) (rng_nx hx))
theorem s_oth {μ : MU} {g w a0 b : Nat} {nx : Int32} (hR : ROK μ g) (hQ : QOK μ g) (hV : VN w a0 b) (hnx : rng 4 nx) : SOK 0 μ (othM μ g w b nx).1 g ∧ rng 4 (othM μ g w b nx).2 := by
  obtain ⟨v1, v2, v3, v4, v5, v6, v7, v8⟩ := hV
  unfold othM
  split
  · have s1 := s_25 (k := 6 * g + 4) (x := μ 25 (6 * g + 4) + 1) hR hQ
    refine ⟨s1.trans (s_1 (k := 49) s1.rok s1.qok rfl (by omega) ?_), hnx⟩
    split
    · exact rng_n (r := 0) (by decide)
    · split
      · exact rng_n (r := 0) (by decide)
      · exact rng_n (r := 1) (by decide)
  · split
    · exact ⟨s_1 (k := 5) hR hQ rfl (by omega) (rng_n (v6 (Or.inr (by assumption)))), hnx⟩
    · split
      · exact ⟨s_1 (k := 8) hR hQ rfl (by omega) (rng_n (v7 (Or.inr (by assumption)))), hnx⟩
      · split
        · refine ⟨s_1 (k := 8) hR hQ rfl (by omega) (rng_n (r := 0) (by decide)), ?_⟩
          dsimp only
          rw [muD (by omega)]
          rcases hR 6 (by omega) with ⟨_, z⟩ | ⟨r, h1, h2⟩
          · omega
          · rw [h1]; exact rng_n h2
        · split
          · exact ⟨s_give hR hQ (v4 (by assumption)), hnx⟩
          · have s1 := s_25 (k := 6 * g + 4) (x := μ 25 (6 * g + 4) + 1) hR hQ
            exact ⟨s1.trans (s_1 (k := 49) s1.rok s1.qok rfl (by omega) (rng_n (r := 2) (by decide))), hnx⟩
