/-! the relation of a guest to its rows -/
def wid (c : Nat) : Nat := if c = 1 ∨ c = 3 then 55 else if c = 2 ∨ c = 4 ∨ c = 5 then 512 else if c = 13 then 72 else if c = 25 then 6 else if c = 34 ∨ c = 36 then 3000 else 1
/-- only what is guest g's is another -/
def OWN (μ μ' : MU) (g : Nat) : Prop := μ' 0 = μ 0 ∧ (∀ c, 38 ≤ c → μ' c = μ c) ∧ ∀ c k, c ≠ 27 → c ≠ 28 → c ≠ 29 → k / wid c ≠ g → μ' c k = μ c k
theorem OWN.trans {μ μ1 μ2 : MU} {g : Nat} (h : OWN μ μ1 g) (h' : OWN μ1 μ2 g) : OWN μ μ2 g := ⟨h'.1.trans h.1, fun c hc => (h'.2.1 c hc).trans (h.2.1 c hc), fun c k a b d e => (h'.2.2 c k a b d e).trans (h.2.2 c k a b d e)⟩
theorem OWN.rfl {μ : MU} {g : Nat} : OWN μ μ g := ⟨Eq.refl _, fun _ _ => Eq.refl _, fun _ _ _ _ _ _ => Eq.refl _⟩
theorem OWN_mu {μ : MU} {g c k : Nat} {x : Int32} (h0 : c ≠ 0) (hc : c < 38) (hk : k / wid c = g) : OWN μ (mu μ c k x) g :=
  ⟨mu_row (Ne.symm h0), fun c' hc' => mu_row (by omega), fun c' k' _ _ _ e => muD (fun z => e (by rw [z.1, z.2]; exact hk))⟩
theorem OWN_1 {μ : MU} {g j k : Nat} {x : Int32} (hj : j = 55 * g + k) (hk : k < 55) : OWN μ (mu μ 1 j x) g := OWN_mu (by omega) (by omega) (by show j / 55 = g; omega)
theorem OWN_25 {μ : MU} {g k : Nat} {x : Int32} (hk : k < 6) : OWN μ (mu μ 25 (6 * g + k) x) g := OWN_mu (by omega) (by omega) (by show (6 * g + k) / 6 = g; omega)
theorem OWN_g {μ : MU} {g c : Nat} {x : Int32} (h0 : c ≠ 0) (hc : c < 38) (hw : wid c = 1) : OWN μ (mu μ c g x) g := OWN_mu h0 hc (by rw [hw, Nat.div_one])
theorem OWN_goTo {μ : MU} {g : Nat} {x : Int32} : OWN μ (goToM μ g x) g := by
  unfold goToM
  exact (((OWN_1 rfl (by omega)).trans (OWN_1 rfl (by omega))).trans (OWN_1 rfl (by omega))).trans (OWN_1 rfl (by omega))
theorem OWN_fault {μ : MU} {g : Nat} : OWN μ (faultM μ g) g := by
  unfold faultM
  split
  · exact OWN_1 rfl (by omega)
  · exact OWN_goTo
theorem OWN_clr {μ : MU} {g p : Nat} (hp : p < 8) : ∀ k, k ≤ 4 → OWN μ (clrU μ g p k) g
  | 0, _ => OWN.rfl
  | k + 1, hk => by
    unfold clrU
    exact (OWN_clr hp k (by omega)).trans (OWN_1 (k := 17 + (4 * p + k)) (by omega) (by omega))
theorem OWN_pg {μ : MU} {g c k : Nat} {x : Int32} (hc : c = 27 ∨ c = 28 ∨ c = 29) : OWN μ (mu μ c k x) g :=
  ⟨mu_row (by omega), fun c' hc' => mu_row (by omega), fun c' k' a b d _ => by rw [mu_row (by omega)]⟩
theorem OWN_give {μ : MU} {g p : Nat} (hp : p < 8) : OWN μ (giveM μ g p) g := by
  unfold giveM
  exact (((OWN_clr hp 4 (Nat.le_refl _)).trans (OWN_pg (by omega))).trans (OWN_pg (by omega))).trans (OWN_g (by omega) (by omega) rfl)
theorem OWN_say {μ : MU} {g a b : Nat} {x : Int32} (h1 : μ 35 g = nI a) (ha : a < 3000) (h2 : μ 37 g = nI b) (hb : b < 3000) : OWN μ (sayM μ g x) g := by
  unfold sayM
  rw [h1, h2, nI_cl (by omega), nI_cl (by omega)]
  split
  · exact (OWN_mu (by omega) (by omega) (by show (3000 * g + a) / 3000 = g; omega)).trans (OWN_g (by omega) (by omega) rfl)
  · exact (OWN_mu (by omega) (by omega) (by show (3000 * g + b) / 3000 = g; omega)).trans (OWN_g (by omega) (by omega) rfl)
theorem OWN_tkU {μ : MU} {g : Nat} : ∀ k, k ≤ 512 → OWN μ (tkU μ g k) g
  | 0, _ => OWN.rfl
  | k + 1, hk => by
    unfold tkU
    exact (OWN_tkU k (by omega)).trans (OWN_mu (by omega) (by omega) (by show (512 * g + k) / 512 = g; omega))
theorem OWN_tak {μ : MU} {g : Nat} (hR : ROK μ g) : OWN μ (takM μ g).1 g := by
  unfold takM
  split
  · exact OWN.rfl
  · rename_i h
    dsimp only
    obtain ⟨r, e, hr⟩ := hR.many
    refine (OWN_1 rfl (by omega)).trans (OWN_tkU _ ?_)
    rw [muS ⟨rfl, rfl⟩, e]
    have hr0 : r ≠ 0 := fun z => h (by rw [e, z]; rfl)
    rw [i32_1, nI_sub (by omega), nI_cl (by omega)]
    omega
theorem OWN_touch {μ : MU} {n g p h : Nat} {w : Int32} (hp : p < 8) (hF : FRM μ n) (hh : μ 15 g = nI h) (hh2 : h < 2) (hk1 : ∃ j, j < 16 ∧ (touchP μ n g p w h) 28 (8 * g + p) = nI j) : OWN μ (touchM μ n g p w h) g := by
  obtain ⟨t1, t2, t3, _⟩ := touch_oth hp hF hh hh2 hk1
  refine ⟨touch_row (by omega), fun c hc => touch_row (by omega), fun c k a b d e => ?_⟩
  by_cases c25 : c = 25
  · subst c25
    exact t2 k e
  · by_cases c31 : c = 31
    · subst c31
      exact t3 k (by rw [show wid 31 = 1 from rfl, Nat.div_one] at e; exact e)
    · rw [touch_row (by omega)]
def SCA (v μ : MU) (g : Nat) : Prop := v 0 0 = nI g ∧ v 0 1 = μ 16 g ∧ v 0 2 = μ 17 g ∧ v 0 10 = μ 20 g ∧ v 0 11 = μ 23 g ∧ v 0 13 = μ 32 g ∧ v 0 16 = μ 18 g ∧ v 0 17 = μ 19 g
theorem SCA_v {v v' μ μ' : MU} {g : Nat} (h : SCA v μ g) (ev : ∀ k, k ≠ 14 → k ≠ 15 → v' 0 k = v 0 k) (em : ∀ c, 16 ≤ c → c ≤ 32 → c < 25 ∨ c = 32 → μ' c g = μ c g) : SCA v' μ' g := by
  unfold SCA
  rw [ev 0 (by omega) (by omega), ev 1 (by omega) (by omega), ev 2 (by omega) (by omega), ev 10 (by omega) (by omega), ev 11 (by omega) (by omega), ev 13 (by omega) (by omega), ev 16 (by omega) (by omega), ev 17 (by omega) (by omega), em 16 (by omega) (by omega) (by omega), em 17 (by omega) (by omega) (by omega), em 18 (by omega) (by omega) (by omega), em 19 (by omega) (by omega) (by omega), em 20 (by omega) (by omega) (by omega), em 23 (by omega) (by omega) (by omega), em 32 (by omega) (by omega) (by omega)]
  exact h
def PRO (v μ : MU) (g : Nat) : Prop := v 1 3 = μ 14 g ∧ ∀ k, k < 24 → v 2 k = μ 13 (72 * g + 3 * k) ∧ v 3 k = μ 13 (72 * g + 3 * k + 1) ∧ v 4 k = μ 13 (72 * g + 3 * k + 2)
theorem PRO_v {v v' μ μ' : MU} {g : Nat} (h : PRO v μ g) (ev : ∀ c, 1 ≤ c → c ≤ 4 → v' c = v c) (e14 : μ' 14 g = μ 14 g) (e13 : ∀ k, k / 72 = g → μ' 13 k = μ 13 k) : PRO v' μ' g := by
  refine ⟨by rw [ev 1 (by omega) (by omega), e14]; exact h.1, fun k hk => ?_⟩
  rw [ev 2 (by omega) (by omega), ev 3 (by omega) (by omega), ev 4 (by omega) (by omega), e13 _ (by omega), e13 _ (by omega), e13 _ (by omega)]
  exact h.2 k hk
/-- a timer: how many ticks are left, and the time at which it goes off -/
def TMR (x y : Int32) (tt : Nat) : Prop := (y = -1 ∧ x = 0) ∨ ∃ d, 0 < d ∧ d ≤ 10000 ∧ y = nI (tt + d) ∧ x = nI d
def LVT (v μ : MU) (g tt : Nat) : Prop := TMR (v 5 6) (μ 1 (55 * g + 50)) tt ∧ v 5 7 = μ 1 (55 * g + 51) ∧ v 5 8 = μ 1 (55 * g + 52) ∧ v 5 9 = clockM μ g
theorem clock_e {μ μ' : MU} {g : Nat} (e0 : μ' 0 41 = μ 0 41) (e20 : μ' 20 g = μ 20 g) (e21 : μ' 21 g = μ 21 g) (e22 : μ' 22 g = μ 22 g) : clockM μ' g = clockM μ g := by
  unfold clockM
  rw [e0, e20, e21, e22]
theorem LVT_v {v v' μ μ' : MU} {g tt : Nat} (h : LVT v μ g tt) (ev : v' 5 = v 5) (e1 : ∀ k, 50 ≤ k → k < 53 → μ' 1 (55 * g + k) = μ 1 (55 * g + k)) (ec : clockM μ' g = clockM μ g) : LVT v' μ' g tt := by
  unfold LVT
  rw [ev, ec, e1 50 (by omega) (by omega), e1 51 (by omega) (by omega), e1 52 (by omega) (by omega)]
  exact h
def QQ (κ : K) (f i c B : Nat) (x : Int32) (q : Nat → Int32) : Prop := ∃ m, m ≤ B ∧ x = nI m ∧ NUM κ f i c m q
theorem QQ_v {κ κ' : K} {f i c B : Nat} {x x' : Int32} {q q' : Nat → Int32} (h : QQ κ f i c B x q) (e0 : kV κ' f i c 1 = kV κ f i c 1) (e1 : kV κ' f i (c + 1) = kV κ f i (c + 1)) (eN : kN κ' f i (c + 1) = kN κ f i (c + 1)) (ex : x' = x) (eq : ∀ k, k < B → q' k = q k) : QQ κ' f i c B x' q' := by
  obtain ⟨m, h1, h2, h3⟩ := h
  exact ⟨m, h1, ex.trans h2, NUM_q (NUM_K h3 e0 e1 eN) (fun k hk => (eq k (by omega)).symm)⟩
/-- a state that is kept -/
def KST (κ : K) (f i c : Nat) (r q : Nat → Int32) : Prop := (∀ k, k < 55 → rng k (r k)) ∧ MCH (mc (kV κ f i) (c + 1)) r ∧ TMR (kV κ f i c 6) (r 50) 0 ∧ kV κ f i c 7 = r 51 ∧ kV κ f i c 8 = r 52 ∧ kV κ f i c 9 = r 53 ∧ QQ κ f i (c + 5) 512 (r 54) q ∧ ∀ k, k < (r 54).toNatClampNeg → ∃ z, z < 10000 ∧ q k = nI z
theorem KST_v {κ κ' : K} {f i c : Nat} {r r' q q' : Nat → Int32} (h : KST κ f i c r q) (eV : ∀ j, j < 7 → kV κ' f i (c + j) = kV κ f i (c + j)) (eN : kN κ' f i (c + 6) = kN κ f i (c + 6)) (er : ∀ k, k < 55 → r' k = r k) (eq : ∀ k, k < 512 → q' k = q k) : KST κ' f i c r' q' := by
  obtain ⟨h1, h2, h3, h4, h5, h6, h7, h8⟩ := h
  have e0 : kV κ' f i c = kV κ f i c := eV 0 (by omega)
  have h54 : (r 54).toNatClampNeg ≤ 512 := by
    obtain ⟨m, m1, m2, _⟩ := h7
    rw [m2, nI_cl (by omega)]
    exact m1
  refine ⟨fun k hk => by rw [er k hk]; exact h1 k hk, ?_, by rw [e0, er 50 (by omega)]; exact h3, by rw [e0, er 51 (by omega)]; exact h4, by rw [e0, er 52 (by omega)]; exact h5, by rw [e0, er 53 (by omega)]; exact h6, QQ_v h7 (by rw [eV 5 (by omega)]) (eV 6 (by omega)) eN (er 54 (by omega)) eq, fun k hk => by rw [er 54 (by omega)] at hk; rw [eq k (by omega)]; exact h8 k hk⟩
  refine MCH_r (MCH_m h2 fun j hj => ?_) (fun k hk => er k (by omega))
  unfold mc
  have := eV (1 + j) (by omega)
  rw [← Nat.add_assoc] at this
  rw [this]
def FOL (κ : K) (μ : MU) (g : Nat) : Prop := kV κ 0 g 18 0 = μ 33 g ∧ (μ 33 g = 0 ∨ (μ 33 g = 1 ∧ kV κ 0 g 0 18 = 0 ∧ KST κ 0 g 19 (fun k => μ 3 (55 * g + k)) (fun k => μ 4 (512 * g + k))))
theorem FOL_v {κ κ' : K} {μ μ' : MU} {g : Nat} (h : FOL κ μ g) (e18 : kV κ' 0 g 18 = kV κ 0 g 18) (eV : ∀ j, j < 7 → kV κ' 0 g (19 + j) = kV κ 0 g (19 + j)) (eN : kN κ' 0 g 25 = kN κ 0 g 25) (e33 : μ' 33 g = μ 33 g) (e3 : ∀ k, k / 55 = g → μ' 3 k = μ 3 k) (e4 : ∀ k, k / 512 = g → μ' 4 k = μ 4 k) (eD : kV κ' 0 g 0 18 = kV κ 0 g 0 18) : FOL κ' μ' g := by
  refine ⟨by rw [e18, e33]; exact h.1, ?_⟩
  rw [e33]
  refine h.2.imp id (fun z => ⟨z.1, eD.trans z.2.1, KST_v z.2.2 eV eN (fun k hk => e3 _ (by omega)) (fun k hk => e4 _ (by omega))⟩)
def STN (κ : K) (f i c : Nat) : Prop := ∀ j, j = 5 ∨ j = 7 ∨ j = 9 ∨ j = 11 → ∃ s q, s ≤ 3000 ∧ NUM κ f i (c + j) s q
theorem STN_v {κ κ' : K} {f i c : Nat} (h : STN κ f i c) (eV : ∀ j, 5 ≤ j → j < 13 → kV κ' f i (c + j) = kV κ f i (c + j)) (eN : ∀ j, 5 ≤ j → j < 13 → kN κ' f i (c + j) = kN κ f i (c + j)) : STN κ' f i c := by
  intro j hj
  obtain ⟨s, q, h0, h1⟩ := h j hj
  have := eV (j + 1) (by omega) (by omega)
  have n1 := eN (j + 1) (by omega) (by omega)
  exact ⟨s, q, h0, NUM_K h1 (by rw [eV j (by omega) (by omega)]) this n1⟩
def RGX (κ : K) (μ : MU) (g tt : Nat) : Prop := SCA (kV κ 0 g) μ g ∧ EXI (kV κ 0 g) μ g ∧ BAR (kV κ 0 g) μ g ∧ SND (kV κ 0 g) μ g ∧ PRO (kV κ 0 g) μ g ∧ LVT (kV κ 0 g) μ g tt ∧ QQ κ 0 g 10 512 (μ 1 (55 * g + 54)) (fun k => μ 2 (512 * g + k)) ∧ QQ κ 0 g 36 3000 (μ 35 g) (fun k => μ 34 (3000 * g + k)) ∧ QQ κ 0 g 34 3000 (μ 37 g) (fun k => μ 36 (3000 * g + k)) ∧ QQ κ 0 g 32 512 (μ 6 g) (fun k => μ 5 (512 * g + k)) ∧ FOL κ μ g ∧ STN κ 0 g 19
theorem RGX_v {κ κ' : K} {μ μ' : MU} {g tt : Nat} (h : RGX κ μ g tt) (hE : EXI (kV κ' 0 g) μ' g) (hB : BAR (kV κ' 0 g) μ' g) (hS : SND (kV κ' 0 g) μ' g) (e0 : ∀ k, k ≠ 14 → k ≠ 15 → kV κ' 0 g 0 k = kV κ 0 g 0 k) (eV : ∀ c, c ≠ 0 → c ≠ 38 → c < 6 ∨ 10 ≤ c → kV κ' 0 g c = kV κ 0 g c) (eN : ∀ c, kN κ' 0 g c = kN κ 0 g c) (em : ∀ c k, (c ≠ 0 ∧ c < 38) → c ≠ 1 → c ≠ 25 → c ≠ 27 → c ≠ 28 → c ≠ 29 → c ≠ 30 → c ≠ 31 → k / wid c = g → μ' c k = μ c k) (e1 : ∀ k, 50 ≤ k → k < 55 → μ' 1 (55 * g + k) = μ 1 (55 * g + k)) (et : μ' 0 41 = μ 0 41) : RGX κ' μ' g tt := by
  obtain ⟨h1, h2, h3, h4, h5, h6, h7, h8, h9, h10, h11, h12⟩ := h
  have eg : ∀ c, (c ≠ 0 ∧ c < 38) → c ≠ 1 → c ≠ 25 → c ≠ 27 → c ≠ 28 → c ≠ 29 → c ≠ 30 → c ≠ 31 → wid c = 1 → μ' c g = μ c g := fun c a1 a2 a3 a4 a5 a6 a7 a8 a9 => em c g a1 a2 a3 a4 a5 a6 a7 a8 (by rw [a9, Nat.div_one])
  have ew : ∀ c, 6 ≤ c → c < 34 → c ≠ 13 → c ≠ 25 → wid c = 1 := fun c a1 a2 a3 a4 => by
    unfold wid
    rw [if_neg (by omega), if_neg (by omega), if_neg (by omega), if_neg (by omega), if_neg (by omega)]
  refine ⟨SCA_v h1 e0 (fun c a b d => eg c (by omega) (by omega) (by omega) (by omega) (by omega) (by omega) (by omega) (by omega) (ew c (by omega) (by omega) (by omega) (by omega))), hE, hB, hS, PRO_v h5 (fun c a b => eV c (by omega) (by omega) (by omega)) (eg 14 (by omega) (by omega) (by omega) (by omega) (by omega) (by omega) (by omega) (by omega) rfl) (fun k hk => em 13 k (by omega) (by omega) (by omega) (by omega) (by omega) (by omega) (by omega) (by omega) hk), LVT_v h6 (eV 5 (by omega) (by omega) (by omega)) (fun k a b => e1 k a (by omega)) (clock_e et (eg 20 (by omega) (by omega) (by omega) (by omega) (by omega) (by omega) (by omega) (by omega) rfl) (eg 21 (by omega) (by omega) (by omega) (by omega) (by omega) (by omega) (by omega) (by omega) rfl) (eg 22 (by omega) (by omega) (by omega) (by omega) (by omega) (by omega) (by omega) (by omega) rfl)), ?_, ?_, ?_, ?_, FOL_v h11 (eV 18 (by omega) (by omega) (by omega)) (fun j hj => eV _ (by omega) (by omega) (by omega)) (eN _) (eg 33 (by omega) (by omega) (by omega) (by omega) (by omega) (by omega) (by omega) (by omega) rfl) (fun k hk => em 3 k (by omega) (by omega) (by omega) (by omega) (by omega) (by omega) (by omega) (by omega) hk) (fun k hk => em 4 k (by omega) (by omega) (by omega) (by omega) (by omega) (by omega) (by omega) (by omega) hk) (e0 18 (by omega) (by omega)), STN_v h12 (fun j a b => eV _ (by omega) (by omega) (by omega)) (fun j a b => eN _)⟩
  · exact QQ_v h7 (by rw [eV 10 (by omega) (by omega) (by omega)]) (eV 11 (by omega) (by omega) (by omega)) (eN _) (e1 54 (by omega) (by omega)) (fun k hk => em 2 _ (by omega) (by omega) (by omega) (by omega) (by omega) (by omega) (by omega) (by omega) (by show (512 * g + k) / 512 = g; omega))
  · exact QQ_v h8 (by rw [eV 36 (by omega) (by omega) (by omega)]) (eV 37 (by omega) (by omega) (by omega)) (eN _) (eg 35 (by omega) (by omega) (by omega) (by omega) (by omega) (by omega) (by omega) (by omega) rfl) (fun k hk => em 34 _ (by omega) (by omega) (by omega) (by omega) (by omega) (by omega) (by omega) (by omega) (by show (3000 * g + k) / 3000 = g; omega))
  · exact QQ_v h9 (by rw [eV 34 (by omega) (by omega) (by omega)]) (eV 35 (by omega) (by omega) (by omega)) (eN _) (eg 37 (by omega) (by omega) (by omega) (by omega) (by omega) (by omega) (by omega) (by omega) rfl) (fun k hk => em 36 _ (by omega) (by omega) (by omega) (by omega) (by omega) (by omega) (by omega) (by omega) (by show (3000 * g + k) / 3000 = g; omega))
  · exact QQ_v h10 (by rw [eV 32 (by omega) (by omega) (by omega)]) (eV 33 (by omega) (by omega) (by omega)) (eN _) (eg 6 (by omega) (by omega) (by omega) (by omega) (by omega) (by omega) (by omega) (by omega) rfl) (fun k hk => em 5 _ (by omega) (by omega) (by omega) (by omega) (by omega) (by omega) (by omega) (by omega) (by show (512 * g + k) / 512 = g; omega))
/-- what another guest's doing leaves of a guest -/
theorem RGX_n {κ κ' : K} {μ μ' : MU} {g g2 tt : Nat} (h : RGX κ μ g tt) (hne : g2 ≠ g) (hO : OWN μ μ' g2) (hB : ∀ p, p < 8 → (μ' 27 (8 * g + p) = 0 ↔ μ 27 (8 * g + p) = 0)) (eV : kV κ' 0 g = kV κ 0 g) (eN : ∀ c, kN κ' 0 g c = kN κ 0 g c) : RGX κ' μ' g tt := by
  have em : ∀ c k, c ≠ 27 → c ≠ 28 → c ≠ 29 → k / wid c = g → μ' c k = μ c k := fun c k a b d e => hO.2.2 c k a b d (by rw [e]; exact Ne.symm hne)
  have eg : ∀ c, c ≠ 27 → c ≠ 28 → c ≠ 29 → wid c = 1 → μ' c g = μ c g := fun c a b d e => em c g a b d (by rw [e, Nat.div_one])
  refine RGX_v h ?_ ?_ ?_ (fun k _ _ => by rw [eV]) (fun c _ _ _ => by rw [eV]) eN (fun c k _ _ _ a b d _ _ e => em c k a b d e) (fun k a b => em 1 _ (by omega) (by omega) (by omega) (by show (55 * g + k) / 55 = g; omega)) (by rw [hO.1])
  · exact EXI_v h.2.1 (by rw [eV]) (fun k hk => em 25 _ (by omega) (by omega) (by omega) (by show (6 * g + k) / 6 = g; omega))
  · exact BAR_v h.2.2.1 (by rw [eV]) hB
  · exact SND_v h.2.2.2.1 (by rw [eV]) (eg 30 (by omega) (by omega) (by omega) rfl) (eg 31 (by omega) (by omega) (by omega) rfl)
theorem MCH_n {κ κ' : K} {μ μ' : MU} {g g2 : Nat} (h : MCH (mc (kV κ 0 g) 6) (row μ g)) (hne : g2 ≠ g) (hO : OWN μ μ' g2) (eV : kV κ' 0 g = kV κ 0 g) : MCH (mc (kV κ' 0 g) 6) (row μ' g) := by
  rw [eV]
  exact MCH_r h (fun k hk => hO.2.2 1 _ (by omega) (by omega) (by omega) (by show (55 * g + k) / 55 ≠ g2; omega))
