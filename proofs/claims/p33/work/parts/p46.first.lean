def gini (k : Nat) : Int32 := if k = 5 ∨ k = 50 then -1 else if 9 ≤ k ∧ k < 17 then nI (k - 9) else 0
def NEW (μ : MU) (n : Nat) : Prop := (∀ k, k < 55 → μ 1 (55 * n + k) = gini k) ∧ (∀ c k, c ≠ 0 → c < 38 → ¬ (7 ≤ c ∧ c ≤ 10) → ¬ (27 ≤ c ∧ c ≤ 29) → c ≠ 1 → c ≠ 12 → c ≠ 15 → c ≠ 16 → c ≠ 17 → c ≠ 20 → c ≠ 21 → c ≠ 22 → k / wid c = n → μ c k = 0) ∧ (∀ p, p < 8 → μ 27 (8 * n + p) = 0 ∧ μ 28 (8 * n + p) = -1)
theorem NEW.z {μ : MU} {n c : Nat} (h : NEW μ n) (h1 : c ≠ 0 ∧ c < 38 ∧ ¬ (7 ≤ c ∧ c ≤ 10) ∧ ¬ (27 ≤ c ∧ c ≤ 29) ∧ c ≠ 1 ∧ c ≠ 12 ∧ c ≠ 15 ∧ c ≠ 16 ∧ c ≠ 17 ∧ c ≠ 20 ∧ c ≠ 21 ∧ c ≠ 22) (hw : wid c = 1) : μ c n = 0 := h.2.1 c n h1.1 h1.2.1 h1.2.2.1 h1.2.2.2.1 h1.2.2.2.2.1 h1.2.2.2.2.2.1 h1.2.2.2.2.2.2.1 h1.2.2.2.2.2.2.2.1 h1.2.2.2.2.2.2.2.2.1 h1.2.2.2.2.2.2.2.2.2.1 h1.2.2.2.2.2.2.2.2.2.2.1 h1.2.2.2.2.2.2.2.2.2.2.2 (by rw [hw, Nat.div_one])
def HELD (κ : K) (n m h : Nat) (w s : Int32) : Prop := ∀ c, c < 39 → (∀ k, kV κ 0 n c k = rvI ((cX1 m (nI n) h w s).getD c rz) k) ∧ kN κ 0 n c = rvN ((cX1 m (nI n) h w s).getD c rz) ∧ ∀ k, kP κ 0 n c k = rvP ((cX1 m (nI n) h w s).getD c rz) k
theorem held_num {κ : K} {n m h : Nat} {w s : Int32} (hh : HELD κ n m h w s) {c : Nat} (hc : c = 10 ∨ c = 12 ∨ c = 14 ∨ c = 16 ∨ c = 24 ∨ c = 26 ∨ c = 28 ∨ c = 30 ∨ c = 32 ∨ c = 34 ∨ c = 36) {q : Nat → Int32} : NUM κ 0 n c 0 q := by
  refine ⟨?_, Nat.zero_le _, ?_, fun k hk => absurd hk (Nat.not_lt_zero k)⟩
  · rw [(hh c (by omega)).1]
    rcases hc with rfl | rfl | rfl | rfl | rfl | rfl | rfl | rfl | rfl | rfl | rfl <;> rfl
  · rw [(hh (c + 1) (by omega)).2.1]
    have : rvN ((cX1 m (nI n) h w s).getD (c + 1) rz) = 8 := by
      rcases hc with rfl | rfl | rfl | rfl | rfl | rfl | rfl | rfl | rfl | rfl | rfl <;> rfl
    rw [this]
    exact CAP_8
theorem held_mc {κ : K} {n m h : Nat} {w s : Int32} (hh : HELD κ n m h w s) : (∀ k, kV κ 0 n 6 k = if k = 4 then -1 else 0) ∧ (∀ k, kV κ 0 n 7 k = 0) ∧ (∀ k, k < 8 → kV κ 0 n 8 k = nI k) ∧ ∀ k, kV κ 0 n 9 k = 0 := by
  refine ⟨fun k => ?_, fun k => ?_, fun k hk => ?_, fun k => ?_⟩
  · rw [(hh 6 (by omega)).1]
    rcases k with _ | _ | _ | _ | _ | _ | _ | _ | _ | k <;> rfl
  · rw [(hh 7 (by omega)).1]; rfl
  · rw [(hh 8 (by omega)).1]
    obtain rfl | rfl | rfl | rfl | rfl | rfl | rfl | rfl : k = 0 ∨ k = 1 ∨ k = 2 ∨ k = 3 ∨ k = 4 ∨ k = 5 ∨ k = 6 ∨ k = 7 := by omega
    all_goals rfl
  · rw [(hh 9 (by omega)).1]; rfl
theorem gini_r {k : Nat} (hk : k < 55) : rng k (gini k) := by
  unfold gini
  by_cases a : k = 5 ∨ k = 50
  · rw [if_pos a]; exact Or.inl ⟨rfl, by omega⟩
  · rw [if_neg a]
    by_cases b : 9 ≤ k ∧ k < 17
    · rw [if_pos b]; exact rng_n (by unfold lim; (repeat' split) <;> omega)
    · rw [if_neg b]; exact Or.inr ⟨0, rfl, by unfold lim; (repeat' split) <;> omega⟩
theorem RG_first {κ : K} {μ : MU} {n m h t : Nat} {w s : Int32} (hh : HELD κ n m h w s) (hN : NEW μ n) (e16 : μ 16 n = w) (e17 : μ 17 n = s) (e20 : μ 20 n = 1) (e21 : μ 21 n = 0) (e22 : μ 22 n = μ 0 41) (hs : s = 0 ∨ s = 1) : RG κ μ n t := by
  have v0 : ∀ k, kV κ 0 n 0 k = rvI ((cX1 m (nI n) h w s).getD 0 rz) k := (hh 0 (by omega)).1
  have v5 : ∀ k, kV κ 0 n 5 k = rvI ((cX1 m (nI n) h w s).getD 5 rz) k := (hh 5 (by omega)).1
  have r1 : ∀ k, k < 55 → μ 1 (55 * n + k) = gini k := hN.1
  obtain ⟨m6, m7, m8, m9⟩ := held_mc hh
  have z0 : (0 : Int32) = nI 0 := rfl
  refine ⟨⟨?_, ?_, ?_, ?_, ?_, ?_, ⟨0, by omega, r1 54 (by omega), held_num hh (by omega)⟩, ⟨0, by omega, hN.z (by omega) rfl, held_num hh (by omega)⟩, ⟨0, by omega, hN.z (by omega) rfl, held_num hh (by omega)⟩, ⟨0, by omega, hN.z (by omega) rfl, held_num hh (by omega)⟩, ⟨?_, Or.inl (hN.z (by omega) rfl)⟩, fun j hj => ⟨0, fun _ => 0, by omega, held_num hh (by omega)⟩⟩, ?_, ?_, ?_⟩
  · refine ⟨by rw [v0]; rfl, by rw [v0, e16]; rfl, ?_, by rw [v0, e20]; rfl, by rw [v0, hN.z (c := 23) (by omega) rfl]; rfl, by rw [v0, hN.z (c := 32) (by omega) rfl]; rfl, by rw [v0, hN.z (c := 18) (by omega) rfl]; rfl, by rw [v0, hN.z (c := 19) (by omega) rfl]; rfl⟩
    rw [v0, e17]
    rfl
  · intro k hk
    rw [(hh 38 (by omega)).1, hN.2.1 25 (6 * n + k) (by omega) (by omega) (by omega) (by omega) (by omega) (by omega) (by omega) (by omega) (by omega) (by omega) (by omega) (by omega) (by show (6 * n + k) / 6 = n; omega)]
    rfl
  · refine ⟨255, by omega, by rw [v0]; rfl, fun p hp => ⟨fun _ => (hN.2.2 p hp).1, fun _ => ?_⟩⟩
    obtain rfl | rfl | rfl | rfl | rfl | rfl | rfl | rfl : p = 0 ∨ p = 1 ∨ p = 2 ∨ p = 3 ∨ p = 4 ∨ p = 5 ∨ p = 6 ∨ p = 7 := by omega
    all_goals rfl
  · exact Or.inl ⟨hN.z (by omega) rfl, by rw [v0]; rfl⟩
  · refine ⟨by rw [(hh 1 (by omega)).1, hN.z (c := 14) (by omega) rfl]; rfl, fun k hk => ⟨?_, ?_, ?_⟩⟩
    · rw [(hh 2 (by omega)).1, hN.2.1 13 (72 * n + 3 * k) (by omega) (by omega) (by omega) (by omega) (by omega) (by omega) (by omega) (by omega) (by omega) (by omega) (by omega) (by omega) (by show (72 * n + 3 * k) / 72 = n; omega)]
      rfl
    · rw [(hh 3 (by omega)).1, hN.2.1 13 (72 * n + 3 * k + 1) (by omega) (by omega) (by omega) (by omega) (by omega) (by omega) (by omega) (by omega) (by omega) (by omega) (by omega) (by omega) (by show (72 * n + 3 * k + 1) / 72 = n; omega)]
      rfl
    · rw [(hh 4 (by omega)).1, hN.2.1 13 (72 * n + 3 * k + 2) (by omega) (by omega) (by omega) (by omega) (by omega) (by omega) (by omega) (by omega) (by omega) (by omega) (by omega) (by omega) (by show (72 * n + 3 * k + 2) / 72 = n; omega)]
      rfl
  · refine ⟨Or.inl ⟨r1 50 (by omega), by rw [v5]; rfl⟩, by rw [v5, r1 51 (by omega)]; rfl, by rw [v5, r1 52 (by omega)]; rfl, ?_⟩
    unfold clockM
    rw [e20, e21, e22, v5, show μ 0 41 - μ 0 41 = 0 from Int32.sub_self _]
    rfl
  · rw [(hh 18 (by omega)).1, hN.z (c := 33) (by omega) rfl]; rfl
  · refine ⟨fun k hk => ?_, ?_, ?_, ?_, ?_, ?_, ?_, fun k hk => ?_, fun k hk => ?_⟩
    · show kV κ 0 n 7 k = μ 1 (55 * n + k)
      rw [m7, r1 k (by omega)]
      unfold gini
      rw [if_neg (by omega), if_neg (by omega)]
    · show kV κ 0 n 6 3 = μ 1 (55 * n + 4)
      rw [m6, r1 4 (by omega)]; rfl
    · show kV κ 0 n 6 4 = μ 1 (55 * n + 5)
      rw [m6, r1 5 (by omega)]; rfl
    · show kV κ 0 n 6 5 = μ 1 (55 * n + 6)
      rw [m6, r1 6 (by omega)]; rfl
    · show kV κ 0 n 6 6 = μ 1 (55 * n + 7)
      rw [m6, r1 7 (by omega)]; rfl
    · show kV κ 0 n 6 7 = μ 1 (55 * n + 8)
      rw [m6, r1 8 (by omega)]; rfl
    · show kV κ 0 n 6 8 = μ 1 (55 * n + 49)
      rw [m6, r1 49 (by omega)]; rfl
    · show kV κ 0 n 8 k = vw (μ 1 (55 * n + (9 + k)))
      rw [m8 k hk, r1 _ (by omega)]
      have e : gini (9 + k) = nI k := by
        unfold gini
        rw [if_neg (by omega), if_pos (by omega), show 9 + k - 9 = k from by omega]
      rw [e]
      unfold vw
      rw [if_neg (by rw [nI_m1 (by omega)]; exact id)]
    · show kV κ 0 n 9 k = μ 1 (55 * n + (17 + k))
      rw [m9, r1 _ (by omega)]
      unfold gini
      rw [if_neg (by omega), if_neg (by omega)]
  · rw [v0, hN.z (c := 24) (by omega) rfl]; rfl
  · refine ⟨0, 0, 0, 0, fun _ => 0, fun _ => 0, fun _ => 0, 0, ⟨held_num hh (by omega), held_num hh (by omega), held_num hh (by omega)⟩, by rw [v5]; rfl, by omega, by omega, by omega, by rw [v0]; rfl, by omega, by omega, Or.inr ⟨by rw [v0]; rfl, fun _ => initM, fun _ => 0, fun _ => 0, fun _ => 0, MEQ_j fun _ _ => rfl, rfl, rfl, rfl, fun s hs => absurd hs (Nat.not_lt_zero s), ⟨fun j k hj hne => ?_, Or.inl ?_⟩, rfl, rfl, rfl⟩⟩
    · show kV κ 0 n (6 + j) k = initM j k
      unfold initM
      rcases hj with ⟨rfl, _, _⟩ | ⟨rfl, _⟩ | ⟨rfl, hk⟩ | ⟨rfl, _⟩
      · rw [m6]
        by_cases z : k = 4
        · rw [if_pos z, if_pos ⟨rfl, z⟩]
        · rw [if_neg z, if_neg (by omega), if_neg (by omega)]
      · rw [m7, if_neg (by omega), if_neg (by omega)]
      · rw [m8 k hk, if_neg (by omega), if_pos rfl]
      · rw [m9, if_neg (by omega), if_neg (by omega)]
    · show kV κ 0 n 6 8 = initM 0 8
      rw [m6]
      rfl
/-- nothing points beyond what there is -/
theorem fsp_in {a k F co : Nat} (h : fsp a k = (2, F, co)) : (a = 2 ∧ k = 8 ∧ F = 2) ∨ (a = 2 ∧ k = 9 ∧ F = 1) ∨ (a = 3 ∧ k = 6 ∧ F = 0) ∨ (a = 7 ∧ k = 1 ∧ F = 0) ∨ (a = 8 ∧ k = 0 ∧ F = 0) ∨ (a = 8 ∧ k = 1 ∧ F = 9) := by
  unfold fsp at h
  split at h <;> (injection h with h1 h2; first | exact absurd h1 (by decide) | (injection h2 with h3 h4; subst h3; decide))
theorem kd_2 : ∀ f, f < 10 → ∀ c, c < 41 → kd f c = 2 → f = 0 ∧ c = 0 := by decide +kernel
theorem kd_3 : ∀ f, f < 10 → ∀ c, c < 41 → kd f c = 3 → f = 2 ∧ c = 0 := by decide +kernel
theorem kd_7 : ∀ f, f < 10 → ∀ c, c < 41 → kd f c = 7 → f = 3 ∧ c = 0 := by decide +kernel
theorem kd_8 : ∀ f, f < 10 → ∀ c, c < 41 → kd f c = 8 → f = 1 ∧ c = 0 := by decide +kernel
theorem kd_in {f c : Nat} (hf : f < 10) (hc : c < 41) : (kd f c = 2 → f = 0 ∧ c = 0) ∧ (kd f c = 3 → f = 2 ∧ c = 0) ∧ (kd f c = 7 → f = 3 ∧ c = 0) ∧ (kd f c = 8 → f = 1 ∧ c = 0) := ⟨kd_2 f hf c hc, kd_3 f hf c hc, kd_7 f hf c hc, kd_8 f hf c hc⟩
theorem cmp_in : ∀ f, f < 10 → cmpN f ≤ 41 := by decide
theorem live_in {E : EE} {f i c : Nat} (h : liveC E f i c = true) : i < cntE E f ∧ f < 10 ∧ c < 41 ∧ (f = 4 → c < 6 ∧ (4 ≤ c → 0 < cnt4 E (c - 3))) := by
  unfold liveC at h
  simp only [Bool.and_eq_true, decide_eq_true_eq, Bool.or_eq_true] at h
  obtain ⟨⟨h1, h2, _⟩, h3⟩ := h
  have hf : f < 10 := by
    rcases f with _ | _ | _ | _ | _ | _ | _ | _ | _ | _ | f
    all_goals first | omega | exact absurd h2 (Nat.not_lt_zero c)
  refine ⟨h1, hf, by have := cmp_in f hf; omega, fun z => ?_⟩
  subst z
  exact ⟨h2, fun z => by rcases h3 with (z2 | z2) | z2 <;> omega⟩
theorem DG_all {E : EE} {κ : K} {μ : MU} {n ns t C : Nat} (hR : REL E κ μ n ns t C) : DGF E κ 0 n ∧ DGF E κ 9 ns ∧ DGF E κ 1 ns ∧ ∀ j, DGF E κ 3 j := by
  obtain ⟨⟨rfl, rfl, hO, h9⟩, ⟨q1, q2, q3, q4, q5⟩, ⟨M1, M2, M3, M4, M5⟩, _⟩ := hR
  have hH : E.2.2.2.1 = 1 := hO.2.2.2.1
  have c0 : cntE E 0 = E.1 := rfl
  have c1 : cntE E 1 = E.2.1 := rfl
  have c2 : cntE E 2 = 2 * E.2.2.2.1 := rfl
  have c4 : cntE E 4 = E.2.2.2.1 := rfl
  have ptr : ∀ F j, (F = 0 → j = E.1) → (F = 9 → j = E.2.1) → (F = 1 → j = E.2.1) → F ≠ 2 → ∀ f i c k co : Nat, liveC E f i c = true → f ≠ 8 → fsp (kd f c) k = (2, F, co) → kP κ f i c k ≠ some j := by
    intro F j j0 j9 j1 j2 f i c k co hl _ hs
    obtain ⟨l1, l2, l3, _⟩ := live_in hl
    obtain ⟨k2, k3, k7, k8⟩ := kd_in l2 l3
    rcases fsp_in hs with ⟨a, b, d⟩ | ⟨a, b, d⟩ | ⟨a, b, d⟩ | ⟨a, b, d⟩ | ⟨a, b, d⟩ | ⟨a, b, d⟩
    · exact absurd d j2
    · obtain ⟨rfl, rfl⟩ := k2 a
      subst b
      rcases (M4 i (by omega)).2.1.2 with ⟨_, z⟩ | ⟨s, z1, _, z2⟩
      · rw [z]; exact fun y => by cases y
      · rw [z2]; intro y; injection y with y; have := j1 d; omega
    · obtain ⟨rfl, rfl⟩ := k3 a
      subst b
      rcases (M3 i (by omega)).2.2.2.2.2 with ⟨_, z⟩ | ⟨s, z1, _, z2⟩
      · rw [z]; exact fun y => by cases y
      · rw [z2]; intro y; injection y with y; have := j0 d; omega
    · obtain ⟨rfl, rfl⟩ := k7 a
      subst b
      obtain ⟨g, z1, z2⟩ := h9.2 i l1
      rw [z2]; intro y; injection y with y; have := j0 d; omega
    · obtain ⟨rfl, rfl⟩ := k8 a
      subst b
      obtain ⟨g, z1, z2, _⟩ := M5 i (by omega)
      rw [z2]; intro y; injection y with y; have := j0 d; omega
    · obtain ⟨rfl, rfl⟩ := k8 a
      subst b
      obtain ⟨g, z1, _, z2, _⟩ := M5 i (by omega)
      rw [z2]; intro y; injection y with y; have := j9 d; omega
  have lst : ∀ F j, (F = 0 → j = E.1) → (F = 1 → j = E.2.1) → ∀ i c k : Nat, liveC E 4 i c = true → kd 4 c = 24 → c - 4 = F → kP κ 4 i c k ≠ some j := by
    intro F j j0 j1 i c k hl hk hc
    obtain ⟨l1, l2, l3, l4⟩ := live_in hl
    obtain ⟨l5, l6⟩ := l4 rfl
    have hi : i = 0 := by omega
    subst hi
    have h4 : 4 ≤ c := by
      have : c = 0 ∨ c = 1 ∨ c = 2 ∨ c = 3 ∨ 4 ≤ c := by omega
      rcases this with rfl | rfl | rfl | rfl | z
      · exact absurd hk (by decide)
      · exact absurd hk (by decide)
      · exact absurd hk (by decide)
      · exact absurd hk (by decide)
      · exact z
    obtain rfl | rfl : c = 4 ∨ c = 5 := by omega
    · by_cases z : E.1 = 0
      · have a := (q1.2.1 z).1
        have b : 0 < cnt4 E 1 := l6 h4
        omega
      · rw [(q1.2.2 (by omega)).2.2 k]
        have := j0 hc.symm
        by_cases y : k < E.1
        · rw [if_pos y]; intro x; injection x with x; omega
        · rw [if_neg y]; exact fun x => by cases x
    · by_cases z : E.2.1 = 0
      · have a := (q2.2.1 z).1
        have b : 0 < cnt4 E 2 := l6 h4
        omega
      · rw [(q2.2.2 (by omega)).2.2 k]
        have := j1 hc.symm
        by_cases y : k < E.2.1
        · rw [if_pos y]; intro x; injection x with x; omega
        · rw [if_neg y]; exact fun x => by cases x
  exact ⟨⟨ptr 0 _ (fun _ => rfl) (by omega) (by omega) (by omega), lst 0 _ (fun _ => rfl) (by omega)⟩, ⟨ptr 9 _ (by omega) (fun _ => rfl) (by omega) (by omega), lst 9 _ (by omega) (by omega)⟩, ⟨ptr 1 _ (by omega) (by omega) (fun _ => rfl) (by omega), lst 1 _ (by omega) (fun _ => rfl)⟩, fun j => ⟨ptr 3 j (by omega) (by omega) (by omega) (by omega), lst 3 j (by omega) (by omega)⟩⟩
theorem lsOK_of {E : EE} {κ : K} {c n : Nat} (h : LsI E κ c n) (hn : n < 10) : lsOK E κ c := by
  by_cases e : n = 0
  · exact Or.inl ⟨(h.2.1 e).1, (h.2.1 e).2, by rw [h.1, e]; rfl⟩
  · exact Or.inr ⟨(h.2.2 (by omega)).1, (h.2.2 (by omega)).2.1, by rw [h.1]; exact nI_in hn (by omega)⟩
