/-! pages unlike those of the one before -/
def ulk (W B : Nat → Int32) (p : Nat) : Bool := !decide (W (4 * p + 0) = B (4 * p + 0) ∧ W (4 * p + 1) = B (4 * p + 1) ∧ W (4 * p + 2) = B (4 * p + 2) ∧ W (4 * p + 3) = B (4 * p + 3))
theorem ulk_t {W B : Nat → Int32} {p : Nat} (h : ∀ k, k < 4 → W (4 * p + k) = B (4 * p + k)) : ulk W B p = false := by
  unfold ulk
  rw [decide_eq_true ⟨h 0 (by omega), h 1 (by omega), h 2 (by omega), h 3 (by omega)⟩]
  rfl
theorem ulk_f {W B : Nat → Int32} {p k : Nat} (hk : k < 4) (h : ¬ W (4 * p + k) = B (4 * p + k)) : ulk W B p = true := by
  unfold ulk
  rw [decide_eq_false ?_]
  · rfl
  · rintro ⟨h0, h1, h2, h3⟩
    obtain rfl | rfl | rfl | rfl : k = 0 ∨ k = 1 ∨ k = 2 ∨ k = 3 := by omega
    · exact h h0
    · exact h h1
    · exact h h2
    · exact h h3
theorem ulk_g {W B : Nat → Int32} {p : Nat} (h : ¬ ∀ k, k < 4 → W (4 * p + k) = B (4 * p + k)) : ulk W B p = true := by
  by_cases e : ulk W B p = true
  · exact e
  · exact absurd (fun k hk => by
      by_cases z : W (4 * p + k) = B (4 * p + k)
      · exact z
      · exact absurd (ulk_f hk z) e) h
theorem c_alk {E : EE} {κ : K} {P1 P2 : Pl} {W B : Nat → Int32} {p : Nat} (h1 : kA E κ P1 = some (32, W)) (h2 : kA E κ P2 = some (32, B)) (hp : p < 8) : f_X10_arePagesAlike E κ P1 (nI p) P2 (nI p) = some (κ, if ulk W B p = true then 0 else 1) := by
  have ix : ∀ k, (nI p : Int32) * 4 + nI k = nI (4 * p + k) := fun k => by rw [l4, nI_mul, nI_add, Nat.mul_comm]
  have l1 : ∀ d k m, k + d = 4 → d < m → (∀ j, j < k → W (4 * p + j) = B (4 * p + j)) → f_X10_arePagesAlike_b3 E P1 P2 m κ (nI p) (nI p) (nI k) = some (κ, if ulk W B p = true then 0 else 1) := by
    intro d
    induction d with
    | zero =>
      intro k m hk hm hz
      obtain ⟨m, rfl⟩ : ∃ q, m = q + 1 := ⟨m - 1, by omega⟩
      rw [f_X10_arePagesAlike_b3, if_pos (by rw [l4, nI_le' (by omega) (by omega)]; omega), ulk_t (fun j hj => hz j (by omega)), if_neg (by decide)]
    | succ d ih =>
      intro k m hk hm hz
      obtain ⟨m, rfl⟩ : ∃ q, m = q + 1 := ⟨m - 1, by omega⟩
      rw [f_X10_arePagesAlike_b3, if_neg (by rw [l4, nI_le' (by omega) (by omega)]; omega), h1, tmpG_s, ix k, nI_cl (by omega), gdi (by omega), h2, tmpG_s, gdi (by omega)]
      by_cases e : W (4 * p + k) = B (4 * p + k)
      · rw [if_pos e, nmE, nI_1]
        exact ih (k + 1) m (by omega) (by omega) (fun j hj => by
          by_cases z : j = k
          · rw [z]; exact e
          · exact hz j (by omega))
      · rw [if_neg e, ulk_f (k := k) (by omega) e, if_pos rfl]
  have := l1 4 0 FU (by omega) (by unfold FU; omega) (fun j hj => absurd hj (by omega))
  rw [nI_0] at this
  rw [f_X10_arePagesAlike, f_X10_arePagesAlike_e, this, bd_s]
  split
  · exact gd_t (Or.inl rfl)
  · exact gd_t (Or.inr rfl)
theorem cnt_s {q : Nat → Bool} {n : Nat} : cntU q (n + 1) = cntU q n + (if q n = true then 1 else 0) := rfl
theorem c_unlike {E : EE} {κ : K} {f0 i0 c0 f1 i1 c1 : Nat} {W B : Nat → Int32} (h1 : kA E κ (f0, i0, c0 + 4) = some (32, W)) (h2 : kA E κ (f1, i1, c1 + 4) = some (32, B)) : f_X8_countPagesUnlike E κ f0 i0 c0 f1 i1 c1 = some (κ, nI (cntU (ulk W B) 8)) := by
  have l1 : ∀ d p m, p + d = 8 → d < m → f_X8_countPagesUnlike_b33 E f0 i0 c0 f1 i1 c1 m κ (nI (cntU (ulk W B) p)) (nI p) = some (κ, nI (cntU (ulk W B) 8)) := by
    intro d
    induction d with
    | zero =>
      intro p m hp hm
      obtain ⟨m, rfl⟩ : ∃ q, m = q + 1 := ⟨m - 1, by omega⟩
      obtain rfl : p = 8 := by omega
      rw [f_X8_countPagesUnlike_b33, if_pos (by decide)]
    | succ d ih =>
      intro p m hp hm
      obtain ⟨m, rfl⟩ : ∃ q, m = q + 1 := ⟨m - 1, by omega⟩
      have := ih (p + 1) m (by omega) (by omega)
      rw [f_X8_countPagesUnlike_b33, if_neg (by rw [l8, nI_le' (by omega) (by omega)]; omega), c_alk h1 h2 (by omega), bd_s]
      rw [cnt_s] at this
      by_cases e : ulk W B p = true
      · rw [if_pos e] at this
        rw [if_pos e, if_pos rfl, nmE, f_X8_countPagesUnlike_b55, nmE, nI_1, nI_1]
        exact this
      · rw [if_neg e, Nat.add_zero] at this
        rw [if_neg e, if_neg (by decide), f_X8_countPagesUnlike_b55, nmE, nI_1]
        exact this
  have := l1 8 0 FU (by omega) (by unfold FU; omega)
  rw [show nI (cntU (ulk W B) 0) = 0 from rfl, nI_0] at this
  rw [f_X8_countPagesUnlike, f_X8_countPagesUnlike_b26, this]
theorem c_unlikeN {E : EE} {κ : K} {f0 i0 c0 : Nat} {W : Nat → Int32} (h1 : kA (upR E (eR E ++ [.inr (0, 32, .inl fun _ => 0)])) (addC κ 1 32) (f0, i0, c0 + 4) = some (32, W)) : f_X8_countPagesUnlike_N E κ f0 i0 c0 = some (addC κ 1 32, nI (cntU (ulk W (fun _ => 0)) 8)) := by
  have h2 : kA (upR E (eR E ++ [.inr (0, 32, .inl fun _ => 0)])) (addC κ 1 32) (8, (eR E).length, 0) = some (32, fun _ => 0) := by
    have e : eR (upR E (eR E ++ [.inr (0, 32, .inl fun _ => 0)])) = eR E ++ [.inr (0, 32, .inl fun _ => 0)] := rfl
    unfold kA
    rw [if_neg (fun z => by cases z), if_pos rfl, if_pos rfl, e, List.getElem?_append_right (Nat.le_refl _), Nat.sub_self]
    rfl
  have l1 : ∀ d p m, p + d = 8 → d < m → f_X8_countPagesUnlike_N_b33 (upR E (eR E ++ [.inr (0, 32, .inl fun _ => 0)])) f0 i0 c0 m (addC κ 1 32) (8, (eR E).length, 0) (nI (cntU (ulk W (fun _ => 0)) p)) (nI p) = some (addC κ 1 32, nI (cntU (ulk W (fun _ => 0)) 8)) := by
    intro d
    induction d with
    | zero =>
      intro p m hp hm
      obtain ⟨m, rfl⟩ : ∃ q, m = q + 1 := ⟨m - 1, by omega⟩
      obtain rfl : p = 8 := by omega
      rw [f_X8_countPagesUnlike_N_b33, if_pos (by decide)]
    | succ d ih =>
      intro p m hp hm
      obtain ⟨m, rfl⟩ : ∃ q, m = q + 1 := ⟨m - 1, by omega⟩
      have := ih (p + 1) m (by omega) (by omega)
      rw [f_X8_countPagesUnlike_N_b33, if_neg (by rw [l8, nI_le' (by omega) (by omega)]; omega), c_alk h1 h2 (by omega), bd_s]
      rw [cnt_s] at this
      by_cases e : ulk W (fun _ => 0) p = true
      · rw [if_pos e] at this
        rw [if_pos e, if_pos rfl, nmE, f_X8_countPagesUnlike_N_b55, nmE, nI_1, nI_1]
        exact this
      · rw [if_neg e, Nat.add_zero] at this
        rw [if_neg e, if_neg (by decide), f_X8_countPagesUnlike_N_b55, nmE, nI_1]
        exact this
  have := l1 8 0 FU (by omega) (by unfold FU; omega)
  rw [show nI (cntU (ulk W (fun _ => 0)) 0) = 0 from rfl, nI_0] at this
  rw [f_X8_countPagesUnlike_N, nmE, f_X8_countPagesUnlike_N_b26, this]
/-! the model -/
def BAS (μ : MU) (g : Nat) (B : Nat → Int32) : Prop := (μ 12 g = -1 ∧ ∀ k, k < 32 → B k = 0) ∨ ∃ s, s < 10 ∧ μ 12 g = nI s ∧ ∀ k, k < 32 → μ 7 (55 * s + 17 + k) = B k
theorem m_pg {E : EE} {κ : K} {k107 : K → Int32 → Int32 → Int32 → Option (K × Int32)} {g p : Nat} {W B : Nat → Int32} {x3 : Int32} (hg : g < 5) (hp : p < 8) (hW : ∀ k, k < 32 → kV κ 5 0 1 (55 * g + 17 + k) = W k) (hB : BAS (kV κ 5 0) g B) : ∀ (d k m : Nat) (f : Bool), k + d = 4 → d < m → (f = true ↔ ∀ j, j < k → W (4 * p + j) = B (4 * p + j)) → f_X11_snapshot_b123 E k107 m κ (nI g) x3 (nI p) (if f = true then 1 else 0) (nI (4 * p + k)) = f_X11_snapshot_b204 E k107 κ (nI g) x3 (nI p) (if ulk W B p = true then 0 else 1) := by
  intro d
  induction d with
  | zero =>
    intro k m f hk hm hf
    obtain ⟨m, rfl⟩ : ∃ q, m = q + 1 := ⟨m - 1, by omega⟩
    obtain rfl : k = 4 := by omega
    rw [f_X11_snapshot_b123, l4, nI_mul, nI_add, if_pos (by rw [nI_le' (by omega) (by omega)]; omega)]
    by_cases e : f = true
    · rw [if_pos e, ulk_t (hf.mp e), if_neg (by decide)]
    · rw [if_neg e]
      have : ulk W B p = true := ulk_g (fun z => e (hf.mpr z))
      rw [if_pos this]
  | succ d ih =>
    intro k m f hk hm hf
    obtain ⟨m, rfl⟩ : ∃ q, m = q + 1 := ⟨m - 1, by omega⟩
    have step : ∀ (f' : Bool), (f' = true ↔ f = true ∧ W (4 * p + k) = B (4 * p + k)) → f_X11_snapshot_b123 E k107 m κ (nI g) x3 (nI p) (if f' = true then 1 else 0) (nI (4 * p + (k + 1))) = f_X11_snapshot_b204 E k107 κ (nI g) x3 (nI p) (if ulk W B p = true then 0 else 1) := fun f' hf' => ih (k + 1) m f' (by omega) (by omega) (hf'.trans ⟨fun z j hj => by
      by_cases y : j = k
      · rw [y]; exact z.2
      · exact hf.mp z.1 j (by omega), fun z => ⟨hf.mpr (fun j hj => z j (by omega)), z k (by omega)⟩⟩)
    rw [f_X11_snapshot_b123, l4, nI_mul, nI_add, if_neg (by rw [nI_le' (by omega) (by omega)]; omega)]
    by_cases e : f = true
    · have fin : ∀ y : Int32, y = B (4 * p + k) → f_X11_snapshot_b188 E k107 (f_X11_snapshot_b123 E k107 m) κ (nI g) x3 (nI p) (nI (4 * p + k)) y (W (4 * p + k)) = f_X11_snapshot_b204 E k107 κ (nI g) x3 (nI p) (if ulk W B p = true then 0 else 1) := fun y hy => by
        rw [f_X11_snapshot_b188, hy]
        by_cases z : W (4 * p + k) = B (4 * p + k)
        · have := step true ⟨fun _ => ⟨e, z⟩, fun _ => rfl⟩
          rw [if_pos rfl] at this
          rw [if_pos z, f_X11_snapshot_b196, nmE, nI_1]
          exact this
        · have := step false ⟨fun y => absurd y (by decide), fun y => absurd y.2 z⟩
          rw [if_neg (by decide)] at this
          rw [if_neg z, f_X11_snapshot_b195, f_X11_snapshot_b196, nmE, nI_1]
          exact this
      rw [if_pos e, if_neg (by decide), l55, l17, nI_mul, nI_add, nI_add, nI_cl (by omega), gdi (by omega), nI_cl (by omega), gdi (by omega), hW (4 * p + k) (by omega)]
      rcases hB with ⟨b1, b2⟩ | ⟨s, s1, b1, b2⟩
      · rw [if_pos b1]
        exact fin 0 (b2 _ (by omega)).symm
      · rw [b1, if_neg (by rw [nI_m1 (by omega)]; exact id), gdi (by omega), nI_mul, nI_add, nI_add, nI_cl (by omega), gdi (by omega), b2 (4 * p + k) (by omega)]
        exact fin _ rfl
    · have := step false ⟨fun y => absurd y (by decide), fun y => absurd y.1 e⟩
      rw [if_neg (by decide)] at this
      rw [if_neg e, if_pos rfl, f_X11_snapshot_b195, f_X11_snapshot_b196, nmE, nI_1]
      exact this
theorem m_sn {E : EE} {κ : K} {S : MU} {g s : Nat} {W B : Nat → Int32} (hg : g < 5) (hs : s < 10) (hW : ∀ k, k < 32 → S 1 (55 * g + 17 + k) = W k) (hB : BAS S g B) : ∀ (d p m : Nat), p + d = 8 → d < m → f_X11_snapshot_b107 E m (putM κ (mu S 10 s (nI (cntU (ulk W B) p)))) (nI g) (nI s) (nI p) = some (putM κ (mu (mu S 10 s (nI (cntU (ulk W B) 8))) 12 g (nI s)), nI s) := by
  intro d
  induction d with
  | zero =>
    intro p m hp hm
    obtain ⟨m, rfl⟩ : ∃ q, m = q + 1 := ⟨m - 1, by omega⟩
    obtain rfl : p = 8 := by omega
    rw [f_X11_snapshot_b107, if_pos (by decide), f_X11_snapshot_b229, nI_cl (by omega), gdi (by omega), nmE, set5, put_kV, put_put]
  | succ d ih =>
    intro p m hp hm
    obtain ⟨m, rfl⟩ : ∃ q, m = q + 1 := ⟨m - 1, by omega⟩
    have := ih (p + 1) m (by omega) (by omega)
    have hBB : BAS (kV (putM κ (mu S 10 s (nI (cntU (ulk W B) p)))) 5 0) g B := by
      unfold BAS
      rw [put_kV, mu_row (by omega), mu_row (by omega)]
      exact hB
    have i0 := m_pg (E := E) (W := W) (κ := putM κ (mu S 10 s (nI (cntU (ulk W B) p)))) (k107 := f_X11_snapshot_b107 E m) (x3 := nI s) hg (show p < 8 by omega) (fun k hk => by rw [put_kV, mu_row (by omega)]; exact hW k hk) hBB 4 0 FU true (by omega) (by unfold FU; omega) ⟨fun _ j hj => absurd hj (Nat.not_lt_zero j), fun _ => rfl⟩
    rw [if_pos rfl, Nat.add_zero] at i0
    rw [cnt_s] at this
    rw [f_X11_snapshot_b107, if_neg (by rw [l8, nI_le' (by omega) (by omega)]; omega), l4, nI_mul, nmE, i0, f_X11_snapshot_b204, nI_cl (by omega), gdi (by omega)]
    by_cases e : ulk W B p = true
    · rw [if_pos e] at this
      rw [if_pos e, if_pos rfl, f_X11_snapshot_b221, nI_cl (by omega), gdi (by omega), nmE, set5, put_kV, put_put, muS ⟨rfl, rfl⟩, nI_1, mu_mu, nmE, nI_1]
      exact this
    · rw [if_neg e, Nat.add_zero] at this
      rw [if_neg e, if_neg (by decide), f_X11_snapshot_b221, nI_cl (by omega), gdi (by omega), nmE, set5, put_kV, put_put, muS ⟨rfl, rfl⟩, i32_0, nI_add, Nat.add_zero, mu_mu, nmE, nI_1]
      exact this
def snM (μ : MU) (s g m : Nat) : MU := mu (kpM (mu μ 0 11 (nI (s + 1))) 7 (55 * s) 8 (512 * s) g m) 9 s (nI g)
def sfM (μ : MU) (s g m c : Nat) : MU := mu (mu (snM μ s g m) 10 s (nI c)) 12 g (nI s)
theorem sn_row {μ : MU} {s g m c : Nat} (h : c ≠ 0 ∧ c ≠ 7 ∧ c ≠ 8 ∧ c ≠ 9) : (snM μ s g m) c = μ c := by
  unfold snM kpM
  rw [mu_row (by omega), blk_row (by omega), kp1_row (by omega), mu_row (by omega)]
theorem sn_7 {μ : MU} {s g m k : Nat} (h : k / 55 ≠ s) : (snM μ s g m) 7 k = μ 7 k := by
  unfold snM kpM kp1M
  rw [mu_row (by omega), blk_row (by omega), muD (by omega), muD (by omega), blk_out (by omega), mu_row (by omega)]
theorem m_snap {E : EE} {κ : K} {n g s m : Nat} {W B : Nat → Int32} (hG : kV κ 5 0 0 26 = nI n) (hn : n ≤ 5) (hg : g < n) (hs : s < 10) (h11 : kV κ 5 0 0 11 = nI s) (h49 : ¬ kV κ 5 0 1 (55 * g + 49) = 3) (hm : kV κ 5 0 1 (55 * g + 54) = nI m) (hm5 : m ≤ 512) (hW : ∀ k, k < 32 → kV κ 5 0 1 (55 * g + 17 + k) = W k) (hB : (kV κ 5 0 12 g = -1 ∧ ∀ k, k < 32 → B k = 0) ∨ ∃ q, q < s ∧ kV κ 5 0 12 g = nI q ∧ ∀ k, k < 32 → kV κ 5 0 7 (55 * q + 17 + k) = B k) : f_X11_snapshot E κ (nI g) = some (putM κ (sfM (mu (kV κ 5 0) 0 0 0) s g m (cntU (ulk W B) 8)), nI s) := by
  have e11 : (mu (kV κ 5 0) 0 0 0) 0 11 = nI s := by rw [muD (by omega)]; exact h11
  have em : (mu (mu (kV κ 5 0) 0 0 0) 0 11 (nI (s + 1))) 1 (55 * g + 54) = nI m := by rw [mu_row (by omega), mu_row (by omega)]; exact hm
  have hB' : BAS (snM (mu (kV κ 5 0) 0 0 0) s g m) g B := by
    rcases hB with ⟨b1, b2⟩ | ⟨q, q1, b1, b2⟩
    · exact Or.inl ⟨by rw [sn_row (by omega), mu_row (by omega)]; exact b1, b2⟩
    · exact Or.inr ⟨q, by omega, by rw [sn_row (by omega), mu_row (by omega)]; exact b1, fun k hk => by rw [sn_7 (by omega), mu_row (by omega)]; exact b2 k hk⟩
  have := m_sn (E := E) (κ := κ) (S := snM (mu (kV κ 5 0) 0 0 0) s g m) (W := W) (B := B) (show g < 5 by omega) hs (fun k hk => by rw [sn_row (by omega), mu_row (by omega)]; exact hW k hk) hB' 8 0 FU (by omega) (by unfold FU; omega)
  rw [show nI (cntU (ulk W B) 0) = 0 from rfl, nI_0] at this
  rw [f_X11_snapshot, isGuest_t hG hn hg, bd_s, if_neg (by decide), l55, nI_mul, l49, nI_add, nI_cl (by omega), gdi (by omega), if_neg h49, h11, if_neg (by rw [l10, nI_eq' (by omega) (by omega)]; omega), f_X11_snapshot_b45, ref_0, bd_s, if_pos rfl, put_kV, e11, nmE, nI_1, set5, put_kV, put_put, nmE, l55, nI_mul, l512, nI_mul, m_keep (g := g) (m := m) (by omega) (by omega) (by show 55 * s + 55 ≤ 550; omega) (by decide) (by show 512 * s + 512 ≤ 5120; omega) (by decide) (by rw [put_kV]; exact em) hm5, bd_s, nI_cl (by omega), gdi (by omega), nmE, gdi (by omega), nmE]
  simp only [set5, put_kV, put_put]
  exact this
