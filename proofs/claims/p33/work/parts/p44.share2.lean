/-- what sharing leaves -/
def SHI (w0 w μ0 μ : MU) (n h : Nat) : Prop := RH w μ n h ∧ FRM μ n ∧ (∀ c, c ≠ 28 → c ≠ 29 → μ c = μ0 c) ∧ (∀ key, ¬ μ0 15 (key / 8) = nI h → μ 28 key = μ0 28 key) ∧ (∀ k, ¬ (16 * h ≤ k ∧ k < 16 * h + 16) → μ 29 k = μ0 29 k) ∧ w 0 = w0 0
theorem SHI_mg {w0 w μ0 μ : MU} {n h lo hi : Nat} (hI : SHI w0 w μ0 μ n h) (hn : n ≤ 5) (hh : h < 2) (h1 : lo < 16) (h2 : hi < 16) (hne : lo ≠ hi) : SHI w0 (mergeH w lo hi) μ0 (mgM μ n h lo hi) n h := by
  obtain ⟨a1, a2, a3, a4, a5, a6⟩ := hI
  refine ⟨RH_merge hn hh a1 h1 h2 hne, FRM_mg a2 h1 h2, fun c x y => ?_, fun key hk => ?_, fun k hk => ?_, ?_⟩
  · unfold mgM
    rw [mu_row y, mgU_row x, a3 c x y]
  · unfold mgM
    rw [mu_row (by omega), mgU_28, if_neg (fun z => ?_), a4 key hk]
    have := z.2
    unfold onF at this
    rw [Bool.and_eq_true, a3 15 (by omega) (by omega)] at this
    exact hk (of_decide_eq_true this.1)
  · unfold mgM
    rw [muD (by omega), mgU_row (by omega), a5 k hk]
  · unfold mergeH mvH
    rw [mu_row (by omega), mvU_row (by omega), mu_row (by omega), mu_row (by omega), a6]
theorem RH_lt {w μ : MU} {n h f q : Nat} (hR : RH w μ n h) (hf : f < 16) (hq : fstU (inF w (nI f)) 40 = some q) : q < 40 ∧ q / 8 < n := by
  obtain ⟨h1, h2⟩ := fstU_lt hq
  have h3 : w 1 q = nI f := of_decide_eq_true h2
  have h4 := hR.1 q h1
  refine ⟨h1, ?_⟩
  by_cases e : q / 8 < n ∧ μ 15 (q / 8) = nI h
  · exact e.1
  · rw [if_neg e, h3, nI_m1 (by omega)] at h4
    exact h4.elim
theorem m_merge {E : EE} {κ2 : K} {μ : MU} {n h i j : Nat} {x2 x4 : Int32} {k27 : K → Int32 → Int32 → Int32 → Option (K × Int32)} {k46 : K → Int32 → Int32 → Int32 → Int32 → Int32 → Option (K × Int32)} (hn : n ≤ 5) (hh : h < 2) (hi : i < 16) (hj : j < 16) (h5 : kV κ2 5 0 = μ) (hG : μ 0 26 = nI n) : f_X11_share_b94 E k27 k46 FU κ2 (nI h) x2 (nI i) x4 (nI j) 0 = f_X11_share_b216 E k27 k46 (putM κ2 (mgM μ n h i j)) (nI h) (x2 + 1) (nI i) x4 (nI j) := by
  have loop : ∀ d p m, p + d = 8 * n → d < m → f_X11_share_b94 E k27 k46 m (putM κ2 (mgU μ h j i p)) (nI h) x2 (nI i) x4 (nI j) (nI p) = f_X11_share_b216 E k27 k46 (putM κ2 (mgM μ n h i j)) (nI h) (x2 + 1) (nI i) x4 (nI j) := by
    intro d
    induction d with
    | zero =>
      intro p m hp hm
      obtain ⟨m, rfl⟩ : ∃ q, m = q + 1 := ⟨m - 1, by omega⟩
      have e : p = 8 * n := by omega
      subst e
      have i1 : (16 : Int32) * nI h + nI j = nI (16 * h + j) := by rw [l16, nI_mul, nI_add]
      have i2 : (16 : Int32) * nI h + nI i = nI (16 * h + i) := by rw [l16, nI_mul, nI_add]
      have r29 : (mgU μ h j i (8 * n)) 29 = μ 29 := mgU_row (by omega) _
      have fin : ∀ y, y = (if μ 29 (16 * h + j) ≤ μ 29 (16 * h + i) then μ 29 (16 * h + i) else μ 29 (16 * h + j)) → f_X11_share_b212 E k27 k46 (putM κ2 (mgU μ h j i (8 * n))) (nI h) x2 (nI i) x4 (nI j) y (nI (16 * h + i)) = f_X11_share_b216 E k27 k46 (putM κ2 (mgM μ n h i j)) (nI h) (x2 + 1) (nI i) x4 (nI j) := fun y hy => by
        rw [f_X11_share_b212, nI_cl (by omega), gdi (by omega), nmE, nmE, set5, put_kV, put_put, hy]
        rfl
      rw [f_X11_share_b94, put_kV, mgU_row (by omega), hG, l8, nI_mul, if_pos (by rw [nI_le' (by omega) (by omega)]; exact Nat.le_refl _), f_X11_share_b156, i1, nI_cl (by omega), gdi (by omega), nmE, i2, nI_cl (by omega), gdi (by omega), put_kV, r29]
      by_cases e : μ 29 (16 * h + j) ≤ μ 29 (16 * h + i)
      · rw [if_pos e, gdi (by omega)]
        exact fin _ (if_pos e).symm
      · rw [if_neg e]
        exact fin _ (if_neg e).symm
    | succ d ih =>
      intro p m hp hm
      obtain ⟨m, rfl⟩ : ∃ q, m = q + 1 := ⟨m - 1, by omega⟩
      have ih2 := ih (p + 1) m (by omega) (by omega)
      have fin : ∀ y, y = (if onF (mgU μ h j i p) (nI h) (nI j) p = true then nI i else (mgU μ h j i p) 28 p) → f_X11_share_b149 E k27 k46 (f_X11_share_b94 E k27 k46 m) (putM κ2 (mgU μ h j i p)) (nI h) x2 (nI i) x4 (nI j) (nI p) y (nI p) = f_X11_share_b216 E k27 k46 (putM κ2 (mgM μ n h i j)) (nI h) (x2 + 1) (nI i) x4 (nI j) := fun y hy => by
        rw [f_X11_share_b149, nI_cl (by omega), gdi (by omega), nmE, nI_1, nmE, set5, put_kV, put_put, hy]
        exact ih2
      rw [f_X11_share_b94, put_kV, show (mgU μ h j i p) 0 26 = nI n from by rw [mgU_row (by omega)]; exact hG, l8, nI_mul, if_neg (by rw [nI_le' (by omega) (by omega)]; omega), nI_div (by omega) (by omega), nI_cl (by omega), gdi (by omega)]
      by_cases e1 : (mgU μ h j i p) 15 (p / 8) = nI h
      · rw [if_pos e1, nI_cl (by omega), gdi (by omega)]
        by_cases e2 : (mgU μ h j i p) 28 p = nI j
        · rw [if_pos e2]
          refine fin _ (if_pos ?_).symm
          unfold onF
          rw [decide_eq_true e1, decide_eq_true e2]
          rfl
        · rw [if_neg e2, f_X11_share_b142, nI_cl (by omega), gdi (by omega), put_kV]
          refine fin _ (if_neg ?_).symm
          unfold onF
          rw [decide_eq_false e2, Bool.and_false]
          exact Bool.false_ne_true
      · rw [if_neg e1, f_X11_share_b142, nI_cl (by omega), gdi (by omega), put_kV]
        refine fin _ (if_neg ?_).symm
        unfold onF
        rw [decide_eq_false e1, Bool.false_and]
        exact Bool.false_ne_true
  have l0 := loop (8 * n) 0 FU (by omega) (by unfold FU; omega)
  rw [nI_0, show mgU μ h j i 0 = μ from rfl, ← h5, put_self, h5] at l0
  exact l0
theorem lk_e {μ μ' : MU} {x y : Nat} (e : μ' 1 = μ 1) : lkB μ' x y = lkB μ x y := by
  unfold lkB wd
  rw [e]
theorem share_in {E : EE} {κ : K} {μ0 : MU} {h i : Nat} {k11 : K → Nat → Int32 → Int32 → Option (K × (Int32 ⊕ Nat))} {k27 : K → Int32 → Int32 → Int32 → Option (K × Int32)} (hn : E.1 ≤ 5) (hh : h < 2) (hi : i < 16) (hL : LsI E κ 1 E.1) (hw : ∀ z k, z / 8 < E.1 → k < 4 → kV κ 0 (z / 8) 9 (4 * (z % 8) + k) = wd μ0 z k) (hs : ∀ g, g < E.1 → kV κ 0 g 0 2 = μ0 17 g) (hG : μ0 0 26 = nI E.1) {p : Nat} (hp : p / 8 < E.1) (hps : μ0 17 (p / 8) = 0) : ∀ (d j x m m2 : Nat) (w μ : MU) (pc : Nat), j + d = 16 → i < j → d < m → d < m2 → SHI (kV κ 2 h) w μ0 μ E.1 h → fstU (inF w (nI i)) 40 = some pc → μ0 17 (pc / 8) = 0 → lkB μ0 p pc = true → ∃ w' μ' x', SHI (kV κ 2 h) w' μ0 μ' E.1 h ∧ f_X10_share_b24 E k11 m (pv κ 2 h w) h (nI x) (nI i) (nI j) = k11 (pv κ 2 h w') h (nI x') (nI (i + 1)) ∧ ∀ κ2 : K, kV κ2 5 0 = μ → f_X11_share_b46 E k27 m2 κ2 (nI h) (nI x) (nI i) (nI p) (nI j) = k27 (putM κ2 μ') (nI h) (nI x') (nI (i + 1)) := by
  intro d
  induction d with
  | zero =>
    intro j x m m2 w μ pc hj hij hm hm2 hI _ _ _
    obtain ⟨m, rfl⟩ : ∃ q, m = q + 1 := ⟨m - 1, by omega⟩
    obtain ⟨m2, rfl⟩ : ∃ q, m2 = q + 1 := ⟨m2 - 1, by omega⟩
    have hle : (16 : Int32) ≤ nI j := by rw [l16, nI_le' (by omega) (by omega)]; omega
    refine ⟨w, μ, x, hI, by rw [f_X10_share_b24, if_pos hle, f_X10_share_b67, nmE, nI_1], fun κ2 h5 => by rw [f_X11_share_b46, if_pos hle, f_X11_share_b222, nmE, nI_1, ← h5, put_self]⟩
  | succ d ih =>
    intro j x m m2 w μ pc hj hij hm hm2 hI hpc hpcs hlk
    obtain ⟨m, rfl⟩ : ∃ q, m = q + 1 := ⟨m - 1, by omega⟩
    obtain ⟨m2, rfl⟩ : ∃ q, m2 = q + 1 := ⟨m2 - 1, by omega⟩
    have hle : ¬ (16 : Int32) ≤ nI j := by rw [l16, nI_le' (by omega) (by omega)]; omega
    obtain ⟨I1, I2, I3, I4, I5, I6⟩ := id hI
    obtain ⟨pc40, pcn⟩ := RH_lt I1 hi hpc
    have hoj : ∀ q, fstU (inF w (nI j)) 40 = some q → q / 8 < E.1 := fun q hq => (RH_lt I1 (by omega) hq).2
    have e0 : ∀ g, kV (pv κ 2 h w) 0 g = kV κ 0 g := fun g => pv_n (by omega)
    obtain ⟨b, b01, bE, bI⟩ := c_alike (E := E) (κ := pv κ 2 h w) (μ := μ0) (o := some pc) (o' := fstU (inF w (nI j)) 40) hn (LsI_v hL (by rw [pv_n (by omega)]) rfl) (fun q hq => by cases hq; exact pcn) hoj (fun z k hz hk => by rw [e0]; exact hw z k hz hk) (fun g hg => by rw [e0]; exact hs g hg)
    have pre : f_X10_share_b24 E k11 (m + 1) (pv κ 2 h w) h (nI x) (nI i) (nI j) = (if b = 0 then f_X10_share_b61 E k11 (f_X10_share_b24 E k11 m) (pv κ 2 h w) h (nI x) (nI i) (nI j) else bd (f_X2_merge E (pv κ 2 h w) h (nI i) (nI j)) fun κ22 _ => nm (nI x + 1) fun y25 => f_X10_share_b61 E k11 (f_X10_share_b24 E k11 m) κ22 h y25 (nI i) (nI j)) := by
      rw [f_X10_share_b24, if_neg hle, h_keyIn, bd_s, h_keyIn, bd_s, pv_kV, hpc, bE, bd_s]
    have hG' : μ 0 26 = nI E.1 := by rw [I3 0 (by omega) (by omega)]; exact hG
    have m17 : μ 17 = μ0 17 := I3 17 (by omega) (by omega)
    have m1 : μ 1 = μ0 1 := I3 1 (by omega) (by omega)
    have premod : ∀ κ2 : K, kV κ2 5 0 = μ → f_X11_share_b46 E k27 (m2 + 1) κ2 (nI h) (nI x) (nI i) (nI p) (nI j) = bd (f_X11_canShare E κ2 (pgI (fstU (inF w (nI j)) 40))) (fun κ23 r25 => if r25 = 0 then f_X11_share_b216 E k27 (f_X11_share_b46 E k27 m2) κ23 (nI h) (nI x) (nI i) (nI p) (nI j) else bd (f_X11_areLike E κ23 (nI p) (pgI (fstU (inF w (nI j)) 40))) fun κ28 r30 => if r30 = 0 then f_X11_share_b216 E k27 (f_X11_share_b46 E k27 m2) κ28 (nI h) (nI x) (nI i) (nI p) (nI j) else f_X11_share_b94 E k27 (f_X11_share_b46 E k27 m2) FU κ28 (nI h) (nI x) (nI i) (nI p) (nI j) 0) := fun κ2 h5 => by
      obtain ⟨c, c01, cE, cI⟩ := m_canShare (E := E) (κ := κ2) (o := some p) hn (fun q hq => by cases hq; exact hp)
      have c1 : c = 1 := cI.mpr ⟨p, rfl, hp, by rw [h5, m17]; exact hps⟩
      have cE' : f_X11_canShare E κ2 (nI p) = some (κ2, c) := cE
      rw [f_X11_share_b46, if_neg hle, cE', bd_s, if_neg (by rw [c1]; decide), m_pageIn (n := E.1) (by rw [h5]; exact hG') hn, bd_s, h5, RH_page hn (by omega) I1]
    by_cases hyes : b = 1
    · obtain ⟨p', q, ⟨z1, _, _⟩, ⟨z2, z3, z4⟩, z5⟩ := bI.mp hyes
      cases z1
      have q40 := (RH_lt I1 (show j < 16 by omega) z2).1
      have hI' := SHI_mg hI hn hh hi (show j < 16 by omega) (by omega)
      have hcur : fstU (inF (mergeH w i j) (nI i)) 40 = some (if pc < q then pc else q) := fstU_or (fun a ha => by rw [mg_in hi (by omega) (by omega) hi ha, if_pos rfl]) hpc z2
      obtain ⟨w', μ', x', r1, r2, r3⟩ := ih (j + 1) (x + 1) m m2 (mergeH w i j) (mgM μ E.1 h i j) (if pc < q then pc else q) (by omega) (by omega) (by omega) (by omega) hI' hcur (by split; exact hpcs; exact z4) (by
        split
        · exact hlk
        · rw [lk_t hlk]; exact z5)
      refine ⟨w', μ', x', r1, ?_, fun κ2 h5 => ?_⟩
      · rw [pre, if_neg (by rw [hyes]; decide), h_merge hi (show j < 16 by omega), bd_s, nmE, nI_1, f_X10_share_b61, nmE, nI_1, pv_kV, pv_pv, r2]
      · obtain ⟨c, c01, cE, cI⟩ := m_canShare (E := E) (κ := κ2) (o := fstU (inF w (nI j)) 40) hn hoj
        have c1 : c = 1 := cI.mpr ⟨q, z2, z3, by rw [h5, m17]; exact z4⟩
        rw [premod κ2 h5, cE, bd_s, if_neg (by rw [c1]; decide), z2]
        show bd (f_X11_areLike E κ2 (nI p) (nI q)) _ = _
        rw [m_areLike (by omega) q40, bd_s, h5, lk_e m1, lk_t hlk, if_pos z5, if_neg (by decide), m_merge hn hh hi (show j < 16 by omega) h5 hG', f_X11_share_b216, nmE, nI_1, nI_1, r3 _ put_kV, put_put]
    · have hb0 : b = 0 := b01.resolve_right hyes
      obtain ⟨w', μ', x', r1, r2, r3⟩ := ih (j + 1) x m m2 w μ pc (by omega) (by omega) (by omega) (by omega) hI hpc hpcs hlk
      refine ⟨w', μ', x', r1, ?_, fun κ2 h5 => ?_⟩
      · rw [pre, if_pos hb0, f_X10_share_b61, nmE, nI_1, r2]
      · obtain ⟨c, c01, cE, cI⟩ := m_canShare (E := E) (κ := κ2) (o := fstU (inF w (nI j)) 40) hn hoj
        rw [premod κ2 h5, cE, bd_s]
        rcases c01 with rfl | rfl
        · rw [if_pos rfl, f_X11_share_b216, nmE, nI_1, r3 κ2 h5]
        · obtain ⟨q, z2, z3, z4⟩ := cI.mp rfl
          have q40 := (RH_lt I1 (show j < 16 by omega) z2).1
          rw [if_neg (by decide), z2]
          show bd (f_X11_areLike E κ2 (nI p) (nI q)) _ = _
          rw [m_areLike (by omega) q40, bd_s, h5, lk_e m1, lk_t hlk, if_neg (fun z5 => hyes (bI.mpr ⟨pc, q, ⟨rfl, pcn, hpcs⟩, ⟨z2, z3, by rw [h5, m17] at z4; exact z4⟩, z5⟩)), if_pos rfl, f_X11_share_b216, nmE, nI_1, r3 κ2 h5]
theorem share_no {E : EE} {κ : K} {μ0 : MU} {h i : Nat} {x : Int32} {k11 : K → Nat → Int32 → Int32 → Option (K × (Int32 ⊕ Nat))} (hn : E.1 ≤ 5) (hi : i < 16) (hL : LsI E κ 1 E.1) (hw : ∀ z k, z / 8 < E.1 → k < 4 → kV κ 0 (z / 8) 9 (4 * (z % 8) + k) = wd μ0 z k) (hs : ∀ g, g < E.1 → kV κ 0 g 0 2 = μ0 17 g) {w μ : MU} (hI : RH w μ E.1 h) (hno : ¬ ∃ p, okS μ0 E.1 (fstU (inF w (nI i)) 40) p) : ∀ d j m, j + d = 16 → d < m → f_X10_share_b24 E k11 m (pv κ 2 h w) h x (nI i) (nI j) = k11 (pv κ 2 h w) h x (nI (i + 1)) := by
  intro d
  induction d with
  | zero =>
    intro j m hj hm
    obtain ⟨m, rfl⟩ : ∃ q, m = q + 1 := ⟨m - 1, by omega⟩
    rw [f_X10_share_b24, if_pos (by rw [l16, nI_le' (by omega) (by omega)]; omega), f_X10_share_b67, nmE, nI_1]
  | succ d ih =>
    intro j m hj hm
    obtain ⟨m, rfl⟩ : ∃ q, m = q + 1 := ⟨m - 1, by omega⟩
    have e0 : ∀ g, kV (pv κ 2 h w) 0 g = kV κ 0 g := fun g => pv_n (by omega)
    obtain ⟨b, b01, bE, bI⟩ := c_alike (E := E) (κ := pv κ 2 h w) (μ := μ0) (o := fstU (inF w (nI i)) 40) (o' := fstU (inF w (nI j)) 40) hn (LsI_v hL (by rw [pv_n (by omega)]) rfl) (fun q hq => (RH_lt hI hi hq).2) (fun q hq => (RH_lt hI (by omega) hq).2) (fun z k hz hk => by rw [e0]; exact hw z k hz hk) (fun g hg => by rw [e0]; exact hs g hg)
    have hb0 : b = 0 := b01.resolve_right (fun z => by
      obtain ⟨p, q, y, _⟩ := bI.mp z
      exact hno ⟨p, y⟩)
    rw [f_X10_share_b24, if_neg (by rw [l16, nI_le' (by omega) (by omega)]; omega), h_keyIn, bd_s, h_keyIn, bd_s, pv_kV, bE, bd_s, if_pos hb0, f_X10_share_b61, nmE, nI_1]
    exact ih (j + 1) m (by omega) (by omega)
theorem share_out {E : EE} {κ : K} {μ0 : MU} {h : Nat} (hn : E.1 ≤ 5) (hh : h < 2) (hL : LsI E κ 1 E.1) (hw : ∀ z k, z / 8 < E.1 → k < 4 → kV κ 0 (z / 8) 9 (4 * (z % 8) + k) = wd μ0 z k) (hs : ∀ g, g < E.1 → kV κ 0 g 0 2 = μ0 17 g) (hG : μ0 0 26 = nI E.1) : ∀ (d i x m m2 : Nat) (w μ : MU), i + d = 16 → d < m → d < m2 → SHI (kV κ 2 h) w μ0 μ E.1 h → ∃ w' μ' x', SHI (kV κ 2 h) w' μ0 μ' E.1 h ∧ f_X10_share_b11 E m (pv κ 2 h w) h (nI x) (nI i) = some (pv κ 2 h w', .inl (nI x')) ∧ ∀ κ2 : K, kV κ2 5 0 = μ → f_X11_share_b27 E m2 κ2 (nI h) (nI x) (nI i) = some (putM κ2 μ', nI x') := by
  intro d
  induction d with
  | zero =>
    intro i x m m2 w μ hi hm hm2 hI
    obtain ⟨m, rfl⟩ : ∃ q, m = q + 1 := ⟨m - 1, by omega⟩
    obtain ⟨m2, rfl⟩ : ∃ q, m2 = q + 1 := ⟨m2 - 1, by omega⟩
    have hle : (16 : Int32) ≤ nI i := by rw [l16, nI_le' (by omega) (by omega)]; omega
    exact ⟨w, μ, x, hI, by rw [f_X10_share_b11, if_pos hle], fun κ2 h5 => by rw [f_X11_share_b27, if_pos hle, ← h5, put_self]⟩
  | succ d ih =>
    intro i x m m2 w μ hi hm hm2 hI
    obtain ⟨m, rfl⟩ : ∃ q, m = q + 1 := ⟨m - 1, by omega⟩
    obtain ⟨m2, rfl⟩ : ∃ q, m2 = q + 1 := ⟨m2 - 1, by omega⟩
    have hle : ¬ (16 : Int32) ≤ nI i := by rw [l16, nI_le' (by omega) (by omega)]; omega
    obtain ⟨I1, I2, I3, I4, I5, I6⟩ := id hI
    have hG' : μ 0 26 = nI E.1 := by rw [I3 0 (by omega) (by omega)]; exact hG
    have m17 : μ 17 = μ0 17 := I3 17 (by omega) (by omega)
    have pre : f_X10_share_b11 E (m + 1) (pv κ 2 h w) h (nI x) (nI i) = f_X10_share_b24 E (f_X10_share_b11 E m) FU (pv κ 2 h w) h (nI x) (nI i) (nI (i + 1)) := by rw [f_X10_share_b11, if_neg hle, nmE, nI_1]
    have premod : ∀ κ2 : K, kV κ2 5 0 = μ → f_X11_share_b27 E (m2 + 1) κ2 (nI h) (nI x) (nI i) = f_X11_share_b46 E (f_X11_share_b27 E m2) FU κ2 (nI h) (nI x) (nI i) (pgI (fstU (inF w (nI i)) 40)) (nI (i + 1)) := fun κ2 h5 => by
      rw [f_X11_share_b27, if_neg hle, m_pageIn (n := E.1) (by rw [h5]; exact hG') hn, bd_s, h5, RH_page hn (by omega) I1, nmE, nI_1]
    by_cases hok : ∃ p, okS μ0 E.1 (fstU (inF w (nI i)) 40) p
    · obtain ⟨p, hp1, hp2, hp3⟩ := hok
      obtain ⟨w', μ', x', r1, r2, r3⟩ := share_in (E := E) (κ := κ) (μ0 := μ0) (h := h) (i := i) (k11 := f_X10_share_b11 E m) (k27 := f_X11_share_b27 E m2) hn hh (by omega) hL hw hs hG hp2 hp3 (15 - i) (i + 1) x FU FU w μ p (by omega) (by omega) (by unfold FU; omega) (by unfold FU; omega) hI hp1 hp3 (lk_iff.mpr fun _ _ => rfl)
      obtain ⟨w'', μ'', x'', s1, s2, s3⟩ := ih (i + 1) x' m m2 w' μ' (by omega) (by omega) (by omega) r1
      refine ⟨w'', μ'', x'', s1, by rw [pre, r2, s2], fun κ2 h5 => ?_⟩
      rw [premod κ2 h5, hp1]
      show f_X11_share_b46 E (f_X11_share_b27 E m2) FU κ2 (nI h) (nI x) (nI i) (nI p) (nI (i + 1)) = _
      rw [r3 κ2 h5, s3 _ put_kV, put_put]
    · obtain ⟨w'', μ'', x'', s1, s2, s3⟩ := ih (i + 1) x m m2 w μ (by omega) (by omega) (by omega) hI
      refine ⟨w'', μ'', x'', s1, by rw [pre, share_no hn (by omega) hL hw hs I1 hok (15 - i) (i + 1) FU (by omega) (by unfold FU; omega), s2], fun κ2 h5 => ?_⟩
      have fin : f_X11_share_b222 E (f_X11_share_b27 E m2) κ2 (nI h) (nI x) (nI i) = some (putM κ2 μ'', nI x'') := by rw [f_X11_share_b222, nmE, nI_1, s3 κ2 h5]
      rw [premod κ2 h5]
      unfold FU
      rw [f_X11_share_b46]
      by_cases e : (16 : Int32) ≤ nI (i + 1)
      · rw [if_pos e, fin]
      · obtain ⟨c, c01, cE, cI⟩ := m_canShare (E := E) (κ := κ2) (o := fstU (inF w (nI i)) 40) hn (fun q hq => (RH_lt I1 (by omega) hq).2)
        have c0 : c = 0 := c01.resolve_right (fun z => by
          obtain ⟨p, y1, y2, y3⟩ := cI.mp z
          exact hok ⟨p, y1, y2, by rw [h5, m17] at y3; exact y3⟩)
        rw [if_neg e, cE, bd_s, if_pos c0, fin]
/-- frames alone have changed -/
theorem REL_share {E : EE} {κ : K} {μ μ' w' : MU} {n ns t C h : Nat} (hR : REL E κ μ n ns t C) (hh : h < 2) (hI : SHI (kV κ 2 h) w' μ μ' n h) : REL E (pv κ 2 h w') μ' n ns t C := by
  obtain ⟨r1, ⟨l1, l2, l3, l4, l5⟩, ⟨m1, m2, m3, m4, m5⟩, r4, r5, r6, r7⟩ := hR
  obtain ⟨I1, I2, I3, I4, I5, I6⟩ := hI
  have e' : ∀ c, c ≠ 28 → c ≠ 29 → μ' c = μ c := I3
  have eV : ∀ f i, ¬ (f = 2 ∧ i = h) → kV (pv κ 2 h w') f i = kV κ f i := fun f i z => pv_n z
  refine ⟨r1, ⟨LsI_v l1 (by rw [eV 4 0 (by omega)]) rfl, LsI_v l2 (by rw [eV 4 0 (by omega)]) rfl, by rw [eV 4 0 (by omega)]; exact l3, by rw [e' 0 (by omega) (by omega)]; exact l4, l5⟩, ⟨?_, I2, fun k hk => ?_, fun g hg => ⟨?_, GPT_v (m4 g hg).2.1 (Nat.le_refl _) rfl (by rw [e' 15 (by omega) (by omega)]) (by rw [e' 12 (by omega) (by omega)]), ?_⟩, fun s hs => SNP_v (m5 s hs) (Nat.le_refl _) (eV 1 s (by omega)) (eV 9 s (by omega)) rfl rfl (fun c a b k _ _ _ => by rw [e' c (by omega) (by omega)]) (fun g _ => ⟨fun c _ _ => by rw [eV 0 g (by omega)], RANUP_e (by rw [eV 0 g (by omega)])⟩)⟩, fun g hg => ⟨SAY_row (r4 g hg).1 (e' 24 (by omega) (by omega)) (e' 35 (by omega) (by omega)) (e' 37 (by omega) (by omega)), CLK_e (r4 g hg).2.1 (e' 22 (by omega) (by omega)) (e' 20 (by omega) (by omega)) (e' 21 (by omega) (by omega)), INQ_e (r4 g hg).2.2 (by rw [e' 1 (by omega) (by omega)]) (by rw [e' 6 (by omega) (by omega)]) (by rw [e' 33 (by omega) (by omega)]) (e' 3 (by omega) (by omega)) (e' 5 (by omega) (by omega)) (by rw [e' 18 (by omega) (by omega)])⟩, ⟨by rw [e' 0 (by omega) (by omega)]; exact r5.1, r5.2.1, by rw [e' 7 (by omega) (by omega)]; exact r5.2.2⟩, ZER_e r6 (fun c _ _ _ d => e' c (by omega) (by omega)), r7⟩
  · refine TJ_mk m1.1.1 (by rw [e' 0 (by omega) (by omega)]; exact m1.1.2.1) (fun g hg => ?_) I2 (by rw [e' 39 (by omega) (by omega)]; exact m1.1.2.2.2) (by unfold TM; rw [e' 0 (by omega) (by omega)]; exact m1.2.2)
    obtain ⟨x1, x2, x3, x4⟩ := m1.1.2.2.1 g hg
    exact ⟨ROK_row x1 (e' 1 (by omega) (by omega)), by unfold PRG; rw [e' 13 (by omega) (by omega), e' 14 (by omega) (by omega)]; exact x2, by unfold QOK; rw [e' 1 (by omega) (by omega), e' 2 (by omega) (by omega)]; exact m1.2.1 g hg, by rw [e' 15 (by omega) (by omega)]; exact x4⟩
  · by_cases e : k = h
    · subst e
      exact HO_v (m3 k hk) (Nat.le_refl _) (by rw [pv_kV]; exact I1) (fun j _ => by rw [pv_kV, I6]) rfl (fun c a b => by rw [e' c (by omega) (by omega)])
    · refine HO_v (m3 k hk) (Nat.le_refl _) ?_ (fun j _ => by rw [eV 2 k (by omega)]) rfl (fun c a b => by rw [e' c (by omega) (by omega)])
      rw [eV 2 k (by omega)]
      exact RH_congr (m3 k hk).1 (fun g _ => by rw [e' 15 (by omega) (by omega)]) (fun key _ z => I4 key (by rw [z, nI_eq' (by omega) (by omega)]; exact e)) (fun f hf => I5 _ (by omega))
  · obtain ⟨a1, a2, a3, a4, _⟩ := (m4 g hg).1.1
    have eg := eV 0 g (by omega)
    refine RG_0 (m4 g hg).1 (SCA_v a1 (fun j _ _ => by rw [eg]) (fun c x y z => by rw [e' c (by omega) (by omega)])) (EXI_v a2 (by rw [eg]) (fun j _ => by rw [e' 25 (by omega) (by omega)])) (BAR_v a3 (by rw [eg]) (fun p _ => by rw [e' 27 (by omega) (by omega)])) (SND_v a4 (by rw [eg]) (by rw [e' 30 (by omega) (by omega)]) (by rw [e' 31 (by omega) (by omega)])) (fun c _ _ => by rw [eg]) (fun _ => rfl) (by rw [eg]) (by rw [eg]) (fun c hc => e' c (by omega) (by omega)) (clock_e (by rw [e' 0 (by omega) (by omega)]) (by rw [e' 20 (by omega) (by omega)]) (by rw [e' 21 (by omega) (by omega)]) (by rw [e' 22 (by omega) (by omega)]))
  · have eg := eV 0 g (by omega)
    exact (m4 g hg).2.2.imp (fun z => by rw [eg]; exact z) (fun z => PLK_v z (fun j _ => by rw [eg]) (fun _ _ => rfl) (fun c _ _ => by rw [eg]) (RANUP_e (by rw [eg])))
theorem st_share {E : EE} {κ : K} {n ns t C : Nat} {a : Int32} (hR : REL E κ (kV κ 5 0) n ns t C) : DONE (lw_share E κ a) C := by
  have hR0 := hR
  obtain ⟨⟨rfl, rfl, hO, h9⟩, ⟨q1, q2, q3, q4, q5⟩, hM, hQ, hS, hZ, hC⟩ := hR0
  have hn : E.1 ≤ 5 := hM.1.1.1
  have hG : kV κ 5 0 0 26 = nI E.1 := hM.1.1.2.1
  have hH : E.2.2.2.1 = 1 := hO.2.2.2.1
  by_cases ha : vp_in a 2
  · obtain ⟨h, hh, rfl⟩ := vp_ex (by omega) ha
    have hin : ∀ κ : K, f_X11_in E κ (nI h) 0 1 = some (κ, 1) := fun κ => in_t (by rw [i32_0, nI_lt' (by omega) (by omega)]; omega) (by rw [i32_1, nI_lt' (by omega) (by omega)]; omega)
    have hRt := REL_thr (x := 0) hR
    have hI0 : SHI (kV κ 2 h) (kV κ 2 h) (mu (kV κ 5 0) 0 0 0) (mu (kV κ 5 0) 0 0 0) E.1 h := ⟨(hRt.2.2.1.2.2.1 h hh).1, hRt.2.2.1.2.1, fun _ _ _ => rfl, fun _ _ => rfl, fun _ _ => rfl, rfl⟩
    obtain ⟨w', μ', x', s1, s2, s3⟩ := share_out (E := E) (κ := κ) (μ0 := mu (kV κ 5 0) 0 0 0) (h := h) hn hh q1 (fun z k hz hk => by
      have := (hRt.2.2.1.2.2.2.1 (z / 8) hz).1.2.1.2.2.2.2.2.2.2.2 (4 * (z % 8) + k) (by omega)
      exact this) (fun g hg => (hRt.2.2.1.2.2.2.1 g hg).1.1.1.2.2.1) (by rw [muD (by omega)]; exact hG) 16 0 0 FU FU _ _ (by omega) (by unfold FU; omega) (by unfold FU; omega) hI0
    have hext : EXT (kV κ 5 0) μ' := EXT_thr.tr (EXT_r (s1.2.2.1 35 (by omega) (by omega)) (s1.2.2.1 23 (by omega) (by omega)) (s1.2.2.1 24 (by omega) (by omega)) (s1.2.2.1 27 (by omega) (by omega)) (by rw [s1.2.2.1 0 (by omega) (by omega)]) (fun g2 k _ _ => by rw [s1.2.2.1 1 (by omega) (by omega)]))
    rw [nI_0, pv_self] at s2
    rw [nI_0] at s3
    have e5 : kV (pv κ 2 h w') 5 = kV κ 5 := by
      funext i
      exact pv_n (by omega)
    have hrel : REL E (pv κ 2 h w') μ' E.1 E.2.1 t (C + 1) := REL_C (d1 := 0) (d2 := 0) (REL_share hRt hh s1) (fun _ _ _ => rfl) rfl rfl (PAID_same rfl rfl) (by omega) (by omega)
    exact ⟨E, _, E.1, E.2.1, t, by
      unfold lw_share
      rw [show f_X10_share E κ (nI h) = some (pv κ 2 h w', .inl (nI x')) from by rw [f_X10_share, hostAt_ok hH hh, bx_s, gd_t (host_lt hH hh), s2]]
      dsimp only
      rw [show f_X11_share E (lwS (pv κ 2 h w') (.inl (nI x'))) (nI h) = some (putM (lwS (pv κ 2 h w') (.inl (nI x'))) (μ'), nI x') from by rw [f_X11_share, hin, bd_s, if_neg (by decide), f_X11_share_b15, ref_0, bd_s, if_pos rfl, lw_V (by omega), e5, s3 _ put_kV, put_put]]
      dsimp only
      rw [gdp_t (lwS_okX (by rw [s1.2.2.1 0 (by omega) (by omega)]; exact muS ⟨rfl, rfl⟩) (rfl))], glueS (hrel)⟩
  · exact ⟨E, _, E.1, E.2.1, t, by
      unfold lw_share
      rw [show f_X10_share E κ a = some (addC κ 1 6, .inr 1) from by rw [f_X10_share, hostAt_no ha, bx_r]]
      dsimp only
      rw [show f_X11_share E (lwS (addC κ 1 6) (.inr 1)) a = some (putM (lwS (addC κ 1 6) (.inr 1)) (mu (kV κ 5 0) 0 0 1), 0) from by rw [f_X11_share, i32_1, in_f (vp_not (n := 1) (by omega) ha), bd_s, if_pos rfl, ← i32_1, f_X11_share_b15, ref_n (by decide), bd_s, if_neg (by decide), lw_V (by omega)]; rfl]
      dsimp only
      rw [gdp_t (lwS_noX (by decide) rfl)], glueS (REL_no hR)⟩
