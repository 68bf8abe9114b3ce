/-- a host fails, or is whole again -/
theorem REL_38 {E : EE} {κ : K} {μ : MU} {n ns t C h : Nat} {x : Int32} (hR : REL E κ μ n ns t C) (hh : h < 2) (hx : x = 0 ∨ x = 1) : REL E (setV κ 2 h 0 4 x) (mu μ 38 h x) n ns t C := by
  obtain ⟨r1, r2, r3, r4, r5, r6, r7⟩ := hR
  obtain ⟨o1, o2, o3, o4, o5, o6⟩ := r3.2.2.1 h hh
  have eV : ∀ f, f ≠ 2 → kV (setV κ 2 h 0 4 x) f = kV κ f := fun f hf => by
    funext i c k
    exact vD (by omega)
  have em : ∀ c, c ≠ 38 → (mu μ 38 h x) c = μ c := fun c hc => mu_row hc
  refine ⟨r1, ⟨LsI_v r2.1 (by rw [eV 4 (by omega)]) rfl, LsI_v r2.2.1 (by rw [eV 4 (by omega)]) rfl, by rw [eV 4 (by omega)]; exact r2.2.2.1, by rw [em 0 (by omega)]; exact r2.2.2.2.1, r2.2.2.2.2⟩, MID_2 r3 eV rfl (fun _ _ => rfl) (TJ.row r3.1 (fun c hc => em c (by omega))) (fun h2 hh2 => ?_) (fun c hc => em c (by omega)), fun g hg => ⟨SAY_row (r4 g hg).1 (em 24 (by omega)) (em 35 (by omega)) (em 37 (by omega)), CLK_e (r4 g hg).2.1 (em 22 (by omega)) (em 20 (by omega)) (em 21 (by omega)), INQ_e (r4 g hg).2.2 (by rw [em 1 (by omega)]) (by rw [em 6 (by omega)]) (by rw [em 33 (by omega)]) (em 3 (by omega)) (em 5 (by omega)) (by rw [em 18 (by omega)])⟩, ⟨by rw [em 0 (by omega)]; exact r5.1, r5.2.1, by rw [em 7 (by omega)]; exact r5.2.2⟩, ZER_e r6 (fun c _ b _ _ => em c (by omega)), r7⟩
  have hR2 : RH (kV (setV κ 2 h 0 4 x) 2 h2) (mu μ 38 h x) n h2 := by
    refine RH_wrow (RH_row (r3.2.2.1 h2 hh2).1 (em 15 (by omega)) (em 28 (by omega)) (em 29 (by omega))) ?_ ?_ ?_ <;> (funext k; exact vD (by omega))
  by_cases e : h2 = h
  · subst e
    exact ⟨hR2, by rw [vD (by omega)]; exact o2, by rw [vS ⟨rfl, rfl, rfl, rfl⟩, muS ⟨rfl, rfl⟩], by rw [muS ⟨rfl, rfl⟩]; exact hx, by rw [vD (by omega), em 40 (by omega)]; exact o5, by rw [em 39 (by omega)]; exact o6⟩
  · exact HO_v (r3.2.2.1 h2 hh2) (Nat.le_refl _) hR2 (fun k _ => vD (by omega)) rfl (fun c a b => muD (by omega))
/-- a move is over -/
theorem REL_30 {E : EE} {κ : K} {μ : MU} {n ns t C g : Nat} (hR : REL E κ μ n ns t C) (hg : g < n) : REL E (setV κ 0 g 0 15 (-1)) (mu μ 30 g 0) n ns t C := by
  obtain ⟨m1, m2, m3, m4, m5⟩ := hR.2.2.1
  have hQg := hR.2.2.2.1 g hg
  have fr := set_frame (κ := κ) (g := g) (c := 0) (k := 15) (x := -1)
  have em : ∀ c, c ≠ 30 → (mu μ 30 g 0) c = μ c := fun c hc => mu_row hc
  have e0 : ∀ k, k ≠ 15 → kV (setV κ 0 g 0 15 (-1)) 0 g 0 k = kV κ 0 g 0 k := fun k hk => vD (by omega)
  refine REL_GC (d1 := 0) (d2 := 0) hR (Nat.le_refl _) hg (fun f i a _ _ _ => fr.1 f i a) (fun _ _ _ => rfl) (fun _ _ _ => rfl) (TJ.row m1 (fun c hc => em c (by omega))) (FRM_row m2 (em 27 (by omega)) (em 28 (by omega))) (OWN_g (by omega) (by omega) rfl) (fun key _ _ => by rw [em 27 (by omega)]) (fun h hh => ⟨?_, fun j => by rw [fr.1 2 h (by omega)]⟩) (RG_0 (m4 g hg).1 ?_ (EXI_v (m4 g hg).1.1.2.1 (fr.2 38 (by omega)) (fun j _ => by rw [em 25 (by omega)])) (BAR_v (m4 g hg).1.1.2.2.1 (e0 14 (by omega)) (fun p _ => by rw [em 27 (by omega)])) (Or.inl ⟨muS ⟨rfl, rfl⟩, vS ⟨rfl, rfl, rfl, rfl⟩⟩) (fun c a _ => fr.2 c a) (fun _ => rfl) (e0 12 (by omega)) (e0 18 (by omega)) (fun c hc => em c (by omega)) (clock_e (by rw [em 0 (by omega)]) (by rw [em 20 (by omega)]) (by rw [em 21 (by omega)]) (by rw [em 22 (by omega)]))) (GPT_v (m4 g hg).2.1 (Nat.le_refl _) rfl (by rw [em 15 (by omega)]) (by rw [em 12 (by omega)])) ?_ (fun s hs z => ?_) (fun c a b => em c (by omega)) (SAY_row hQg.1 (em 24 (by omega)) (em 35 (by omega)) (em 37 (by omega))) (CLK_e hQg.2.1 (em 22 (by omega)) (em 20 (by omega)) (em 21 (by omega))) (INQ_e hQg.2.2 (by rw [em 1 (by omega)]) (by rw [em 6 (by omega)]) (by rw [em 33 (by omega)]) (em 3 (by omega)) (em 5 (by omega)) (by rw [em 18 (by omega)])) (PAID_same rfl rfl) (by omega) (by omega)
  · rw [fr.1 2 h (by omega)]
    exact RH_row (m3 h hh).1 (em 15 (by omega)) (em 28 (by omega)) (em 29 (by omega))
  · obtain ⟨s1, s2, s3, s4, s5, s6, s7, s8⟩ := (m4 g hg).1.1.1
    unfold SCA
    rw [e0 0 (by omega), e0 1 (by omega), e0 2 (by omega), e0 10 (by omega), e0 11 (by omega), e0 13 (by omega), e0 16 (by omega), e0 17 (by omega), em 16 (by omega), em 17 (by omega), em 20 (by omega), em 23 (by omega), em 32 (by omega), em 18 (by omega), em 19 (by omega)]
    exact ⟨s1, s2, s3, s4, s5, s6, s7, s8⟩
  · exact (m4 g hg).2.2.imp (fun z => by rw [fr.2 18 (by omega)]; exact z) (fun z => PLK_v z (fun j _ => fr.2 _ (by omega)) (fun _ _ => rfl) (fun c _ _ => fr.2 c (by omega)) (RANUP_e (e0 12 (by omega))))
  · exact PLK_v z (fun j _ => by rw [fr.1 9 s (by omega)]) (fun _ _ => rfl) (fun c _ _ => fr.2 c (by omega)) (RANUP_e (e0 12 (by omega)))
theorem EXT_die {μ : MU} {i : Nat} : EXT μ (endM (dieM (mu μ 30 i 0) i) i) := by
  obtain ⟨f1, f2, f3, _, _, _, f7⟩ := die_f (μ := mu μ 30 i 0) (g := i)
  refine EXT.tr (EXT_mu (c := 30) (k := i) (x := 0) (by omega)) (EXT_p (f1 35 (by omega) (by omega) (by omega) (by omega) (by omega)) (f1 23 (by omega) (by omega) (by omega) (by omega) (by omega)) (f1 24 (by omega) (by omega) (by omega) (by omega) (by omega)) (by rw [f1 0 (by omega) (by omega) (by omega) (by omega) (by omega)]) (fun g2 p _ hp h0 => ?_))
  by_cases e : g2 = i
  · subst e
    refine Or.inr fun k hk => ?_
    rw [f2 (17 + (4 * p + k)) (by omega), if_pos (by omega)]
  · rw [f3, if_neg (by omega)] at h0
    exact Or.inl ⟨h0, fun k hk => f7.2.2 1 _ (by omega) (by omega) (by omega) (by show (55 * g2 + (17 + (4 * p + k))) / 55 ≠ i; omega)⟩
theorem EXT_go {μ : MU} {i a b : Nat} {x : Int32} (ha : a ≤ 512) : EXT μ (endM (gsM (mu (gbM (mu μ 30 i 0) 3 (55 * i) 4 (512 * i) i a) 15 i x) i a b) i) := by
  have h1 : EXT μ (gbM (mu μ 30 i 0) 3 (55 * i) 4 (512 * i) i a) := EXT.tr (EXT_mu (c := 30) (k := i) (x := 0) (by omega)) (EXT_gb (Or.inl ⟨rfl, rfl⟩) ha)
  have h2 : EXT μ (mu (gbM (mu μ 30 i 0) 3 (55 * i) 4 (512 * i) i a) 15 i x) := h1.tr (EXT_mu (by omega))
  generalize mu (gbM (mu μ 30 i 0) 3 (55 * i) 4 (512 * i) i a) 15 i x = ν at h2 ⊢
  have h3 : EXT ν (blkM ν 2 (512 * i + a) (fun j => ν 5 (512 * i + j)) b) := EXT_r (blk_row (by omega)) (blk_row (by omega)) (blk_row (by omega)) (blk_row (by omega)) (by rw [blk_row (by omega)]) (fun g2 k _ _ => by rw [blk_row (by omega)])
  unfold endM gsM
  exact (((h2.tr h3).tr (EXT_1 (by omega))).tr (EXT_mu (by omega))).tr (EXT_mu (by omega))
theorem fail_loop {E : EE} {ns t C h : Nat} (hC5 : C ≤ 512) (hh : h < 2) : ∀ (d i x m m2 : Nat) (κ : K) (μ : MU), i + d = E.1 → x ≤ i → d < m → d < m2 → REL E κ μ E.1 ns t C → ∃ κ' μ' r, f_X10_fail_b41 E m κ h (1 - h) (nI x) (nI i) = some (κ', .inl (nI r)) ∧ kV κ' 5 = kV κ 5 ∧ REL E κ' μ' E.1 ns t C ∧ μ' 0 0 = μ 0 0 ∧ EXT μ μ' ∧ ∀ κ2 : K, kV κ2 5 0 = μ → f_X11_fail_b47 E m2 κ2 (nI h) (nI x) (nI i) = some (putM κ2 μ', nI r) := by
  intro d
  induction d with
  | zero =>
    intro i x m m2 κ μ hi hx hm hm2 hR
    obtain ⟨m, rfl⟩ : ∃ q, m = q + 1 := ⟨m - 1, by omega⟩
    obtain ⟨m2, rfl⟩ : ∃ q, m2 = q + 1 := ⟨m2 - 1, by omega⟩
    have hn : E.1 ≤ 5 := hR.2.2.1.1.1.1
    have e : i = E.1 := by omega
    subst e
    refine ⟨κ, μ, x, ?_, rfl, hR, rfl, EXT.rf, fun κ2 h5 => ?_⟩
    · rw [f_X10_fail_b41, size_ok hR.2.1.1, bd_s, if_pos (by rw [nI_le' (by omega) (by omega)]; exact Nat.le_refl _)]
    · rw [f_X11_fail_b47, h5, hR.2.2.1.1.1.2.1, if_pos (by rw [nI_le' (by omega) (by omega)]; exact Nat.le_refl _), ← h5, put_self]
  | succ d ih =>
    intro i x m m2 κ μ hi hx hm hm2 hR
    obtain ⟨m, rfl⟩ : ∃ q, m = q + 1 := ⟨m - 1, by omega⟩
    obtain ⟨m2, rfl⟩ : ∃ q, m2 = q + 1 := ⟨m2 - 1, by omega⟩
    have hn : E.1 ≤ 5 := hR.2.2.1.1.1.1
    have hH : E.2.2.2.1 = 1 := hR.1.2.2.1.2.2.2.1
    have hE5 : 0 < cntE E 5 := hR.1.2.2.1.2.1.1
    have hig : i < E.1 := by omega
    have R1 := REL_30 hR hig
    obtain ⟨M1, M2, M3, M4, M5⟩ := R1.2.2.1
    obtain ⟨⟨k, hk, hP, h15⟩, _⟩ := (M4 i hig).2.1
    have hGi := (M4 i hig).1
    have h18 : kV (setV κ 0 i 0 15 (-1)) 0 i 18 0 = (mu μ 30 i 0) 33 i := hGi.1.2.2.2.2.2.2.2.2.2.2.1.1
    have h38 : kV (setV κ 0 i 0 15 (-1)) 2 (1 - h) 0 4 = (mu μ 30 i 0) 38 (1 - h) := (M3 (1 - h) (by omega)).2.2.1
    have e5 : kV (setV κ 0 i 0 15 (-1)) 5 = kV κ 5 := by
      funext j c l
      exact vD (by omega)
    have pre : f_X10_fail_b41 E (m + 1) κ h (1 - h) (nI x) (nI i) = (if k = h then bd (f_X1_leaveFrames E (setV κ 0 i 0 15 (-1)) i) (fun κ27 _ => if kV κ27 0 i 18 0 = 0 then f_X10_fail_b117 E (f_X10_fail_b41 E m) κ27 h (1 - h) (nI x) (nI i) i else if kV κ27 2 (1 - h) 0 4 = 0 then bd (f_X1_goOnUpon E κ27 i (1 - h)) (fun κ35 _ => nm (nI x + 1) fun y38 => f_X10_fail_b122 E (f_X10_fail_b41 E m) κ35 h (1 - h) y38 (nI i)) else f_X10_fail_b117 E (f_X10_fail_b41 E m) κ27 h (1 - h) (nI x) (nI i) i) else f_X10_fail_b122 E (f_X10_fail_b41 E m) (setV κ 0 i 0 15 (-1)) h (1 - h) (nI x) (nI i)) := by
      rw [f_X10_fail_b41, size_ok hR.2.1.1, bd_s, if_neg (by rw [nI_le' (by omega) (by omega)]; omega), get_ok hR.2.1.1 hn hig, bd_s, gd_t (show i < cntE E 0 from hig), nmE, hP, optG_s (host_lt hH hk)]
    have premod : ∀ κ2 : K, kV κ2 5 0 = μ → f_X11_fail_b47 E (m2 + 1) κ2 (nI h) (nI x) (nI i) = (if k = h then (if (mu μ 30 i 0) 33 i = 0 then f_X11_fail_b96 E (f_X11_fail_b47 E m2) (putM κ2 (mu μ 30 i 0)) (nI h) (nI x) (nI i) else if (mu μ 30 i 0) 38 (1 - h) = 0 then f_X11_fail_b97 E (f_X11_fail_b47 E m2) (putM κ2 (mu μ 30 i 0)) (nI h) (nI x) (nI i) 1 else f_X11_fail_b96 E (f_X11_fail_b47 E m2) (putM κ2 (mu μ 30 i 0)) (nI h) (nI x) (nI i)) else f_X11_fail_b134 E (f_X11_fail_b47 E m2) (putM κ2 (mu μ 30 i 0)) (nI h) (nI x) (nI i)) := fun κ2 hh5 => by
      rw [f_X11_fail_b47, hh5, hR.2.2.1.1.1.2.1, if_neg (by rw [nI_le' (by omega) (by omega)]; omega), nI_cl (by omega), gdi (by omega), nmE, gdi (by omega), set5, put_kV, hh5, h15]
      by_cases e : k = h
      · rw [if_pos (by rw [e]), if_pos e, gdi (by omega)]
        by_cases z : (mu μ 30 i 0) 33 i = 0
        · rw [if_pos z, if_pos z]
        · rw [if_neg z, if_neg z, one_m hh, nI_cl (by omega), gdi (by omega)]
      · rw [if_neg (by rw [nI_eq' (by omega) (by omega)]; exact e), if_neg e]
    by_cases e : k = h
    · subst e
      have hFr : ∀ p, p < 8 → kV (setV κ 0 i 0 15 (-1)) 2 k 1 (8 * i + p) = -1 ∨ ∃ f, f < 16 ∧ kV (setV κ 0 i 0 15 (-1)) 2 k 1 (8 * i + p) = nI f := fun p hp => by
        rw [RH_key (M3 k hk).1 (key := 8 * i + p) (by omega) (by omega) (by rw [show (8 * i + p) / 8 = i from by omega]; exact h15)]
        rcases M2 (8 * i + p) (by omega) with ⟨_, z⟩ | ⟨_, z⟩
        · exact Or.inr z
        · exact Or.inl z
      have hlv := leave_E (E := E) hH hk hP hGi.1.1.1 (by omega) hFr
      have w18 : kV (pv (setV κ 0 i 0 15 (-1)) 2 k (lvU (kV (setV κ 0 i 0 15 (-1)) 2 k) i 8)) 0 i 18 0 = (mu μ 30 i 0) 33 i := by rw [pv_n (by omega)]; exact h18
      have w38 : kV (pv (setV κ 0 i 0 15 (-1)) 2 k (lvU (kV (setV κ 0 i 0 15 (-1)) 2 k) i 8)) 2 (1 - k) 0 4 = (mu μ 30 i 0) 38 (1 - k) := by rw [pv_n (by omega)]; exact h38
      rw [if_pos rfl, hlv, bd_s, w18, w38] at pre
      by_cases hgo : (mu μ 30 i 0) 33 i = 1 ∧ (mu μ 30 i 0) 38 (1 - k) = 0
      · obtain ⟨z33, z38⟩ := hgo
        obtain ⟨κ', a, b, ha, hb, hab, c1, c2, c3, c4, c5, c6⟩ := REL_goOn R1 hC5 hig hk h15 hP (muS ⟨rfl, rfl⟩) z33
        obtain ⟨κ'', μ'', r, d1, d2, d3, d4, d4x, d5⟩ := ih (i + 1) (x + 1) m m2 κ' _ (by omega) (by omega) (by omega) (by omega) c6
        refine ⟨κ'', μ'', r, ?_, d2.trans (c2.trans e5), d3, d4.trans ?_, (EXT_go (by omega)).tr d4x, fun κ2 h5 => ?_⟩
        · rw [pre, if_neg (by rw [z33]; decide), if_pos z38, c1, bd_s, nmE, f_X10_fail_b122, nmE, nI_1, nI_1, d1]
        · unfold endM gsM
          rw [mu_row (by omega), mu_row (by omega), mu_row (by omega), blk_row (by omega), mu_row (by omega), (gbM_f (Or.inl ⟨rfl, rfl⟩) (by omega)).1 0 (by omega) (by omega) (by omega) (by omega) (by omega) (by omega) (by omega), mu_row (by omega)]
        · have mg := m_goOn (E := E) (κ := putM κ2 (mu μ 30 i 0)) (g := i) (h := k) (a := a) (b := b) hE5 (by omega) (by rw [put_kV]; exact h15) hk (by rw [put_kV]; exact ha) (by rw [put_kV]; exact hb) hab
          rw [put_kV, put_put] at mg
          rw [premod κ2 h5, if_pos rfl, if_neg (by rw [z33]; decide), if_pos z38, f_X11_fail_b97, if_neg (by decide), mg, bd_s, nmE, f_X11_fail_b120, nI_cl (by omega), gdi (by omega), nmE, gdi (by omega), nmE, f_X11_fail_b134, nmE, nI_1, nI_1]
          have := d5 (putM κ2 (endM (gsM (mu (gbM (mu μ 30 i 0) 3 (55 * i) 4 (512 * i) i a) 15 i (nI (1 - k))) i a b) i)) put_kV
          rw [put_put] at this
          simp only [set5, put_kV, put_put]
          exact this
      · have c6 := REL_die R1 hig hk h15 hP (muS ⟨rfl, rfl⟩) (vS ⟨rfl, rfl, rfl, rfl⟩)
        obtain ⟨κ'', μ'', r, d1, d2, d3, d4, d4x, d5⟩ := ih (i + 1) x m m2 _ _ (by omega) (by omega) (by omega) (by omega) c6
        have hc : f_X10_fail_b41 E (m + 1) κ k (1 - k) (nI x) (nI i) = f_X10_fail_b117 E (f_X10_fail_b41 E m) (pv (setV κ 0 i 0 15 (-1)) 2 k (lvU (kV (setV κ 0 i 0 15 (-1)) 2 k) i 8)) k (1 - k) (nI x) (nI i) i := by
          rw [pre]
          by_cases z : (mu μ 30 i 0) 33 i = 0
          · rw [if_pos z]
          · rw [if_neg z, if_neg (fun y => hgo ⟨(FOLb hGi.1.2.2.2.2.2.2.2.2.2.2.1).resolve_left z, y⟩)]
        refine ⟨κ'', μ'', r, ?_, d2.trans ?_, d3, d4.trans ?_, EXT_die.tr d4x, fun κ2 h5 => ?_⟩
        · rw [hc, f_X10_fail_b117, die_E, bd_s, f_X10_fail_b122, nmE, nI_1, d1]
        · rw [← e5]
          funext j
          rw [die_V.1 5 j (by omega), pv_n (by omega)]
        · rw [die_f.1 0 (by omega) (by omega) (by omega) (by omega) (by omega), mu_row (by omega)]
        · have md : f_X11_fail_b47 E (m2 + 1) κ2 (nI k) (nI x) (nI i) = f_X11_fail_b96 E (f_X11_fail_b47 E m2) (putM κ2 (mu μ 30 i 0)) (nI k) (nI x) (nI i) := by
            rw [premod κ2 h5, if_pos rfl]
            by_cases z : (mu μ 30 i 0) 33 i = 0
            · rw [if_pos z]
            · rw [if_neg z, if_neg (fun y => hgo ⟨(FOLb hGi.1.2.2.2.2.2.2.2.2.2.2.1).resolve_left z, y⟩)]
          have mdie := m_die (E := E) (κ := putM κ2 (mu μ 30 i 0)) (g := i) (by omega)
          rw [put_kV, put_put] at mdie
          rw [md, f_X11_fail_b96, f_X11_fail_b97, if_pos rfl, mdie, bd_s, f_X11_fail_b120, nI_cl (by omega), gdi (by omega), nmE, gdi (by omega), nmE, f_X11_fail_b134, nmE, nI_1]
          have := d5 (putM κ2 (endM (dieM (mu μ 30 i 0) i) i)) put_kV
          rw [put_put] at this
          simp only [set5, put_kV, put_put]
          exact this
    · obtain ⟨κ'', μ'', r, d1, d2, d3, d4, d4x, d5⟩ := ih (i + 1) x m m2 _ _ (by omega) (by omega) (by omega) (by omega) R1
      refine ⟨κ'', μ'', r, ?_, d2.trans e5, d3, d4.trans (by rw [mu_row (by omega)]), (EXT_mu (by omega)).tr d4x, fun κ2 h5 => ?_⟩
      · rw [pre, if_neg e, f_X10_fail_b122, nmE, nI_1, d1]
      · rw [premod κ2 h5, if_neg e, f_X11_fail_b134, nmE, nI_1, d5 _ put_kV, put_put]
theorem st_fail {E : EE} {κ : K} {n ns t C : Nat} {a : Int32} (hC5 : C < 512) (hR : REL E κ (kV κ 5 0) n ns t C) : DONE (lw_fail E κ a) C := by
  have hR0 := hR
  obtain ⟨⟨rfl, rfl, hO, h9⟩, ⟨q1, q2, q3, q4, q5⟩, hM, hQ, hS, hZ, hC⟩ := hR0
  have hn : E.1 ≤ 5 := hM.1.1.1
  have hG : kV κ 5 0 0 26 = nI E.1 := hM.1.1.2.1
  have hH : E.2.2.2.1 = 1 := hO.2.2.2.1
  by_cases ha : vp_in a 2
  · obtain ⟨h, hh, rfl⟩ := vp_ex (by omega) ha
    obtain ⟨o1, o2, o3, o4, o5, o6⟩ := hM.2.2.1 h hh
    have hin : ∀ κ : K, f_X11_in E κ (nI h) 0 1 = some (κ, 1) := fun κ => in_t (by rw [i32_0, nI_lt' (by omega) (by omega)]; omega) (by rw [i32_1, nI_lt' (by omega) (by omega)]; omega)
    by_cases h0 : kV κ 5 0 38 h = 0
    · have R1 := REL_38 (x := 1) (REL_thr (x := 0) hR) hh (Or.inr rfl)
      obtain ⟨κ', μ', r, w1, w2, w3, w4, w4x, w5⟩ := fail_loop (E := E) (by omega) hh E.1 0 0 FU FU _ _ (by omega) (by omega) (by unfold FU; omega) (by unfold FU; omega) R1
      have hext : EXT (kV κ 5 0) μ' := (EXT_thr.tr (EXT_mu (by omega))).tr w4x
      rw [nI_0] at w1 w5
      have e5 : kV κ' 5 = kV κ 5 := w2.trans (by funext i c k; exact vD (by omega))
      have hrel : REL E κ' μ' E.1 E.2.1 t (C + 1) := REL_C (d1 := 0) (d2 := 0) w3 (fun _ _ _ => rfl) rfl rfl (PAID_same rfl rfl) (by omega) (by omega)
      exact ⟨E, _, E.1, E.2.1, t, by
      unfold lw_fail
      rw [show f_X10_fail E κ (nI h) = some (κ', .inl (nI r)) from by rw [f_X10_fail, hostAt_ok hH hh, bx_s, gd_t (host_lt hH hh), o3, if_pos h0, nmE, other_E hH hh, bd_s, gd_t (host_lt hH (show 1 - h < 2 by omega)), w1]]
      dsimp only
      rw [show f_X11_fail E (lwS (κ') (.inl (nI r))) (nI h) = some (putM (lwS (κ') (.inl (nI r))) (μ'), nI r) from by rw [f_X11_fail, hin, bd_s, if_neg (by decide), nI_cl (by omega), gdi (by omega), lw_V (by omega), e5, if_pos h0, f_X11_fail_b28, ref_0, bd_s, if_pos rfl, nI_cl (by omega), gdi (by omega), nmE, set5, put_kV, put_put, lw_V (by omega), e5, w5 _ put_kV, put_put]]
      dsimp only
      rw [gdp_t (lwS_okX (by rw [w4, mu_row (by omega)]; exact muS ⟨rfl, rfl⟩) (rfl))], glueS (hrel)⟩
    · exact ⟨E, _, E.1, E.2.1, t, by
      unfold lw_fail
      rw [show f_X10_fail E κ (nI h) = some (addC κ 1 6, .inr 3) from by rw [f_X10_fail, hostAt_ok hH hh, bx_s, gd_t (host_lt hH hh), o3, if_neg h0]]
      dsimp only
      rw [show f_X11_fail E (lwS (addC κ 1 6) (.inr 3)) (nI h) = some (putM (lwS (addC κ 1 6) (.inr 3)) (mu (kV κ 5 0) 0 0 2), 0) from by rw [f_X11_fail, hin, bd_s, if_neg (by decide), nI_cl (by omega), gdi (by omega), lw_V (by omega), if_neg (show ¬ kV (addC κ 1 6) 5 0 38 h = 0 from h0), f_X11_fail_b28, ref_n (by decide), bd_s, if_neg (by decide), lw_V (by omega)]; rfl]
      dsimp only
      rw [gdp_t (lwS_noX (by decide) rfl)], glueS (REL_no hR)⟩
  · exact ⟨E, _, E.1, E.2.1, t, by
      unfold lw_fail
      rw [show f_X10_fail E κ a = some (addC κ 1 6, .inr 1) from by rw [f_X10_fail, hostAt_no ha, bx_r]]
      dsimp only
      rw [show f_X11_fail E (lwS (addC κ 1 6) (.inr 1)) a = some (putM (lwS (addC κ 1 6) (.inr 1)) (mu (kV κ 5 0) 0 0 1), 0) from by rw [f_X11_fail, i32_1, in_f (vp_not (n := 1) (by omega) ha), bd_s, if_pos rfl, ← i32_1, f_X11_fail_b28, ref_n (by decide), bd_s, if_neg (by decide), lw_V (by omega)]; rfl]
      dsimp only
      rw [gdp_t (lwS_noX (by decide) rfl)], glueS (REL_no hR)⟩
