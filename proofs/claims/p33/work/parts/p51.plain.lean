theorem rows_alike {E : EE} {κ : K} {P1 P2 : Pl} {W B : Nat → Int32} {N : Nat} (h1 : kA E κ P1 = some (N, W)) (h2 : kA E κ P2 = some (N, B)) (hN : N < 1000) (h : ∀ k, k < N → W k = B k) : f_X10_areRowsAlike E κ P1 P2 = some (κ, 1) := by
  have l1 : ∀ d k m, k + d = N → d < m → f_X10_areRowsAlike_b11 E P1 P2 m κ (nI k) = some (κ, 1) := by
    intro d
    induction d with
    | zero =>
      intro k m hk hm
      obtain ⟨m, rfl⟩ : ∃ q, m = q + 1 := ⟨m - 1, by omega⟩
      rw [f_X10_areRowsAlike_b11, h1, tmpG_s, if_pos (by rw [nI_le' (by omega) (by omega)]; omega)]
    | succ d ih =>
      intro k m hk hm
      obtain ⟨m, rfl⟩ : ∃ q, m = q + 1 := ⟨m - 1, by omega⟩
      rw [f_X10_areRowsAlike_b11, h1, tmpG_s, if_neg (by rw [nI_le' (by omega) (by omega)]; omega), tmpG_s, nI_cl (by omega), gdi (by omega), h2, tmpG_s, gdi (by omega), if_pos (h k (by omega)), nmE, nI_1]
      exact ih (k + 1) m (by omega) (by omega)
  have := l1 N 0 FU (by omega) (by unfold FU; omega)
  rw [nI_0] at this
  rw [f_X10_areRowsAlike, f_X10_areRowsAlike_e, h1, tmpG_s, h2, tmpG_s, if_pos rfl, this, bd_s, gd_t (Or.inr rfl)]
theorem kA_l {E : EE} {κ : K} {f i c : Nat} (h8 : f ≠ 8) (h7 : f ≠ 7) (hl : liveC E f i c = true) (hk : kd f c = 20) : kA E κ (f, i, c) = some (sl f c, kV κ f i c) := by
  unfold kA
  rw [if_neg (fun z => by injection z with z _; exact h7 z), if_neg h8, if_pos hl, if_pos hk]
theorem live_3 {E : EE} {i c : Nat} (hi : i < cntE E 3) (hc : c = 2 ∨ c = 3 ∨ c = 4) : liveC E 3 i c = true := by
  unfold liveC
  rw [decide_eq_true hi]
  rcases hc with rfl | rfl | rfl <;> rfl
theorem live_0 {E : EE} {i c : Nat} (hi : i < cntE E 0) (hc : c = 7 ∨ c = 8 ∨ c = 9) : liveC E 0 i c = true := by
  unfold liveC
  rw [decide_eq_true hi]
  rcases hc with rfl | rfl | rfl <;> rfl
theorem ended_no {E : EE} {κ : K} {f i c : Nat} (h : kV κ f i c 8 = 0 ∨ kV κ f i c 8 = 1) : f_X3_hasEnded E κ f i c = some (κ, 0) := by
  rw [f_X3_hasEnded, f_X3_hasEnded_e, if_neg (fun z => by rw [z] at h; rcases h with y | y <;> exact absurd y (by decide)), if_neg (fun z => by rw [z] at h; rcases h with y | y <;> exact absurd y (by decide)), bd_s, gd_t (Or.inl rfl)]
theorem isAs_y {E : EE} {κ : K} {g i : Nat} (hg : g < cntE E 0) (hi : i < cntE E 3) (h : MEQ (mc (kV κ 0 g) 6) (mc (kV κ 3 i) 1)) : f_X3_isAs E κ 3 i 1 0 g 6 = some (κ, 1) := by
  have a1 : f_X10_areRowsAlike E κ (3, i, 1 + 1) (0, g, 6 + 1) = some (κ, 1) := rows_alike (N := 4) (kA_l (by omega) (by omega) (live_3 hi (by omega)) rfl) (kA_l (by omega) (by omega) (live_0 hg (by omega)) rfl) (by omega) (fun k hk => h.v1 hk)
  have a2 : f_X10_areRowsAlike E κ (3, i, 1 + 2) (0, g, 6 + 2) = some (κ, 1) := rows_alike (N := 8) (kA_l (by omega) (by omega) (live_3 hi (by omega)) rfl) (kA_l (by omega) (by omega) (live_0 hg (by omega)) rfl) (by omega) (fun k hk => h.v2 hk)
  have a3 : f_X10_areRowsAlike E κ (3, i, 1 + 3) (0, g, 6 + 3) = some (κ, 1) := rows_alike (N := 32) (kA_l (by omega) (by omega) (live_3 hi (by omega)) rfl) (kA_l (by omega) (by omega) (live_0 hg (by omega)) rfl) (by omega) (fun k hk => h.v3 hk)
  have e : ∀ k, 3 ≤ k ∧ k < 8 → kV κ 3 i 1 k = kV κ 0 g 6 k := fun k hk => h.v0 hk
  have fin : f_X3_isAs_e E κ 3 i 1 0 g 6 = some (κ, 1) := by
    rw [f_X3_isAs_e, a1, bd_s, if_neg (by decide), a2, bd_s, if_neg (by decide), a3, bd_s, if_neg (by decide), if_pos (e 3 (by omega)), if_pos (e 4 (by omega)), if_pos (e 5 (by omega)), if_pos (e 6 (by omega)), if_pos (e 7 (by omega))]
    by_cases z : kV κ 3 i 1 8 = kV κ 0 g 6 8
    · rw [if_pos z, f_X3_isAs_b122]
    · rcases h.2 with y | ⟨y1, y2⟩
      · exact absurd y z
      · rw [if_neg z, ended_no y2, bd_s, if_pos rfl, ended_no y1, bd_s, if_pos rfl, f_X3_isAs_b122]
  rw [f_X3_isAs, fin, bd_s, gd_t (Or.inr rfl)]
/-- the next time that it changes -/
theorem next_up {C : Nat → Nat} {st : Nat} (hs : ∀ s, s < st → C s ≤ C (s + 1) ∧ C (s + 1) ≤ C s + 1) : ∀ d s, s + d = st → C s < C st → ∃ s', s ≤ s' ∧ s' < st ∧ C s' = C s ∧ C (s' + 1) = C s + 1
  | 0, s, h, h2 => by
    rw [Nat.add_zero] at h
    rw [h] at h2
    omega
  | d + 1, s, h, h2 => by
    have hh := hs s (by omega)
    by_cases e : C (s + 1) = C s + 1
    · exact ⟨s, Nat.le_refl _, by omega, rfl, e⟩
    · have e2 : C (s + 1) = C s := by omega
      obtain ⟨s', a, b, c, d'⟩ := next_up hs d (s + 1) (by omega) (by omega)
      exact ⟨s', by omega, b, by omega, by omega⟩
theorem again_run {E : EE} {κ0 : K} {g i st nT nS nJ : Nat} {T S J : Nat → Int32} (hg : g < cntE E 0) (hi : i < cntE E 3) (hLs : LST κ0 g nT nS nJ T S J) (hst : kV κ0 0 g 5 5 = nI st) (hT3 : nT ≤ st) (hS3 : nS ≤ st) (hJ3 : nJ ≤ st) (h3 : st ≤ 3000) (hp : kP κ0 3 i 0 1 = some g) (h0 : MEQ initM (mc (kV κ0 3 i) 1)) (hr0 : RST κ0 i 0 0) (hP : PLN (kV κ0 0 g) (mc (kV κ0 0 g) 6) st nT nS nJ T S J) : ∃ κ', f_X6_agrees E κ0 i g = some (κ', 1) ∧ FR3 κ0 κ' i := by
  obtain ⟨M, A, B, Cc, hM0, hA0, hB0, hC0, hs, hMs, rA, rB, rC⟩ := hP
  have mA : ∀ s, s ≤ st → A s ≤ nT := fun s hs' => by
    have := mono (A := A) (n := st) (fun s hs' => (STP_n (hs s hs')).1) (st - s) s (by omega)
    rw [show s + (st - s) = st from by omega] at this
    omega
  have mB : ∀ s, s ≤ st → B s ≤ nS := fun s hs' => by
    have := mono (A := B) (n := st) (fun s hs' => (STP_n (hs s hs')).2.2.1) (st - s) s (by omega)
    rw [show s + (st - s) = st from by omega] at this
    omega
  have mC : ∀ s, s ≤ st → Cc s ≤ nJ := fun s hs' => by
    have := mono (A := Cc) (n := st) (fun s hs' => (STP_n (hs s hs')).2.2.2.2.1) (st - s) s (by omega)
    rw [show s + (st - s) = st from by omega] at this
    omega
  have hcJ : nJ ≤ kN κ0 0 g 17 := hLs.2.2.2.1
  have hcJ2 : kN κ0 0 g 17 ≤ 6000 := (CAP_ge hLs.2.2.2.2.1).2
  have run : ∀ d s m κ, s + d = st → d < m → FR3 κ0 κ i → MEQ (M s) (mc (kV κ 3 i) 1) → RST κ i (A s) (B s) → ∃ κ', f_X6_agrees_b4 E i g m κ (nI (Cc s)) (nI s) = some (κ', 1) ∧ FR3 κ0 κ' i := by
    intro d
    induction d with
    | zero =>
      intro s m κ hd hm hF hE hR
      obtain ⟨m, rfl⟩ : ∃ q, m = q + 1 := ⟨m - 1, by omega⟩
      obtain rfl : s = st := by omega
      have gV : kV κ 0 g = kV κ0 0 g := hF.1 0 g (by omega)
      have pE : kP κ 3 i 0 1 = some g := by rw [hF.2.2.1]; exact hp
      refine ⟨κ, ?_, hF⟩
      rw [f_X6_agrees_b4, pE, optG_s hg, gV, hst, if_pos (by rw [nI_le' (by omega) (by omega)]; exact Nat.le_refl _), f_X6_agrees_b98, hR.2.2, if_neg (by decide), pE, optG_s hg, gV, hLs.2.2.1, rC, if_pos rfl, optG_s hg, hR.1, gV, hLs.1.1, rA, if_pos rfl, optG_s hg, hR.2.1, gV, hLs.2.1.1, rB, if_pos rfl, optG_s hg, isAs_y hg hi (by rw [gV]; exact hMs.sym.trans hE), bd_s, if_neg (by decide)]
    | succ d ih =>
      intro s m κ hd hm hF hE hR
      obtain ⟨m, rfl⟩ : ∃ q, m = q + 1 := ⟨m - 1, by omega⟩
      have gV : kV κ 0 g = kV κ0 0 g := hF.1 0 g (by omega)
      have gN : kN κ = kN κ0 := hF.2.1
      have pE : kP κ 3 i 0 1 = some g := by rw [hF.2.2.1]; exact hp
      obtain ⟨h8, m1, hj, hst2⟩ := hs s (by omega)
      have nT' : ∀ κ, FR3 κ0 κ i → NUM κ 0 g 12 nT T := fun κ h => NUM_K hLs.1 (by rw [h.1 0 g (by omega)]) (by rw [h.1 0 g (by omega)]) (by rw [h.2.1])
      have nS' : ∀ κ, FR3 κ0 κ i → NUM κ 0 g 14 nS S := fun κ h => NUM_K hLs.2.1 (by rw [h.1 0 g (by omega)]) (by rw [h.1 0 g (by omega)]) (by rw [h.2.1])
      have cont : ∀ κa, FR3 κ0 κa i → MEQ m1 (mc (kV κa 3 i) 1) → (m1 0 8 = 0 ∨ m1 0 8 = 1) → RST κa i (A s) (B s) → ∃ κ', f_X6_agrees_b83 E i g (f_X6_agrees_b4 E i g m) κa (nI (Cc (s + 1))) (nI s) = some (κ', 1) ∧ FR3 κ0 κ' i := by
        intro κa fa ea ea8 ra
        obtain ⟨κ2, b1, b2, b3, b4⟩ := r_step hg (by rw [fa.2.2.1]; exact hp) (fa.1 0 g (by omega)).symm hst2 ea ea8 ra (nT' κa fa) (nS' κa fa) (mA (s + 1) (by omega)) (mB (s + 1) (by omega))
        obtain ⟨κ3, c1, c2⟩ := ih (s + 1) m κ2 (by omega) (by omega) (fa.trans b4) b2 b3
        exact ⟨κ3, by rw [f_X6_agrees_b83, b1, bd_s, nI_1, nmE]; exact c1, c2⟩
      rw [f_X6_agrees_b4, pE, optG_s hg, gV, hst, if_neg (by rw [nI_le' (by omega) (by omega)]; omega), ended_no (by have := hE.run h8; exact this), bd_s, if_pos rfl, pE, optG_s hg, gV, hLs.2.2.1]
      have hJv : ∀ c, c < nJ → kV κ 0 g 17 c = J c := fun c hc => by rw [gV]; exact hLs.2.2.2.2.2 c hc
      have hCs := mC s (by omega)
      rcases hj with ⟨c1, c2⟩ | ⟨why, w1, c1, c2, c3⟩
      · have hgo : ∃ κ', f_X6_agrees_b83 E i g (f_X6_agrees_b4 E i g m) κ (nI (Cc s)) (nI s) = some (κ', 1) ∧ FR3 κ0 κ' i := by
          rw [← c1]
          exact cont κ hF (by rw [c2]; exact hE) (by rw [c2]; exact h8) hR
        by_cases e : nJ ≤ Cc s
        · rw [if_pos (by rw [nI_le' (by omega) (by omega)]; exact e)]
          exact hgo
        · obtain ⟨s', y1, y2, y3, y4⟩ := next_up (C := Cc) (st := st) (fun q hq => ⟨(STP_n (hs q hq)).2.2.2.2.1, (STP_n (hs q hq)).2.2.2.2.2⟩) (st - s) s (by omega) (by omega)
          obtain ⟨_, _, hj', _⟩ := hs s' y2
          have hne : s' ≠ s := fun z => by rw [z] at y4; omega
          have eJ : ∃ why, (why = 2 ∨ why = 3) ∧ J (Cc s) = nI (4 * s' + why) := by
            rcases hj' with ⟨z1, _⟩ | ⟨wy, z0, _, z2, _⟩
            · omega
            · exact ⟨wy, z0, by rw [← y3]; exact z2⟩
          obtain ⟨wy, z0, z1⟩ := eJ
          rw [if_neg (by rw [nI_le' (by omega) (by omega)]; exact e), optG_s hg, nI_cl (by omega), gN, gdi (by omega), hJv _ (by omega), z1, l4, nI_div (by omega) (by omega), show (4 * s' + wy) / 4 = s' from by omega, if_neg (by rw [nI_eq' (by omega) (by omega)]; exact hne)]
          exact hgo
      · have hlt : Cc s < nJ := by have := mC (s + 1) (by omega); omega
        have em : ∀ j, j < 4 → kV κ 3 i (1 + j) = (mc (kV κ 3 i) 1) j := fun _ _ => rfl
        have hen : f_X3_enterHandler E κ 3 i 1 (nI why) = some (pm κ 3 i 1 (enterC (mc (kV κ 3 i) 1) (nI why)), ()) := by
          have := c_enter (E := E) (κ := κ) (f := 3) (i := i) (c := 1) (m := mc (kV κ 3 i) 1) (why := nI why)
          rw [pm_self] at this
          exact this
        rw [if_neg (by rw [nI_le' (by omega) (by omega)]; omega), optG_s hg, nI_cl (by omega), gN, gdi (by omega), hJv _ hlt, c2, l4, nI_div (by omega) (by omega), show (4 * s + why) / 4 = s from by omega, if_pos rfl, optG_s hg, gdi (by omega), hJv _ hlt, c2, nI_div (by omega) (by omega), show (4 * s + why) / 4 = s from by omega, nI_mul, show nI (4 * s + why) - nI (s * 4) = nI why from by rw [nI_sub (by omega), show 4 * s + why - s * 4 = why from by omega], hen, bd_s, nI_1, nmE, ← c1]
        have e1 : MEQ m1 (enterC (M s) (nI why)) := MEQ_j fun j hj => (c3 j hj).symm
        refine cont _ (hF.trans FR3_pm) ((e1.trans (enter_MEQ hE)).trans (MEQ_j pm_mc)) ?_ (RST_pm hR)
        rw [c3 0 (by omega)]
        unfold enterC
        rw [muD (by omega), muD (by omega), muD (by omega), muD (by omega)]
        exact h8
  obtain ⟨κ', r1, r2⟩ := run st 0 FU κ0 (by omega) (by unfold FU; omega) FR3.rfl' (hM0.sym.trans h0) (by rw [hA0, hB0]; exact hr0)
  rw [hC0, nI_0] at r1
  exact ⟨κ', by rw [f_X6_agrees, f_X6_agrees_e, r1, bd_s, gd_t (Or.inr rfl)], r2⟩
theorem REL_3 {E E' : EE} {κ κ' : K} {μ : MU} {n ns t C g : Nat} (hR : REL E κ μ n ns t C) (hg : g < n) (hE : E' = eP E) (hV : ∀ f i, ¬ (f = 3 ∧ i = cntE E 3) → kV κ' f i = kV κ f i ∧ kN κ' f i = kN κ f i ∧ kP κ' f i = kP κ f i) (hp : kP κ' 3 (cntE E 3) 0 1 = some g) (hC : kC κ' = ((kC κ).1 + 5, (kC κ).2 + 58)) : REL E' κ' μ n ns t (C + 1) := by
  subst hE
  obtain ⟨⟨g1, g2, g3, g4, g5⟩, ⟨l1, l2, l3, l4, l5⟩, ⟨h1, h2, h3, h4, h5⟩, r4, ⟨r5, r5b, r5c⟩, r6, r7⟩ := hR
  have eV : ∀ f, f ≠ 3 → kV κ' f = kV κ f := fun f hf => by funext i; exact (hV f i (by omega)).1
  have eN : ∀ f, f ≠ 3 → kN κ' f = kN κ f := fun f hf => by funext i; exact (hV f i (by omega)).2.1
  have eP' : ∀ f, f ≠ 3 → kP κ' f = kP κ f := fun f hf => by funext i; exact (hV f i (by omega)).2.2
  have ee : ∀ f, f ≠ 3 → cntE (eP E) f = cntE E f := fun f hf => by
    rcases f with _ | _ | _ | _ | _ | _ | _ | _ | _ | _ | f
    · rfl
    · rfl
    · rfl
    · exact absurd rfl hf
    all_goals rfl
  refine ⟨⟨g1, g2, OKE_e g3 (fun f _ _ a _ => ee f a) rfl rfl, by rw [ee 9 (by omega)]; exact g4, fun i hi => ?_⟩, ⟨?_, ?_, by rw [eV 4 (by omega)]; exact l3, l4, l5⟩, ⟨h1, h2, fun q hq => HO_v (h3 q hq) (Nat.le_refl _) (by rw [eV 2 (by omega)]; exact (h3 q hq).1) (fun k _ => by rw [eV 2 (by omega)]) (by rw [eP' 2 (by omega)]) (fun _ _ _ => rfl), fun g hg => ⟨RG_e (h4 g hg).1 (by rw [eV 0 (by omega)]) (by rw [eN 0 (by omega)]) (fun _ _ => rfl), GPT_v (h4 g hg).2.1 (Nat.le_refl _) (by rw [eP' 0 (by omega)]) rfl rfl, (h4 g hg).2.2.imp (fun z => by rw [eV 0 (by omega)]; exact z) (fun z => PLK_v z (fun j _ => by rw [eV 0 (by omega)]) (fun j _ => by rw [eN 0 (by omega)]) (fun c _ _ => by rw [eV 0 (by omega)]) (RANUP_e (by rw [eV 0 (by omega)])))⟩, fun s hs => SNP_v (h5 s hs) (Nat.le_refl _) (by rw [eV 1 (by omega)]) (by rw [eV 9 (by omega)]) (by rw [eN 9 (by omega)]) (by rw [eP' 1 (by omega)]) (fun _ _ _ _ _ _ _ => rfl) (fun g _ => ⟨fun c _ _ => by rw [eV 0 (by omega)], RANUP_e (by rw [eV 0 (by omega)])⟩)⟩, fun g hg => ⟨(r4 g hg).1, (r4 g hg).2.1, INQ_up (r4 g hg).2.2⟩, ⟨r5, r5b, fun s hs => ?_⟩, r6, ?_⟩
  · by_cases e : i = cntE E 3
    · rw [e]; exact ⟨g, hg, hp⟩
    · have hi2 : i < cntE E 3 + 1 := hi
      obtain ⟨q, a, b⟩ := g5 i (by omega)
      exact ⟨q, a, by rw [(hV 3 i (by omega)).2.2]; exact b⟩
  · exact LsI_v (E := E) l1 (by rw [eV 4 (by omega)]) (by rw [eP' 4 (by omega)])
  · exact LsI_v (E := E) l2 (by rw [eV 4 (by omega)]) (by rw [eP' 4 (by omega)])
  · obtain ⟨a, b, c⟩ := r5c s hs
    exact ⟨a, b, by omega⟩
  · have hW : WT κ' n ns = WT κ n ns := by
      refine sumL_congr fun p hp => ?_
      obtain ⟨f, i, c⟩ := p
      by_cases e : aliveN n ns (f, i, c) = true
      · rw [if_pos e, if_pos e]
        unfold aliveN at e
        simp only [Bool.or_eq_true, Bool.and_eq_true, decide_eq_true_eq] at e
        show kN κ' f i c = kN κ f i c
        rw [eN f (by omega)]
      · rw [if_neg e, if_neg e]
    obtain ⟨c1, c2⟩ := r7
    unfold COST
    rw [hC, hW]
    dsimp only
    omega
theorem plain_cls {E : EE} {κ : K} {μ : MU} {n ns t C g : Nat} (hR : REL E κ μ n ns t C) (hg : g < n) (hd : kV κ 0 g 0 18 = 0) : ∃ κ', f_X6_agrees (eP E) (kR E κ g) (cntE E 3) g = some (κ', 1) ∧ kV κ' 5 = kV κ 5 ∧ REL (eP E) κ' μ n ns t (C + 1) := by
  obtain ⟨⟨g1, g2, g3, g4, g5⟩, _, ⟨m1, m2, m3, m4, m5⟩, _⟩ := id hR
  obtain ⟨hGg, hPg, hFg⟩ := m4 g hg
  obtain ⟨st, nT, nS, nJ, T, S, J, r, hLs, hst, l1, l2, l3, hr, l4, l5, hpl⟩ := hGg.2.2.2
  have hPL : PLN (kV κ 0 g) (mc (kV κ 0 g) 6) st nT nS nJ T S J := by
    rcases hpl with ⟨z, _⟩ | ⟨_, z⟩
    · rw [hd] at z; exact absurd z (by decide)
    · exact z
  have c0 : cntE E 0 = n := g1
  generalize hi : cntE E 3 = i
  have hk : kR E κ g = adK (addC κ 5 58) (nwF 3 i 5 fun c => c) (cX6 (eR E).length g) := by
    unfold kR
    rw [hi]
  have kv : ∀ f i', ¬ (f = 3 ∧ i' = i) → kV (kR E κ g) f i' = kV κ f i' ∧ kN (kR E κ g) f i' = kN κ f i' ∧ kP (kR E κ g) f i' = kP κ f i' := fun f i' z => by
    rw [hk]
    refine ⟨?_, ?_, ?_⟩
    · funext c; exact aK_Vn (nwF_n (by omega))
    · funext c; exact aK_Nn (nwF_n (by omega))
    · funext c; exact aK_Pn (nwF_n (by omega))
  have nv : ∀ c, c < 5 → ∀ k, kV (kR E κ g) 3 i c k = rvI ((cX6 (eR E).length g).getD c rz) k := fun c hc k => by
    rw [hk]
    exact aK_V ⟨rfl, rfl, hc⟩ k
  have np : kP (kR E κ g) 3 i 0 1 = some g := by
    rw [hk, aK_P ⟨rfl, rfl, by omega⟩]
    rfl
  have g0 : kV (kR E κ g) 0 g = kV κ 0 g := (kv 0 g (by omega)).1
  have mvn : ∀ {c s q}, NUM κ 0 g c s q → NUM (kR E κ g) 0 g c s q := fun {c s q} z => NUM_K z (by rw [g0]) (by rw [g0]) (by rw [(kv 0 g (by omega)).2.1])
  have hini : MEQ initM (mc (kV (kR E κ g) 3 i) 1) := by
    refine MEQ_rel fun j k hj => ?_
    show kV (kR E κ g) 3 i (1 + j) k = initM j k
    unfold initM
    rcases hj with ⟨rfl, k1, k2⟩ | ⟨rfl, _⟩ | ⟨rfl, hk⟩ | ⟨rfl, _⟩
    · rw [nv 1 (by omega)]
      obtain rfl | rfl | rfl | rfl | rfl | rfl : k = 3 ∨ k = 4 ∨ k = 5 ∨ k = 6 ∨ k = 7 ∨ k = 8 := by omega
      all_goals rfl
    · rw [nv (1 + 1) (by omega), if_neg (by omega), if_neg (by omega)]; rfl
    · rw [nv (1 + 2) (by omega), if_neg (by omega), if_pos rfl]
      obtain rfl | rfl | rfl | rfl | rfl | rfl | rfl | rfl : k = 0 ∨ k = 1 ∨ k = 2 ∨ k = 3 ∨ k = 4 ∨ k = 5 ∨ k = 6 ∨ k = 7 := by omega
      all_goals rfl
    · rw [nv (1 + 3) (by omega), if_neg (by omega), if_neg (by omega)]; rfl
  obtain ⟨κ', r1, r2⟩ := again_run (E := eP E) (κ0 := kR E κ g) (g := g) (i := i) (show g < cntE (eP E) 0 by show g < E.1; omega) (by rw [← hi]; show cntE E 3 < cntE E 3 + 1; omega) (⟨mvn hLs.1, mvn hLs.2.1, mvn hLs.2.2⟩ : LST (kR E κ g) g nT nS nJ T S J) (by rw [g0]; exact hst) l1 l2 l3 (by omega) np hini ⟨by rw [nv 0 (by omega)]; rfl, by rw [nv 0 (by omega)]; rfl, by rw [nv 0 (by omega)]; rfl⟩ (by rw [g0]; exact hPL)
  refine ⟨κ', r1, ?_, REL_3 hR hg rfl (fun f i' z => ⟨?_, ?_, ?_⟩) ?_ ?_⟩
  · funext i'
    rw [r2.1 5 i' (by omega), (kv 5 i' (by omega)).1]
  · rw [r2.1 f i' (by omega), (kv f i' (by omega)).1]
  · rw [r2.2.1, (kv f i' (by omega)).2.1]
  · rw [r2.2.2.1, (kv f i' (by omega)).2.2]
  · rw [r2.2.2.1, hi]; exact np
  · rw [r2.2.2.2]; rfl
theorem st_isAsPlain {E : EE} {κ : K} {n ns t C : Nat} {a : Int32} (hR : REL E κ (kV κ 5 0) n ns t C) : DONE (lw_isAsPlain E κ a) C := by
  have hR0 := hR
  obtain ⟨⟨rfl, rfl, hO, h9⟩, ⟨q1, q2, q3, q4, q5⟩, hM, hQ, hS, hZ, hC⟩ := hR0
  have hn : E.1 ≤ 5 := hM.1.1.1
  have hG : kV κ 5 0 0 26 = nI E.1 := hM.1.1.2.1
  have hH : E.2.2.2.1 = 1 := hO.2.2.2.1
  by_cases ha : vp_in a E.1
  · obtain ⟨g, hg, rfl⟩ := vp_ex (by omega) ha
    have hgu : f_X10_guestAt E κ (nI g) = some (κ, .inl g) := guestAt_ok q1 hn hg
    have md : ∀ (E : EE) (κ : K), kV κ 5 0 0 26 = nI E.1 → E.1 ≤ 5 → g < E.1 → f_X11_isAsPlain E κ (nI g) = some (putM κ (mu (kV κ 5 0) 0 0 0), 1) := fun E κ h1 h2 h3 => by
      rw [f_X11_isAsPlain, f_X11_isAsPlain_e, isGuest_t (n := E.1) h1 h2 h3, bd_s, if_neg (by decide), f_X11_isAsPlain_b14, ref_0, bd_s, if_pos rfl, bd_s, gd_t (Or.inr rfl)]
    by_cases hd : kV κ 0 g 0 18 = 0
    · obtain ⟨κ', s1, s2, s3⟩ := plain_cls (REL_thr (x := 0) hR) hg hd
      exact ⟨eP E, _, E.1, E.2.1, t, by
        unfold lw_isAsPlain
        rw [show f_X10_isAsPlain E κ (nI g) = some ((eP E, κ'), .inl 1) from by
          rw [f_X10_isAsPlain, hgu]
          show gd (g < cntE E 0) _ = _
          rw [gd_t (show g < cntE E 0 from hg), if_pos hd, gdp_t ((DG_all hR).2.2.2 _), s1]
          rfl]
        dsimp only
        rw [gdp_t ⟨s3.1.2.2.1, fun e z => by cases z⟩, md (eP E) (lwB κ' (.inl 1)) (by rw [lwB_V (by omega), s2]; exact hG) hn hg, lwB_V (by omega), s2]
        dsimp only
        rw [gdp_t (lwB_ok (muS ⟨rfl, rfl⟩) rfl)], glueB s3⟩
    · exact ⟨E, _, E.1, E.2.1, t, by
        unfold lw_isAsPlain
        rw [show f_X10_isAsPlain E κ (nI g) = some ((E, κ), .inl 1) from by
          rw [f_X10_isAsPlain, hgu]
          show gd (g < cntE E 0) _ = _
          rw [gd_t (show g < cntE E 0 from hg), if_neg hd]]
        dsimp only
        rw [gdp_t ⟨hO, fun e z => by cases z⟩, md E (lwB κ (.inl 1)) (by rw [lwB_V (by omega)]; exact hG) hn hg, lwB_V (by omega)]
        dsimp only
        rw [gdp_t (lwB_ok (muS ⟨rfl, rfl⟩) rfl)], glueB (REL_ok hR)⟩
  · have hgu : f_X10_guestAt E κ a = some (addC κ 1 6, .inr 1) := guestAt_no q1 hn ha
    exact ⟨E, _, E.1, E.2.1, t, by
      unfold lw_isAsPlain
      rw [show f_X10_isAsPlain E κ a = some ((E, addC κ 1 6), .inr 1) from by rw [f_X10_isAsPlain, hgu]; rfl]
      dsimp only
      rw [gdp_t ⟨hO, fun e z => by cases z; decide⟩, show f_X11_isAsPlain E (lwB (addC κ 1 6) (.inr 1)) a = some (putM (lwB (addC κ 1 6) (.inr 1)) (mu (kV κ 5 0) 0 0 1), 0) from by rw [f_X11_isAsPlain, f_X11_isAsPlain_e, isGuest_f (n := E.1) (by rw [lwB_V (by omega)]; exact hG) hn ha, bd_s, if_pos rfl, f_X11_isAsPlain_b14, ref_n (by decide), bd_s, if_neg (by decide), lwB_V (by omega), bd_s, gd_t (Or.inl rfl)]; rfl]
      dsimp only
      rw [gdp_t (lwB_no (by decide) rfl)], glueB (REL_no hR)⟩
