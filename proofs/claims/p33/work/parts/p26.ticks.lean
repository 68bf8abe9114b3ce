theorem OWN_wk {μ : MU} {g : Nat} : OWN μ (wkM μ g) g := by
  unfold wkM
  try dsimp only
  split
  · exact ((OWN_1 (k := 50) rfl (by omega)).trans (OWN_1 (k := 51) rfl (by omega))).trans (OWN_1 (k := 49) rfl (by omega))
  · exact OWN_1 (k := 49) rfl (by omega)
theorem t_down {E : EE} {κ : K} {μ : MU} {n ns t : Nat} (hE : E.1 = n) (hL : LsI E κ 1 n) (hM : MID κ μ n ns (fun _ => t)) (ht : μ 0 41 = nI t) (ht3 : t < 3000) : ∃ κ', f_X10_countTimersDown E κ = some (κ', ()) ∧ MID κ' (wkU μ n) n ns (fun _ => t + 1) ∧ HFR n ns 0 0 κ κ' := by
  subst hE
  have hn : E.1 ≤ 5 := hM.1.1.1
  have loop : ∀ (d i m : Nat) (κ1 : K), i + d = E.1 → d < m → MID κ1 (wkU μ i) E.1 ns (fun g => if g < i then t + 1 else t) → HFR E.1 ns 0 0 κ κ1 → ∃ κ', f_X10_countTimersDown_b2 E m κ1 (nI i) = some (κ', ()) ∧ MID κ' (wkU μ E.1) E.1 ns (fun _ => t + 1) ∧ HFR E.1 ns 0 0 κ κ' := by
    intro d
    induction d with
    | zero =>
      intro i m κ1 hi hm M1 F1
      obtain ⟨m, rfl⟩ : ∃ q, m = q + 1 := ⟨m - 1, by omega⟩
      have e : i = E.1 := by omega
      subst e
      refine ⟨κ1, by rw [f_X10_countTimersDown_b2, size_ok (LsI_h hL F1), bd_s, if_pos (by rw [nI_le' (by omega) (by omega)]; exact Nat.le_refl _)], MID_tf M1 (fun g hg => if_pos hg), F1⟩
    | succ d ih =>
      intro i m κ1 hi hm M1 F1
      obtain ⟨m, rfl⟩ : ∃ q, m = q + 1 := ⟨m - 1, by omega⟩
      have hL1 := LsI_h hL F1
      have hi5 : i < E.1 := by omega
      have hG := (M1.2.2.2.1 i hi5).1
      dsimp only at hG
      rw [if_neg (show ¬ i < i by omega)] at hG
      obtain ⟨r1, _⟩ := M1.1.1.2.2.1 i hi5
      obtain ⟨κ2, p1, p2, p3, p4, p5, p6, p7⟩ := RG_down hG r1 (by rw [wkU_row (by omega)]; exact ht) ht3
      rw [f_X10_countTimersDown_b2, size_ok hL1, bd_s, if_neg (by rw [nI_le' (by omega) (by omega)]; omega), get_ok hL1 hn hi5, bd_s, gd_t (show i < cntE E 0 from hi5), p1, bd_s, nmE, nI_1]
      refine ih (i + 1) m κ2 (by omega) (by omega) ?_ (F1.tr (HFR_0 p3 p5 p6 p7))
      have ew : ∀ c, c ≠ 1 → (wkM (wkU μ i) i) c = (wkU μ i) c := fun c hc => wkM_row hc
      refine MID_tf (MID_1 M1 hi5 p3 p5 p6 (TJ_wk M1.1 hi5) OWN_wk (ew 27 (by omega)) (ew 28 (by omega)) (ew 29 (by omega)) (fun c _ _ _ _ _ => ew c (by omega)) p2 (fun c hc => p4 c (by omega) (by omega)) (RANUP_e (by rw [p4 0 (by omega) (by omega)]))) (fun g _ => ?_)
      by_cases e : g = i
      · rw [if_pos e, if_pos (by omega)]
      · rw [if_neg e]
        by_cases e2 : g < i
        · rw [if_pos e2, if_pos (by omega)]
        · rw [if_neg e2, if_neg (by omega)]
  have := loop E.1 0 FU κ (by omega) (by unfold FU; omega) (MID_tf hM (fun g _ => (if_neg (by omega)).symm)) HFR.rfl
  rw [nI_0] at this
  exact this
theorem TJ_time {μ : MU} {n t : Nat} (h : TJ μ n) (ht : t ≤ 3000) : TJ (mu μ 0 41 (nI t)) n := by
  have er : ∀ c, c ≠ 0 → (mu μ 0 41 (nI t)) c = μ c := fun c hc => mu_row hc
  refine ⟨⟨h.1.1, by rw [muD (by omega)]; exact h.1.2.1, ?_, ?_⟩, ?_, t, ht, muS ⟨rfl, rfl⟩⟩
  · intro g hg
    obtain ⟨a, b, c, d⟩ := h.1.2.2.1 g hg
    exact ⟨ROK_row a (er 1 (by omega)), by unfold PRG; rw [er 13 (by omega), er 14 (by omega)]; exact b, PAG_row c (er 27 (by omega)) (er 28 (by omega)), by rw [er 15 (by omega)]; exact d⟩
  · rw [er 39 (by omega)]; exact h.1.2.2.2
  · intro g hg
    unfold QOK
    rw [er 1 (by omega), er 2 (by omega)]
    exact h.2.1 g hg
theorem t_end {E : EE} {κ : K} {μ : MU} {n ns t : Nat} (hE : E.1 = n) (hL : LsI E κ 1 n) (hM : MID κ μ n ns (fun _ => t + 1)) (ht : μ 0 41 = nI t) (ht3 : t < 3000) (htc : kV κ 4 0 0 3 = nI t) (hC : ∀ g, g < n → CLK μ g t) : ∃ κ', f_X10_endTick E κ = some (κ', ()) ∧ MID κ' (mu μ 0 41 (nI (t + 1))) n ns (fun _ => t + 1) ∧ kV κ' 4 0 0 3 = nI (t + 1) ∧ (∀ c k, ¬ (c = 0 ∧ k = 3) → kV κ' 4 0 c k = kV κ 4 0 c k) ∧ (∀ f, f ≠ 0 → f ≠ 4 → kV κ' f = kV κ f) ∧ kN κ' = kN κ ∧ kP κ' = kP κ ∧ kC κ' = kC κ := by
  subst hE
  have hn : E.1 ≤ 5 := hM.1.1.1
  have er : ∀ c, c ≠ 0 → (mu μ 0 41 (nI (t + 1))) c = μ c := fun c hc => mu_row hc
  have loop : ∀ (d i m : Nat) (κ1 : K), i + d = E.1 → d < m → (∀ g, g < E.1 → RG κ1 (if g < i then mu μ 0 41 (nI (t + 1)) else μ) g (t + 1)) → (∀ f, f ≠ 0 → kV κ1 f = kV κ f) → (∀ g c, c ≠ 5 → kV κ1 0 g c = kV κ 0 g c) → kN κ1 = kN κ → kP κ1 = kP κ → kC κ1 = kC κ → ∃ κ2, f_X10_endTick_b2 E m κ1 (nI i) = f_X10_endTick_b33 E κ2 ∧ (∀ g, g < E.1 → RG κ2 (mu μ 0 41 (nI (t + 1))) g (t + 1)) ∧ (∀ f, f ≠ 0 → kV κ2 f = kV κ f) ∧ (∀ g c, c ≠ 5 → kV κ2 0 g c = kV κ 0 g c) ∧ kN κ2 = kN κ ∧ kP κ2 = kP κ ∧ kC κ2 = kC κ := by
    intro d
    induction d with
    | zero =>
      intro i m κ1 hi hm G1 V1 W1 N1 P1 C1
      obtain ⟨m, rfl⟩ : ∃ q, m = q + 1 := ⟨m - 1, by omega⟩
      have e : i = E.1 := by omega
      subst e
      refine ⟨κ1, ?_, fun g hg => ?_, V1, W1, N1, P1, C1⟩
      · rw [f_X10_endTick_b2, size_ok (LsI_v hL (by rw [V1 4 (by omega)]) (by rw [P1])), bd_s, if_pos (by rw [nI_le' (by omega) (by omega)]; exact Nat.le_refl _)]
      · have := G1 g hg
        rw [if_pos hg] at this
        exact this
    | succ d ih =>
      intro i m κ1 hi hm G1 V1 W1 N1 P1 C1
      obtain ⟨m, rfl⟩ : ∃ q, m = q + 1 := ⟨m - 1, by omega⟩
      have hL1 : LsI E κ1 1 E.1 := LsI_v hL (by rw [V1 4 (by omega)]) (by rw [P1])
      have hi5 : i < E.1 := by omega
      have hG := G1 i hi5
      rw [if_neg (show ¬ i < i by omega)] at hG
      obtain ⟨κ2, p1, p2, p3, p4, p5, p6, p7⟩ := RG_adv hG ht ht3 (hC i hi5)
      rw [f_X10_endTick_b2, size_ok hL1, bd_s, if_neg (by rw [nI_le' (by omega) (by omega)]; omega), get_ok hL1 hn hi5, bd_s, gd_t (show i < cntE E 0 from hi5), p1, bd_s, nmE, nI_1]
      refine ih (i + 1) m κ2 (by omega) (by omega) (fun g hg => ?_) (fun f hf => ?_) (fun g c hc => ?_) (p5.trans N1) (p6.trans P1) (p7.trans C1)
      · by_cases e : g = i
        · subst e
          rw [if_pos (by omega)]
          exact p2
        · have eV : kV κ2 0 g = kV κ1 0 g := p3 0 g (by omega)
          have := RG_e (G1 g hg) eV (by rw [p5]) (fun _ _ => rfl)
          by_cases e2 : g < i
          · rw [if_pos e2] at this
            rw [if_pos (by omega)]; exact this
          · rw [if_neg e2] at this
            rw [if_neg (by omega)]; exact this
      · funext j
        rw [p3 f j (by omega), V1 f hf]
      · by_cases e : g = i
        · subst e
          rw [p4 c hc, W1 g c hc]
        · rw [p3 0 g (by omega), W1 g c hc]
  obtain ⟨κ2, q1, q2, q3, q4, q5, q6, q7⟩ := loop E.1 0 FU κ (by omega) (by unfold FU; omega) (fun g hg => by rw [if_neg (by omega)]; exact (hM.2.2.2.1 g hg).1) (fun _ _ => rfl) (fun _ _ _ => rfl) rfl rfl rfl
  have e33 : f_X10_endTick_b33 E κ2 = some (setV κ2 4 0 0 3 (nI (t + 1)), ()) := by
    rw [f_X10_endTick_b33, nmE, q3 4 (by omega), htc, nI_1]
  have eV : ∀ f, f ≠ 4 → kV (setV κ2 4 0 0 3 (nI (t + 1))) f = kV κ2 f := fun f hf => by
    funext i c k
    exact vD (by omega)
  have hg0 : ∀ g c, c ≠ 5 → kV (setV κ2 4 0 0 3 (nI (t + 1))) 0 g c = kV κ 0 g c := fun g c hc => by rw [eV 0 (by omega), q4 g c hc]
  have ef : ∀ f, f ≠ 0 → f ≠ 4 → kV (setV κ2 4 0 0 3 (nI (t + 1))) f = kV κ f := fun f a b => by rw [eV f b, q3 f a]
  refine ⟨setV κ2 4 0 0 3 (nI (t + 1)), by rw [f_X10_endTick, i32_0, q1, e33], ⟨TJ_time hM.1 (by omega), FRM_row hM.2.1 (er 27 (by omega)) (er 28 (by omega)), fun h hh => HO_v (hM.2.2.1 h hh) (Nat.le_refl _) ?_ (fun k _ => by rw [ef 2 (by omega) (by omega)]) (by rw [show kP (setV κ2 4 0 0 3 (nI (t + 1))) = kP κ2 from rfl, q6]) (fun c a b => by rw [er c (by omega)]), fun g hg => ⟨RG_e (q2 g hg) (by rw [eV 0 (by omega)]) rfl (fun _ _ => rfl), GPT_v (hM.2.2.2.1 g hg).2.1 (Nat.le_refl _) (by rw [show kP (setV κ2 4 0 0 3 (nI (t + 1))) = kP κ2 from rfl, q6]) (by rw [er 15 (by omega)]) (by rw [er 12 (by omega)]), (hM.2.2.2.1 g hg).2.2.imp (fun z => by rw [hg0 g 18 (by omega)]; exact z) (fun z => PLK_v z (fun j _ => hg0 g _ (by omega)) (fun j _ => by rw [show kN (setV κ2 4 0 0 3 (nI (t + 1))) = kN κ2 from rfl, q5]) (fun c _ _ => hg0 g c (by omega)) (RANUP_e (by rw [hg0 g 0 (by omega)])))⟩, fun s hs => SNP_v (hM.2.2.2.2 s hs) (Nat.le_refl _) (by rw [ef 1 (by omega) (by omega)]) (by rw [ef 9 (by omega) (by omega)]) (by rw [show kN (setV κ2 4 0 0 3 (nI (t + 1))) = kN κ2 from rfl, q5]) (by rw [show kP (setV κ2 4 0 0 3 (nI (t + 1))) = kP κ2 from rfl, q6]) (fun c _ _ k _ _ _ => by rw [er c (by omega)]) (fun g _ => ⟨fun c _ _ => hg0 g c (by omega), RANUP_e (by rw [hg0 g 0 (by omega)])⟩)⟩, vS ⟨rfl, rfl, rfl, rfl⟩, fun c k hck => ?_, ef, q5, q6, q7⟩
  · rw [ef 2 (by omega) (by omega)]
    exact RH_row (hM.2.2.1 h hh).1 (er 15 (by omega)) (er 28 (by omega)) (er 29 (by omega))
  · rw [vD (by omega), q3 4 (by omega)]
/-- the rows that a tick leaves -/
theorem host_row {μ : MU} {n h c : Nat} (hT : TJ μ n) (hh : h < 2) (hc : c ≠ 1 ∧ c ≠ 2 ∧ c ≠ 23 ∧ c ≠ 24 ∧ c ≠ 25 ∧ c ≠ 27 ∧ c ≠ 28 ∧ c ≠ 29 ∧ c ≠ 31 ∧ c < 34) : (hostM μ n h) c = μ c := by
  unfold hostM
  split
  · split
    · exact chM_row (by omega)
    · rename_i hne
      obtain ⟨g, hg, e2, _⟩ := (chM_2 (h := h) hT.1 hh).resolve_left hne
      have hn := hT.1.1
      rw [e2, nI_cl (by omega)]
      have h1 : TJ (stlU (chM μ n h).1 (nI h) g n) n := TJ.row (TJ_ch hT hh) (fun c hc => stlU_row (by omega) n)
      obtain ⟨a1, a2, a3, _⟩ := h1.1.2.2.1 g hg
      rw [run_row a1 (h1.2.1 g hg) a2 h1.2.2 (by omega), stlU_row (by omega), chM_row (by omega)]
  · rfl
theorem LsI_4 {E : EE} {κ κ' : K} {c n : Nat} (h : LsI E κ c n) (hc : c = 1 ∨ c = 2) (e1 : ∀ c k, ¬ (c = 0 ∧ k = 3) → kV κ' 4 0 c k = kV κ 4 0 c k) (e2 : kP κ' = kP κ) : LsI E κ' c n := LsI_v h (e1 c 2 (by omega)) (by rw [e2])
/-- what a tick leaves of the hall -/
def TFR (n s : Nat) (κ κ' : K) : Prop := (∀ f, f ≠ 0 → f ≠ 2 → f ≠ 4 → kV κ' f = kV κ f) ∧ (∀ c k, ¬ (c = 0 ∧ k = 3) → kV κ' 4 0 c k = kV κ 4 0 c k) ∧ (∀ f, f = 3 ∨ f = 4 → kP κ' f = kP κ f) ∧ PAID n s 0 0 κ κ'
theorem t_tick1 {E : EE} {κ : K} {μ : MU} {n ns t m : Nat} {x1 x2 : Int32} (hE : E.1 = n) (hH : E.2.2.2.1 = 1) (hL : LsI E κ 1 n) (hM : MID κ μ n ns (fun _ => t)) (ht : μ 0 41 = nI t) (ht3 : t < 3000) (htc : kV κ 4 0 0 3 = nI t) (hC : ∀ g, g < n → CLK μ g t) (hS : ∀ g, g < n → SAY μ g t) (hx : ¬ x1 ≤ x2) : ∃ κ', f_X10_tick_b45 E (m + 1) κ x1 x2 = f_X10_tick_b45 E m κ' x1 (x2 + 1) ∧ MID κ' (tkM μ n) n ns (fun _ => t + 1) ∧ kV κ' 4 0 0 3 = nI (t + 1) ∧ TFR n ns κ κ' := by
  obtain ⟨κ1, a1, a2, a3⟩ := t_down hE hL hM ht ht3
  have w1 : ∀ c, c ≠ 1 → (wkU μ n) c = μ c := fun c hc => wkU_row hc n
  have hS1 : ∀ g, g < n → SAY (wkU μ n) g t := fun g hg => SAY_row (hS g hg) (w1 24 (by omega)) (w1 35 (by omega)) (w1 37 (by omega))
  have htc1 : kV κ1 4 0 0 3 = nI t := by rw [a3.1 4 (by omega) (by omega)]; exact htc
  obtain ⟨κ2, b1, b2, b3⟩ := t_host (h := 0) (B := fun _ => t) hE hH (by omega) (LsI_h hL a3) a2 (by rw [w1 0 (by omega)]; exact ht) ht3 htc1 hS1 (fun _ _ _ => Nat.le_refl _)
  have hT0 := TJ_host (h := 0) (B := fun _ => t) a2.1 (by omega) hS1
  have htc2 : kV κ2 4 0 0 3 = nI t := by rw [b3.1 4 (by omega) (by omega)]; exact htc1
  obtain ⟨κ3, c1, c2, c3⟩ := t_host (h := 1) (B := fun g => if (wkU μ n) 15 g = nI 0 then t + 1 else t) hE hH (by omega) (LsI_h (LsI_h hL a3) b3) b2 (by rw [hT0.2.1, w1 0 (by omega)]; exact ht) ht3 htc2 hT0.2.2.2.2 (fun g hg z => by
    rw [hT0.2.2.1] at z
    rw [z, if_neg (by decide)]
    exact Nat.le_refl _)
  have hT1 := TJ_host (h := 1) (B := fun g => if (wkU μ n) 15 g = nI 0 then t + 1 else t) hT0.1 (by omega) hT0.2.2.2.2
  have htc3 : kV κ3 4 0 0 3 = nI t := by rw [c3.1 4 (by omega) (by omega)]; exact htc2
  have h41 : (hostM (hostM (wkU μ n) n 0) n 1) 0 41 = nI t := by rw [hT1.2.1, hT0.2.1, w1 0 (by omega)]; exact ht
  obtain ⟨κ4, d1, d2, d3, d4, d5, d6, d7, d8⟩ := t_end hE (LsI_h (LsI_h (LsI_h hL a3) b3) c3) c2 h41 ht3 htc3 (fun g hg => by
    have rr : ∀ c, c = 20 ∨ c = 21 ∨ c = 22 → (hostM (hostM (wkU μ n) n 0) n 1) c = μ c := fun c hc => by
      rw [host_row hT0.1 (by omega) (by omega), host_row a2.1 (by omega) (by omega), w1 c (by omega)]
    unfold CLK
    rw [rr 20 (by omega), rr 21 (by omega), rr 22 (by omega)]
    exact hC g hg)
  refine ⟨κ4, ?_, ?_, d3, ?_⟩
  · rw [f_X10_tick_b45, if_neg hx, a1, bd_s, nmE]
    unfold FU
    rw [f_X10_tick_b66, if_neg (by decide), gd_t (show ¬ ((0 : Int32) < 0 ∨ 2 ≤ (0 : Int32).toNatClampNeg) by decide), nmE, show (0 : Int32).toNatClampNeg = 0 from cl0, gd_t (host_lt hH (by omega)), b1, bd_s, nmE]
    rw [f_X10_tick_b66, if_neg (by decide), gd_t (show ¬ ((0 : Int32) + 1 < 0 ∨ 2 ≤ ((0 : Int32) + 1).toNatClampNeg) by decide), nmE, show ((0 : Int32) + 1).toNatClampNeg = 1 from by decide, gd_t (host_lt hH (by omega)), c1, bd_s, nmE]
    rw [f_X10_tick_b66, if_pos (by decide), f_X10_tick_b91, d1, bd_s, nmE]
  · have : tkM μ n = mu (hostM (hostM (wkU μ n) n 0) n 1) 0 41 (nI (t + 1)) := by
      unfold tkM
      rw [h41, nI_1]
    rw [this]
    exact d2
  · have F := (a3.tr b3).tr c3
    refine ⟨fun f x y z => by rw [d5 f x z, F.1 f x y], fun c k hck => by rw [d4 c k hck, F.1 4 (by omega) (by omega)], fun f z => z.elim (fun e => by rw [e, d7, F.2.2.2.1 3 (Or.inr rfl)]) (fun e => by rw [e, d7, F.2.1]), (F.2.2.2.2.trans (PAID_same d6 d8)).up (by omega) (by omega)⟩
