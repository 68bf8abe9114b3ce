theorem mu_cc {μ : MU} {c k c2 k2 : Nat} {x y : Int32} (h : c ≠ c2) : (mu (mu μ c2 k2 y) c k x) c = (mu μ c k x) c := by
  funext j
  by_cases e : j = k
  · rw [muS ⟨rfl, e⟩, muS ⟨rfl, e⟩]
  · rw [muD (by omega), muD (by omega), muD (by omega)]
/-- an input more -/
def inpM (μ : MU) (g : Nat) (v : Int32) : MU :=
  let μ2 := mu (mu μ 2 (512 * g + (μ 1 (55 * g + 54)).toNatClampNeg) v) 1 (55 * g + 54) (μ 1 (55 * g + 54) + 1)
  if μ 33 g = 0 then μ2 else mu (mu μ2 5 (512 * g + (μ 6 g).toNatClampNeg) v) 6 g (μ 6 g + 1)
theorem mm_input {E : EE} {κ : K} {n g m b v : Nat} (hG : kV κ 5 0 0 26 = nI n) (hn : n ≤ 5) (hg : g < n) (hm : kV κ 5 0 1 (55 * g + 54) = nI m) (hm20 : m < 20) (hb : kV κ 5 0 6 g = nI b) (hb3 : b < 512) (hv : v < 10000) : f_X11_input E κ (nI g) (nI v) = some (putM κ (inpM (mu (kV κ 5 0) 0 0 0) g (nI v)), nI (m + 1)) := by
  have e9 : (9999 : Int32) = nI 9999 := rfl
  have e20 : (20 : Int32) = nI 20 := rfl
  rw [f_X11_input, isGuest_t hG hn hg, bd_s, if_neg (by decide), in_t (by rw [i32_0, nI_lt' (by omega) (by omega)]; omega) (by rw [e9, nI_lt' (by omega) (by omega)]; omega), bd_s, if_neg (by decide), l55, nI_mul, l54, nI_add, nI_cl (by omega), gdi (by omega), hm, e20, if_pos (by rw [nI_lt' (by omega) (by omega)]; omega), f_X11_input_b50, ref_0, bd_s, if_pos rfl, nmE, l55, nI_mul, l54, nI_add, nI_cl (by omega), gdi (by omega), l512, nI_mul, put_kV, thr_c (by omega), hm, nI_add, nI_cl (by omega), gdi (by omega), nmE, gdi (by omega), gdi (by omega), nmE, nI_cl (by omega), gdi (by omega)]
  have h1 : (mu (mu (kV κ 5 0) 0 0 0) 2 (512 * g + m) (nI v)) 1 (55 * g + 54) = nI m := by rw [mu_row (by omega), thr_c (by omega)]; exact hm
  have h6 : (mu (mu (kV κ 5 0) 0 0 0) 2 (512 * g + m) (nI v)) 6 g = nI b := by rw [mu_row (by omega), thr_c (by omega)]; exact hb
  have hme : (mu (kV κ 5 0) 0 0 0) 1 (55 * g + 54) = nI m := by rw [thr_c (by omega)]; exact hm
  have hbe : (mu (kV κ 5 0) 0 0 0) 6 g = nI b := by rw [thr_c (by omega)]; exact hb
  unfold inpM
  dsimp only
  rw [hme, hbe, nI_cl (by omega), nI_cl (by omega), nI_1, nI_1]
  have s1 : setV (setV (putM κ (mu (kV κ 5 0) 0 0 0)) 5 0 2 (512 * g + m) (nI v)) 5 0 1 (55 * g + 54) (kV (setV (putM κ (mu (kV κ 5 0) 0 0 0)) 5 0 2 (512 * g + m) (nI v)) 5 0 1 (55 * g + 54) + 1) = putM κ (mu (mu (mu (kV κ 5 0) 0 0 0) 2 (512 * g + m) (nI v)) 1 (55 * g + 54) (nI (m + 1))) := by
    simp only [set5, put_kV, put_put]
    rw [h1, nI_1]
  rw [s1, put_kV, muD (by omega), muD (by omega)]
  by_cases e : (mu (kV κ 5 0) 0 0 0) 33 g = 0
  · rw [if_pos e, if_pos e, f_X11_input_b134, l54, nI_add, nI_cl (by omega), gdi (by omega), put_kV, muS ⟨rfl, rfl⟩]
  · rw [if_neg e, if_neg e, gdi (by omega), muD (by omega), h6, nI_add, nI_cl (by omega), gdi (by omega), nmE, gdi (by omega), gdi (by omega), nmE, f_X11_input_b134, l54, nI_add, nI_cl (by omega), gdi (by omega)]
    simp only [set5, put_kV, put_put]
    have e6 : (mu (mu (mu (mu (kV κ 5 0) 0 0 0) 2 (512 * g + m) (nI v)) 1 (55 * g + 54) (nI (m + 1))) 5 (512 * g + b) (nI v)) 6 g = nI b := by rw [muD (by omega), muD (by omega)]; exact h6
    rw [e6, nI_1, muD (by omega), muD (by omega), muS ⟨rfl, rfl⟩]
theorem REL_inp {E : EE} {κ κ' : K} {μ μ' : MU} {n ns t C g : Nat} {x : Int32} (hR : REL E κ μ n ns t C) (hg : g < n) (hV : ∀ f i c, ¬ (f = 0 ∧ i = g ∧ (c = 10 ∨ c = 11 ∨ c = 32 ∨ c = 33)) → kV κ' f i c = kV κ f i c) (hN : ∀ f i c, ¬ (f = 0 ∧ i = g ∧ (c = 11 ∨ c = 33)) → kN κ' f i c = kN κ f i c) (hP : kP κ' = kP κ) (hp : PAID n ns 0 0 κ κ') (er : ∀ c, c ≠ 1 → c ≠ 2 → c ≠ 5 → c ≠ 6 → μ' c = μ c) (e1 : μ' 1 = (mu μ 1 (55 * g + 54) x) 1) (hO : OWN μ μ' g) (hTJ : TJ μ' n) (hI : INQ μ' g (C + 1)) (q1 : QQ κ' 0 g 10 512 (μ' 1 (55 * g + 54)) (fun k => μ' 2 (512 * g + k))) (q4 : QQ κ' 0 g 32 512 (μ' 6 g) (fun k => μ' 5 (512 * g + k))) : REL E κ' μ' n ns t (C + 1) := by
  have hV0 : ∀ f i, ¬ (f = 0 ∧ i = g) → kV κ' f i = kV κ f i := fun f i z => by
    funext c
    exact hV f i c (by omega)
  have hN0 : ∀ f i, ¬ (f = 0 ∧ i = g) → kN κ' f i = kN κ f i := fun f i z => by
    funext c
    exact hN f i c (by omega)
  have eV : ∀ c, c ≠ 10 → c ≠ 11 → c ≠ 32 → c ≠ 33 → kV κ' 0 g c = kV κ 0 g c := fun c a b d e => hV 0 g c (by omega)
  have eN : ∀ c, c ≠ 11 → c ≠ 33 → kN κ' 0 g c = kN κ 0 g c := fun c a b => hN 0 g c (by omega)
  have hG := (hR.2.2.1.2.2.2.1 g hg).1
  have hQg := hR.2.2.2.1 g hg
  obtain ⟨h1, h2, h3, h4, h5, h6, q7, q8, q9, q10, h11, h12⟩ := hG.1
  have hq : ∀ {c B x q}, QQ κ 0 g c B x q → (c = 34 ∨ c = 36) → QQ κ' 0 g c B x q := fun a b => QQ_v a (by rw [eV _ (by omega) (by omega) (by omega) (by omega)]) (eV _ (by omega) (by omega) (by omega) (by omega)) (eN _ (by omega) (by omega)) rfl (fun _ _ => rfl)
  refine REL_g (d1 := 0) (d2 := 0) hR hg hV0 hN0 (fun c a b => eN c (by omega) (by omega)) hP (fun c hc => eV c (by omega) (by omega) (by omega) (by omega)) (by rw [eV 0 (by omega) (by omega) (by omega) (by omega)]) hTJ hO (fun c hc => er c (by omega) (by omega) (by omega) (by omega)) ⟨?_, ?_, ?_, ?_⟩ (SAY_row hQg.1 (er 24 (by omega) (by omega) (by omega) (by omega)) (er 35 (by omega) (by omega) (by omega) (by omega)) (er 37 (by omega) (by omega) (by omega) (by omega))) (CLK_e hQg.2.1 (er 22 (by omega) (by omega) (by omega) (by omega)) (er 20 (by omega) (by omega) (by omega) (by omega)) (er 21 (by omega) (by omega) (by omega) (by omega))) hI hp (by omega) (by omega)
  · refine RGX_q hG.1 (LVT_v h6 (eV 5 (by omega) (by omega) (by omega) (by omega)) (fun k a b => by rw [e1, muD (by omega)]) (clock_e (by rw [er 0 (by omega) (by omega) (by omega) (by omega)]) (by rw [er 20 (by omega) (by omega) (by omega) (by omega)]) (by rw [er 21 (by omega) (by omega) (by omega) (by omega)]) (by rw [er 22 (by omega) (by omega) (by omega) (by omega)]))) q1 ?_ ?_ q4 (fun c z => eV c (by omega) (by omega) (by omega) (by omega)) (fun c a b => eN c (by omega) (by omega)) (fun c z => er c (by omega) (by omega) (by omega) (by omega))
    · rw [er 35 (by omega) (by omega) (by omega) (by omega), er 34 (by omega) (by omega) (by omega) (by omega)]; exact hq q8 (by omega)
    · rw [er 37 (by omega) (by omega) (by omega) (by omega), er 36 (by omega) (by omega) (by omega) (by omega)]; exact hq q9 (by omega)
  · have : row μ' g = urw (row μ g) 54 x := by
      rw [row_e (μ' := μ') (μ := mu μ 1 (55 * g + 54) x) e1, row_mu rfl]
    rw [this]
    exact MCH_m (MCH_up hG.2.1 (by omega)) (fun j hj => eV (6 + j) (by omega) (by omega) (by omega) (by omega))
  · rw [eV 0 (by omega) (by omega) (by omega) (by omega), er 24 (by omega) (by omega) (by omega) (by omega)]; exact hG.2.2.1
  · exact PLL_v hG.2.2.2 (fun c _ _ => eV c (by omega) (by omega) (by omega) (by omega)) (fun c _ _ => eV c (by omega) (by omega) (by omega) (by omega)) (fun c _ _ => eN c (by omega) (by omega)) (by rw [eV 5 (by omega) (by omega) (by omega) (by omega)]) (by rw [eV 0 (by omega) (by omega) (by omega) (by omega)]) (by rw [eV 0 (by omega) (by omega) (by omega) (by omega)]) (MEQ_j fun j hj => eV (6 + j) (by omega) (by omega) (by omega) (by omega))
theorem TJ_inp {μ : MU} {n g m v : Nat} (hT : TJ μ n) (hg : g < n) (hm : μ 1 (55 * g + 54) = nI m) (hm20 : m < 20) (hv : v < 10000) : TJ (mu (mu μ 2 (512 * g + m) (nI v)) 1 (55 * g + 54) (nI (m + 1))) n := by
  obtain ⟨r1, r2, r3, r4⟩ := hT.1.2.2.1 g hg
  have e1 : ∀ j, j ≠ 55 * g + 54 → (mu (mu μ 2 (512 * g + m) (nI v)) 1 (55 * g + 54) (nI (m + 1))) 1 j = μ 1 j := fun j hj => by rw [muD (by omega), muD (by omega)]
  have e2 : ∀ j, j ≠ 512 * g + m → (mu (mu μ 2 (512 * g + m) (nI v)) 1 (55 * g + 54) (nI (m + 1))) 2 j = μ 2 j := fun j hj => by rw [muD (by omega), muD (by omega)]
  have er : ∀ c, c ≠ 1 → c ≠ 2 → (mu (mu μ 2 (512 * g + m) (nI v)) 1 (55 * g + 54) (nI (m + 1))) c = μ c := fun c a b => by rw [mu_row a, mu_row b]
  refine TJ_step (d := 0) hT hg ⟨?_, ?_, fun g2 j hne hj => e1 _ (by omega), fun g2 j hne hj => e2 _ (by omega), fun g2 z => PAG_row z (er 27 (by omega) (by omega)) (er 28 (by omega) (by omega)), fun c a b _ _ _ _ _ _ _ _ _ => er c a b, fun g2 _ => ⟨by rw [er 35 (by omega) (by omega)], by rw [er 37 (by omega) (by omega)]⟩, fun a b x y => ⟨a, b, by rw [er 35 (by omega) (by omega)]; exact x, by rw [er 37 (by omega) (by omega)]; exact y, by omega⟩⟩
  · exact ROK_1 (ROK_c r1 (by omega)) (rng_n (by rw [show lim 54 = 513 from rfl]; omega))
  · intro k hk
    rw [muS ⟨rfl, rfl⟩, nI_cl (by omega)] at hk
    by_cases e : k = m
    · subst e
      exact ⟨v, hv, by rw [muD (by omega), muS ⟨rfl, rfl⟩]⟩
    · rw [e2 _ (by omega)]
      exact hT.2.1 g hg k (by rw [hm, nI_cl (by omega)]; omega)
theorem EXT_inp {μ : MU} {g : Nat} {v : Int32} : EXT μ (inpM (mu μ 0 0 0) g v) := by
  unfold inpM
  dsimp only
  split
  · exact (EXT_thr.tr (EXT_mu (by omega))).tr (EXT_1 (by omega))
  · exact (((EXT_thr.tr (EXT_mu (by omega))).tr (EXT_1 (by omega))).tr (EXT_mu (by omega))).tr (EXT_mu (by omega))
theorem st_input {E : EE} {κ : K} {n ns t C : Nat} {a b : Int32} (hC5 : C < 512) (hR : REL E κ (kV κ 5 0) n ns t C) : DONE (lw_input E κ a b) C := by
  have hR0 := hR
  obtain ⟨⟨rfl, rfl, hO, h9⟩, ⟨q1, q2, q3, q4, q5⟩, hM, hQ, hS, hZ, hC⟩ := hR0
  have hn : E.1 ≤ 5 := hM.1.1.1
  have hG : kV κ 5 0 0 26 = nI E.1 := hM.1.1.2.1
  have hH : E.2.2.2.1 = 1 := hO.2.2.2.1
  have e20 : (20 : Int32) = nI 20 := rfl
  have e10 : (10000 : Int32) = nI 10000 := rfl
  have e9 : (9999 : Int32) = nI 9999 := rfl
  by_cases ha : vp_in a E.1
  · obtain ⟨g, hg, rfl⟩ := vp_ex (by omega) ha
    obtain ⟨h1, h2, h3, h4, h5, h6, q7, q8, q9, q10, h11, h12⟩ := (hM.2.2.2.1 g hg).1.1
    obtain ⟨m, hm, m1, m2⟩ := q7
    obtain ⟨bb, hbb, b1, b2⟩ := q10
    by_cases hb : vp_in b 10000
    · obtain ⟨v, hv, rfl⟩ := vp_ex (by omega) hb
      have hv1 : ¬ nI v < 0 := by rw [i32_0, nI_lt' (by omega) (by omega)]; omega
      have hv2 : nI v < 10000 := by rw [e10, nI_lt' (by omega) (by omega)]; exact hv
      by_cases h20 : m < 20
      · obtain ⟨⟨mm, i1, i2⟩, ⟨b', i3, i4, i5⟩, i6⟩ := (hQ g hg).2.2
        have hb5 : bb < 512 := by
          by_cases hlt : b' < 2147483648
          · rw [b1, nI_eq' (by omega) hlt] at i3; omega
          · omega
        have hbC : bb ≤ C := by
          by_cases hlt : b' < 2147483648
          · rw [b1, nI_eq' (by omega) hlt] at i3; omega
          · omega
        have hmC : m ≤ C := by
          by_cases hlt : mm < 2147483648
          · rw [m1, nI_eq' (by omega) hlt] at i1; omega
          · omega
        have hI33 : kV κ 5 0 33 g = 1 → (∃ a', kV κ 5 0 3 (55 * g + 54) = nI a' ∧ a' + bb ≤ C) ∧ ∀ k, k < bb → ∃ r, r < 10000 ∧ kV κ 5 0 5 (512 * g + k) = nI r := fun z => by
          obtain ⟨⟨a', y1, y2⟩, y3⟩ := i5 z
          have hbb2 : bb ≤ b' := by
            by_cases hlt : b' < 2147483648
            · rw [b1, nI_eq' (by omega) hlt] at i3; omega
            · omega
          exact ⟨⟨a', y1, by omega⟩, fun k hk => y3 k (by omega) (by omega)⟩
        obtain ⟨κ1, p1, p2, p3⟩ := n_add (E := E) (n0 := E.1) (s0 := E.2.1) (x := nI v) m2 (by omega) (num_mem0 g (by omega) 11 (by decide)) (al0 hg)
        have e18 : kV κ1 0 g 18 0 = kV κ 5 0 33 g := by rw [p2.1 0 g 18 (by omega)]; exact h11.1
        have c10 : kV κ1 0 g 10 1 = nI (m + 1) := p3.1
        have base := hR
        have hRt := REL_thr (x := 0) hR
        have t1 : (mu (kV κ 5 0) 0 0 0) 1 (55 * g + 54) = nI m := by rw [thr_c (by omega)]; exact m1
        have t6 : (mu (kV κ 5 0) 0 0 0) 6 g = nI bb := by rw [thr_c (by omega)]; exact b1
        have hTJ2 := TJ_inp hRt.2.2.1.1 hg t1 h20 hv
        have hO2 : OWN (mu (kV κ 5 0) 0 0 0) (mu (mu (mu (kV κ 5 0) 0 0 0) 2 (512 * g + m) (nI v)) 1 (55 * g + 54) (nI (m + 1))) g := (OWN_mu (by omega) (by omega) (by show (512 * g + m) / 512 = g; omega)).trans (OWN_1 (k := 54) rfl (by omega))
        have q1' : ∀ μ' : MU, μ' 1 (55 * g + 54) = nI (m + 1) → (∀ k, k < 512 → μ' 2 (512 * g + k) = if k = m then nI v else kV κ 5 0 2 (512 * g + k)) → QQ κ1 0 g 10 512 (μ' 1 (55 * g + 54)) (fun k => μ' 2 (512 * g + k)) := fun μ' z1 z2 => ⟨m + 1, by omega, z1, NUM_q p3 (fun k hk => (z2 k (by omega)).symm)⟩
        have row2 : ∀ k, k < 512 → (mu (mu (mu (kV κ 5 0) 0 0 0) 2 (512 * g + m) (nI v)) 1 (55 * g + 54) (nI (m + 1))) 2 (512 * g + k) = if k = m then nI v else kV κ 5 0 2 (512 * g + k) := fun k hk => by
          rw [mu_row (by omega)]
          by_cases e : k = m
          · subst e
            rw [if_pos rfl, muS ⟨rfl, rfl⟩]
          · rw [if_neg e, muD (by omega), thr_c (by omega)]
        by_cases e33 : kV κ 5 0 33 g = 0
        · have eI : inpM (mu (kV κ 5 0) 0 0 0) g (nI v) = mu (mu (mu (kV κ 5 0) 0 0 0) 2 (512 * g + m) (nI v)) 1 (55 * g + 54) (nI (m + 1)) := by
            unfold inpM
            rw [if_pos (show (mu (kV κ 5 0) 0 0 0) 33 g = 0 by rw [thr_c (by omega)]; exact e33), t1, nI_cl (by omega), nI_1]
          have e5 : kV κ1 5 = kV κ 5 := by
            funext i c
            exact p2.1 5 i c (by omega)
          have hrel : REL E κ1 (inpM (mu (kV κ 5 0) 0 0 0) g (nI v)) E.1 E.2.1 t (C + 1) := by
            rw [eI]
            refine REL_inp (x := nI (m + 1)) hRt hg (fun f i c z => p2.1 f i c (by omega)) (fun f i c z => p2.2.2.1 f i c (by omega)) p2.2.2.2.1 p2.2.2.2.2 (fun c y z _ _ => by rw [mu_row y, mu_row z]) (mu_cc (by omega)) hO2 hTJ2 ?_ (q1' _ (muS ⟨rfl, rfl⟩) row2) ?_
            · refine ⟨⟨m + 1, muS ⟨rfl, rfl⟩, by omega⟩, ⟨bb, by rw [muD (by omega), muD (by omega)]; exact t6, by omega, fun z => ?_⟩, by rw [muD (by omega), muD (by omega), thr_c (by omega)]; exact i6⟩
              rw [muD (by omega), muD (by omega), thr_c (by omega), e33] at z
              exact absurd z (by decide)
            · rw [muD (by omega), muD (by omega), t6]
              refine QQ_v (x := nI bb) (q := fun k => kV κ 5 0 5 (512 * g + k)) ⟨bb, hbb, rfl, b2⟩ (by rw [p2.1 0 g 32 (by omega)]) (p2.1 0 g 33 (by omega)) (p2.2.2.1 0 g 33 (by omega)) rfl (fun k _ => by rw [muD (by omega), muD (by omega), thr_c (by omega)])
          exact ⟨E, _, E.1, E.2.1, t, by
      unfold lw_input
      rw [show f_X10_input E κ (nI g) (nI v) = some (κ1, .inl (nI (m + 1))) from by rw [f_X10_input, guestAt_ok q1 hn hg, bx_s, gd_t (show g < cntE E 0 from hg), if_neg hv1, if_pos hv2, m2.1, e20, if_pos (by rw [nI_lt' (by omega) (by omega)]; exact h20), p1, bd_s, e18, if_pos e33, f_X10_input_b84, c10]]
      dsimp only
      rw [show f_X11_input E (lwS (κ1) (.inl (nI (m + 1)))) (nI g) (nI v) = some (putM (lwS (κ1) (.inl (nI (m + 1)))) (inpM (mu (kV κ 5 0) 0 0 0) g (nI v)), nI (m + 1)) from by rw [mm_input (n := E.1) (m := m) (b := bb) (by rw [lw_V (by omega), e5]; exact hG) hn hg (by rw [lw_V (by omega), e5]; exact m1) h20 (by rw [lw_V (by omega), e5]; exact b1) hb5 hv, lw_V (by omega), e5]]
      dsimp only
      rw [gdp_t (lwS_okX (by rw [eI, muD (by omega), muD (by omega)]; exact muS ⟨rfl, rfl⟩) (rfl))], glueS (hrel)⟩
        · have e33' : kV κ 5 0 33 g = 1 := h11.2.resolve_left e33 |>.1
          have n32 : NUM κ1 0 g 32 bb (fun k => kV κ 5 0 5 (512 * g + k)) := NUM_chn b2 p2 (by omega)
          obtain ⟨κ2, r1, r2, r3⟩ := n_add (E := E) (n0 := E.1) (s0 := E.2.1) (x := nI v) n32 (by omega) (num_mem0 g (by omega) 33 (by decide)) (al0 hg)
          have eI : inpM (mu (kV κ 5 0) 0 0 0) g (nI v) = mu (mu (mu (mu (mu (kV κ 5 0) 0 0 0) 2 (512 * g + m) (nI v)) 1 (55 * g + 54) (nI (m + 1))) 5 (512 * g + bb) (nI v)) 6 g (nI (bb + 1)) := by
            unfold inpM
            rw [if_neg (show ¬ (mu (kV κ 5 0) 0 0 0) 33 g = 0 by rw [thr_c (by omega)]; exact e33), t1, t6, nI_cl (by omega), nI_cl (by omega), nI_1, nI_1]
          have e5 : kV κ2 5 = kV κ 5 := by
            funext i c
            rw [r2.1 5 i c (by omega), p2.1 5 i c (by omega)]
          have hrel : REL E κ2 (inpM (mu (kV κ 5 0) 0 0 0) g (nI v)) E.1 E.2.1 t (C + 1) := by
            rw [eI]
            refine REL_inp (x := nI (m + 1)) hRt hg (fun f i c z => by rw [r2.1 f i c (by omega), p2.1 f i c (by omega)]) (fun f i c z => by rw [r2.2.2.1 f i c (by omega), p2.2.2.1 f i c (by omega)]) (r2.2.2.2.1.trans p2.2.2.2.1) ((p2.2.2.2.2.trans r2.2.2.2.2).up (by omega) (by omega)) (fun c y z y2 z2 => by rw [mu_row z2, mu_row y2, mu_row y, mu_row z]) (by rw [mu_row (by omega), mu_row (by omega)]; exact mu_cc (by omega)) ((hO2.trans (OWN_mu (by omega) (by omega) (by show (512 * g + bb) / 512 = g; omega))).trans (OWN_g (by omega) (by omega) rfl)) (TJ.row hTJ2 (fun c hc => by rw [mu_row (by omega), mu_row (by omega)])) ?_ ?_ ?_
            · refine ⟨⟨m + 1, by rw [muD (by omega), muD (by omega)]; exact muS ⟨rfl, rfl⟩, by omega⟩, ⟨bb + 1, muS ⟨rfl, rfl⟩, by omega, fun z => ?_⟩, by rw [muD (by omega), muD (by omega), muD (by omega), muD (by omega), thr_c (by omega)]; exact i6⟩
              obtain ⟨⟨a', y1, y2⟩, y3⟩ := hI33 e33'
              refine ⟨⟨a', by rw [muD (by omega), muD (by omega), muD (by omega), muD (by omega), thr_c (by omega)]; exact y1, by omega⟩, fun k hk hk5 => ?_⟩
              rw [muD (by omega)]
              by_cases e : k = bb
              · subst e
                exact ⟨v, hv, muS ⟨rfl, rfl⟩⟩
              · rw [muD (by omega), muD (by omega), muD (by omega), thr_c (by omega)]
                exact y3 k (by omega)
            · have := q1' (mu (mu (mu (mu (mu (kV κ 5 0) 0 0 0) 2 (512 * g + m) (nI v)) 1 (55 * g + 54) (nI (m + 1))) 5 (512 * g + bb) (nI v)) 6 g (nI (bb + 1))) (by rw [muD (by omega), muD (by omega)]; exact muS ⟨rfl, rfl⟩) (fun k hk => by rw [muD (by omega), muD (by omega)]; exact row2 k hk)
              exact QQ_chn this r2 (by omega)
            · refine ⟨bb + 1, by omega, muS ⟨rfl, rfl⟩, NUM_q r3 (fun k hk => ?_)⟩
              rw [muD (by omega)]
              by_cases e : k = bb
              · subst e
                rw [if_pos rfl, muS ⟨rfl, rfl⟩]
              · rw [if_neg e, muD (by omega), muD (by omega), muD (by omega), thr_c (by omega)]
          exact ⟨E, _, E.1, E.2.1, t, by
      unfold lw_input
      rw [show f_X10_input E κ (nI g) (nI v) = some (κ2, .inl (nI (m + 1))) from by rw [f_X10_input, guestAt_ok q1 hn hg, bx_s, gd_t (show g < cntE E 0 from hg), if_neg hv1, if_pos hv2, m2.1, e20, if_pos (by rw [nI_lt' (by omega) (by omega)]; exact h20), p1, bd_s, e18, if_neg e33, r1, bd_s, f_X10_input_b84, r2.1 0 g 10 (by omega), c10]]
      dsimp only
      rw [show f_X11_input E (lwS (κ2) (.inl (nI (m + 1)))) (nI g) (nI v) = some (putM (lwS (κ2) (.inl (nI (m + 1)))) (inpM (mu (kV κ 5 0) 0 0 0) g (nI v)), nI (m + 1)) from by rw [mm_input (n := E.1) (m := m) (b := bb) (by rw [lw_V (by omega), e5]; exact hG) hn hg (by rw [lw_V (by omega), e5]; exact m1) h20 (by rw [lw_V (by omega), e5]; exact b1) hb5 hv, lw_V (by omega), e5]]
      dsimp only
      rw [gdp_t (lwS_okX (by rw [eI, muD (by omega), muD (by omega), muD (by omega), muD (by omega)]; exact muS ⟨rfl, rfl⟩) (rfl))], glueS (hrel)⟩
      · exact ⟨E, _, E.1, E.2.1, t, by
      unfold lw_input
      rw [show f_X10_input E κ (nI g) (nI v) = some (addC κ 1 6, .inr 3) from by rw [f_X10_input, guestAt_ok q1 hn hg, bx_s, gd_t (show g < cntE E 0 from hg), if_neg hv1, if_pos hv2, m2.1, e20, if_neg (by rw [nI_lt' (by omega) (by omega)]; exact h20)]]
      dsimp only
      rw [show f_X11_input E (lwS (addC κ 1 6) (.inr 3)) (nI g) (nI v) = some (putM (lwS (addC κ 1 6) (.inr 3)) (mu (kV κ 5 0) 0 0 3), 0) from by rw [f_X11_input, isGuest_t (n := E.1) (by rw [lw_V (by omega)]; exact hG) hn hg, bd_s, if_neg (by decide), in_t hv1 (by rw [e9, nI_lt' (by omega) (by omega)]; omega), bd_s, if_neg (by decide), l55, nI_mul, l54, nI_add, nI_cl (by omega), gdi (by omega), lw_V (by omega), show kV (addC κ 1 6) 5 0 1 (55 * g + 54) = nI m from m1, e20, if_neg (by rw [nI_lt' (by omega) (by omega)]; exact h20), f_X11_input_b50, ref_n (by decide), bd_s, if_neg (by decide), lw_V (by omega)]; rfl]
      dsimp only
      rw [gdp_t (lwS_noX (by decide) rfl)], glueS (REL_no hR)⟩
    · have hb2 := vp_not (n := 9999) (by omega) hb
      have hcl : f_X10_input E κ (nI g) b = some (addC κ 1 6, .inr 2) := by
        rw [f_X10_input, guestAt_ok q1 hn hg, bx_s, gd_t (show g < cntE E 0 from hg), e10]
        by_cases z0 : b < 0
        · rw [if_pos z0]; rfl
        · rw [if_neg z0, if_neg (fun y => by
            rcases hb2 with z | z
            · exact z0 z
            · rw [Int32.lt_iff_toInt_lt, nI_toInt (by omega)] at y z; omega)]; rfl
      exact ⟨E, _, E.1, E.2.1, t, by
      unfold lw_input
      rw [show f_X10_input E κ (nI g) b = some (addC κ 1 6, .inr 2) from by exact hcl]
      dsimp only
      rw [show f_X11_input E (lwS (addC κ 1 6) (.inr 2)) (nI g) b = some (putM (lwS (addC κ 1 6) (.inr 2)) (mu (kV κ 5 0) 0 0 2), 0) from by rw [f_X11_input, isGuest_t (n := E.1) (by rw [lw_V (by omega)]; exact hG) hn hg, bd_s, if_neg (by decide), e9, in_f hb2, bd_s, if_pos rfl, f_X11_input_b50, ref_n (by decide), bd_s, if_neg (by decide), lw_V (by omega)]; rfl]
      dsimp only
      rw [gdp_t (lwS_noX (by decide) rfl)], glueS (REL_no hR)⟩
  · exact ⟨E, _, E.1, E.2.1, t, by
      unfold lw_input
      rw [show f_X10_input E κ a b = some (addC κ 1 6, .inr 1) from by rw [f_X10_input, guestAt_no q1 hn ha, bx_r]]
      dsimp only
      rw [show f_X11_input E (lwS (addC κ 1 6) (.inr 1)) a b = some (putM (lwS (addC κ 1 6) (.inr 1)) (mu (kV κ 5 0) 0 0 1), 0) from by rw [f_X11_input, isGuest_f (n := E.1) (by rw [lw_V (by omega)]; exact hG) hn ha, bd_s, if_pos rfl, f_X11_input_b50, ref_n (by decide), bd_s, if_neg (by decide), lw_V (by omega)]; rfl]
      dsimp only
      rw [gdp_t (lwS_noX (by decide) rfl)], glueS (REL_no hR)⟩
