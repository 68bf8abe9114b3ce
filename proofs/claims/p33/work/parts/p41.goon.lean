theorem mu_3 {μ : MU} {c1 k1 c2 k2 : Nat} {a b c : Int32} (h : ¬ (c1 = c2 ∧ k1 = k2)) : mu (mu (mu μ c1 k1 a) c2 k2 b) c1 k1 c = mu (mu μ c2 k2 b) c1 k1 c := by
  funext x y
  by_cases e1 : x = c1 ∧ y = k1
  · rw [muS e1, muS e1]
  · rw [muD e1, muD e1]
    by_cases e2 : x = c2 ∧ y = k2
    · rw [muS e2, muS e2]
    · rw [muD e2, muD e1, muD e2]
/-! a guest goes on upon the other host -/
def gsM (μ : MU) (g a k : Nat) : MU := mu (blkM μ 2 (512 * g + a) (fun j => μ 5 (512 * g + j)) k) 1 (55 * g + 54) (nI (a + k))
theorem m_goOn {E : EE} {κ : K} {g h a b : Nat} (hE : 0 < cntE E 5) (hg : g < 5) (h15 : kV κ 5 0 15 g = nI h) (hh : h < 2) (ha : kV κ 5 0 3 (55 * g + 54) = nI a) (hb : kV κ 5 0 6 g = nI b) (hab : a + b ≤ 512) : f_X11_goOn E κ (nI g) = some (putM κ (gsM (mu (gbM (kV κ 5 0) 3 (55 * g) 4 (512 * g) g a) 15 g (nI (1 - h))) g a b), ()) := by
  obtain ⟨f1, f2, _⟩ := gbM_f (μ := kV κ 5 0) (c2 := 3) (a := 55 * g) (c4 := 4) (q := 512 * g) (g := g) (m := a) (Or.inl ⟨rfl, rfl⟩) (by omega)
  generalize hμ : mu (gbM (kV κ 5 0) 3 (55 * g) 4 (512 * g) g a) 15 g (nI (1 - h)) = μ
  have e6 : μ 6 g = nI b := by rw [← hμ, mu_row (by omega), f1 6 (by omega) (by omega) (by omega) (by omega) (by omega) (by omega) (by omega)]; exact hb
  have e54 : μ 1 (55 * g + 54) = nI a := by rw [← hμ, mu_row (by omega), f2 54 (by omega) (by omega)]; exact ha
  have loop : ∀ d k m, k + d = b → d < m → f_X11_goOn_b39 E m (putM κ (gsM μ g a k)) (nI g) (nI k) = some (putM κ (gsM μ g a b), ()) := by
    intro d
    induction d with
    | zero =>
      intro k m hk hm
      obtain ⟨m, rfl⟩ : ∃ q, m = q + 1 := ⟨m - 1, by omega⟩
      have e : k = b := by omega
      subst e
      have s6 : (gsM μ g a k) 6 g = nI k := by
        unfold gsM
        rw [mu_row (by omega), blk_row (by omega)]; exact e6
      rw [f_X11_goOn_b39, nI_cl (by omega), gdi (by omega), put_kV, s6, if_pos (by rw [nI_le' (by omega) (by omega)]; exact Nat.le_refl _)]
    | succ d ih =>
      intro k m hk hm
      obtain ⟨m, rfl⟩ : ∃ q, m = q + 1 := ⟨m - 1, by omega⟩
      have s6 : (gsM μ g a k) 6 g = nI b := by
        unfold gsM
        rw [mu_row (by omega), blk_row (by omega)]; exact e6
      have s54 : (gsM μ g a k) 1 (55 * g + 54) = nI (a + k) := muS ⟨rfl, rfl⟩
      have s5 : (gsM μ g a k) 5 (512 * g + k) = μ 5 (512 * g + k) := by
        unfold gsM
        rw [mu_row (by omega), blk_row (by omega)]
      rw [f_X11_goOn_b39, nI_cl (by omega), gdi (by omega), put_kV, s6, if_neg (by rw [nI_le' (by omega) (by omega)]; omega), l55, nI_mul, l54, nI_add, nI_cl (by omega), gdi (by omega), s54, l512, nI_mul, nI_add, nI_cl (by omega), gdi (by omega), nI_add, nI_cl (by omega), gdi (by omega), s5, nmE, gdi (by omega), gdi (by omega), nmE, nI_1, nmE]
      have st : setV (setV (putM κ (gsM μ g a k)) 5 0 2 (512 * g + (a + k)) (μ 5 (512 * g + k))) 5 0 1 (55 * g + 54) (kV (setV (putM κ (gsM μ g a k)) 5 0 2 (512 * g + (a + k)) (μ 5 (512 * g + k))) 5 0 1 (55 * g + 54) + 1) = putM κ (gsM μ g a (k + 1)) := by
        simp only [set5, put_kV, put_put]
        rw [muD (by omega), s54, nI_1]
        unfold gsM
        rw [mu_3 (by omega), show 512 * g + (a + k) = 512 * g + a + k from by omega, show mu (blkM μ 2 (512 * g + a) (fun j => μ 5 (512 * g + j)) k) 2 (512 * g + a + k) (μ 5 (512 * g + k)) = blkM μ 2 (512 * g + a) (fun j => μ 5 (512 * g + j)) (k + 1) from blk_s (f := fun j => μ 5 (512 * g + j)), show a + k + 1 = a + (k + 1) from by omega]
      rw [st]
      exact ih (k + 1) m (by omega) (by omega)
  have l0 := loop b 0 FU (by omega) (by unfold FU; omega)
  rw [nI_0, show gsM μ g a 0 = μ from by unfold gsM; rw [blk_0]; exact mu_self e54] at l0
  rw [f_X11_goOn, l55, l512, nI_mul, nI_mul, gb_mod hE hg (Or.inl ⟨rfl, rfl⟩) (by show 55 * g + 55 ≤ 275; omega) (by show 512 * g + 512 ≤ 2560; omega) ha (by omega), bd_s, nI_cl (by omega), gdi (by omega), gdi (by omega), nmE, set5, put_kV, put_put, f1 15 (by omega) (by omega) (by omega) (by omega) (by omega) (by omega) (by omega), h15, one_m hh, hμ]
  exact l0
theorem lvU_id {w : MU} {g : Nat} (h : ∀ p, p < 8 → w 1 (8 * g + p) = -1) : ∀ k, k ≤ 8 → lvU w g k = w
  | 0, _ => rfl
  | k + 1, hk => by
    show leaveH (lvU w g k) (8 * g + k) = w
    rw [lvU_id h k (by omega)]
    unfold leaveH
    rw [if_pos (h k (by omega))]
theorem REL_goOn {E : EE} {κ : K} {μ : MU} {n ns t C g h : Nat} (hR : REL E κ μ n ns t C) (hC5 : C ≤ 512) (hg : g < n) (hh : h < 2) (h15 : μ 15 g = nI h) (hP : kP κ 0 g 0 8 = some h) (h30 : μ 30 g = 0) (h33 : μ 33 g = 1) : ∃ κ' a b, μ 3 (55 * g + 54) = nI a ∧ μ 6 g = nI b ∧ a + b ≤ 512 ∧ f_X1_goOnUpon E (pv κ 2 h (lvU (kV κ 2 h) g 8)) g (1 - h) = some (κ', ()) ∧ kV κ' 5 = kV κ 5 ∧ (∀ k, k < 2 → ∀ j, kV κ' 2 k 0 j = kV κ 2 k 0 j) ∧ kP κ' 4 = kP κ 4 ∧ kV κ' 4 = kV κ 4 ∧ REL E κ' (endM (gsM (mu (gbM μ 3 (55 * g) 4 (512 * g) g a) 15 g (nI (1 - h))) g a b) g) n ns t C := by
  obtain ⟨⟨_, _, hOK, _⟩, ⟨_, _, _, q4, q5⟩, hM, hQ, _⟩ := id hR
  have hH : E.2.2.2.1 = 1 := hOK.2.2.2.1
  obtain ⟨m1, m2, m3, m4, m5⟩ := hM
  have hn : n ≤ 5 := m1.1.1
  obtain ⟨hGg, hPg, hFg⟩ := m4 g hg
  obtain ⟨a1, a2, a3, a4, a5, a6, ⟨mi, hmi5, hmi, nI1⟩, q8, ⟨bh, hbh, h37, nH⟩, ⟨b, hb5, hb, nC⟩, a11, a12⟩ := hGg.1
  obtain ⟨st, nT, nS, nJ, T, S, J, r, hLs, hst, l1, l2, l3, hr, l4, l5, hpl⟩ := hGg.2.2.2
  obtain ⟨e18, hfo⟩ := id a11
  obtain ⟨_, hd, hK⟩ : μ 33 g = 1 ∧ kV κ 0 g 0 18 = 0 ∧ KST κ 0 g 19 (fun k => μ 3 (55 * g + k)) (fun k => μ 4 (512 * g + k)) := by
    rcases hfo with z | z
    · rw [h33] at z; exact absurd z (by decide)
    · exact z
  have hL : PLK κ 0 g 19 g := by
    rcases hFg with z | z
    · rw [e18, h33] at z; exact absurd z (by decide)
    · exact z
  obtain ⟨k1, k2, k3, k4, k5, k6, ⟨a, ha5, ha, kNU⟩, k8⟩ := id hK
  have ha : μ 3 (55 * g + 54) = nI a := ha
  obtain ⟨st', nT', nS', nJ', T', S', J', r', p1, p2, p3, p4, _⟩ := id hL
  obtain ⟨⟨mm, i1, i2⟩, ⟨b', i3, i4, i5⟩, i6⟩ := (hQ g hg).2.2
  obtain ⟨⟨a', j1, j2⟩, j3⟩ := i5 h33
  rw [hb, nI_eq' (by omega) (by omega)] at i3
  subst i3
  rw [ha, nI_eq' (by omega) (by omega)] at j1
  subst j1
  have bb : ∀ k, k = 8 ∨ k = 51 ∨ k = 52 → μ 3 (55 * g + k) = 0 ∨ μ 3 (55 * g + k) = 1 := fun k hk => by
    have hl : lim k = 2 := by rcases hk with rfl | rfl | rfl <;> rfl
    rcases k1 k (by omega) with ⟨_, z⟩ | ⟨z, z1, z2⟩
    · omega
    · rw [hl] at z2
      have : z = 0 ∨ z = 1 := by omega
      rcases this with rfl | rfl
      · exact Or.inl z1
      · exact Or.inr z1
  let κ1 : K := setP (pv κ 2 h (lvU (kV κ 2 h) g 8)) 0 g 0 8 (some (1 - h))
  have f1 : ∀ f i, ¬ (f = 2 ∧ i = h) → kV κ1 f i = kV κ f i := fun f i z => pv_n z
  have g0 : kV κ1 0 g = kV κ 0 g := f1 0 g (by omega)
  have ho : kV κ1 2 (1 - h) = kV κ 2 (1 - h) := f1 2 (1 - h) (by omega)
  have hh1 : kV κ1 2 h = lvU (kV κ 2 h) g 8 := pv_kV
  have hno : ∀ p, p < 8 → kV κ 2 (1 - h) 1 (8 * g + p) = -1 := fun p hp => by
    rw [(m3 (1 - h) (by omega)).1.1 (8 * g + p) (by omega), if_neg]
    rintro ⟨_, z⟩
    rw [show (8 * g + p) / 8 = g from by omega, h15, nI_eq' (by omega) (by omega)] at z
    omega
  have e7 : kV κ 0 g 20 7 = 0 ∨ kV κ 0 g 20 7 = 1 := by
    have := k2.2.2.2.2.2.1
    rw [show kV κ 0 g 20 7 = μ 3 (55 * g + 8) from this]
    exact bb 8 (by omega)
  have mv : ∀ {c s q}, NUM κ 0 g c s q → NUM κ1 0 g c s q := fun z => NUM_K z (by rw [g0]) (by rw [g0]) rfl
  obtain ⟨κ2, c1, c2, c3, c4, c5, c6, c7, c8, c9, c10, c11, c12⟩ := gb_cls (E := E) (κ := κ1) (n := n) (ns := ns) (g := g) (h := 1 - h) (f1 := 0) (i1 := g) (c1 := 19) hH (by omega) hg hn (pS ⟨rfl, rfl, rfl, rfl⟩) (by rw [g0]; exact hGg.1.1.1) (fun p hp => Or.inl (by rw [ho]; exact hno p hp)) (Or.inr ⟨rfl, rfl, rfl⟩) (by rw [g0]; exact e7) (by rw [g0, k4]; exact bb 51 (by omega)) (by rw [g0, k5]; exact bb 52 (by omega)) (⟨mv kNU, mv p1, mv p2, mv p3⟩ : FOUR κ1 0 g 19 a nT' nS' nJ' _ _ _ _) (⟨mv nI1, mv hLs.1, mv hLs.2.1, mv hLs.2.2⟩ : FOUR κ1 0 g 5 mi nT nS nJ _ _ _ _)
  have nC2 : NUM κ2 0 g 32 b (fun k => μ 5 (512 * g + k)) := NUM_K nC (by rw [c4 32 (by omega) (by omega), g0]) (by rw [c4 33 (by omega) (by omega), g0]) (by rw [c10 0 g 33 (by omega)]; rfl)
  obtain ⟨κ3, u1, u2, u3⟩ := n_addAll (E := E) (n0 := n) (s0 := ns) c8.1 nC2 (by omega) (by omega) (num_mem0 g (by omega) 11 (by decide)) (al0 hg)
  let κ4 : K := setV (setV κ3 0 g 18 0 0) 0 g 34 1 0
  have x4 : ∀ f i c, ¬ (f = 0 ∧ i = g ∧ (c = 18 ∨ c = 34)) → kV κ4 f i c = kV κ3 f i c := fun f i c z => by
    funext k
    show kV (setV (setV κ3 0 g 18 0 0) 0 g 34 1 0) f i c k = _
    rw [vD (by omega), vD (by omega)]
  have x43 : ∀ f i c, ¬ (f = 0 ∧ i = g ∧ (c = 10 ∨ c = 11 ∨ c = 18 ∨ c = 34)) → kV κ4 f i c = kV κ2 f i c := fun f i c z => by rw [x4 f i c (by omega), u2.1 f i c (by omega)]
  have n43 : ∀ f i c, ¬ (f = 0 ∧ i = g ∧ 5 ≤ c ∧ c < 18) → kN κ4 f i c = kN κ f i c := fun f i c z => by
    show kN κ3 f i c = _
    rw [u2.2.2.1 f i c (by omega), c10 f i c z]
    rfl
  have v18 : kV κ4 0 g 18 0 = 0 := by
    show kV (setV (setV κ3 0 g 18 0 0) 0 g 34 1 0) 0 g 18 0 = 0
    rw [vD (by omega)]
    exact vS ⟨rfl, rfl, rfl, rfl⟩
  have v34 : kV κ4 0 g 34 1 = 0 := vS ⟨rfl, rfl, rfl, rfl⟩
  have pP : ∀ c k, ¬ (c = 0 ∧ k = 8) → kP κ4 0 g c k = kP κ 0 g c k := fun c k z => by
    show kP κ3 0 g c k = _
    rw [u2.2.2.2.1, c11]
    show kP (setP _ 0 g 0 8 _) 0 g c k = _
    rw [pD (by omega), pv_P]
  have pPo : ∀ f i, ¬ (f = 0 ∧ i = g) → kP κ4 f i = kP κ f i := fun f i z => by
    show kP κ3 f i = _
    rw [u2.2.2.2.1, c11]
    funext c k
    show kP (setP _ 0 g 0 8 _) f i c k = _
    rw [pD (by omega), pv_P]
  have p8 : kP κ4 0 g 0 8 = some (1 - h) := by
    show kP κ3 0 g 0 8 = _
    rw [u2.2.2.2.1, c11]
    exact pS ⟨rfl, rfl, rfl, rfl⟩
  have vO : ∀ f i, ¬ (f = 0 ∧ i = g) → f ≠ 2 → kV κ4 f i = kV κ f i := fun f i z w => by
    funext c
    rw [x43 f i c (by omega), c2 f i z (by omega), f1 f i (by omega)]
  have vH : ∀ k, k < 2 → kV κ4 2 k = if k = h then lvU (kV κ 2 h) g 8 else kV κ 2 k := fun k hk => by
    have a : kV κ4 2 k = kV κ2 2 k := by
      funext c
      rw [x43 2 k c (by omega)]
    rw [a]
    by_cases e : k = h
    · rw [if_pos e, e, c2 2 h (by omega) (by omega), hh1]
    · rw [if_neg e, show k = 1 - h from by omega, c3, ho, lvU_id hno 8 (Nat.le_refl _)]
  -- the model
  obtain ⟨g1, g2, g3, g4, g5, g6, g7, g8, g9, g10, g11, g12⟩ := gbM_f (μ := μ) (c2 := 3) (a := 55 * g) (c4 := 4) (q := 512 * g) (g := g) (m := a) (Or.inl ⟨rfl, rfl⟩) ha5
  obtain ⟨ν, hμ⟩ : ∃ ν, ν = mu (gbM μ 3 (55 * g) 4 (512 * g) g a) 15 g (nI (1 - h)) := ⟨_, rfl⟩
  have n1 : ∀ c, c ≠ 15 → ν c = (gbM μ 3 (55 * g) 4 (512 * g) g a) c := fun c hc => by rw [hμ]; exact mu_row hc
  have n15 : ν 15 g = nI (1 - h) := by rw [hμ]; exact muS ⟨rfl, rfl⟩
  have F : ∀ c, c ≠ 1 → c ≠ 2 → c ≠ 33 → c ≠ 37 → (endM (gsM ν g a b) g) c = ν c := fun c x1 x2 x3 x4 => by
    unfold endM gsM
    rw [mu_row x3, mu_row x4, mu_row x1, blk_row x2]
  have F33 : (endM (gsM ν g a b) g) 33 g = 0 := muS ⟨rfl, rfl⟩
  have F37 : (endM (gsM ν g a b) g) 37 g = 0 := by
    unfold endM
    rw [muD (by omega)]
    exact muS ⟨rfl, rfl⟩
  have F1 : ∀ k, k < 54 → (endM (gsM ν g a b) g) 1 (55 * g + k) = ν 1 (55 * g + k) := fun k hk => by
    unfold endM gsM
    rw [mu_row (by omega), mu_row (by omega), muD (by omega), blk_row (by omega)]
  have F54 : (endM (gsM ν g a b) g) 1 (55 * g + 54) = nI (a + b) := by
    unfold endM gsM
    rw [mu_row (by omega), mu_row (by omega)]
    exact muS ⟨rfl, rfl⟩
  have F2 : ∀ k, k < a + b → (endM (gsM ν g a b) g) 2 (512 * g + k) = if k < a then μ 4 (512 * g + k) else μ 5 (512 * g + (k - a)) := fun k hk => by
    unfold endM gsM
    rw [mu_row (by omega), mu_row (by omega), mu_row (by omega)]
    by_cases e : k < a
    · rw [if_pos e, blk_out (by omega), n1 2 (by omega), g4 k e]
    · rw [if_neg e, show 512 * g + k = 512 * g + a + (k - a) from by omega, blk_in (by omega), n1 5 (by omega), g1 5 (by omega) (by omega) (by omega) (by omega) (by omega) (by omega) (by omega)]
  have er : ∀ c, c ≠ 1 → c ≠ 2 → c ≠ 12 → c ≠ 15 → c ≠ 19 → c ≠ 21 → c ≠ 27 → c ≠ 28 → c ≠ 30 → c ≠ 33 → c ≠ 37 → (endM (gsM ν g a b) g) c = μ c := fun c x1 x2 x3 x4 x5 x6 x7 x8 x9 x10 x11 => by rw [F c x1 x2 x10 x11, n1 c x4, g1 c x1 x2 x5 x6 x7 x8 x9]
  have E12 : (endM (gsM ν g a b) g) 12 = μ 12 := by rw [F 12 (by omega) (by omega) (by omega) (by omega), n1 12 (by omega), g1 12 (by omega) (by omega) (by omega) (by omega) (by omega) (by omega) (by omega)]
  have v3 : ∀ c, (1 ≤ c ∧ c ≤ 4) ∨ (19 ≤ c ∧ c < 32) ∨ c = 36 ∨ c = 37 ∨ c = 38 → kV κ4 0 g c = kV κ 0 g c := fun c hc => by rw [x43 0 g c (by omega), c4 c (by omega) (by omega), g0]
  refine ⟨κ4, a, b, ha, hb, by omega, ?_, ?_, fun k hk j => ?_, ?_, ?_, ?_⟩
  · rw [f_X1_goOnUpon, nmE]
    show bd (f_X1_goBackTo E κ1 g 0 g 19) _ = _
    rw [c1, bd_s, u1, bd_s, f_X0_end, nmE, nmE, bd_s]
  · funext i
    exact vO 5 i (by omega) (by omega)
  · rw [vH k hk]
    split
    · rename_i e
      rw [e, lvU_0]
    · rfl
  · funext i
    exact pPo 4 i (by omega)
  · funext i
    exact vO 4 i (by omega) (by omega)
  · rw [← hμ]
    refine REL_bk (f1 := 0) (i1 := g) (c1 := 19) (r := fun k => μ 3 (55 * g + k)) (q := fun k => μ 4 (512 * g + k)) hR (Nat.le_refl _) hg hK hL (fun f i z w _ _ => vO f i z w) (fun f i z => ?_) pPo (fun k hk => ?_) v3 (fun c hc => n43 0 g c (by omega)) (fun k x1 x2 x3 x4 => by rw [x43 0 g 0 (by omega), c5 k x1 x2 x3 x4, g0]) ?_ (fun j k hr => ?_) (fun k x1 x2 => by rw [x43 0 g 5 (by omega), c9 k x1 x2, g0]) ⟨a + b, by omega, F54, ?_⟩ (fun nT2 nS2 nJ2 T2 S2 J2 z1 z2 z3 => ?_) ⟨0, by omega, F37, v34, Nat.zero_le _, ?_, fun k hk => absurd hk (by omega)⟩ ?_ ⟨by rw [v18, F33], Or.inl F33⟩ (Or.inl v18) er ?_ (fun k hk h50 => by rw [F1 k hk, n1 1 (by omega), g2 k (by omega) h50]) (by rw [F1 50 (by omega), n1 1 (by omega), g3]) ⟨a + b, F54, by omega, fun k hk => ?_⟩ ⟨1 - h, by omega, p8, by rw [F 15 (by omega) (by omega) (by omega) (by omega)]; exact n15⟩ ?_ (by rw [F 19 (by omega) (by omega) (by omega) (by omega), n1 19 (by omega)]; exact g5) (by rw [F 30 (by omega) (by omega) (by omega) (by omega), n1 30 (by omega)]; exact g6) (by rw [F 21 (by omega) (by omega) (by omega) (by omega), n1 21 (by omega)]; exact g7) (fun p hp => by rw [F 27 (by omega) (by omega) (by omega) (by omega), n1 27 (by omega)]; exact g8 p hp) (fun key hk => by rw [F 27 (by omega) (by omega) (by omega) (by omega), n1 27 (by omega)]; exact g9 key hk) (by rw [F 28 (by omega) (by omega) (by omega) (by omega), n1 28 (by omega)]; exact g10) ?_ ?_ ?_
    · funext c
      exact n43 f i c (by omega)
    · rw [vH k hk]
      by_cases e : k = h
      · rw [if_pos e]
        subst e
        exact ⟨RH_lv hn (m3 k hk).1 hg m2 h15 8 (Nat.le_refl _), fun j => by rw [lvU_0]⟩
      · rw [if_neg e]
        exact ⟨RH_lv2 (m3 k hk).1 e ⟨hh, hk⟩ h15, fun _ => rfl⟩
    · rw [x43 0 g 0 (by omega)]
      rw [g0] at c6
      exact c6
    · have hj : j < 4 := by
        unfold rel at hr
        omega
      rw [x43 0 g (6 + j) (by omega), c7 j k hr, g0]
    · have z : NUM κ4 0 g 10 (a + b) (fun k => if k < a then μ 4 (512 * g + k) else μ 5 (512 * g + (k - a))) := NUM_K u3 (by rw [x4 0 g 10 (by omega)]) (x4 0 g 11 (by omega)) rfl
      exact NUM_q z (fun k hk => (F2 k hk).symm)
    · obtain ⟨w1, w2, w3, w4⟩ := c8
      have un : ∀ {f i c x y a b}, NUM κ f i c x a → NUM κ f i c y b → x = y ∧ ∀ k, k < x → a k = b k := fun {f i c x y a b} u v => by
        have e := u.1.symm.trans v.1
        have h1 := u.2.1
        have h2 := (CAP_ge u.2.2.1).2
        have h3 := v.2.1
        rw [nI_eq' (by omega) (by omega)] at e
        subst e
        exact ⟨rfl, fun k hk => (u.2.2.2 k hk).symm.trans (v.2.2.2 k hk)⟩
      have tr : ∀ {c s q}, NUM κ2 0 g c s q → 12 ≤ c → c + 1 < 18 → NUM κ4 0 g c s q := fun z y1 y2 => NUM_K z (by rw [x43 0 g _ (by omega)]) (x43 0 g _ (by omega)) (by show kN κ3 0 g _ = _; rw [u2.2.2.1 0 g _ (by omega)])
      obtain ⟨rfl, f1'⟩ := un z1 p1
      obtain ⟨rfl, f2'⟩ := un z2 p2
      obtain ⟨rfl, f3'⟩ := un z3 p3
      exact ⟨NUM_q (tr w2 (by omega) (by omega)) (fun k hk => (f1' k hk).symm), NUM_q (tr w3 (by omega) (by omega)) (fun k hk => (f2' k hk).symm), NUM_q (tr w4 (by omega) (by omega)) (fun k hk => (f3' k hk).symm)⟩
    · rw [n43 0 g 35 (by omega)]; exact nH.2.2.1
    · rw [er 6 (by omega) (by omega) (by omega) (by omega) (by omega) (by omega) (by omega) (by omega) (by omega) (by omega) (by omega), er 5 (by omega) (by omega) (by omega) (by omega) (by omega) (by omega) (by omega) (by omega) (by omega) (by omega) (by omega)]
      exact QQ_v (q := fun k => μ 5 (512 * g + k)) ⟨b, hb5, hb, nC⟩ (by rw [x43 0 g 32 (by omega), c4 32 (by omega) (by omega), g0]) (by rw [x43 0 g 33 (by omega), c4 33 (by omega) (by omega), g0]) (n43 0 g 33 (by omega)) rfl (fun _ _ => rfl)
    · have o2 : OWN μ ν g := by rw [hμ]; exact g11.trans (OWN_g (by omega) (by omega) rfl)
      unfold endM gsM
      exact ((((o2.trans (OWN_blk (by omega) (by omega) (fun k hk => by show (512 * g + a + k) / 512 = g; omega))).trans (OWN_1 (k := 54) rfl (by omega))).trans (OWN_g (by omega) (by omega) rfl)).trans (OWN_g (by omega) (by omega) rfl))
    · rw [F2 k hk]
      by_cases e : k < a
      · rw [if_pos e]
        exact k8 k (by rw [show (fun k => μ 3 (55 * g + k)) 54 = nI a from ha, nI_cl (by omega)]; exact e)
      · rw [if_neg e]
        exact j3 (k - a) (by omega) (by omega)
    · rw [E12, pP 0 9 (by omega)]
      exact hPg.2
    · obtain ⟨y1, y2, y3, s1, s2, s3, s4, s5⟩ := (hQ g hg).1
      exact ⟨y1, 0, y3, by rw [er 35 (by omega) (by omega) (by omega) (by omega) (by omega) (by omega) (by omega) (by omega) (by omega) (by omega) (by omega)]; exact s1, F37, by rw [er 24 (by omega) (by omega) (by omega) (by omega) (by omega) (by omega) (by omega) (by omega) (by omega) (by omega) (by omega)]; exact s3, by omega, s5⟩
    · refine ⟨⟨a + b, F54, by omega⟩, ⟨b, by rw [er 6 (by omega) (by omega) (by omega) (by omega) (by omega) (by omega) (by omega) (by omega) (by omega) (by omega) (by omega)]; exact hb, by omega, fun z => ?_⟩, by rw [er 18 (by omega) (by omega) (by omega) (by omega) (by omega) (by omega) (by omega) (by omega) (by omega) (by omega) (by omega)]; exact i6⟩
      rw [F33] at z
      exact absurd z (by decide)
    · have := (((PAID_same (n := n) (s := ns) (κ := κ) (κ' := κ1) rfl rfl).trans c12).trans u2.2.2.2.2).trans (PAID_same (n := n) (s := ns) (κ := κ3) (κ' := κ4) rfl rfl)
      exact this.up (by omega) (by omega)
