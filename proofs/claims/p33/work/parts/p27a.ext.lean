/-! WHAT THE LAW ASKS BESIDE: ticks run and stolen, pages that are bare, what went out. How a call changes them -/
theorem EXT.rf {μ : MU} : EXT μ μ := ⟨id, id, fun g a _ ha e => ⟨a, Nat.le_refl _, ha, e⟩⟩
theorem EXT.tr {μ μ1 μ2 : MU} (h : EXT μ μ1) (k : EXT μ1 μ2) : EXT μ μ2 := ⟨fun z => k.1 (h.1 z), fun z => k.2.1 (h.2.1 z), fun g a hg ha e => by
  obtain ⟨a1, b1, b2, b3⟩ := h.2.2 g a hg ha e
  obtain ⟨a2, c1, c2, c3⟩ := k.2.2 g a1 hg b2 b3
  exact ⟨a2, by omega, c2, c3⟩⟩
theorem W1_e {μ μ' : MU} (h : W1 μ) (e23 : μ' 23 = μ 23) (e24 : μ' 24 = μ 24) (e0 : μ' 0 41 = μ 0 41) : W1 μ' := fun g hg => by
  rw [e23, e24, e0]
  exact h g hg
/-- rows that tell nothing of it -/
theorem EXT_p {μ μ' : MU} (e35 : μ' 35 = μ 35) (e23 : μ' 23 = μ 23) (e24 : μ' 24 = μ 24) (e0 : μ' 0 41 = μ 0 41) (h : ∀ g p, g < 5 → p < 8 → μ' 27 (8 * g + p) = 0 → (μ 27 (8 * g + p) = 0 ∧ ∀ k, k < 4 → μ' 1 (55 * g + (17 + (4 * p + k))) = μ 1 (55 * g + (17 + (4 * p + k)))) ∨ ∀ k, k < 4 → μ' 1 (55 * g + (17 + (4 * p + k))) = 0) : EXT μ μ' :=
  ⟨fun z => W1_e z e23 e24 e0, fun z g p hg hp h0 k hk => by
    rcases h g p hg hp h0 with ⟨a, b⟩ | b
    · rw [b k hk]; exact z g p hg hp a k hk
    · exact b k hk, fun g a _ ha e => ⟨a, Nat.le_refl _, ha, by rw [e35]; exact e⟩⟩
theorem EXT_r {μ μ' : MU} (e35 : μ' 35 = μ 35) (e23 : μ' 23 = μ 23) (e24 : μ' 24 = μ 24) (e27 : μ' 27 = μ 27) (e0 : μ' 0 41 = μ 0 41) (h : ∀ g k, g < 5 → k < 32 → μ' 1 (55 * g + (17 + k)) = μ 1 (55 * g + (17 + k))) : EXT μ μ' :=
  EXT_p e35 e23 e24 e0 fun g p hg hp h0 => Or.inl ⟨by rw [← e27]; exact h0, fun k hk => h g (4 * p + k) hg (by omega)⟩
/-- one number of a row that tells nothing of it -/
theorem EXT_mu {μ : MU} {c k : Nat} {x : Int32} (h : c ≠ 1 ∧ c ≠ 23 ∧ c ≠ 24 ∧ c ≠ 27 ∧ c ≠ 35 ∧ ¬ (c = 0 ∧ k = 41)) : EXT μ (mu μ c k x) :=
  EXT_r (mu_row (by omega)) (mu_row (by omega)) (mu_row (by omega)) (mu_row (by omega)) (muD (by omega)) (fun g j _ _ => muD (by omega))
theorem EXT_thr {μ : MU} {x : Int32} : EXT μ (mu μ 0 0 x) := EXT_mu (by omega)
theorem EXT_1 {μ : MU} {g k : Nat} {x : Int32} (hk : k < 17 ∨ (49 ≤ k ∧ k < 55)) : EXT μ (mu μ 1 (55 * g + k) x) :=
  EXT_r (mu_row (by omega)) (mu_row (by omega)) (mu_row (by omega)) (mu_row (by omega)) (muD (by omega)) (fun g2 j _ _ => muD (by omega))
/-- what is said more, of one guest -/
theorem EXT_35 {μ μ' : MU} {g a b : Nat} (h1 : μ 35 g = nI a) (h2 : μ' 35 g = nI b) (ha : a ≤ 3000) (hab : a ≤ b) (hb : b ≤ 3000) (ho : ∀ k, k ≠ g → μ' 35 k = μ 35 k) (e23 : μ' 23 = μ 23) (e24 : μ' 24 = μ 24) (e27 : μ' 27 = μ 27) (e0 : μ' 0 41 = μ 0 41) (h : ∀ g k, g < 5 → k < 32 → μ' 1 (55 * g + (17 + k)) = μ 1 (55 * g + (17 + k))) : EXT μ μ' :=
  ⟨fun z => W1_e z e23 e24 e0, fun z g p hg hp h0 k hk => by
    rw [h g (4 * p + k) hg (by omega)]
    exact z g p hg hp (by rw [← e27]; exact h0) k hk, fun k a' _ ha' e => by
    by_cases ek : k = g
    · subst ek
      rw [h1, nI_eq' (by omega) (by omega)] at e
      exact ⟨b, by omega, hb, h2⟩
    · exact ⟨a', Nat.le_refl _, ha', by rw [ho k ek]; exact e⟩⟩
/-! a tick -/
theorem swapU_27 {μ : MU} {h f : Int32} {p : Nat} : ∀ m, (swapU μ h f m) 27 p = 0 → μ 27 p = 0
  | 0, e => e
  | m + 1, e => by
    unfold swapU at e
    by_cases z : onF (swapU μ h f m) h f m = true
    · rw [if_pos z] at e
      by_cases ep : p = m
      · rw [muS ⟨rfl, ep⟩] at e
        exact absurd e (by decide)
      · rw [muD (by omega), muD (by omega)] at e
        exact swapU_27 m e
    · rw [if_neg z] at e
      exact swapU_27 m e
theorem frM_27 {μ : MU} {n h p : Nat} {but : Int32} (e : (frM μ n h but).1 27 p = 0) : μ 27 p = 0 := by
  unfold frM at e
  split at e
  · exact e
  · exact swapU_27 _ e
theorem touch_27 {μ : MU} {n g v h p : Nat} {w : Int32} (e : (touchM μ n g v w h) 27 p = 0) : μ 27 p = 0 ∧ p ≠ 8 * g + v := by
  unfold touchM at e
  split at e
  · rename_i h1
    have key : μ 27 p = 0 → μ 27 p = 0 ∧ p ≠ 8 * g + v := fun z => ⟨z, fun y => by rw [y, h1] at z; exact absurd z (by decide)⟩
    split at e
    · rw [mark_row (by omega)] at e; exact key e
    · split at e
      · rw [mark_row (by omega)] at e; exact key e
      · dsimp only at e
        rw [mark_row (by omega), mu_row (by omega), mu_row (by omega)] at e
        exact key (frM_27 e)
  · dsimp only at e
    rw [mark_row (by omega), mu_row (by omega)] at e
    by_cases ep : p = 8 * g + v
    · rw [muS ⟨rfl, ep⟩] at e
      exact absurd e (by decide)
    · rw [muD (by omega), mu_row (by omega)] at e
      exact ⟨frM_27 e, ep⟩
/-- numbers said more, at most so many, and bare pages stay 0 -/
def XS (d : Nat) (μ μ' : MU) : Prop := (∀ k a, μ 35 k = nI a → ∃ a', a ≤ a' ∧ a' ≤ a + d ∧ μ' 35 k = nI a') ∧ (W2 μ → W2 μ')
theorem XS.rf {μ : MU} : XS 0 μ μ := ⟨fun _ a e => ⟨a, Nat.le_refl _, Nat.le_refl _, e⟩, id⟩
theorem XS.tr {d1 d2 : Nat} {μ μ1 μ2 : MU} (h : XS d1 μ μ1) (k : XS d2 μ1 μ2) : XS (d1 + d2) μ μ2 := ⟨fun j a e => by
  obtain ⟨a1, b1, b2, b3⟩ := h.1 j a e
  obtain ⟨a2, c1, c2, c3⟩ := k.1 j a1 b3
  exact ⟨a2, by omega, by omega, c3⟩, fun z => k.2 (h.2 z)⟩
theorem XS.up {d e : Nat} {μ μ' : MU} (h : XS d μ μ') (hd : d ≤ e) : XS e μ μ' := ⟨fun j a z => by
  obtain ⟨a1, b1, b2, b3⟩ := h.1 j a z
  exact ⟨a1, b1, by omega, b3⟩, h.2⟩
theorem XS_p {μ μ' : MU} (e35 : μ' 35 = μ 35) (h : ∀ g p, g < 5 → p < 8 → μ' 27 (8 * g + p) = 0 → (μ 27 (8 * g + p) = 0 ∧ ∀ k, k < 4 → μ' 1 (55 * g + (17 + (4 * p + k))) = μ 1 (55 * g + (17 + (4 * p + k)))) ∨ ∀ k, k < 4 → μ' 1 (55 * g + (17 + (4 * p + k))) = 0) : XS 0 μ μ' :=
  ⟨fun k a e => ⟨a, Nat.le_refl _, Nat.le_refl _, by rw [e35]; exact e⟩, fun z g p hg hp h0 k hk => by
    rcases h g p hg hp h0 with ⟨a, b⟩ | b
    · rw [b k hk]; exact z g p hg hp a k hk
    · exact b k hk⟩
theorem XS_r {μ μ' : MU} (e35 : μ' 35 = μ 35) (e27 : μ' 27 = μ 27) (h : ∀ g k, g < 5 → k < 32 → μ' 1 (55 * g + (17 + k)) = μ 1 (55 * g + (17 + k))) : XS 0 μ μ' :=
  XS_p e35 fun g p hg hp h0 => Or.inl ⟨by rw [← e27]; exact h0, fun k hk => h g (4 * p + k) hg (by omega)⟩
theorem XS_mu {μ : MU} {c k : Nat} {x : Int32} (h : c ≠ 1 ∧ c ≠ 27 ∧ c ≠ 35) : XS 0 μ (mu μ c k x) := XS_r (mu_row (by omega)) (mu_row (by omega)) (fun g j _ _ => muD (by omega))
theorem XS_1 {μ : MU} {g j k : Nat} {x : Int32} (hj : j = 55 * g + k) (hk : k < 17 ∨ (49 ≤ k ∧ k < 55)) : XS 0 μ (mu μ 1 j x) := by
  subst hj
  exact XS_r (mu_row (by omega)) (mu_row (by omega)) (fun g2 j _ _ => muD (by omega))
theorem XS_goTo {μ : MU} {g : Nat} {x : Int32} : XS 0 μ (goToM μ g x) := by
  unfold goToM
  exact (((XS_1 rfl (by omega)).tr (XS_1 rfl (by omega))).tr (XS_1 rfl (by omega))).tr (XS_1 rfl (by omega))
theorem XS_fault {μ : MU} {g : Nat} : XS 0 μ (faultM μ g) := by
  unfold faultM
  split
  · exact XS_1 rfl (by omega)
  · exact XS_goTo
theorem XS_touch {μ : MU} {n g v h : Nat} {w : Int32} : XS 0 μ (touchM μ n g v w h) :=
  XS_p (touch_row (by omega)) (fun g2 p _ _ h0 => Or.inl ⟨(touch_27 h0).1, fun k _ => by rw [touch_row (by omega)]⟩)
theorem XS_say {μ : MU} {g : Nat} {x : Int32} : XS 1 μ (sayM μ g x) := by
  refine ⟨fun k a e => ?_, fun z g2 p hg hp h0 k hk => ?_⟩
  · unfold sayM
    split
    · dsimp only
      by_cases ek : k = g
      · subst ek
        exact ⟨a + 1, by omega, Nat.le_refl _, by rw [muS ⟨rfl, rfl⟩, muD (by omega), e, nI_1]⟩
      · exact ⟨a, Nat.le_refl _, by omega, by rw [muD (by omega), muD (by omega)]; exact e⟩
    · dsimp only
      exact ⟨a, Nat.le_refl _, by omega, by rw [muD (by omega), muD (by omega)]; exact e⟩
  · rw [say_row (by omega)] at h0 ⊢
    exact z g2 p hg hp h0 k hk
theorem XS_tak {μ : MU} {g : Nat} : XS 0 μ (takM μ g).1 := by
  refine XS_r (tak_row (by omega)) (tak_row (by omega)) (fun g2 k _ hk => ?_)
  rw [tak_1]
  split
  · rfl
  · rw [muD (by omega)]
theorem ne55 {g g2 a b : Nat} (ha : a < 55) (hb : b < 55) (h : g2 = g → a ≠ b) : 55 * g2 + a ≠ 55 * g + b := by omega
theorem h55 {g g2 p v k q : Nat} (hp : p < 8) (hk : k < 4) (hv : v < 8) (h : 8 * g2 + p ≠ 8 * g + v) (hq : q < 4) : g2 = g → 17 + (4 * p + k) ≠ 17 + 4 * v + q := by omega
theorem clw_n {μ : MU} {g page j : Nat} (hj : ∀ k, k < 4 → j ≠ 55 * g + 17 + 4 * page + k) : ∀ m, m ≤ 4 → (clrU μ g page m) 1 j = μ 1 j
  | 0, _ => rfl
  | m + 1, hm => by
    unfold clrU
    rw [muD (fun z => hj m (by omega) z.2)]
    exact clw_n hj m (by omega)
theorem clw_0 {μ : MU} {g page k : Nat} : ∀ m, m ≤ 4 → k < m → (clrU μ g page m) 1 (55 * g + 17 + 4 * page + k) = 0
  | 0, _, h => absurd h (Nat.not_lt_zero _)
  | m + 1, hm, h => by
    unfold clrU
    by_cases e : k = m
    · subst e
      exact muS ⟨rfl, rfl⟩
    · rw [muD (by omega)]
      exact clw_0 m (by omega) (by omega)
theorem XS_give {μ : MU} {g page : Nat} (hp : page < 8) : XS 0 μ (giveM μ g page) := by
  refine XS_p (give_row (by omega)) (fun g2 p hg2 hp2 h0 => ?_)
  have e1 : (giveM μ g page) 1 = (clrU μ g page 4) 1 := by
    unfold giveM
    rw [mu_row (by omega), mu_row (by omega), mu_row (by omega)]
  by_cases e : g2 = g ∧ p = page
  · obtain ⟨rfl, rfl⟩ := e
    refine Or.inr fun k hk => ?_
    rw [e1, show 55 * g2 + (17 + (4 * p + k)) = 55 * g2 + 17 + 4 * p + k from by omega]
    exact clw_0 4 (Nat.le_refl _) hk
  · refine Or.inl ⟨?_, fun k hk => ?_⟩
    · unfold giveM at h0
      rw [mu_row (by omega), mu_row (by omega), muD (by omega), clr_row (by omega)] at h0
      exact h0
    · rw [e1]
      exact clw_n (fun k2 hk2 z => ne55 (g := g) (b := 17 + 4 * page + k2) (by omega) (by omega) (fun y => by
        have e2 : p ≠ page := fun w => e ⟨y, w⟩
        omega) (z.trans (by omega))) 4 (Nat.le_refl _)
theorem XS_ls {μ : MU} {n g w a b h : Nat} (hR : ROK μ g) (ha : a < 4) (hb : b < 4) : XS 0 μ (lsM μ n g w a b h) := by
  unfold lsM
  dsimp only
  split
  · exact XS_fault
  · split
    · exact XS_fault
    · rename_i z1 z2
      have hq : (μ 1 (55 * g + b)).toNatClampNeg / 4 < 8 := by omega
      obtain ⟨v, ev, hv⟩ := (hR.view (k := (μ 1 (55 * g + b)).toNatClampNeg / 4) hq).resolve_left z2
      rw [ev, nI_cl (by omega)]
      split
      · exact (XS_touch.tr (XS_1 rfl (by omega))).tr (XS_1 rfl (by omega))
      · refine XS_p (by rw [mu_row (by omega), mu_row (by omega), touch_row (by omega)]) (fun g2 p _ hp h0 => ?_)
        rw [mu_row (by omega), mu_row (by omega)] at h0
        obtain ⟨h1, h2⟩ := touch_27 h0
        exact Or.inl ⟨h1, fun k hk => by rw [muD (fun z => ne55 (by omega) (by omega) (by omega) z.2), muD (fun z => ne55 (g := g) (b := 17 + 4 * v + (μ 1 (55 * g + b)).toNatClampNeg % 4) (by omega) (by omega) (h55 hp hk hv h2 (Nat.mod_lt _ (by omega))) (z.2.trans (by omega))), touch_row (by omega)]⟩
theorem XS_oth {μ : MU} {g w a b : Nat} {nx : Int32} (hV : VN w a b) : XS 0 μ (othM μ g w b nx).1 := by
  obtain ⟨v1, v2, v3, v4, v5, v6, v7, v8⟩ := hV
  unfold othM
  split
  · exact (XS_mu (by omega)).tr (XS_1 rfl (by omega))
  · split
    · exact XS_1 rfl (by omega)
    · split
      · exact XS_1 rfl (by omega)
      · split
        · exact XS_1 rfl (by omega)
        · split
          · rename_i e; exact XS_give (v4 e)
          · exact (XS_mu (by omega)).tr (XS_1 rfl (by omega))
theorem XS_do {μ : MU} {n g w a b h : Nat} (hR : ROK μ g) (hV : VN w a b) : XS 1 μ (doM μ n g w a b h) := by
  have hV0 := hV
  obtain ⟨v1, v2, v3, v4, v5, v6, v7, v8⟩ := hV
  unfold doM
  dsimp only
  split
  · have := v1 (by omega)
    exact ((XS_1 rfl (by omega)).tr (XS_1 rfl (by omega))).up (by omega)
  · split
    · have := v1 (by omega)
      exact ((XS_1 rfl (by omega)).tr (XS_1 rfl (by omega))).up (by omega)
    · split
      · exact (XS_ls hR (v1 (by omega)) (v3 (by omega))).up (by omega)
      · split
        · exact (XS_ls hR (v1 (by omega)) (v3 (by omega))).up (by omega)
        · split
          · exact (XS_1 rfl (by omega)).up (by omega)
          · split
            · rename_i e
              have := (v2 e).1
              exact ((XS_1 (g := g) (j := 55 * g + 9 + a) (k := 9 + a) (by omega) (by omega)).tr (XS_1 rfl (by omega))).up (by omega)
            · split
              · split
                · exact ((XS_mu (by omega)).tr XS_say).tr (XS_1 rfl (by omega))
                · exact (((XS_mu (by omega)).tr (XS_1 rfl (by omega))).tr (XS_1 rfl (by omega))).up (by omega)
              · split
                · have := v1 (by omega)
                  refine XS.up (XS.tr (d1 := 0) (d2 := 0) (XS.tr (d1 := 0) (d2 := 0) ?_ (XS_1 rfl (by omega))) (XS_1 rfl (by omega))) (by omega)
                  split
                  · exact (XS_mu (by omega)).tr XS_tak
                  · split
                    · exact XS_mu (by omega)
                    · exact XS_mu (by omega)
                · exact ((XS_oth hV0).tr (XS_1 rfl (by omega))).up (by omega)
theorem XS_int {μ : MU} {g : Nat} : XS 0 μ (intM μ g) := by
  unfold intM
  split
  · split
    · exact ((XS_1 rfl (by omega)).tr (XS_mu (by omega))).tr XS_goTo
    · exact ((XS_1 rfl (by omega)).tr (XS_mu (by omega))).tr XS_goTo
  · exact XS.rf
theorem XS_run {μ : MU} {n g h : Nat} (hR : ROK μ g) (hP : PRG μ g) : XS 1 μ (runM μ n g h) := by
  let μa : MU := mu μ 24 g (μ 24 g + 1)
  have ha : μa 1 = μ 1 := mu_row (by omega)
  have hRa : ROK μa g := ROK_row hR ha
  have hRi : ROK (intM μa g) g := ROK_int hRa
  show XS 1 μ (exM (intM μa g) n g h)
  have h1 : XS 0 μ (intM μa g) := (XS_mu (by omega)).tr XS_int
  refine XS.tr (d1 := 0) (d2 := 1) h1 ?_
  unfold exM
  split
  · obtain ⟨N, hN24, hN, hcode⟩ := hP
    rename_i hx
    obtain ⟨x, ex, hx25⟩ := hRi.nx
    have e13 : (intM μa g) 13 = μ 13 := by rw [intM_row (by omega)]; exact mu_row (by omega)
    have e14 : (intM μa g) 14 = μ 14 := by rw [intM_row (by omega)]; exact mu_row (by omega)
    rw [ex, e14, hN, nI_lt' (by omega) (by omega)] at hx
    obtain ⟨w, hV, ew⟩ := hcode x hx
    dsimp only
    rw [ex, nI_cl (by omega), e13, ew, nI_cl (by have := hV.1; omega)]
    exact XS_do hRi hV.vn
  · exact (XS_1 rfl (by omega)).up (by omega)
theorem XS_stl {μ : MU} {h : Int32} {g : Nat} : ∀ k, XS 0 μ (stlU μ h g k)
  | 0 => XS.rf
  | k + 1 => by
    unfold stlU
    exact (XS_stl k).tr (XS_mu (by omega))
theorem XS_host {μ : MU} {n h : Nat} (hT : TJ μ n) (hh : h < 2) : XS 1 μ (hostM μ n h) := by
  unfold hostM
  have hc : XS 0 μ (chM μ n h).1 := XS_r (chM_row (by omega)) (chM_row (by omega)) (fun g k _ _ => by rw [chM_row (by omega)])
  split
  · split
    · exact hc.up (by omega)
    · rename_i hne
      obtain ⟨g, hg, e2, _⟩ := (chM_2 (h := h) hT.1 hh).resolve_left hne
      have hn := hT.1.1
      rw [e2, nI_cl (by omega)]
      have h1 : TJ (stlU (chM μ n h).1 (nI h) g n) n := TJ.row (TJ_ch hT hh) (fun c hc => stlU_row (by omega) n)
      obtain ⟨a1, a2, a3, _⟩ := h1.1.2.2.1 g hg
      exact XS.tr (d1 := 0) (d2 := 1) (hc.tr (XS_stl n)) (XS_run a1 a2)
  · exact XS.rf.up (by omega)
theorem XS_wk {μ : MU} {g : Nat} : XS 0 μ (wkM μ g) := XS_r (wkM_row (by omega)) (wkM_row (by omega)) (fun g2 k _ _ => wkM_n (by omega))
theorem XS_wkU {μ : MU} : ∀ g, XS 0 μ (wkU μ g)
  | 0 => XS.rf
  | g + 1 => (XS_wkU g).tr XS_wk
theorem TJ_h0 {μ : MU} {n t : Nat} (hT : TJ μ n) (hS : ∀ g, g < n → SAY μ g t) : TJ (hostM (wkU μ n) n 0) n :=
  (TJ_host (h := 0) (TJ_wkU hT n (Nat.le_refl n)) (by omega) (B := fun _ => t) (fun g hg => by
    unfold SAY
    rw [wkU_row (by omega), wkU_row (by omega), wkU_row (by omega)]
    exact hS g hg)).1
theorem XS_tick {μ : MU} {n t : Nat} (hT : TJ μ n) (hS : ∀ g, g < n → SAY μ g t) : XS 2 μ (tkM μ n) := by
  have T1 := TJ_wkU hT n (Nat.le_refl n)
  have T2 : TJ (hostM (wkU μ n) n 0) n := TJ_h0 hT hS
  exact (((XS_wkU n).tr (XS_host T1 (by omega))).tr (XS_host T2 (by omega))).tr (XS_mu (by omega))
/-- ticks run and stolen, of one guest -/
def TX (d : Nat) (μ μ' : MU) (k : Nat) : Prop := ∀ s r, μ 23 k = nI s → μ 24 k = nI r → ∃ s' r', μ' 23 k = nI s' ∧ μ' 24 k = nI r' ∧ s' + r' ≤ s + r + d
theorem TX.tr {d1 d2 k : Nat} {μ μ1 μ2 : MU} (h : TX d1 μ μ1 k) (h' : TX d2 μ1 μ2 k) : TX (d1 + d2) μ μ2 k := fun s r a b => by
  obtain ⟨s1, r1, a1, b1, c1⟩ := h s r a b
  obtain ⟨s2, r2, a2, b2, c2⟩ := h' s1 r1 a1 b1
  exact ⟨s2, r2, a2, b2, by omega⟩
theorem TX.up {d e k : Nat} {μ μ' : MU} (h : TX d μ μ' k) (hd : d ≤ e) : TX e μ μ' k := fun s r a b => by
  obtain ⟨s1, r1, a1, b1, c1⟩ := h s r a b
  exact ⟨s1, r1, a1, b1, by omega⟩
theorem TX_e {μ μ' : MU} {k : Nat} (e23 : μ' 23 k = μ 23 k) (e24 : μ' 24 k = μ 24 k) : TX 0 μ μ' k := fun s r a b => ⟨s, r, e23.trans a, e24.trans b, Nat.le_refl _⟩
theorem stl_23 {μ : MU} {h : Int32} {g k : Nat} : ∀ m, (stlU μ h g m) 23 k = μ 23 k ∨ (k ≠ g ∧ k < m ∧ μ 15 k = h ∧ (stlU μ h g m) 23 k = μ 23 k + 1)
  | 0 => Or.inl rfl
  | m + 1 => by
    have ih := stl_23 (μ := μ) (h := h) (g := g) (k := k) m
    unfold stlU
    by_cases e : k = m
    · subst e
      have i0 : (stlU μ h g k) 23 k = μ 23 k := ih.resolve_right (fun z => absurd z.2.1 (Nat.lt_irrefl _))
      rw [muS ⟨rfl, rfl⟩, i0]
      by_cases eg : k = g
      · rw [if_pos eg, Int32.add_zero]; exact Or.inl rfl
      · rw [if_neg eg]
        by_cases ec : canM (stlU μ h g k) k h = true
        · rw [if_pos ec]
          refine Or.inr ⟨eg, Nat.lt_succ_self _, ?_, rfl⟩
          unfold canM at ec
          simp only [Bool.and_eq_true, decide_eq_true_eq] at ec
          rw [← ec.1.1, stlU_row (by omega)]
        · rw [if_neg ec, Int32.add_zero]; exact Or.inl rfl
    · rw [muD (by omega)]
      exact ih.imp id (fun z => ⟨z.1, by omega, z.2.2⟩)
theorem run_24 {μ : MU} {n g h : Nat} (hR : ROK μ g) (hQ : QOK μ g) (hP : PRG μ g) (ht : TM μ) : (runM μ n g h) 24 = (mu μ 24 g (μ 24 g + 1)) 24 :=
  (s_run hR hQ hP ht).2.2.2.2.2.1 24 (by omega) (by omega) (by omega) (by omega) (by omega) (by omega) (by omega) (by omega) (by omega) (by omega) (by omega)
theorem TX_host {μ : MU} {n h : Nat} (hT : TJ μ n) (hh : h < 2) (k : Nat) : TX (if μ 15 k = nI h then 1 else 0) μ (hostM μ n h) k := by
  generalize hd : (if μ 15 k = nI h then 1 else 0) = d
  unfold hostM
  have hc : TX 0 μ (chM μ n h).1 k := TX_e (by rw [chM_row (by omega)]) (by rw [chM_row (by omega)])
  split
  · split
    · exact hc.up (Nat.zero_le _)
    · rename_i hne
      obtain ⟨g, hg, e2, hcan⟩ := (chM_2 (h := h) hT.1 hh).resolve_left hne
      have hn := hT.1.1
      rw [e2, nI_cl (by omega)]
      have h1 : TJ (stlU (chM μ n h).1 (nI h) g n) n := TJ.row (TJ_ch hT hh) (fun c hc => stlU_row (by omega) n)
      obtain ⟨a1, a2, a3, _⟩ := h1.1.2.2.1 g hg
      have h15 : μ 15 g = nI h := by
        unfold canM at hcan
        simp only [Bool.and_eq_true, decide_eq_true_eq] at hcan
        exact hcan.1.1
      have e23 : (runM (stlU (chM μ n h).1 (nI h) g n) n g h) 23 k = (stlU (chM μ n h).1 (nI h) g n) 23 k := by rw [run_row a1 (h1.2.1 g hg) a2 h1.2.2 (by omega)]
      have e24 := run_24 (n := n) (h := h) a1 (h1.2.1 g hg) a2 h1.2.2
      have c24 : (stlU (chM μ n h).1 (nI h) g n) 24 = μ 24 := (stlU_row (by omega) n).trans (chM_row (by omega))
      have c23 : (chM μ n h).1 23 = μ 23 := chM_row (by omega)
      have c15 : (chM μ n h).1 15 = μ 15 := chM_row (by omega)
      intro s r es er
      by_cases ek : k = g
      · subst ek
        have i0 := (stl_23 (μ := (chM μ n h).1) (h := nI h) (g := k) (k := k) n).resolve_right (fun z => z.1 rfl)
        refine ⟨s, r + 1, by rw [e23, i0, c23]; exact es, ?_, ?_⟩
        · rw [e24, muS ⟨rfl, rfl⟩, c24, er, nI_1]
        · rw [if_pos h15] at hd; omega
      · have f24 : (runM (stlU (chM μ n h).1 (nI h) g n) n g h) 24 k = nI r := by
          rw [e24, muD (by omega), c24]; exact er
        rcases stl_23 (μ := (chM μ n h).1) (h := nI h) (g := g) (k := k) n with z | ⟨_, _, z1, z2⟩
        · exact ⟨s, r, by rw [e23, z, c23]; exact es, f24, by omega⟩
        · rw [c15] at z1
          exact ⟨s + 1, r, by rw [e23, z2, c23, es, nI_1], f24, by rw [if_pos z1] at hd; omega⟩
  · exact (TX_e rfl rfl).up (Nat.zero_le _)
theorem TX_tick {μ : MU} {n t : Nat} (hT : TJ μ n) (hS : ∀ g, g < n → SAY μ g t) (k : Nat) : TX 1 μ (tkM μ n) k := by
  have T1 := TJ_wkU hT n (Nat.le_refl n)
  have T2 : TJ (hostM (wkU μ n) n 0) n := TJ_h0 hT hS
  have w15 : (wkU μ n) 15 = μ 15 := wkU_row (by omega) n
  have h15 : (hostM (wkU μ n) n 0) 15 = μ 15 := (host_row T1 (by omega) (by omega)).trans w15
  have a := ((TX_e (μ := μ) (k := k) (by rw [wkU_row (by omega)]) (by rw [wkU_row (by omega)])).tr (TX_host T1 (h := 0) (by omega) k)).tr (TX_host T2 (h := 1) (by omega) k)
  rw [w15, h15] at a
  have b : TX 1 μ (hostM (hostM (wkU μ n) n 0) n 1) k := by
    refine a.up ?_
    by_cases e0 : μ 15 k = nI 0
    · rw [if_pos e0, if_neg (by rw [e0, nI_eq' (by omega) (by omega)]; omega)]; omega
    · rw [if_neg e0]
      split <;> omega
  intro s r es er
  obtain ⟨s', r', b1, b2, b3⟩ := b s r es er
  exact ⟨s', r', by unfold tkM; rw [mu_row (by omega)]; exact b1, by unfold tkM; rw [mu_row (by omega)]; exact b2, b3⟩
/-- a tick keeps it all -/
theorem EXT_tick {μ : MU} {n t : Nat} (hT : TJ μ n) (hS0 : ∀ g, g < n → SAY μ g t) (hS : ∀ g, g < n → SAY (tkM μ n) g (t + 1)) (ht : μ 0 41 = nI t) (ht' : (tkM μ n) 0 41 = nI (t + 1)) (ht3 : t < 3000) (hZ : ∀ k, n ≤ k → k < 5 → (tkM μ n) 35 k = 0) : EXT μ (tkM μ n) := by
  have hx := XS_tick hT hS0
  refine ⟨fun z g hg => ?_, hx.2, fun g a hg ha e => ?_⟩
  · obtain ⟨s, r, t0, e1, e2, e3, e4, e5⟩ := z g hg
    rw [ht, nI_eq' (by omega) (by omega)] at e3
    obtain ⟨s', r', f1, f2, f3⟩ := TX_tick hT hS0 g s r e1 e2
    exact ⟨s', r', t + 1, f1, f2, ht', by omega, by omega⟩
  · obtain ⟨a', b1, b2, b3⟩ := hx.1 g a e
    refine ⟨a', b1, ?_, b3⟩
    by_cases hgn : g < n
    · obtain ⟨x, y, r, c1, c2, c3, c4, c5⟩ := hS g hgn
      rw [b3, nI_eq' (by omega) (by omega)] at c1
      omega
    · have := hZ g (by omega) hg
      rw [b3, i32_0, nI_eq' (by omega) (by omega)] at this
      omega
