theorem vp_ex {a : Int32} {n : Nat} (hn : n < 2147483648) (h : vp_in a n) : ∃ g, g < n ∧ a = nI g := by
  unfold vp_in at h
  have h0 : ¬ a < 0 := fun z => h (Or.inl z)
  have h1 : ¬ n ≤ a.toNatClampNeg := fun z => h (Or.inr z)
  have ht : 0 ≤ a.toInt := by
    rw [Int32.lt_iff_toInt_lt] at h0
    have : (0 : Int32).toInt = 0 := by decide
    omega
  have hc : (a.toNatClampNeg : Int) = a.toInt := by
    show ((a.toInt.toNat : Nat) : Int) = a.toInt
    omega
  exact ⟨a.toNatClampNeg, by omega, nI_of_toInt (by omega) hc.symm⟩
def DONE (o : Option (EE × K)) (C : Nat) : Prop := ∃ E' κ' n ns t, o = some (E', κ') ∧ REL E' κ' (kV κ' 5 0) n ns t (C + 1)
theorem lw_V {κ : K} {rs : Int32 ⊕ Nat} {f : Nat} (hf : f ≠ 6) : kV (lwS κ rs) f = kV κ f := by
  cases rs with
  | inl r =>
    funext i c k
    exact vD (by omega)
  | inr e => rfl
theorem lwB_V {κ : K} {rs : Int32 ⊕ Nat} {f : Nat} (hf : f ≠ 6) : kV (lwB κ rs) f = kV κ f := by
  cases rs with
  | inl r =>
    funext i c k
    exact vD (by omega)
  | inr e => rfl
theorem glueS {E : EE} {κ : K} {rs : Int32 ⊕ Nat} {μ : MU} {n ns t C : Nat} (h : REL E κ μ n ns t C) : REL E (putM (lwS κ rs) μ) (kV (putM (lwS κ rs) μ) 5 0) n ns t C := by
  rw [put_kV]
  refine REL_k h (fun f a b => by rw [put_ff a, lw_V b]) ?_ ?_ ?_ <;> (cases rs <;> rfl)
theorem glueB {E : EE} {κ : K} {rs : Int32 ⊕ Nat} {μ : MU} {n ns t C : Nat} (h : REL E κ μ n ns t C) : REL E (putM (lwB κ rs) μ) (kV (putM (lwB κ rs) μ) 5 0) n ns t C := by
  rw [put_kV]
  refine REL_k h (fun f a b => by rw [put_ff a, lwB_V b]) ?_ ?_ ?_ <;> (cases rs <;> rfl)
theorem lwS_ok {hs : List Nat} {κ : K} {r c : Int32} {μ : MU} (h0 : μ 0 0 = 0) (hc : r = c) : (∀ e, (Sum.inl r : Int32 ⊕ Nat) = .inr e → e ∈ hs) ∧ kV (putM (lwS κ (.inl r)) μ) 5 0 0 0 = lwC hs (Sum.inl r : Int32 ⊕ Nat) ∧ ∀ r', (Sum.inl r : Int32 ⊕ Nat) = .inl r' → kV (putM (lwS κ (.inl r)) μ) 6 0 0 0 = c := by
  refine ⟨fun e z => (by cases z), by rw [put_kV]; exact h0, fun r' z => ?_⟩
  rw [put_ff (by omega), ← hc]
  exact vS ⟨rfl, rfl, rfl, rfl⟩
theorem lwS_no {hs : List Nat} {κ : K} {e : Nat} {c : Int32} {μ : MU} (he : e ∈ hs) (h0 : μ 0 0 = nI (hs.idxOf e + 1)) : (∀ e', (Sum.inr e : Int32 ⊕ Nat) = .inr e' → e' ∈ hs) ∧ kV (putM (lwS κ (.inr e)) μ) 5 0 0 0 = lwC hs (Sum.inr e : Int32 ⊕ Nat) ∧ ∀ r', (Sum.inr e : Int32 ⊕ Nat) = .inl r' → kV (putM (lwS κ (.inr e)) μ) 6 0 0 0 = c :=
  ⟨fun e' z => by cases z; exact he, by rw [put_kV]; exact h0, fun r' z => by cases z⟩
theorem lwB_ok {hs : List Nat} {κ : K} {r c : Int32} {μ : MU} (h0 : μ 0 0 = 0) (hc : r = c) : (∀ e, (Sum.inl r : Int32 ⊕ Nat) = .inr e → e ∈ hs) ∧ kV (putM (lwB κ (.inl r)) μ) 5 0 0 0 = lwC hs (Sum.inl r : Int32 ⊕ Nat) ∧ ∀ r', (Sum.inl r : Int32 ⊕ Nat) = .inl r' → kV (putM (lwB κ (.inl r)) μ) 6 0 0 0 = bI c := by
  refine ⟨fun e z => (by cases z), by rw [put_kV]; exact h0, fun r' z => ?_⟩
  rw [put_ff (by omega), ← hc]
  exact vS ⟨rfl, rfl, rfl, rfl⟩
theorem lwB_no {hs : List Nat} {κ : K} {e : Nat} {c : Int32} {μ : MU} (he : e ∈ hs) (h0 : μ 0 0 = nI (hs.idxOf e + 1)) : (∀ e', (Sum.inr e : Int32 ⊕ Nat) = .inr e' → e' ∈ hs) ∧ kV (putM (lwB κ (.inr e)) μ) 5 0 0 0 = lwC hs (Sum.inr e : Int32 ⊕ Nat) ∧ ∀ r', (Sum.inr e : Int32 ⊕ Nat) = .inl r' → kV (putM (lwB κ (.inr e)) μ) 6 0 0 0 = bI c :=
  ⟨fun e' z => by cases z; exact he, by rw [put_kV]; exact h0, fun r' z => by cases z⟩
/-- refused: the class throws, the model says which -/
theorem REL_no {E : EE} {κ : K} {n ns t C : Nat} {x : Int32} (h : REL E κ (kV κ 5 0) n ns t C) : REL E (addC κ 1 6) (mu (kV κ 5 0) 0 0 x) n ns t (C + 1) :=
  REL_C (d1 := 1) (d2 := 6) (REL_thr h) (fun _ _ _ => rfl) rfl rfl (PAID_add rfl rfl) (by omega) (by omega)
theorem REL_ok {E : EE} {κ : K} {n ns t C : Nat} {x : Int32} (h : REL E κ (kV κ 5 0) n ns t C) : REL E κ (mu (kV κ 5 0) 0 0 x) n ns t (C + 1) :=
  REL_C (d1 := 0) (d2 := 0) (REL_thr h) (fun _ _ _ => rfl) rfl rfl (PAID_same rfl rfl) (by omega) (by omega)
theorem ref_0 {E : EE} {κ : K} : f_X11_refused E κ 0 = some (putM κ (mu (kV κ 5 0) 0 0 0), 0) := by rw [refused_0, set5]
theorem ref_n {E : EE} {κ : K} {a : Int32} (h : ¬ a = 0) : f_X11_refused E κ a = some (putM κ (mu (kV κ 5 0) 0 0 a), 1) := by rw [refused_n h, set5]
theorem thr_c {μ : MU} {x : Int32} {c : Nat} (hc : c ≠ 0) : (mu μ 0 0 x) c = μ c := mu_row hc
theorem page_t {E : EE} {κ : K} {n g p : Nat} (hG : kV κ 5 0 0 26 = nI n) (hn : n ≤ 5) (hg : g < n) (hp : p < 8) : f_X11_isPage E κ (nI g) (nI p) = some (κ, 1) := by
  rw [f_X11_isPage, f_X11_isPage_e, isGuest_t hG hn hg, bd_s, if_neg (by decide), in_t (by rw [i32_0, nI_lt' (by omega) (by omega)]; omega) (by rw [l7, nI_lt' (by omega) (by omega)]; omega), bd_s, if_neg (by decide), bd_s, gd_t (Or.inr rfl)]
theorem vp_not {a : Int32} {n : Nat} (hn : n < 2147483647) (h : ¬ vp_in a (n + 1)) : a < 0 ∨ nI n < a := by
  rcases vp_no (n := n + 1) (by omega) h with z | z
  · exact Or.inl z
  · refine Or.inr ?_
    rw [Int32.le_iff_toInt_le, nI_toInt (by omega)] at z
    rw [Int32.lt_iff_toInt_lt, nI_toInt (by omega)]
    omega
theorem page_f1 {E : EE} {κ : K} {n : Nat} {a b : Int32} (hG : kV κ 5 0 0 26 = nI n) (hn : n ≤ 5) (ha : ¬ vp_in a n) : f_X11_isPage E κ a b = some (κ, 0) := by
  rw [f_X11_isPage, f_X11_isPage_e, isGuest_f hG hn ha, bd_s, if_pos rfl, bd_s, gd_t (Or.inl rfl)]
theorem page_f2 {E : EE} {κ : K} {n g : Nat} {b : Int32} (hG : kV κ 5 0 0 26 = nI n) (hn : n ≤ 5) (hg : g < n) (hb : ¬ vp_in b 8) : f_X11_isPage E κ (nI g) b = some (κ, 0) := by
  rw [f_X11_isPage, f_X11_isPage_e, isGuest_t hG hn hg, bd_s, if_neg (by decide), l7, in_f (vp_not (n := 7) (by omega) hb), bd_s, if_pos rfl, bd_s, gd_t (Or.inl rfl)]
theorem st_time {E : EE} {κ : K} {n ns t C : Nat} (hR : REL E κ (kV κ 5 0) n ns t C) : DONE (lw_time E κ) C := by
  have hR0 := hR
  obtain ⟨⟨rfl, rfl, hO, h9⟩, ⟨q1, q2, q3, q4, q5⟩, hM, hQ, hS, hZ, hC⟩ := hR0
  have hn : E.1 ≤ 5 := hM.1.1.1
  have hG : kV κ 5 0 0 26 = nI E.1 := hM.1.1.2.1
  have hH : E.2.2.2.1 = 1 := hO.2.2.2.1
  refine ⟨E, putM κ (mu (kV κ 5 0) 0 0 0), E.1, E.2.1, t, ?_, ?_⟩
  · unfold lw_time
    rw [show f_X10_time E κ = some (κ, nI t) from by rw [f_X10_time, q3]]
    dsimp only
    rw [show f_X11_time E κ = some (putM κ (mu (kV κ 5 0) 0 0 0), nI t) from by rw [f_X11_time, f_X11_fine, q4, nmE, bd_s, set5]]
    dsimp only
    rw [gdp_t rfl]
  · rw [put_kV]
    exact REL_k (REL_ok hR) (fun f a b => put_ff a) rfl rfl rfl
theorem st_out {E : EE} {κ : K} {n ns t C : Nat} {a : Int32} (hR : REL E κ (kV κ 5 0) n ns t C) : DONE (lw_out E κ a) C := by
  have hR0 := hR
  obtain ⟨⟨rfl, rfl, hO, h9⟩, ⟨q1, q2, q3, q4, q5⟩, hM, hQ, hS, hZ, hC⟩ := hR0
  have hn : E.1 ≤ 5 := hM.1.1.1
  have hG : kV κ 5 0 0 26 = nI E.1 := hM.1.1.2.1
  have hH : E.2.2.2.1 = 1 := hO.2.2.2.1
  by_cases ha : vp_in a E.1
  · obtain ⟨g, hg, rfl⟩ := vp_ex (by omega) ha
    have hv : kV κ 0 g 36 1 = kV κ 5 0 35 g := by
      obtain ⟨m, _, e1, e2, _⟩ := (hM.2.2.2.1 g hg).1.1.2.2.2.2.2.2.2.1
      rw [e1, e2]
    exact ⟨E, _, E.1, E.2.1, t, by
      unfold lw_out
      rw [show f_X10_out E κ (nI g) = some (κ, .inl (kV κ 0 g 36 1)) from by rw [f_X10_out, guestAt_ok q1 hn hg, bx_s, gd_t (show g < cntE E 0 from hg)]]
      dsimp only
      rw [show f_X11_out E (lwS κ (.inl (kV κ 0 g 36 1))) (nI g) = some (putM (lwS κ (.inl (kV κ 0 g 36 1))) (mu (kV κ 5 0) 0 0 0), kV κ 5 0 35 g) from by rw [f_X11_out, isGuest_t (n := E.1) (by rw [lw_V (by omega)]; exact hG) hn hg, bd_s, if_neg (by decide), f_X11_out_b14, ref_0, bd_s, if_pos rfl, nI_cl (by omega), gdi (by omega), put_kV, lw_V (by omega), thr_c (by omega)]]
      dsimp only
      rw [gdp_t (lwS_ok (muS ⟨rfl, rfl⟩) (hv))], glueS (REL_ok hR)⟩
  · exact ⟨E, _, E.1, E.2.1, t, by
      unfold lw_out
      rw [show f_X10_out E κ a = some (addC κ 1 6, .inr 1) from by rw [f_X10_out, guestAt_no q1 hn ha, bx_r]]
      dsimp only
      rw [show f_X11_out E (lwS (addC κ 1 6) (.inr 1)) a = some (putM (lwS (addC κ 1 6) (.inr 1)) (mu (kV κ 5 0) 0 0 1), 0) from by rw [f_X11_out, isGuest_f (n := E.1) (by rw [lw_V (by omega)]; exact hG) hn ha, bd_s, if_pos rfl, f_X11_out_b14, ref_n (by decide), bd_s, if_neg (by decide), lw_V (by omega)]; rfl]
      dsimp only
      rw [gdp_t (lwS_no (by decide) rfl)], glueS (REL_no hR)⟩
theorem st_held {E : EE} {κ : K} {n ns t C : Nat} {a : Int32} (hR : REL E κ (kV κ 5 0) n ns t C) : DONE (lw_held E κ a) C := by
  have hR0 := hR
  obtain ⟨⟨rfl, rfl, hO, h9⟩, ⟨q1, q2, q3, q4, q5⟩, hM, hQ, hS, hZ, hC⟩ := hR0
  have hn : E.1 ≤ 5 := hM.1.1.1
  have hG : kV κ 5 0 0 26 = nI E.1 := hM.1.1.2.1
  have hH : E.2.2.2.1 = 1 := hO.2.2.2.1
  by_cases ha : vp_in a E.1
  · obtain ⟨g, hg, rfl⟩ := vp_ex (by omega) ha
    have hv : kV κ 0 g 34 1 = kV κ 5 0 37 g := by
      obtain ⟨m, _, e1, e2, _⟩ := (hM.2.2.2.1 g hg).1.1.2.2.2.2.2.2.2.2.1
      rw [e1, e2]
    exact ⟨E, _, E.1, E.2.1, t, by
      unfold lw_held
      rw [show f_X10_held E κ (nI g) = some (κ, .inl (kV κ 0 g 34 1)) from by rw [f_X10_held, guestAt_ok q1 hn hg, bx_s, gd_t (show g < cntE E 0 from hg)]]
      dsimp only
      rw [show f_X11_held E (lwS κ (.inl (kV κ 0 g 34 1))) (nI g) = some (putM (lwS κ (.inl (kV κ 0 g 34 1))) (mu (kV κ 5 0) 0 0 0), kV κ 5 0 37 g) from by rw [f_X11_held, isGuest_t (n := E.1) (by rw [lw_V (by omega)]; exact hG) hn hg, bd_s, if_neg (by decide), f_X11_held_b14, ref_0, bd_s, if_pos rfl, nI_cl (by omega), gdi (by omega), put_kV, lw_V (by omega), thr_c (by omega)]]
      dsimp only
      rw [gdp_t (lwS_ok (muS ⟨rfl, rfl⟩) (hv))], glueS (REL_ok hR)⟩
  · exact ⟨E, _, E.1, E.2.1, t, by
      unfold lw_held
      rw [show f_X10_held E κ a = some (addC κ 1 6, .inr 1) from by rw [f_X10_held, guestAt_no q1 hn ha, bx_r]]
      dsimp only
      rw [show f_X11_held E (lwS (addC κ 1 6) (.inr 1)) a = some (putM (lwS (addC κ 1 6) (.inr 1)) (mu (kV κ 5 0) 0 0 1), 0) from by rw [f_X11_held, isGuest_f (n := E.1) (by rw [lw_V (by omega)]; exact hG) hn ha, bd_s, if_pos rfl, f_X11_held_b14, ref_n (by decide), bd_s, if_neg (by decide), lw_V (by omega)]; rfl]
      dsimp only
      rw [gdp_t (lwS_no (by decide) rfl)], glueS (REL_no hR)⟩
theorem st_stored {E : EE} {κ : K} {n ns t C : Nat} {a : Int32} (hR : REL E κ (kV κ 5 0) n ns t C) : DONE (lw_stored E κ a) C := by
  have hR0 := hR
  obtain ⟨⟨rfl, rfl, hO, h9⟩, ⟨q1, q2, q3, q4, q5⟩, hM, hQ, hS, hZ, hC⟩ := hR0
  have hn : E.1 ≤ 5 := hM.1.1.1
  have hG : kV κ 5 0 0 26 = nI E.1 := hM.1.1.2.1
  have hH : E.2.2.2.1 = 1 := hO.2.2.2.1
  have hs : kV κ 5 0 0 11 = nI E.2.1 := hS.1
  have hs10 := hS.2.1
  by_cases ha : vp_in a E.2.1
  · obtain ⟨s, hs1, rfl⟩ := vp_ex (by omega) ha
    have hv : kV κ 1 s 0 2 = kV κ 5 0 10 s := by
      obtain ⟨g, _, _, _, _, e, _⟩ := hM.2.2.2.2 s hs1
      exact e
    exact ⟨E, _, E.1, E.2.1, t, by
      unfold lw_stored
      rw [show f_X10_stored E κ (nI s) = some (κ, .inl (kV κ 1 s 0 2)) from by rw [f_X10_stored, snapAt_ok q2 hs10 hs1, bx_s, gd_t (show s < cntE E 1 from hs1)]]
      dsimp only
      rw [show f_X11_stored E (lwS κ (.inl (kV κ 1 s 0 2))) (nI s) = some (putM (lwS κ (.inl (kV κ 1 s 0 2))) (mu (kV κ 5 0) 0 0 0), kV κ 5 0 10 s) from by rw [f_X11_stored, lw_V (by omega), hs, in_t (by rw [i32_0, nI_lt' (by omega) (by omega)]; omega) (by rw [i32_1, nI_sub (by omega), nI_lt' (by omega) (by omega)]; omega), bd_s, if_neg (by decide), f_X11_stored_b20, ref_0, bd_s, if_pos rfl, nI_cl (by omega), gdi (by omega), put_kV, lw_V (by omega), thr_c (by omega)]]
      dsimp only
      rw [gdp_t (lwS_ok (muS ⟨rfl, rfl⟩) (hv))], glueS (REL_ok hR)⟩
  · exact ⟨E, _, E.1, E.2.1, t, by
      unfold lw_stored
      rw [show f_X10_stored E κ a = some (addC κ 1 6, .inr 1) from by rw [f_X10_stored, snapAt_no q2 hs10 ha, bx_r]]
      dsimp only
      rw [show f_X11_stored E (lwS (addC κ 1 6) (.inr 1)) a = some (putM (lwS (addC κ 1 6) (.inr 1)) (mu (kV κ 5 0) 0 0 1), 0) from by rw [f_X11_stored, lw_V (by omega), show kV (addC κ 1 6) 5 0 0 11 = nI E.2.1 from hs, in_f ((Int32_le_sub1 (by omega)).mpr ha).symm, bd_s, if_pos rfl, f_X11_stored_b20, ref_n (by decide), bd_s, if_neg (by decide), lw_V (by omega)]; rfl]
      dsimp only
      rw [gdp_t (lwS_no (by decide) rfl)], glueS (REL_no hR)⟩
theorem st_exits {E : EE} {κ : K} {n ns t C : Nat} {a b : Int32} (hR : REL E κ (kV κ 5 0) n ns t C) : DONE (lw_exits E κ a b) C := by
  have hR0 := hR
  obtain ⟨⟨rfl, rfl, hO, h9⟩, ⟨q1, q2, q3, q4, q5⟩, hM, hQ, hS, hZ, hC⟩ := hR0
  have hn : E.1 ≤ 5 := hM.1.1.1
  have hG : kV κ 5 0 0 26 = nI E.1 := hM.1.1.2.1
  have hH : E.2.2.2.1 = 1 := hO.2.2.2.1
  by_cases ha : vp_in a E.1
  · obtain ⟨g, hg, rfl⟩ := vp_ex (by omega) ha
    by_cases hb : vp_in b 6
    · obtain ⟨k, hk, rfl⟩ := vp_ex (by omega) hb
      have hv : kV κ 0 g 38 k = kV κ 5 0 25 (6 * g + k) := (hM.2.2.2.1 g hg).1.1.2.1 k hk
      exact ⟨E, _, E.1, E.2.1, t, by
      unfold lw_exits
      rw [show f_X10_exits E κ (nI g) (nI k) = some (κ, .inl (kV κ 0 g 38 k)) from by rw [f_X10_exits, guestAt_ok q1 hn hg, bx_s, gd_t (show g < cntE E 0 from hg), if_neg (nI_pos (by omega)), if_pos (by rw [l5, nI_le' (by omega) (by omega)]; omega), nI_cl (by omega), gdi (by omega)]]
      dsimp only
      rw [show f_X11_exits E (lwS κ (.inl (kV κ 0 g 38 k))) (nI g) (nI k) = some (putM (lwS κ (.inl (kV κ 0 g 38 k))) (mu (kV κ 5 0) 0 0 0), kV κ 5 0 25 (6 * g + k)) from by rw [f_X11_exits, isGuest_t (n := E.1) (by rw [lw_V (by omega)]; exact hG) hn hg, bd_s, if_neg (by decide), in_t (by rw [i32_0, nI_lt' (by omega) (by omega)]; omega) (by rw [l5, nI_lt' (by omega) (by omega)]; omega), bd_s, if_neg (by decide), f_X11_exits_b27, ref_0, bd_s, if_pos rfl, l6, nI_mul, nI_add, nI_cl (by omega), gdi (by omega), put_kV, lw_V (by omega), thr_c (by omega)]]
      dsimp only
      rw [gdp_t (lwS_ok (muS ⟨rfl, rfl⟩) (hv))], glueS (REL_ok hR)⟩
    · have hb2 := vp_not (n := 5) (by omega) hb
      have hcl : f_X10_exits E κ (nI g) b = some (addC κ 1 6, .inr 2) := by
        rw [f_X10_exits, guestAt_ok q1 hn hg, bx_s, gd_t (show g < cntE E 0 from hg)]
        unfold f_X10_exits_b15
        rcases hb2 with z | z
        · rw [if_pos z]
        · by_cases z0 : b < 0
          · rw [if_pos z0]
          · rw [if_neg z0, if_neg (by rw [l5]; exact Int32.not_le.mpr z)]
      exact ⟨E, _, E.1, E.2.1, t, by
      unfold lw_exits
      rw [show f_X10_exits E κ (nI g) b = some (addC κ 1 6, .inr 2) from by exact hcl]
      dsimp only
      rw [show f_X11_exits E (lwS (addC κ 1 6) (.inr 2)) (nI g) b = some (putM (lwS (addC κ 1 6) (.inr 2)) (mu (kV κ 5 0) 0 0 2), 0) from by rw [f_X11_exits, isGuest_t (n := E.1) (by rw [lw_V (by omega)]; exact hG) hn hg, bd_s, if_neg (by decide), l5, in_f hb2, bd_s, if_pos rfl, f_X11_exits_b27, ref_n (by decide), bd_s, if_neg (by decide), lw_V (by omega)]; rfl]
      dsimp only
      rw [gdp_t (lwS_no (by decide) rfl)], glueS (REL_no hR)⟩
  · exact ⟨E, _, E.1, E.2.1, t, by
      unfold lw_exits
      rw [show f_X10_exits E κ a b = some (addC κ 1 6, .inr 1) from by rw [f_X10_exits, guestAt_no q1 hn ha, bx_r]]
      dsimp only
      rw [show f_X11_exits E (lwS (addC κ 1 6) (.inr 1)) a b = some (putM (lwS (addC κ 1 6) (.inr 1)) (mu (kV κ 5 0) 0 0 1), 0) from by rw [f_X11_exits, isGuest_f (n := E.1) (by rw [lw_V (by omega)]; exact hG) hn ha, bd_s, if_pos rfl, f_X11_exits_b27, ref_n (by decide), bd_s, if_neg (by decide), lw_V (by omega)]; rfl]
      dsimp only
      rw [gdp_t (lwS_no (by decide) rfl)], glueS (REL_no hR)⟩
theorem st_register {E : EE} {κ : K} {n ns t C : Nat} {a b : Int32} (hR : REL E κ (kV κ 5 0) n ns t C) : DONE (lw_register E κ a b) C := by
  have hR0 := hR
  obtain ⟨⟨rfl, rfl, hO, h9⟩, ⟨q1, q2, q3, q4, q5⟩, hM, hQ, hS, hZ, hC⟩ := hR0
  have hn : E.1 ≤ 5 := hM.1.1.1
  have hG : kV κ 5 0 0 26 = nI E.1 := hM.1.1.2.1
  have hH : E.2.2.2.1 = 1 := hO.2.2.2.1
  by_cases ha : vp_in a E.1
  · obtain ⟨g, hg, rfl⟩ := vp_ex (by omega) ha
    by_cases hb : vp_in b 4
    · obtain ⟨k, hk, rfl⟩ := vp_ex (by omega) hb
      have hv : kV κ 0 g 7 k = kV κ 5 0 1 (55 * g + k) := (hM.2.2.2.1 g hg).1.2.1.1 k hk
      have h17 : kV κ 0 g 0 2 = kV κ 5 0 17 g := (hM.2.2.2.1 g hg).1.1.1.2.2.1
      have hcl : f_X10_register E κ (nI g) (nI k) = some (κ, .inl (if kV κ 5 0 17 g = 0 then kV κ 5 0 1 (55 * g + k) else -1)) := by
        rw [f_X10_register, guestAt_ok q1 hn hg, bx_s, gd_t (show g < cntE E 0 from hg), show (4 : Int32) = nI 4 from rfl, checkPlace_ok hk (by omega), bx_s, h17]
        by_cases z : kV κ 5 0 17 g = 0
        · rw [if_pos z, if_pos z, nI_cl (by omega), gdi (by omega), hv]
        · rw [if_neg z, if_neg z]
      exact ⟨E, _, E.1, E.2.1, t, by
      unfold lw_register
      rw [show f_X10_register E κ (nI g) (nI k) = some (κ, .inl (if kV κ 5 0 17 g = 0 then kV κ 5 0 1 (55 * g + k) else -1)) from by exact hcl]
      dsimp only
      rw [show f_X11_register E (lwS κ (.inl (if kV κ 5 0 17 g = 0 then kV κ 5 0 1 (55 * g + k) else -1))) (nI g) (nI k) = some (putM (lwS κ (.inl (if kV κ 5 0 17 g = 0 then kV κ 5 0 1 (55 * g + k) else -1))) (mu (kV κ 5 0) 0 0 0), if kV κ 5 0 17 g = 0 then kV κ 5 0 1 (55 * g + k) else -1) from by rw [f_X11_register, isGuest_t (n := E.1) (by rw [lw_V (by omega)]; exact hG) hn hg, bd_s, if_neg (by decide), in_t (by rw [i32_0, nI_lt' (by omega) (by omega)]; omega) (by rw [l3, nI_lt' (by omega) (by omega)]; omega), bd_s, if_neg (by decide), f_X11_register_b23, ref_0, bd_s, if_pos rfl, l55, nI_mul, nI_add, nI_cl (by omega), nI_cl (by omega), gdi (by omega), gdi (by omega), put_kV, lw_V (by omega), thr_c (show 17 ≠ 0 by omega), thr_c (show 1 ≠ 0 by omega)]; split <;> rfl]
      dsimp only
      rw [gdp_t (lwS_ok (muS ⟨rfl, rfl⟩) (rfl))], glueS (REL_ok hR)⟩
    · exact ⟨E, _, E.1, E.2.1, t, by
      unfold lw_register
      rw [show f_X10_register E κ (nI g) b = some (addC κ 1 6, .inr 1) from by rw [f_X10_register, guestAt_ok q1 hn hg, bx_s, gd_t (show g < cntE E 0 from hg), show (4 : Int32) = nI 4 from rfl, checkPlace_no (by omega) hb, bx_r]]
      dsimp only
      rw [show f_X11_register E (lwS (addC κ 1 6) (.inr 1)) (nI g) b = some (putM (lwS (addC κ 1 6) (.inr 1)) (mu (kV κ 5 0) 0 0 1), 0) from by rw [f_X11_register, isGuest_t (n := E.1) (by rw [lw_V (by omega)]; exact hG) hn hg, bd_s, if_neg (by decide), l3, in_f (vp_not (n := 3) (by omega) hb), bd_s, if_pos rfl, f_X11_register_b22, f_X11_register_b23, ref_n (by decide), bd_s, if_neg (by decide), lw_V (by omega)]; rfl]
      dsimp only
      rw [gdp_t (lwS_no (by decide) rfl)], glueS (REL_no hR)⟩
  · exact ⟨E, _, E.1, E.2.1, t, by
      unfold lw_register
      rw [show f_X10_register E κ a b = some (addC κ 1 6, .inr 1) from by rw [f_X10_register, guestAt_no q1 hn ha, bx_r]]
      dsimp only
      rw [show f_X11_register E (lwS (addC κ 1 6) (.inr 1)) a b = some (putM (lwS (addC κ 1 6) (.inr 1)) (mu (kV κ 5 0) 0 0 1), 0) from by rw [f_X11_register, isGuest_f (n := E.1) (by rw [lw_V (by omega)]; exact hG) hn ha, bd_s, if_pos rfl, f_X11_register_b22, f_X11_register_b23, ref_n (by decide), bd_s, if_neg (by decide), lw_V (by omega)]; rfl]
      dsimp only
      rw [gdp_t (lwS_no (by decide) rfl)], glueS (REL_no hR)⟩
theorem st_word {E : EE} {κ : K} {n ns t C : Nat} {a b c : Int32} (hR : REL E κ (kV κ 5 0) n ns t C) : DONE (lw_word E κ a b c) C := by
  have hR0 := hR
  obtain ⟨⟨rfl, rfl, hO, h9⟩, ⟨q1, q2, q3, q4, q5⟩, hM, hQ, hS, hZ, hC⟩ := hR0
  have hn : E.1 ≤ 5 := hM.1.1.1
  have hG : kV κ 5 0 0 26 = nI E.1 := hM.1.1.2.1
  have hH : E.2.2.2.1 = 1 := hO.2.2.2.1
  by_cases ha : vp_in a E.1
  · obtain ⟨g, hg, rfl⟩ := vp_ex (by omega) ha
    by_cases hb : vp_in b 8
    · obtain ⟨p, hp, rfl⟩ := vp_ex (by omega) hb
      by_cases hc : vp_in c 4
      · obtain ⟨k, hk, rfl⟩ := vp_ex (by omega) hc
        have hv : kV κ 0 g 9 (4 * p + k) = kV κ 5 0 1 (55 * g + (17 + (4 * p + k))) := (hM.2.2.2.1 g hg).1.2.1.2.2.2.2.2.2.2.2 _ (by omega)
        have h17 : kV κ 0 g 0 2 = kV κ 5 0 17 g := (hM.2.2.2.1 g hg).1.1.1.2.2.1
        have hcl : f_X10_word E κ (nI g) (nI p) (nI k) = some (κ, .inl (if kV κ 5 0 17 g = 0 then kV κ 5 0 1 (55 * g + (17 + (4 * p + k))) else -1)) := by
          rw [f_X10_word, guestAt_ok q1 hn hg, bx_s, gd_t (show g < cntE E 0 from hg), show (8 : Int32) = nI 8 from rfl, checkPlace_ok hp (by omega), bx_s, show (4 : Int32) = nI 4 from rfl, checkPlace_ok hk (by omega), bx_s, h17]
          by_cases z : kV κ 5 0 17 g = 0
          · rw [if_pos z, if_pos z, nI_mul, nI_add, nI_cl (by omega), gdi (by omega), Nat.mul_comm p 4, hv]
          · rw [if_neg z, if_neg z]
        exact ⟨E, _, E.1, E.2.1, t, by
      unfold lw_word
      rw [show f_X10_word E κ (nI g) (nI p) (nI k) = some (κ, .inl (if kV κ 5 0 17 g = 0 then kV κ 5 0 1 (55 * g + (17 + (4 * p + k))) else -1)) from by exact hcl]
      dsimp only
      rw [show f_X11_word E (lwS κ (.inl (if kV κ 5 0 17 g = 0 then kV κ 5 0 1 (55 * g + (17 + (4 * p + k))) else -1))) (nI g) (nI p) (nI k) = some (putM (lwS κ (.inl (if kV κ 5 0 17 g = 0 then kV κ 5 0 1 (55 * g + (17 + (4 * p + k))) else -1))) (mu (kV κ 5 0) 0 0 0), if kV κ 5 0 17 g = 0 then kV κ 5 0 1 (55 * g + (17 + (4 * p + k))) else -1) from by rw [f_X11_word, page_t (n := E.1) (by rw [lw_V (by omega)]; exact hG) hn hg hp, bd_s, if_neg (by decide), in_t (by rw [i32_0, nI_lt' (by omega) (by omega)]; omega) (by rw [l3, nI_lt' (by omega) (by omega)]; omega), bd_s, if_neg (by decide), f_X11_word_b24, ref_0, bd_s, if_pos rfl, l55, l17, l4, nI_mul, nI_mul, nI_add, nI_add, nI_add, nI_cl (by omega), nI_cl (by omega), gdi (by omega), gdi (by omega), put_kV, lw_V (by omega), thr_c (show 17 ≠ 0 by omega), thr_c (show 1 ≠ 0 by omega), show 55 * g + 17 + 4 * p + k = 55 * g + (17 + (4 * p + k)) from by omega]; split <;> rfl]
      dsimp only
      rw [gdp_t (lwS_ok (muS ⟨rfl, rfl⟩) (rfl))], glueS (REL_ok hR)⟩
      · exact ⟨E, _, E.1, E.2.1, t, by
      unfold lw_word
      rw [show f_X10_word E κ (nI g) (nI p) c = some (addC κ 1 6, .inr 1) from by rw [f_X10_word, guestAt_ok q1 hn hg, bx_s, gd_t (show g < cntE E 0 from hg), show (8 : Int32) = nI 8 from rfl, checkPlace_ok hp (by omega), bx_s, show (4 : Int32) = nI 4 from rfl, checkPlace_no (by omega) hc, bx_r]]
      dsimp only
      rw [show f_X11_word E (lwS (addC κ 1 6) (.inr 1)) (nI g) (nI p) c = some (putM (lwS (addC κ 1 6) (.inr 1)) (mu (kV κ 5 0) 0 0 1), 0) from by rw [f_X11_word, page_t (n := E.1) (by rw [lw_V (by omega)]; exact hG) hn hg hp, bd_s, if_neg (by decide), l3, in_f (vp_not (n := 3) (by omega) hc), bd_s, if_pos rfl, f_X11_word_b23, f_X11_word_b24, ref_n (by decide), bd_s, if_neg (by decide), lw_V (by omega)]; rfl]
      dsimp only
      rw [gdp_t (lwS_no (by decide) rfl)], glueS (REL_no hR)⟩
    · exact ⟨E, _, E.1, E.2.1, t, by
      unfold lw_word
      rw [show f_X10_word E κ (nI g) b c = some (addC κ 1 6, .inr 1) from by rw [f_X10_word, guestAt_ok q1 hn hg, bx_s, gd_t (show g < cntE E 0 from hg), show (8 : Int32) = nI 8 from rfl, checkPlace_no (by omega) hb, bx_r]]
      dsimp only
      rw [show f_X11_word E (lwS (addC κ 1 6) (.inr 1)) (nI g) b c = some (putM (lwS (addC κ 1 6) (.inr 1)) (mu (kV κ 5 0) 0 0 1), 0) from by rw [f_X11_word, page_f2 (n := E.1) (by rw [lw_V (by omega)]; exact hG) hn hg hb, bd_s, if_pos rfl, f_X11_word_b23, f_X11_word_b24, ref_n (by decide), bd_s, if_neg (by decide), lw_V (by omega)]; rfl]
      dsimp only
      rw [gdp_t (lwS_no (by decide) rfl)], glueS (REL_no hR)⟩
  · exact ⟨E, _, E.1, E.2.1, t, by
      unfold lw_word
      rw [show f_X10_word E κ a b c = some (addC κ 1 6, .inr 1) from by rw [f_X10_word, guestAt_no q1 hn ha, bx_r]]
      dsimp only
      rw [show f_X11_word E (lwS (addC κ 1 6) (.inr 1)) a b c = some (putM (lwS (addC κ 1 6) (.inr 1)) (mu (kV κ 5 0) 0 0 1), 0) from by rw [f_X11_word, page_f1 (n := E.1) (by rw [lw_V (by omega)]; exact hG) hn ha, bd_s, if_pos rfl, f_X11_word_b23, f_X11_word_b24, ref_n (by decide), bd_s, if_neg (by decide), lw_V (by omega)]; rfl]
      dsimp only
      rw [gdp_t (lwS_no (by decide) rfl)], glueS (REL_no hR)⟩
theorem frame_E {E : EE} {κ : K} {μ : MU} {n ns g p tt : Nat} (hH : E.2.2.2.1 = 1) (hg : g < n) (hn : n ≤ 5) (hp : p < 8) (hG : RG κ μ g tt) (hP : GPT κ μ g ns) (hO : ∀ h, h < 2 → HO κ μ n h) : f_X1_frameFor E κ g (nI p) = some (κ, μ 28 (8 * g + p)) := by
  obtain ⟨⟨h, a1, a2, a3⟩, _⟩ := hP
  have := RH_key (hO h a1).1 (key := 8 * g + p) (by omega) (by omega) (by rw [show (8 * g + p) / 8 = g from by omega]; exact a3)
  rw [f_X1_frameFor, a2, optG_s (host_lt hH a1), g_keyOf hG.1.1.1, bd_s, nI_cl (by omega), gdi (by omega), this]
theorem st_frameOf {E : EE} {κ : K} {n ns t C : Nat} {a b : Int32} (hR : REL E κ (kV κ 5 0) n ns t C) : DONE (lw_frameOf E κ a b) C := by
  have hR0 := hR
  obtain ⟨⟨rfl, rfl, hO, h9⟩, ⟨q1, q2, q3, q4, q5⟩, hM, hQ, hS, hZ, hC⟩ := hR0
  have hn : E.1 ≤ 5 := hM.1.1.1
  have hG : kV κ 5 0 0 26 = nI E.1 := hM.1.1.2.1
  have hH : E.2.2.2.1 = 1 := hO.2.2.2.1
  by_cases ha : vp_in a E.1
  · obtain ⟨g, hg, rfl⟩ := vp_ex (by omega) ha
    by_cases hb : vp_in b 8
    · obtain ⟨p, hp, rfl⟩ := vp_ex (by omega) hb
      have hcl : f_X10_frameOf E κ (nI g) (nI p) = some (κ, .inl (kV κ 5 0 28 (8 * g + p))) := by
        rw [f_X10_frameOf, guestAt_ok q1 hn hg, bx_s, gd_t (show g < cntE E 0 from hg), show (8 : Int32) = nI 8 from rfl, checkPlace_ok hp (by omega), bx_s, frame_E hH hg hn hp (hM.2.2.2.1 g hg).1 (hM.2.2.2.1 g hg).2.1 hM.2.2.1, bd_s]
      exact ⟨E, _, E.1, E.2.1, t, by
      unfold lw_frameOf
      rw [show f_X10_frameOf E κ (nI g) (nI p) = some (κ, .inl (kV κ 5 0 28 (8 * g + p))) from by exact hcl]
      dsimp only
      rw [show f_X11_frameOf E (lwS κ (.inl (kV κ 5 0 28 (8 * g + p)))) (nI g) (nI p) = some (putM (lwS κ (.inl (kV κ 5 0 28 (8 * g + p)))) (mu (kV κ 5 0) 0 0 0), kV κ 5 0 28 (8 * g + p)) from by rw [f_X11_frameOf, page_t (n := E.1) (by rw [lw_V (by omega)]; exact hG) hn hg hp, bd_s, if_neg (by decide), f_X11_frameOf_b15, ref_0, bd_s, if_pos rfl, l8, nI_mul, nI_add, nI_cl (by omega), gdi (by omega), put_kV, lw_V (by omega), thr_c (by omega)]]
      dsimp only
      rw [gdp_t (lwS_ok (muS ⟨rfl, rfl⟩) (rfl))], glueS (REL_ok hR)⟩
    · exact ⟨E, _, E.1, E.2.1, t, by
      unfold lw_frameOf
      rw [show f_X10_frameOf E κ (nI g) b = some (addC κ 1 6, .inr 1) from by rw [f_X10_frameOf, guestAt_ok q1 hn hg, bx_s, gd_t (show g < cntE E 0 from hg), show (8 : Int32) = nI 8 from rfl, checkPlace_no (by omega) hb, bx_r]]
      dsimp only
      rw [show f_X11_frameOf E (lwS (addC κ 1 6) (.inr 1)) (nI g) b = some (putM (lwS (addC κ 1 6) (.inr 1)) (mu (kV κ 5 0) 0 0 1), 0) from by rw [f_X11_frameOf, page_f2 (n := E.1) (by rw [lw_V (by omega)]; exact hG) hn hg hb, bd_s, if_pos rfl, f_X11_frameOf_b15, ref_n (by decide), bd_s, if_neg (by decide), lw_V (by omega)]; rfl]
      dsimp only
      rw [gdp_t (lwS_no (by decide) rfl)], glueS (REL_no hR)⟩
  · exact ⟨E, _, E.1, E.2.1, t, by
      unfold lw_frameOf
      rw [show f_X10_frameOf E κ a b = some (addC κ 1 6, .inr 1) from by rw [f_X10_frameOf, guestAt_no q1 hn ha, bx_r]]
      dsimp only
      rw [show f_X11_frameOf E (lwS (addC κ 1 6) (.inr 1)) a b = some (putM (lwS (addC κ 1 6) (.inr 1)) (mu (kV κ 5 0) 0 0 1), 0) from by rw [f_X11_frameOf, page_f1 (n := E.1) (by rw [lw_V (by omega)]; exact hG) hn ha, bd_s, if_pos rfl, f_X11_frameOf_b15, ref_n (by decide), bd_s, if_neg (by decide), lw_V (by omega)]; rfl]
      dsimp only
      rw [gdp_t (lwS_no (by decide) rfl)], glueS (REL_no hR)⟩
theorem st_pageOf {E : EE} {κ : K} {n ns t C : Nat} {a b : Int32} (hR : REL E κ (kV κ 5 0) n ns t C) : DONE (lw_pageOf E κ a b) C := by
  have hR0 := hR
  obtain ⟨⟨rfl, rfl, hO, h9⟩, ⟨q1, q2, q3, q4, q5⟩, hM, hQ, hS, hZ, hC⟩ := hR0
  have hn : E.1 ≤ 5 := hM.1.1.1
  have hG : kV κ 5 0 0 26 = nI E.1 := hM.1.1.2.1
  have hH : E.2.2.2.1 = 1 := hO.2.2.2.1
  by_cases ha : vp_in a E.1
  · obtain ⟨g, hg, rfl⟩ := vp_ex (by omega) ha
    by_cases hb : vp_in b 8
    · obtain ⟨p, hp, rfl⟩ := vp_ex (by omega) hb
      have hcl : f_X10_pageOf E κ (nI g) (nI p) = some (κ, .inl (kV κ 5 0 27 (8 * g + p))) := by
        rw [f_X10_pageOf, guestAt_ok q1 hn hg, bx_s, gd_t (show g < cntE E 0 from hg), show (8 : Int32) = nI 8 from rfl, checkPlace_ok hp (by omega), bx_s, g_isBare, bd_s]
        obtain ⟨B, b1, b2, b3⟩ := (hM.2.2.2.1 g hg).1.1.2.2.1
        have hbit := bit_and B b1 p hp
        rw [b2]
        by_cases z : kV κ 5 0 27 (8 * g + p) = 0
        · rw [(b3 p hp).mpr z] at hbit
          rw [if_neg (of_decide_eq_false hbit), if_neg (by decide), z]
        · rw [show B.testBit p = false from Bool.eq_false_iff.mpr (fun y => z ((b3 p hp).mp y))] at hbit
          rw [if_pos (of_decide_eq_true hbit), if_pos rfl, frame_E hH hg hn hp (hM.2.2.2.1 g hg).1 (hM.2.2.2.1 g hg).2.1 hM.2.2.1, bd_s]
          rcases hM.2.1 (8 * g + p) (by omega) with ⟨y1, f, hf, y2⟩ | ⟨y1, y2⟩
          · rw [y2, if_neg (by rw [nI_m1 (by omega)]; exact id), y1]
          · rw [y2, if_pos rfl, y1.resolve_left z]
      exact ⟨E, _, E.1, E.2.1, t, by
      unfold lw_pageOf
      rw [show f_X10_pageOf E κ (nI g) (nI p) = some (κ, .inl (kV κ 5 0 27 (8 * g + p))) from by exact hcl]
      dsimp only
      rw [show f_X11_pageOf E (lwS κ (.inl (kV κ 5 0 27 (8 * g + p)))) (nI g) (nI p) = some (putM (lwS κ (.inl (kV κ 5 0 27 (8 * g + p)))) (mu (kV κ 5 0) 0 0 0), kV κ 5 0 27 (8 * g + p)) from by rw [f_X11_pageOf, page_t (n := E.1) (by rw [lw_V (by omega)]; exact hG) hn hg hp, bd_s, if_neg (by decide), f_X11_pageOf_b15, ref_0, bd_s, if_pos rfl, l8, nI_mul, nI_add, nI_cl (by omega), gdi (by omega), put_kV, lw_V (by omega), thr_c (by omega)]]
      dsimp only
      rw [gdp_t (lwS_ok (muS ⟨rfl, rfl⟩) (rfl))], glueS (REL_ok hR)⟩
    · exact ⟨E, _, E.1, E.2.1, t, by
      unfold lw_pageOf
      rw [show f_X10_pageOf E κ (nI g) b = some (addC κ 1 6, .inr 1) from by rw [f_X10_pageOf, guestAt_ok q1 hn hg, bx_s, gd_t (show g < cntE E 0 from hg), show (8 : Int32) = nI 8 from rfl, checkPlace_no (by omega) hb, bx_r]]
      dsimp only
      rw [show f_X11_pageOf E (lwS (addC κ 1 6) (.inr 1)) (nI g) b = some (putM (lwS (addC κ 1 6) (.inr 1)) (mu (kV κ 5 0) 0 0 1), 0) from by rw [f_X11_pageOf, page_f2 (n := E.1) (by rw [lw_V (by omega)]; exact hG) hn hg hb, bd_s, if_pos rfl, f_X11_pageOf_b15, ref_n (by decide), bd_s, if_neg (by decide), lw_V (by omega)]; rfl]
      dsimp only
      rw [gdp_t (lwS_no (by decide) rfl)], glueS (REL_no hR)⟩
  · exact ⟨E, _, E.1, E.2.1, t, by
      unfold lw_pageOf
      rw [show f_X10_pageOf E κ a b = some (addC κ 1 6, .inr 1) from by rw [f_X10_pageOf, guestAt_no q1 hn ha, bx_r]]
      dsimp only
      rw [show f_X11_pageOf E (lwS (addC κ 1 6) (.inr 1)) a b = some (putM (lwS (addC κ 1 6) (.inr 1)) (mu (kV κ 5 0) 0 0 1), 0) from by rw [f_X11_pageOf, page_f1 (n := E.1) (by rw [lw_V (by omega)]; exact hG) hn ha, bd_s, if_pos rfl, f_X11_pageOf_b15, ref_n (by decide), bd_s, if_neg (by decide), lw_V (by omega)]; rfl]
      dsimp only
      rw [gdp_t (lwS_no (by decide) rfl)], glueS (REL_no hR)⟩
theorem st_outAt {E : EE} {κ : K} {n ns t C : Nat} {a b : Int32} (hR : REL E κ (kV κ 5 0) n ns t C) : DONE (lw_outAt E κ a b) C := by
  have hR0 := hR
  obtain ⟨⟨rfl, rfl, hO, h9⟩, ⟨q1, q2, q3, q4, q5⟩, hM, hQ, hS, hZ, hC⟩ := hR0
  have hn : E.1 ≤ 5 := hM.1.1.1
  have hG : kV κ 5 0 0 26 = nI E.1 := hM.1.1.2.1
  have hH : E.2.2.2.1 = 1 := hO.2.2.2.1
  by_cases ha : vp_in a E.1
  · obtain ⟨g, hg, rfl⟩ := vp_ex (by omega) ha
    obtain ⟨m, hm3, e1, e2, e3, e4, e5⟩ := (hM.2.2.2.1 g hg).1.1.2.2.2.2.2.2.2.1
    by_cases hb : vp_in b m
    · obtain ⟨k, hk, rfl⟩ := vp_ex (by omega) hb
      have hcap : 8 ≤ kN κ 0 g 37 ∧ kN κ 0 g 37 ≤ 6000 := CAP_ge e4
      have e3 : m ≤ kN κ 0 g 37 := e3
      have hv : kV κ 0 g 37 k = kV κ 5 0 34 (3000 * g + k) := e5 k hk
      exact ⟨E, _, E.1, E.2.1, t, by
      unfold lw_outAt
      rw [show f_X10_outAt E κ (nI g) (nI k) = some (κ, .inl (kV κ 0 g 37 k)) from by rw [f_X10_outAt, guestAt_ok q1 hn hg, bx_s, gd_t (show g < cntE E 0 from hg), e2, checkPlace_ok hk (by omega), bx_s, nI_cl (by omega), gdi (by omega)]]
      dsimp only
      rw [show f_X11_outAt E (lwS κ (.inl (kV κ 0 g 37 k))) (nI g) (nI k) = some (putM (lwS κ (.inl (kV κ 0 g 37 k))) (mu (kV κ 5 0) 0 0 0), kV κ 5 0 34 (3000 * g + k)) from by rw [f_X11_outAt, isGuest_t (n := E.1) (by rw [lw_V (by omega)]; exact hG) hn hg, bd_s, if_neg (by decide), nI_cl (by omega), gdi (by omega), lw_V (by omega), e1, in_t (by rw [i32_0, nI_lt' (by omega) (by omega)]; omega) (by rw [i32_1, nI_sub (by omega), nI_lt' (by omega) (by omega)]; omega), bd_s, if_neg (by decide), f_X11_outAt_b30, ref_0, bd_s, if_pos rfl, l3000, nI_mul, nI_add, nI_cl (by omega), gdi (by omega), put_kV, lw_V (by omega), thr_c (by omega)]]
      dsimp only
      rw [gdp_t (lwS_ok (muS ⟨rfl, rfl⟩) (hv))], glueS (REL_ok hR)⟩
    · exact ⟨E, _, E.1, E.2.1, t, by
      unfold lw_outAt
      rw [show f_X10_outAt E κ (nI g) b = some (addC κ 1 6, .inr 1) from by rw [f_X10_outAt, guestAt_ok q1 hn hg, bx_s, gd_t (show g < cntE E 0 from hg), e2, checkPlace_no (by omega) hb, bx_r]]
      dsimp only
      rw [show f_X11_outAt E (lwS (addC κ 1 6) (.inr 1)) (nI g) b = some (putM (lwS (addC κ 1 6) (.inr 1)) (mu (kV κ 5 0) 0 0 1), 0) from by rw [f_X11_outAt, isGuest_t (n := E.1) (by rw [lw_V (by omega)]; exact hG) hn hg, bd_s, if_neg (by decide), nI_cl (by omega), gdi (by omega), lw_V (by omega), show kV (addC κ 1 6) 5 0 35 g = nI m from e1, in_f ((Int32_le_sub1 (by omega)).mpr hb).symm, bd_s, if_pos rfl, f_X11_outAt_b29, f_X11_outAt_b30, ref_n (by decide), bd_s, if_neg (by decide), lw_V (by omega)]; rfl]
      dsimp only
      rw [gdp_t (lwS_no (by decide) rfl)], glueS (REL_no hR)⟩
  · exact ⟨E, _, E.1, E.2.1, t, by
      unfold lw_outAt
      rw [show f_X10_outAt E κ a b = some (addC κ 1 6, .inr 1) from by rw [f_X10_outAt, guestAt_no q1 hn ha, bx_r]]
      dsimp only
      rw [show f_X11_outAt E (lwS (addC κ 1 6) (.inr 1)) a b = some (putM (lwS (addC κ 1 6) (.inr 1)) (mu (kV κ 5 0) 0 0 1), 0) from by rw [f_X11_outAt, isGuest_f (n := E.1) (by rw [lw_V (by omega)]; exact hG) hn ha, bd_s, if_pos rfl, f_X11_outAt_b29, f_X11_outAt_b30, ref_n (by decide), bd_s, if_neg (by decide), lw_V (by omega)]; rfl]
      dsimp only
      rw [gdp_t (lwS_no (by decide) rfl)], glueS (REL_no hR)⟩
