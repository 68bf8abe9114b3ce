/-! WHAT a call leaves, laid flat; J where less is told and more was spent -/
section COVJ
variable {l0 : Launch} {X : MX} {cc : ByteArray} {own : String} {F L : Nat} {g : GP} {pc : Nat} {lv : List (Nat × AV)} {rest : List AV}
theorem J_cov {B : BX (EE × K)} {x y : EE × K} (O : CK l0 X B g cc own F L) (hc : Cov x y) (h1 : (kC x.2).1 ≤ (kC y.2).1) (h2 : (kC x.2).2 ≤ (kC y.2).2) (kk : J X B y pc lv rest) : J X B x pc lv rest := by
  obtain ⟨OO, hB, hCst, hD⟩ := O
  obtain ⟨p, l, e, R, s, m, args, below, meth, c, Q⟩ := X
  have c1 : B.2.2.2.2.1 x = kC x.2 := by rw [hCst]
  have c2 : B.2.2.2.2.1 y = kC y.2 := by rw [hCst]
  have kk1 := kk.1
  rw [c2] at kk1
  refine ⟨by rw [c1]; exact ⟨Nat.le_trans h1 kk1.1, Nat.le_trans h2 kk1.2⟩, fun fx ad H locs ls cells slots w1 w2 w3 w4 w5 => ?_⟩
  rw [c1] at w4 w5
  refine W.widen (k := cells + ((kC y.2).1 - (kC x.2).1)) (n := slots + ((kC y.2).2 - (kC x.2).2)) (by omega) (by omega) ?_
  refine kk.2 fx ad H locs ls _ _ ⟨?_, w1.2⟩ w2 w3 (by rw [c2]; omega) (by rw [c2]; omega)
  have hw := w1.1
  rw [hB] at hw ⊢
  exact ⟨fun p e he => hw.1 p e (hc _ _ _ _ _ he), fun p q e e' hp hq hpq => hw.2 p q e e' (hc _ _ _ _ _ hp) (hc _ _ _ _ _ hq) hpq⟩
/-- spent without a thing -/
def sp (s : S2) (a b : Nat) : S2 := (s.1, s.2.1, (s.2.2.1 + a, s.2.2.2 + b))
theorem J_sp {B : BX S2} {x : S2} (O : CKM l0 X B g cc own F L) {a b a' b' : Nat} (h1 : a ≤ a') (h2 : b ≤ b') (kk : J X B (sp x a' b') pc lv rest) : J X B (sp x a b) pc lv rest := by
  obtain ⟨OO, hB, hCst, hD⟩ := O
  obtain ⟨p, l, e, R, s, m, args, below, meth, c, Q⟩ := X
  have c1 : B.2.2.2.2.1 (sp x a b) = (x.2.2.1 + a, x.2.2.2 + b) := by rw [hCst]; rfl
  have c2 : B.2.2.2.2.1 (sp x a' b') = (x.2.2.1 + a', x.2.2.2 + b') := by rw [hCst]; rfl
  have kk1 := kk.1
  rw [c2] at kk1
  have k1 : x.2.2.1 + a' ≤ _ := kk1.1
  have k2 : x.2.2.2 + b' ≤ _ := kk1.2
  refine ⟨by rw [c1]; exact ⟨by dsimp only; omega, by dsimp only; omega⟩, fun fx ad H locs ls cells slots w1 w2 w3 w4 w5 => ?_⟩
  rw [c1] at w4 w5
  refine W.widen (k := cells + (a' - a)) (n := slots + (b' - b)) (by omega) (by omega) ?_
  refine kk.2 fx ad H locs ls _ _ ⟨?_, w1.2⟩ w2 w3 (by rw [c2]; dsimp only at w4 ⊢; omega) (by rw [c2]; dsimp only at w5 ⊢; omega)
  have hw := w1.1
  rw [hB] at hw ⊢
  exact hw
theorem sp_0 {s : S2} : sp s 0 0 = s := rfl
theorem sp_sp {s : S2} {a b c d : Nat} : sp (sp s a b) c d = sp s (a + c) (b + d) := by
  show (s.1, s.2.1, (s.2.2.1 + a + c, s.2.2.2 + b + d)) = (s.1, s.2.1, (s.2.2.1 + (a + c), s.2.2.2 + (b + d)))
  rw [Nat.add_assoc, Nat.add_assoc]
end COVJ
theorem Cov_56 {E : EE} {κ κ' : K} (hV : ∀ f, f ≠ 5 → f ≠ 6 → kV κ' f = kV κ f) (hN : kN κ' = kN κ) (hP : kP κ' = kP κ) (hT : kT κ' = none) : Cov (E, κ) (E, κ') := by
  intro ca e0 ad p e h
  unfold ctC at h ⊢
  dsimp only at h ⊢
  by_cases h7 : p.1 = 7
  · rw [if_pos h7, hT] at h
    split at h <;> cases h
  · rw [if_neg h7] at h ⊢
    by_cases hl : liveC E p.1 p.2.1 p.2.2 = true
    · rw [if_pos hl] at h ⊢
      have hf : p.1 ≠ 5 ∧ p.1 ≠ 6 := by
        simp only [liveC, Bool.and_eq_true, decide_eq_true_eq] at hl
        refine ⟨fun z => ?_, fun z => ?_⟩ <;> (have h2 := hl.1.2.1; rw [z] at h2; exact absurd h2 (Nat.not_lt_zero _))
      rw [hV _ hf.1 hf.2, hN, hP] at h
      exact h
    · rw [if_neg hl] at h; cases h
theorem lw_ff {κ : K} {rs : Int32 ⊕ Nat} : kN (lwS κ rs) = kN κ ∧ kP (lwS κ rs) = kP κ ∧ kC (lwS κ rs) = kC κ := by cases rs <;> exact ⟨rfl, rfl, rfl⟩
theorem lwB_ff {κ : K} {rs : Int32 ⊕ Nat} : kN (lwB κ rs) = kN κ ∧ kP (lwB κ rs) = kP κ ∧ kC (lwB κ rs) = kC κ := by cases rs <;> exact ⟨rfl, rfl, rfl⟩
/-- a state laid flat -/
def flat (κ : K) : K := setT κ none
theorem flat_of {E : EE} {κ0 κ1 κ2 : K} {n ns t C : Nat} (hR : REL E κ2 (kV κ2 5 0) n ns t C) (hV : ∀ f, f ≠ 6 → kV κ0 f = kV κ1 f) (hk : kN κ0 = kN κ1 ∧ kP κ0 = kP κ1 ∧ kC κ0 = kC κ1) (ho : ONLY5 κ0 κ2) : Cov (E, κ1) (E, flat κ2) ∧ kC (flat κ2) = kC κ1 ∧ REL E (flat κ2) (kV (flat κ2) 5 0) n ns t C ∧ kV (flat κ2) 5 0 = kV κ2 5 0 := by
  obtain ⟨o1, o2, o3, o4, o5⟩ := ho
  refine ⟨Cov_56 (fun f a b => ?_) (o2.trans hk.1) (o3.trans hk.2.1) rfl, o5.trans hk.2.2, REL_k hR (fun _ _ _ => rfl) rfl rfl rfl, rfl⟩
  rw [show kV (flat κ2) f = kV κ2 f from rfl, o1 f a, hV f b]
theorem ac_instruct {E : EE} {κ : K} {n ns t C : Nat} {a1 a2 a3 a4 : Int32} (hC : C < 512) (hR : REL E κ (kV κ 5 0) n ns t C) : ∃ (κ1 : K) (rs : Int32 ⊕ Nat) (κ' : K) (t' : Nat), f_X10_instruct E κ a1 a2 a3 a4 = some (κ1, rs) ∧ (∀ e, rs = .inr e → e ∈ ([1, 2, 3] : List Nat)) ∧ Cov (E, κ1) (E, κ') ∧ kC κ' = kC κ1 ∧ kT κ' = none ∧ REL E κ' (kV κ' 5 0) n ns t' (C + 1) ∧ EXT (kV κ 5 0) (kV κ' 5 0) := by
  have hE : E.1 = n ∧ E.2.1 = ns := ⟨hR.1.1, hR.1.2.1⟩
  obtain ⟨E', κ2, n', ns', t', h1, h2⟩ := st_instruct hR
  have h1' : lw_instruct E κ a1 a2 a3 a4 = some (E', κ2) := h1
  clear h1
  unfold lw_instruct at h1'
  split at h1'
  · cases h1'
  · rename_i κ1 rs hf
    split at h1'
    · cases h1'
    · obtain ⟨⟨hk, ho, hx⟩, h3⟩ := gdp_some h1'
      cases h3
      obtain ⟨rfl, rfl⟩ := hE
      obtain ⟨e1, e2⟩ : E.1 = n' ∧ E.2.1 = ns' := ⟨h2.1.1, h2.1.2.1⟩
      subst e1; subst e2
      obtain ⟨z1, z2, z3, z4⟩ := flat_of h2 (fun f hf => lw_V hf) lw_ff ho
      exact ⟨κ1, rs, _, t', hf, hk.1, z1, z2, rfl, z3, by rw [z4]; exact hx⟩
theorem ac_pause {E : EE} {κ : K} {n ns t C : Nat} {a1 a2 : Int32} (hb : a2 = 0 ∨ a2 = 1) (hC : C < 512) (hR : REL E κ (kV κ 5 0) n ns t C) : ∃ (κ1 : K) (rs : Int32 ⊕ Nat) (κ' : K) (t' : Nat), f_X10_pause E κ a1 a2 = some (κ1, rs) ∧ (∀ e, rs = .inr e → e ∈ ([1] : List Nat)) ∧ Cov (E, κ1) (E, κ') ∧ kC κ' = kC κ1 ∧ kT κ' = none ∧ REL E κ' (kV κ' 5 0) n ns t' (C + 1) ∧ EXT (kV κ 5 0) (kV κ' 5 0) := by
  have hE : E.1 = n ∧ E.2.1 = ns := ⟨hR.1.1, hR.1.2.1⟩
  obtain ⟨E', κ2, n', ns', t', h1, h2⟩ := st_pause hb hR
  have h1' : lw_pause E κ a1 a2 = some (E', κ2) := h1
  clear h1
  unfold lw_pause at h1'
  split at h1'
  · cases h1'
  · rename_i κ1 rs hf
    split at h1'
    · cases h1'
    · obtain ⟨⟨hk, ho, hx⟩, h3⟩ := gdp_some h1'
      cases h3
      obtain ⟨rfl, rfl⟩ := hE
      obtain ⟨e1, e2⟩ : E.1 = n' ∧ E.2.1 = ns' := ⟨h2.1.1, h2.1.2.1⟩
      subst e1; subst e2
      obtain ⟨z1, z2, z3, z4⟩ := flat_of h2 (fun f hf => lwB_V hf) lwB_ff ho
      exact ⟨κ1, rs, _, t', hf, hk.1, z1, z2, rfl, z3, by rw [z4]; exact hx⟩
theorem ac_scale {E : EE} {κ : K} {n ns t C : Nat} {a1 a2 : Int32} (hC : C < 512) (hR : REL E κ (kV κ 5 0) n ns t C) : ∃ (κ1 : K) (rs : Int32 ⊕ Nat) (κ' : K) (t' : Nat), f_X10_scale E κ a1 a2 = some (κ1, rs) ∧ (∀ e, rs = .inr e → e ∈ ([1, 2] : List Nat)) ∧ Cov (E, κ1) (E, κ') ∧ kC κ' = kC κ1 ∧ kT κ' = none ∧ REL E κ' (kV κ' 5 0) n ns t' (C + 1) ∧ EXT (kV κ 5 0) (kV κ' 5 0) := by
  have hE : E.1 = n ∧ E.2.1 = ns := ⟨hR.1.1, hR.1.2.1⟩
  obtain ⟨E', κ2, n', ns', t', h1, h2⟩ := st_scale hR
  have h1' : lw_scale E κ a1 a2 = some (E', κ2) := h1
  clear h1
  unfold lw_scale at h1'
  split at h1'
  · cases h1'
  · rename_i κ1 rs hf
    split at h1'
    · cases h1'
    · obtain ⟨⟨hk, ho, hx⟩, h3⟩ := gdp_some h1'
      cases h3
      obtain ⟨rfl, rfl⟩ := hE
      obtain ⟨e1, e2⟩ : E.1 = n' ∧ E.2.1 = ns' := ⟨h2.1.1, h2.1.2.1⟩
      subst e1; subst e2
      obtain ⟨z1, z2, z3, z4⟩ := flat_of h2 (fun f hf => lw_V hf) lw_ff ho
      exact ⟨κ1, rs, _, t', hf, hk.1, z1, z2, rfl, z3, by rw [z4]; exact hx⟩
theorem ac_input {E : EE} {κ : K} {n ns t C : Nat} {a1 a2 : Int32} (hC : C < 512) (hR : REL E κ (kV κ 5 0) n ns t C) : ∃ (κ1 : K) (rs : Int32 ⊕ Nat) (κ' : K) (t' : Nat), f_X10_input E κ a1 a2 = some (κ1, rs) ∧ (∀ e, rs = .inr e → e ∈ ([1, 2, 3] : List Nat)) ∧ Cov (E, κ1) (E, κ') ∧ kC κ' = kC κ1 ∧ kT κ' = none ∧ REL E κ' (kV κ' 5 0) n ns t' (C + 1) ∧ EXT (kV κ 5 0) (kV κ' 5 0) := by
  have hE : E.1 = n ∧ E.2.1 = ns := ⟨hR.1.1, hR.1.2.1⟩
  obtain ⟨E', κ2, n', ns', t', h1, h2⟩ := st_input (Nat.lt_of_lt_of_le hC (Nat.le_refl _)) hR
  have h1' : lw_input E κ a1 a2 = some (E', κ2) := h1
  clear h1
  unfold lw_input at h1'
  split at h1'
  · cases h1'
  · rename_i κ1 rs hf
    split at h1'
    · cases h1'
    · obtain ⟨⟨hk, ho, hx⟩, h3⟩ := gdp_some h1'
      cases h3
      obtain ⟨rfl, rfl⟩ := hE
      obtain ⟨e1, e2⟩ : E.1 = n' ∧ E.2.1 = ns' := ⟨h2.1.1, h2.1.2.1⟩
      subst e1; subst e2
      obtain ⟨z1, z2, z3, z4⟩ := flat_of h2 (fun f hf => lw_V hf) lw_ff ho
      exact ⟨κ1, rs, _, t', hf, hk.1, z1, z2, rfl, z3, by rw [z4]; exact hx⟩
theorem ac_send {E : EE} {κ : K} {n ns t C : Nat} {a1 : Int32} (hC : C < 512) (hR : REL E κ (kV κ 5 0) n ns t C) : ∃ (κ1 : K) (rs : Int32 ⊕ Nat) (κ' : K) (t' : Nat), f_X10_send E κ a1 = some (κ1, rs) ∧ (∀ e, rs = .inr e → e ∈ ([1, 3] : List Nat)) ∧ Cov (E, κ1) (E, κ') ∧ kC κ' = kC κ1 ∧ kT κ' = none ∧ REL E κ' (kV κ' 5 0) n ns t' (C + 1) ∧ EXT (kV κ 5 0) (kV κ' 5 0) := by
  have hE : E.1 = n ∧ E.2.1 = ns := ⟨hR.1.1, hR.1.2.1⟩
  obtain ⟨E', κ2, n', ns', t', h1, h2⟩ := st_send hR
  have h1' : lw_send E κ a1 = some (E', κ2) := h1
  clear h1
  unfold lw_send at h1'
  split at h1'
  · cases h1'
  · rename_i κ1 rs hf
    split at h1'
    · cases h1'
    · obtain ⟨⟨hk, ho, hx⟩, h3⟩ := gdp_some h1'
      cases h3
      obtain ⟨rfl, rfl⟩ := hE
      obtain ⟨e1, e2⟩ : E.1 = n' ∧ E.2.1 = ns' := ⟨h2.1.1, h2.1.2.1⟩
      subst e1; subst e2
      obtain ⟨z1, z2, z3, z4⟩ := flat_of h2 (fun f hf => lwB_V hf) lwB_ff ho
      exact ⟨κ1, rs, _, t', hf, hk.1, z1, z2, rfl, z3, by rw [z4]; exact hx⟩
theorem ac_tick {E : EE} {κ : K} {n ns t C : Nat} {a1 : Int32} (hC : C < 512) (hR : REL E κ (kV κ 5 0) n ns t C) : ∃ (κ1 : K) (rs : Int32 ⊕ Nat) (κ' : K) (t' : Nat), f_X10_tick E κ a1 = some (κ1, rs) ∧ (∀ e, rs = .inr e → e ∈ ([2, 3] : List Nat)) ∧ Cov (E, κ1) (E, κ') ∧ kC κ' = kC κ1 ∧ kT κ' = none ∧ REL E κ' (kV κ' 5 0) n ns t' (C + 1) ∧ EXT (kV κ 5 0) (kV κ' 5 0) := by
  have hE : E.1 = n ∧ E.2.1 = ns := ⟨hR.1.1, hR.1.2.1⟩
  obtain ⟨E', κ2, n', ns', t', h1, h2⟩ := st_tick hR
  have h1' : lw_tick E κ a1 = some (E', κ2) := h1
  clear h1
  unfold lw_tick at h1'
  split at h1'
  · cases h1'
  · rename_i κ1 rs hf
    split at h1'
    · cases h1'
    · obtain ⟨⟨hk, ho, hx⟩, h3⟩ := gdp_some h1'
      cases h3
      obtain ⟨rfl, rfl⟩ := hE
      obtain ⟨e1, e2⟩ : E.1 = n' ∧ E.2.1 = ns' := ⟨h2.1.1, h2.1.2.1⟩
      subst e1; subst e2
      obtain ⟨z1, z2, z3, z4⟩ := flat_of h2 (fun f hf => lw_V hf) lw_ff ho
      exact ⟨κ1, rs, _, t', hf, hk.1, z1, z2, rfl, z3, by rw [z4]; exact hx⟩
theorem ac_share {E : EE} {κ : K} {n ns t C : Nat} {a1 : Int32} (hC : C < 512) (hR : REL E κ (kV κ 5 0) n ns t C) : ∃ (κ1 : K) (rs : Int32 ⊕ Nat) (κ' : K) (t' : Nat), f_X10_share E κ a1 = some (κ1, rs) ∧ (∀ e, rs = .inr e → e ∈ ([1] : List Nat)) ∧ Cov (E, κ1) (E, κ') ∧ kC κ' = kC κ1 ∧ kT κ' = none ∧ REL E κ' (kV κ' 5 0) n ns t' (C + 1) ∧ EXT (kV κ 5 0) (kV κ' 5 0) := by
  have hE : E.1 = n ∧ E.2.1 = ns := ⟨hR.1.1, hR.1.2.1⟩
  obtain ⟨E', κ2, n', ns', t', h1, h2⟩ := st_share hR
  have h1' : lw_share E κ a1 = some (E', κ2) := h1
  clear h1
  unfold lw_share at h1'
  split at h1'
  · cases h1'
  · rename_i κ1 rs hf
    split at h1'
    · cases h1'
    · obtain ⟨⟨hk, ho, hx⟩, h3⟩ := gdp_some h1'
      cases h3
      obtain ⟨rfl, rfl⟩ := hE
      obtain ⟨e1, e2⟩ : E.1 = n' ∧ E.2.1 = ns' := ⟨h2.1.1, h2.1.2.1⟩
      subst e1; subst e2
      obtain ⟨z1, z2, z3, z4⟩ := flat_of h2 (fun f hf => lw_V hf) lw_ff ho
      exact ⟨κ1, rs, _, t', hf, hk.1, z1, z2, rfl, z3, by rw [z4]; exact hx⟩
theorem ac_move {E : EE} {κ : K} {n ns t C : Nat} {a1 : Int32} (hC : C < 512) (hR : REL E κ (kV κ 5 0) n ns t C) : ∃ (κ1 : K) (rs : Int32 ⊕ Nat) (κ' : K) (t' : Nat), f_X10_move E κ a1 = some (κ1, rs) ∧ (∀ e, rs = .inr e → e ∈ ([1, 3] : List Nat)) ∧ Cov (E, κ1) (E, κ') ∧ kC κ' = kC κ1 ∧ kT κ' = none ∧ REL E κ' (kV κ' 5 0) n ns t' (C + 1) ∧ EXT (kV κ 5 0) (kV κ' 5 0) := by
  have hE : E.1 = n ∧ E.2.1 = ns := ⟨hR.1.1, hR.1.2.1⟩
  obtain ⟨E', κ2, n', ns', t', h1, h2⟩ := st_move hR
  have h1' : lw_move E κ a1 = some (E', κ2) := h1
  clear h1
  unfold lw_move at h1'
  split at h1'
  · cases h1'
  · rename_i κ1 rs hf
    split at h1'
    · cases h1'
    · obtain ⟨⟨hk, ho, hx⟩, h3⟩ := gdp_some h1'
      cases h3
      obtain ⟨rfl, rfl⟩ := hE
      obtain ⟨e1, e2⟩ : E.1 = n' ∧ E.2.1 = ns' := ⟨h2.1.1, h2.1.2.1⟩
      subst e1; subst e2
      obtain ⟨z1, z2, z3, z4⟩ := flat_of h2 (fun f hf => lw_V hf) lw_ff ho
      exact ⟨κ1, rs, _, t', hf, hk.1, z1, z2, rfl, z3, by rw [z4]; exact hx⟩
theorem ac_round {E : EE} {κ : K} {n ns t C : Nat} {a1 a2 : Int32} (hC : C < 512) (hR : REL E κ (kV κ 5 0) n ns t C) : ∃ (κ1 : K) (rs : Int32 ⊕ Nat) (κ' : K) (t' : Nat), f_X10_round E κ a1 a2 = some (κ1, rs) ∧ (∀ e, rs = .inr e → e ∈ ([1, 2, 3] : List Nat)) ∧ Cov (E, κ1) (E, κ') ∧ kC κ' = kC κ1 ∧ kT κ' = none ∧ REL E κ' (kV κ' 5 0) n ns t' (C + 1) ∧ EXT (kV κ 5 0) (kV κ' 5 0) := by
  have hE : E.1 = n ∧ E.2.1 = ns := ⟨hR.1.1, hR.1.2.1⟩
  obtain ⟨E', κ2, n', ns', t', h1, h2⟩ := st_round hR
  have h1' : lw_round E κ a1 a2 = some (E', κ2) := h1
  clear h1
  unfold lw_round at h1'
  split at h1'
  · cases h1'
  · rename_i κ1 rs hf
    split at h1'
    · cases h1'
    · obtain ⟨⟨hk, ho, hx⟩, h3⟩ := gdp_some h1'
      cases h3
      obtain ⟨rfl, rfl⟩ := hE
      obtain ⟨e1, e2⟩ : E.1 = n' ∧ E.2.1 = ns' := ⟨h2.1.1, h2.1.2.1⟩
      subst e1; subst e2
      obtain ⟨z1, z2, z3, z4⟩ := flat_of h2 (fun f hf => lw_V hf) lw_ff ho
      exact ⟨κ1, rs, _, t', hf, hk.1, z1, z2, rfl, z3, by rw [z4]; exact hx⟩
theorem ac_land {E : EE} {κ : K} {n ns t C : Nat} {a1 a2 : Int32} (hC : C < 512) (hR : REL E κ (kV κ 5 0) n ns t C) : ∃ (κ1 : K) (rs : Int32 ⊕ Nat) (κ' : K) (t' : Nat), f_X10_land E κ a1 a2 = some (κ1, rs) ∧ (∀ e, rs = .inr e → e ∈ ([1, 3] : List Nat)) ∧ Cov (E, κ1) (E, κ') ∧ kC κ' = kC κ1 ∧ kT κ' = none ∧ REL E κ' (kV κ' 5 0) n ns t' (C + 1) ∧ EXT (kV κ 5 0) (kV κ' 5 0) := by
  have hE : E.1 = n ∧ E.2.1 = ns := ⟨hR.1.1, hR.1.2.1⟩
  obtain ⟨E', κ2, n', ns', t', h1, h2⟩ := st_land hR
  have h1' : lw_land E κ a1 a2 = some (E', κ2) := h1
  clear h1
  unfold lw_land at h1'
  split at h1'
  · cases h1'
  · rename_i κ1 rs hf
    split at h1'
    · cases h1'
    · obtain ⟨⟨hk, ho, hx⟩, h3⟩ := gdp_some h1'
      cases h3
      obtain ⟨rfl, rfl⟩ := hE
      obtain ⟨e1, e2⟩ : E.1 = n' ∧ E.2.1 = ns' := ⟨h2.1.1, h2.1.2.1⟩
      subst e1; subst e2
      obtain ⟨z1, z2, z3, z4⟩ := flat_of h2 (fun f hf => lw_V hf) lw_ff ho
      exact ⟨κ1, rs, _, t', hf, hk.1, z1, z2, rfl, z3, by rw [z4]; exact hx⟩
theorem ac_restore {E : EE} {κ : K} {n ns t C : Nat} {a1 a2 : Int32} (hC : C < 512) (hR : REL E κ (kV κ 5 0) n ns t C) : ∃ (κ1 : K) (rs : Int32 ⊕ Nat) (κ' : K) (t' : Nat), f_X10_restore E κ a1 a2 = some (κ1, rs) ∧ (∀ e, rs = .inr e → e ∈ ([1, 3] : List Nat)) ∧ Cov (E, κ1) (E, κ') ∧ kC κ' = kC κ1 ∧ kT κ' = none ∧ REL E κ' (kV κ' 5 0) n ns t' (C + 1) ∧ EXT (kV κ 5 0) (kV κ' 5 0) := by
  have hE : E.1 = n ∧ E.2.1 = ns := ⟨hR.1.1, hR.1.2.1⟩
  obtain ⟨E', κ2, n', ns', t', h1, h2⟩ := st_restore hR
  have h1' : lw_restore E κ a1 a2 = some (E', κ2) := h1
  clear h1
  unfold lw_restore at h1'
  split at h1'
  · cases h1'
  · rename_i κ1 rs hf
    split at h1'
    · cases h1'
    · obtain ⟨⟨hk, ho, hx⟩, h3⟩ := gdp_some h1'
      cases h3
      obtain ⟨rfl, rfl⟩ := hE
      obtain ⟨e1, e2⟩ : E.1 = n' ∧ E.2.1 = ns' := ⟨h2.1.1, h2.1.2.1⟩
      subst e1; subst e2
      obtain ⟨z1, z2, z3, z4⟩ := flat_of h2 (fun f hf => lw_V hf) lw_ff ho
      exact ⟨κ1, rs, _, t', hf, hk.1, z1, z2, rfl, z3, by rw [z4]; exact hx⟩
theorem ac_follow {E : EE} {κ : K} {n ns t C : Nat} {a1 a2 : Int32} (hb : a2 = 0 ∨ a2 = 1) (hC : C < 512) (hR : REL E κ (kV κ 5 0) n ns t C) : ∃ (κ1 : K) (rs : Int32 ⊕ Nat) (κ' : K) (t' : Nat), f_X10_follow E κ a1 a2 = some (κ1, rs) ∧ (∀ e, rs = .inr e → e ∈ ([1, 3] : List Nat)) ∧ Cov (E, κ1) (E, κ') ∧ kC κ' = kC κ1 ∧ kT κ' = none ∧ REL E κ' (kV κ' 5 0) n ns t' (C + 1) ∧ EXT (kV κ 5 0) (kV κ' 5 0) := by
  have hE : E.1 = n ∧ E.2.1 = ns := ⟨hR.1.1, hR.1.2.1⟩
  obtain ⟨E', κ2, n', ns', t', h1, h2⟩ := st_follow hb hR
  have h1' : lw_follow E κ a1 a2 = some (E', κ2) := h1
  clear h1
  unfold lw_follow at h1'
  split at h1'
  · cases h1'
  · rename_i κ1 rs hf
    split at h1'
    · cases h1'
    · obtain ⟨⟨hk, ho, hx⟩, h3⟩ := gdp_some h1'
      cases h3
      obtain ⟨rfl, rfl⟩ := hE
      obtain ⟨e1, e2⟩ : E.1 = n' ∧ E.2.1 = ns' := ⟨h2.1.1, h2.1.2.1⟩
      subst e1; subst e2
      obtain ⟨z1, z2, z3, z4⟩ := flat_of h2 (fun f hf => lwB_V hf) lwB_ff ho
      exact ⟨κ1, rs, _, t', hf, hk.1, z1, z2, rfl, z3, by rw [z4]; exact hx⟩
theorem ac_step {E : EE} {κ : K} {n ns t C : Nat} {a1 : Int32} (hC : C < 512) (hR : REL E κ (kV κ 5 0) n ns t C) : ∃ (κ1 : K) (rs : Int32 ⊕ Nat) (κ' : K) (t' : Nat), f_X10_step E κ a1 = some (κ1, rs) ∧ (∀ e, rs = .inr e → e ∈ ([1, 3] : List Nat)) ∧ Cov (E, κ1) (E, κ') ∧ kC κ' = kC κ1 ∧ kT κ' = none ∧ REL E κ' (kV κ' 5 0) n ns t' (C + 1) ∧ EXT (kV κ 5 0) (kV κ' 5 0) := by
  have hE : E.1 = n ∧ E.2.1 = ns := ⟨hR.1.1, hR.1.2.1⟩
  obtain ⟨E', κ2, n', ns', t', h1, h2⟩ := st_step hR
  have h1' : lw_step E κ a1 = some (E', κ2) := h1
  clear h1
  unfold lw_step at h1'
  split at h1'
  · cases h1'
  · rename_i κ1 rs hf
    split at h1'
    · cases h1'
    · obtain ⟨⟨hk, ho, hx⟩, h3⟩ := gdp_some h1'
      cases h3
      obtain ⟨rfl, rfl⟩ := hE
      obtain ⟨e1, e2⟩ : E.1 = n' ∧ E.2.1 = ns' := ⟨h2.1.1, h2.1.2.1⟩
      subst e1; subst e2
      obtain ⟨z1, z2, z3, z4⟩ := flat_of h2 (fun f hf => lw_V hf) lw_ff ho
      exact ⟨κ1, rs, _, t', hf, hk.1, z1, z2, rfl, z3, by rw [z4]; exact hx⟩
theorem ac_fail {E : EE} {κ : K} {n ns t C : Nat} {a1 : Int32} (hC : C < 512) (hR : REL E κ (kV κ 5 0) n ns t C) : ∃ (κ1 : K) (rs : Int32 ⊕ Nat) (κ' : K) (t' : Nat), f_X10_fail E κ a1 = some (κ1, rs) ∧ (∀ e, rs = .inr e → e ∈ ([1, 3] : List Nat)) ∧ Cov (E, κ1) (E, κ') ∧ kC κ' = kC κ1 ∧ kT κ' = none ∧ REL E κ' (kV κ' 5 0) n ns t' (C + 1) ∧ EXT (kV κ 5 0) (kV κ' 5 0) := by
  have hE : E.1 = n ∧ E.2.1 = ns := ⟨hR.1.1, hR.1.2.1⟩
  obtain ⟨E', κ2, n', ns', t', h1, h2⟩ := st_fail (Nat.lt_of_lt_of_le hC (Nat.le_refl _)) hR
  have h1' : lw_fail E κ a1 = some (E', κ2) := h1
  clear h1
  unfold lw_fail at h1'
  split at h1'
  · cases h1'
  · rename_i κ1 rs hf
    split at h1'
    · cases h1'
    · obtain ⟨⟨hk, ho, hx⟩, h3⟩ := gdp_some h1'
      cases h3
      obtain ⟨rfl, rfl⟩ := hE
      obtain ⟨e1, e2⟩ : E.1 = n' ∧ E.2.1 = ns' := ⟨h2.1.1, h2.1.2.1⟩
      subst e1; subst e2
      obtain ⟨z1, z2, z3, z4⟩ := flat_of h2 (fun f hf => lw_V hf) lw_ff ho
      exact ⟨κ1, rs, _, t', hf, hk.1, z1, z2, rfl, z3, by rw [z4]; exact hx⟩
theorem ac_mend {E : EE} {κ : K} {n ns t C : Nat} {a1 : Int32} (hC : C < 512) (hR : REL E κ (kV κ 5 0) n ns t C) : ∃ (κ1 : K) (rs : Unit ⊕ Nat) (κ' : K) (t' : Nat), f_X10_mend E κ a1 = some (κ1, rs) ∧ (∀ e, rs = .inr e → e ∈ ([1, 3] : List Nat)) ∧ Cov (E, κ1) (E, κ') ∧ kC κ' = kC κ1 ∧ kT κ' = none ∧ REL E κ' (kV κ' 5 0) n ns t' (C + 1) ∧ EXT (kV κ 5 0) (kV κ' 5 0) := by
  have hE : E.1 = n ∧ E.2.1 = ns := ⟨hR.1.1, hR.1.2.1⟩
  obtain ⟨E', κ2, n', ns', t', h1, h2⟩ := st_mend hR
  have h1' : lw_mend E κ a1 = some (E', κ2) := h1
  clear h1
  unfold lw_mend at h1'
  split at h1'
  · cases h1'
  · rename_i κ1 rs hf
    split at h1'
    · cases h1'
    · obtain ⟨⟨hk, ho, hx⟩, h3⟩ := gdp_some h1'
      cases h3
      obtain ⟨rfl, rfl⟩ := hE
      obtain ⟨e1, e2⟩ : E.1 = n' ∧ E.2.1 = ns' := ⟨h2.1.1, h2.1.2.1⟩
      subst e1; subst e2
      obtain ⟨z1, z2, z3, z4⟩ := flat_of h2 (fun f _ => rfl) ⟨rfl, rfl, rfl⟩ ho
      exact ⟨κ1, rs, _, t', hf, hk.1, z1, z2, rfl, z3, by rw [z4]; exact hx⟩
theorem ac_guest {E : EE} {κ : K} {n ns t C : Nat} {a1 a2 a3 : Int32} (hb : a3 = 0 ∨ a3 = 1) (hR : REL E κ (kV κ 5 0) n ns t C) : ∃ (E1 : EE) (κ1 : K) (rs : Int32 ⊕ Nat) (κ' : K) (t' n' ns' : Nat), f_X10_guest E κ a1 a2 a3 = some ((E1, κ1), rs) ∧ (∀ e, rs = .inr e → e ∈ ([1, 2, 3] : List Nat)) ∧ Cov (E1, κ1) (E1, κ') ∧ kC κ' = kC κ1 ∧ kT κ' = none ∧ REL E1 κ' (kV κ' 5 0) n' ns' t' (C + 1) ∧ EXT (kV κ 5 0) (kV κ' 5 0) ∧ ((∃ r, rs = .inl r ∧ r = nI n ∧ n' = n + 1 ∧ ns' = ns + 0) ∨ (∃ e, rs = .inr e ∧ n' = n ∧ ns' = ns)) := by
  have hE : E.1 = n ∧ E.2.1 = ns := ⟨hR.1.1, hR.1.2.1⟩
  obtain ⟨E', κ2, n', ns', t', h1, h2⟩ := st_guest hb hR
  have h1' : lw_guest E κ a1 a2 a3 = some (E', κ2) := h1
  clear h1
  unfold lw_guest at h1'
  split at h1'
  · cases h1'
  · rename_i E1 κ1 rs hf
    obtain ⟨⟨-, hk0, hg⟩, h1'⟩ := gdp_some h1'
    split at h1'
    · cases h1'
    · obtain ⟨⟨hk, ho, hx⟩, h3⟩ := gdp_some h1'
      cases h3
      obtain ⟨rfl, rfl⟩ := hE
      obtain ⟨e1, e2⟩ : E'.1 = n' ∧ E'.2.1 = ns' := ⟨h2.1.1, h2.1.2.1⟩
      subst e1; subst e2
      obtain ⟨z1, z2, z3, z4⟩ := flat_of h2 (fun f hf => lw_V hf) lw_ff ho
      refine ⟨E', κ1, rs, _, t', _, _, hf, hk0, z1, z2, rfl, z3, by rw [z4]; exact hx, ?_⟩
      cases rs with
      | inl r =>
        obtain ⟨u1, u2, u3⟩ := hg.1 r rfl
        exact Or.inl ⟨r, rfl, u3, u1, u2⟩
      | inr e =>
        obtain ⟨u1, u2⟩ := hg.2 e rfl
        exact Or.inr ⟨e, rfl, u1, u2⟩
theorem ac_snapshot {E : EE} {κ : K} {n ns t C : Nat} {a1 : Int32} (hR : REL E κ (kV κ 5 0) n ns t C) : ∃ (E1 : EE) (κ1 : K) (rs : Int32 ⊕ Nat) (κ' : K) (t' n' ns' : Nat), f_X10_snapshot E κ a1 = some ((E1, κ1), rs) ∧ (∀ e, rs = .inr e → e ∈ ([1, 3] : List Nat)) ∧ Cov (E1, κ1) (E1, κ') ∧ kC κ' = kC κ1 ∧ kT κ' = none ∧ REL E1 κ' (kV κ' 5 0) n' ns' t' (C + 1) ∧ EXT (kV κ 5 0) (kV κ' 5 0) ∧ ((∃ r, rs = .inl r ∧ r = nI ns ∧ n' = n + 0 ∧ ns' = ns + 1) ∨ (∃ e, rs = .inr e ∧ n' = n ∧ ns' = ns)) := by
  have hE : E.1 = n ∧ E.2.1 = ns := ⟨hR.1.1, hR.1.2.1⟩
  obtain ⟨E', κ2, n', ns', t', h1, h2⟩ := st_snapshot hR
  have h1' : lw_snapshot E κ a1 = some (E', κ2) := h1
  clear h1
  unfold lw_snapshot at h1'
  split at h1'
  · cases h1'
  · rename_i E1 κ1 rs hf
    obtain ⟨⟨-, hk0, hg⟩, h1'⟩ := gdp_some h1'
    split at h1'
    · cases h1'
    · obtain ⟨⟨hk, ho, hx⟩, h3⟩ := gdp_some h1'
      cases h3
      obtain ⟨rfl, rfl⟩ := hE
      obtain ⟨e1, e2⟩ : E'.1 = n' ∧ E'.2.1 = ns' := ⟨h2.1.1, h2.1.2.1⟩
      subst e1; subst e2
      obtain ⟨z1, z2, z3, z4⟩ := flat_of h2 (fun f hf => lw_V hf) lw_ff ho
      refine ⟨E', κ1, rs, _, t', _, _, hf, hk0, z1, z2, rfl, z3, by rw [z4]; exact hx, ?_⟩
      cases rs with
      | inl r =>
        obtain ⟨u1, u2, u3⟩ := hg.1 r rfl
        exact Or.inl ⟨r, rfl, u3, u1, u2⟩
      | inr e =>
        obtain ⟨u1, u2⟩ := hg.2 e rfl
        exact Or.inr ⟨e, rfl, u1, u2⟩
