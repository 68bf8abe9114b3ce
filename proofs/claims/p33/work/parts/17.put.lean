section PUTROW
variable {l0 : Launch} {X : MX} {B : BX (EE × K)} {g : GP} {cc : ByteArray} {own : String} {F L : Nat} {E : EE} {κ : K} {pc : Nat} {lv : List (Nat × AV)} {rest : List AV}
/-- the store with the temporary array as the row of the numbers at (f, i, c) -/
def setRow (κ : K) (f i c n : Nat) (a : Nat → Int32) : K := setT (setA (setN κ f i (c + 1) n) f i (c + 1) a) none
theorem setRow_V {f i c n : Nat} {a : Nat → Int32} : kV (setRow κ f i c n a) f i (c + 1) = a := setA_eq
theorem setRow_Vne {f i c n f' i' c' : Nat} {a : Nat → Int32} (h : (f', i', c') ≠ (f, i, c + 1)) : kV (setRow κ f i c n a) f' i' c' = kV κ f' i' c' := setA_ne (κ := setN κ f i (c + 1) n) h
theorem setRow_N {f i c n : Nat} {a : Nat → Int32} : kN (setRow κ f i c n a) f i (c + 1) = n := by simp [setRow, setT, setA, setN, kN]
theorem setRow_Nne {f i c n f' i' c' : Nat} {a : Nat → Int32} (h : (f', i', c') ≠ (f, i, c + 1)) : kN (setRow κ f i c n a) f' i' c' = kN κ f' i' c' := by
  show (if f' = f ∧ i' = i ∧ c' = c + 1 then n else _) = _
  rw [if_neg]
  · rfl
  · rintro ⟨rfl, rfl, rfl⟩; exact h rfl
set_option maxHeartbeats 1000000 in
/-- 'this.row = ..' of the temporary array -/
theorem J_putRow (O : CK l0 X B g cc "GuestHall$Numbers" F L) (hKP : KPok B E) {f i c : Nat} (hkd : kd f c = 5) (hkr : kd f (c + 1) = 21) (hl : liveC E f i c = true) (hlr : liveC E f i (c + 1) = true) (hin : ∀ w ∈ u_ws RX4 TX4 2, w ∈ gwl) {index : Nat} (hlink : Cond.fieldLink "GuestHall$Numbers" index "GuestHall$Numbers" "row" "[I" ∈ gwl) {n : Nat} {a : Nat → Int32} (ht : kT κ = some (n, a)) (hlv : ∀ q ∈ lv, Stab E q.2) (hrs : ∀ v ∈ rest, Stab E v) (hd : decode cc pc = .ok (.putfield index, 3)) (kk : J X B (E, setRow κ f i c n a) (pc + 3) lv rest) : J X B (E, κ) pc lv (.inr (some (7, 0, 0)) :: .inr (some (f, i, c)) :: rest) := by
  obtain ⟨OO, hB, hCst, hD⟩ := O
  obtain ⟨p, l, e, R, s, m, args, below, meth, c0, Q⟩ := X
  have hcst : B.2.2.2.2.1 (E, setRow κ f i c n a) = B.2.2.2.2.1 (E, κ) := by rw [hCst]; rfl
  refine ⟨by rw [← hcst]; exact kk.1, fun fx ad H locs ls cells slots h1 h2 h3 h4 h5 => ?_⟩
  obtain ⟨O1, hST, hSH, hF', hL', -⟩ := OO fx
  have hW0 := h1.1
  rw [hB] at hW0
  have hobj : ∀ (ad : Pl → Nat) (κ : K), ctC g.2.1 g.2.2.1 ad (E, κ) (f, i, c) = some (.inr (5, [.ref (ad (f, i, c + 1)), .int (kV κ f i c 1)])) := by
    intro ad κ
    rw [ctC_live hl, cell_obj (by rw [hkd]; decide), hkd]
    rfl
  have hrow : ∀ (ad : Pl → Nat) (κ : K), ctC g.2.1 g.2.2.1 ad (E, κ) (f, i, c + 1) = some (.inl (g.2.1 0, kN κ f i (c + 1), .inl (kV κ f i (c + 1)))) := fun ad κ => ct_21 hlr hkr ad
  have htmp := ct_tmp (ca := g.2.1) (e0 := g.2.2.1) (E := E) ht ad
  have h6 := hW0.1 _ _ (hobj ad κ)
  have h7 := hW0.1 _ _ htmp
  have hne : ad (7, 0, 0) ≠ ad (f, i, c) := fun z => liveC_f7 hl (by have := hW0.2 _ _ _ _ htmp (hobj ad κ) z; injection this with this; exact this.symm)
  obtain ⟨ad', had⟩ : ∃ ad' : Pl → Nat, ad' = fun q => if q = (f, i, c + 1) then ad (7, 0, 0) else ad q := ⟨_, rfl⟩
  have hadr : ad' (f, i, c + 1) = ad (7, 0, 0) := by rw [had]; simp
  have hadn : ∀ q : Pl, q ≠ (f, i, c + 1) → ad' q = ad q := fun q hq => by rw [had]; simp [hq]
  have hadk : ∀ q : Pl, kd q.1 q.2.2 ≠ 21 → ad' q = ad q := fun q hq => hadn q (fun z => hq (by rw [z]; exact hkr))
  have hkeep : Keep E ad ad' := fun f' i' c' _ hk => hadk (f', i', c') hk
  have hado : ad' (f, i, c) = ad (f, i, c) := hadk (f, i, c) (by rw [hkd]; decide)
  refine put_one (C := RX4) (T := TX4) (N := 2) (A := B.2.2.1) O1.1 O1.2.1 O1.2.2.2.2.1 hin tyX4 tyX4_ok nmX4 O1.2.2.2.1 O1.2.2.2.2.2.1 h6.1 h6.2 h2 rfl 0 (by decide) (O1.2.2.2.2.1 _ hlink) (fun _ h => h) rfl (tyX4_ok 0 (by decide)) rfl rfl (Nat.zero_lt_succ _) hd (fun H1 locs1 g1 g2 g3 => ?_)
  have hgo := kk.2 fx ad' H1 locs1 ls cells slots ⟨?_, hKP ad ad' h1.2 hkeep⟩ g3 (by rw [Stab_mapl hkeep hlv]; exact h3) (by rw [hcst]; exact h4) (by rw [hcst]; exact h5)
  · rw [Stab_map hkeep hrs] at hgo
    exact hgo
  · rw [hB]
    have hoth : ∀ (q : Pl) (e : va_E), q ≠ (f, i, c) → q ≠ (f, i, c + 1) → ctC g.2.1 g.2.2.1 ad' (E, setRow κ f i c n a) q = some e → ctC g.2.1 g.2.2.1 ad (E, κ) q = some e ∧ q ≠ (7, 0, 0) := by
      intro q e hq1 hq2 h
      have h70 : q ≠ (7, 0, 0) := by
        rintro rfl
        simp [ctC, setRow, setT, kT] at h
      refine ⟨?_, h70⟩
      obtain ⟨f', i', c'⟩ := q
      have h8 : ctC g.2.1 g.2.2.1 ad' (E, κ) (f', i', c') = some e := by
        rw [← h]
        unfold ctC
        dsimp only
        rw [setRow_Vne hq2, setRow_Nne hq2]
        by_cases hf7 : f' = 7
        · have : ¬ (i' = 0 ∧ c' = 0) := by rintro ⟨rfl, rfl⟩; exact h70 (by rw [hf7])
          simp [hf7, this]
        · simp only [if_neg hf7]
          rfl
      rw [← h8]
      refine (ctC_adk hadk (fun h5 => hadn _ (fun z => ?_))).symm
      injection z with z1 z2
      injection z2 with z2 z3
      exact hq1 (by rw [z1, z2]; congr 2; omega)
    refine ⟨fun q e hq => ?_, fun q q' e e' hq hq' hqq => ?_⟩
    · by_cases hq1 : q = (f, i, c)
      · subst hq1
        rw [hobj, hadr, setRow_Vne (by intro z; injection z with _ z; injection z with _ z; omega)] at hq
        cases hq
        rw [hado]
        exact ⟨g1, h6.2⟩
      · by_cases hq2 : q = (f, i, c + 1)
        · subst hq2
          rw [hrow, setRow_V, setRow_N] at hq
          cases hq
          rw [hadr]
          exact ⟨h7.1.kept (g2 _ hne), h7.2⟩
        · obtain ⟨h8, -⟩ := hoth q e hq1 hq2 hq
          rw [hadn q hq2]
          exact ⟨(hW0.1 q e h8).1.kept (g2 _ (fun z => hq1 (hW0.2 _ _ _ _ h8 (hobj ad κ) z))), (hW0.1 q e h8).2⟩
    · have key : ∀ (q : Pl) (e : va_E), ctC g.2.1 g.2.2.1 ad' (E, setRow κ f i c n a) q = some e → (q = (f, i, c + 1) ∧ ad' q = ad (7, 0, 0)) ∨ (q ≠ (f, i, c + 1) ∧ q ≠ (7, 0, 0) ∧ ad' q = ad q ∧ ∃ e2, ctC g.2.1 g.2.2.1 ad (E, κ) q = some e2) := by
        intro q e hq
        by_cases hq2 : q = (f, i, c + 1)
        · exact Or.inl ⟨hq2, by rw [hq2, hadr]⟩
        · by_cases hq1 : q = (f, i, c)
          · exact Or.inr ⟨hq2, by rw [hq1]; intro z; injection z with z; exact liveC_f7 hl z, hadn q hq2, by rw [hq1]; exact ⟨_, hobj ad κ⟩⟩
          · obtain ⟨h8, h9⟩ := hoth q e hq1 hq2 hq
            exact Or.inr ⟨hq2, h9, hadn q hq2, _, h8⟩
      rcases key q e hq with ⟨a1, a2⟩ | ⟨a1, a2, a3, e2, a4⟩ <;> rcases key q' e' hq' with ⟨b1, b2⟩ | ⟨b1, b2, b3, e3, b4⟩
      · rw [a1, b1]
      · rw [a2, b3] at hqq
        exact absurd (hW0.2 _ _ _ _ htmp b4 hqq).symm b2
      · rw [a3, b2] at hqq
        exact absurd (hW0.2 _ _ _ _ a4 htmp hqq) a2
      · rw [a3, b3] at hqq
        exact hW0.2 _ _ _ _ a4 b4 hqq
end PUTROW
