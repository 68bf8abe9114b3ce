theorem aK_V {κ : K} {fam i0 sz f i c : Nat} {cells : List RC} (h : f = fam ∧ i = i0 ∧ c < sz) (k : Nat) : kV (adK κ (nwF fam i0 sz fun c => c) cells) f i c k = rvI (cells.getD c rz) k := by
  have e : nwF fam i0 sz (fun c => c) f i c = some c := if_pos h
  show (match nwF fam i0 sz (fun c => c) f i c with | some m => rvI (cells.getD m rz) k | none => κ.1 f i c k) = _
  rw [e]
theorem aK_Vn {κ : K} {nw : NW} {f i c : Nat} {cells : List RC} (h : nw f i c = none) : kV (adK κ nw cells) f i c = kV κ f i c := by
  funext k
  show (match nw f i c with | some m => rvI (cells.getD m rz) k | none => κ.1 f i c k) = _
  rw [h]
  rfl
theorem aK_N {κ : K} {fam i0 sz f i c : Nat} {cells : List RC} (h : f = fam ∧ i = i0 ∧ c < sz) : kN (adK κ (nwF fam i0 sz fun c => c) cells) f i c = rvN (cells.getD c rz) := by
  have e : nwF fam i0 sz (fun c => c) f i c = some c := if_pos h
  show (match nwF fam i0 sz (fun c => c) f i c with | some m => rvN (cells.getD m rz) | none => κ.2.1 f i c) = _
  rw [e]
theorem aK_Nn {κ : K} {nw : NW} {f i c : Nat} {cells : List RC} (h : nw f i c = none) : kN (adK κ nw cells) f i c = kN κ f i c := by
  show (match nw f i c with | some m => rvN (cells.getD m rz) | none => κ.2.1 f i c) = _
  rw [h]
  rfl
theorem aK_P {κ : K} {fam i0 sz f i c : Nat} {cells : List RC} (h : f = fam ∧ i = i0 ∧ c < sz) (k : Nat) : kP (adK κ (nwF fam i0 sz fun c => c) cells) f i c k = rvP (cells.getD c rz) k := by
  have e : nwF fam i0 sz (fun c => c) f i c = some c := if_pos h
  show (match nwF fam i0 sz (fun c => c) f i c with | some m => rvP (cells.getD m rz) k | none => κ.2.2.1 f i c k) = _
  rw [e]
theorem aK_Pn {κ : K} {nw : NW} {f i c : Nat} {cells : List RC} (h : nw f i c = none) : kP (adK κ nw cells) f i c = kP κ f i c := by
  funext k
  show (match nw f i c with | some m => rvP (cells.getD m rz) k | none => κ.2.2.1 f i c k) = _
  rw [h]
  rfl
theorem nwF_n {fam i0 sz f i c : Nat} {pm : Nat → Nat} (h : ¬ (f = fam ∧ i = i0 ∧ c < sz)) : nwF fam i0 sz pm f i c = none := if_neg h
theorem nw1_o {c f i c' : Nat} (h : ¬ (f = 4 ∧ i = 0 ∧ c' = c + 3)) : nw1 c f i c' = none := if_neg h
/-- the list grown by its first -/
theorem adE_f {κ : K} {c e : Nat} (hc : c = 1 ∨ c = 2) : (∀ f i c', ¬ (f = 4 ∧ i = 0 ∧ (c' = c ∨ c' = c + 3)) → kV (adE κ c e) f i c' = kV κ f i c' ∧ kN (adE κ c e) f i c' = kN κ f i c' ∧ kP (adE κ c e) f i c' = kP κ f i c') ∧ (∀ k, k ≠ 0 → k ≠ 2 → kV (adE κ c e) 4 0 c k = kV κ 4 0 c k) ∧ kV (adE κ c e) 4 0 c 2 = 1 ∧ kP (adE κ c e) 4 0 c 1 = some 0 ∧ (∀ k, kP (adE κ c e) 4 0 (c + 3) k = if k < 1 then some e else none) ∧ kC (adE κ c e) = ((kC κ).1 + 1, (kC κ).2 + 10) := by
  refine ⟨fun f i c' h => ⟨?_, ?_, ?_⟩, fun k a b => ?_, vS ⟨rfl, rfl, rfl, rfl⟩, ?_, fun k => ?_, rfl⟩
  · funext k
    unfold adE grK
    rw [vD (by omega), vP, vP, aK_Vn (nw1_o (by omega)), vC]
    exact vD (by omega)
  · unfold adE grK
    rw [nV, nP, nP, aK_Nn (nw1_o (by omega)), nC]
    rfl
  · funext k
    unfold adE grK
    rw [pV, pD (by omega), pD (by omega), aK_Pn (nw1_o (by omega)), pC]
    rfl
  · unfold adE grK
    rw [vD (by omega), vP, vP, aK_Vn (nw1_o (by omega)), vC]
    exact vD (by omega)
  · unfold adE grK
    rw [pV, pD (by omega)]
    exact pS ⟨rfl, rfl, rfl, rfl⟩
  · unfold adE grK
    rw [pV]
    by_cases e : k = 0
    · rw [if_pos (by omega)]
      exact pS ⟨rfl, rfl, rfl, e⟩
    · rw [if_neg (by omega), pD (by omega), pD (by omega)]
      show (match nw1 c 4 0 (c + 3) with | some m => rvP (([rObj] : List RC).getD m rz) k | none => _) = _
      rw [show nw1 c 4 0 (c + 3) = some 0 from if_pos ⟨rfl, rfl, rfl⟩]
      rfl
theorem adN_f {κ : K} {c e n : Nat} (hc : c = 1 ∨ c = 2) (hn : n < 100) (h2 : kV κ 4 0 c 2 = nI n) : (∀ f i c', ¬ (f = 4 ∧ i = 0 ∧ (c' = c ∨ c' = c + 3)) → kV (adN κ c e) f i c' = kV κ f i c' ∧ kN (adN κ c e) f i c' = kN κ f i c' ∧ kP (adN κ c e) f i c' = kP κ f i c') ∧ (∀ k, k ≠ 0 → k ≠ 2 → kV (adN κ c e) 4 0 c k = kV κ 4 0 c k) ∧ kV (adN κ c e) 4 0 c 2 = nI (n + 1) ∧ kP (adN κ c e) 4 0 c 1 = kP κ 4 0 c 1 ∧ (∀ k, kP (adN κ c e) 4 0 (c + 3) k = if k = n then some e else kP κ 4 0 (c + 3) k) ∧ kC (adN κ c e) = kC κ := by
  refine ⟨fun f i c' h => ⟨?_, ?_, ?_⟩, fun k a b => ?_, ?_, ?_, fun k => ?_, rfl⟩
  · funext k
    unfold adN
    rw [vD (by omega), vP]
    exact vD (by omega)
  · rfl
  · funext k
    unfold adN
    rw [pV, pD (by omega)]
    rfl
  · unfold adN
    rw [vD (by omega), vP]
    exact vD (by omega)
  · unfold adN
    rw [vS ⟨rfl, rfl, rfl, rfl⟩, h2, nI_1]
  · unfold adN
    rw [pV, pD (by omega)]
    rfl
  · unfold adN
    rw [pV, h2, nI_cl (by omega)]
    by_cases e : k = n
    · rw [if_pos e]
      exact pS ⟨rfl, rfl, rfl, e⟩
    · rw [if_neg e, pD (by omega)]
      rfl
theorem OKE_e {E E' : EE} (h : OKE E) (e : ∀ f, f ≠ 0 → f ≠ 1 → f ≠ 3 → f ≠ 9 → cntE E' f = cntE E f) (e3 : E'.2.2.2.1 = E.2.2.2.1) (er : eR E' = eR E) : OKE E' := by
  obtain ⟨⟨a1, a2⟩, ⟨b1, b2⟩, c1, d1, f1⟩ := h
  refine ⟨⟨by rw [e 4 (by omega) (by omega) (by omega) (by omega)]; exact a1, a2⟩, ⟨by rw [e 5 (by omega) (by omega) (by omega) (by omega)]; exact b1, b2⟩, ?_, by rw [e3]; exact d1, by unfold rawN; rw [er]; exact f1⟩
  exact c1
theorem g_new {E : EE} {κ : K} {n h : Nat} {w s : Int32} (hL : LsI E κ 1 n) (hE : E.1 = n) (hn : n < 5) (hO : OKE E) : ∃ E' κ', xG E κ h w s = (E', κ') ∧ (E'.1 = n + 1 ∧ E'.2.1 = E.2.1 ∧ OKE E' ∧ (∀ f, f ≠ 0 → cntE E' f = cntE E f) ∧ cnt4 E' 2 = cnt4 E 2) ∧ LsI E' κ' 1 (n + 1) ∧ (∀ f i c, ¬ (f = 0 ∧ i = n ∧ c < 39) → ¬ (f = 4 ∧ i = 0 ∧ (c = 1 ∨ c = 4)) → kV κ' f i c = kV κ f i c ∧ kN κ' f i c = kN κ f i c ∧ kP κ' f i c = kP κ f i c) ∧ (∀ c, c < 39 → (∀ k, kV κ' 0 n c k = rvI ((cX1 (eR E).length (nI n) h w s).getD c rz) k) ∧ kN κ' 0 n c = rvN ((cX1 (eR E).length (nI n) h w s).getD c rz) ∧ ∀ k, kP κ' 0 n c k = rvP ((cX1 (eR E).length (nI n) h w s).getD c rz) k) ∧ (kC κ').1 ≤ (kC κ).1 + 40 ∧ (kC κ').2 ≤ (kC κ).2 + 351 := by
  have hx : cntE E 0 = n := hE
  have hk : kG E κ h w s = adK (addC κ 39 341) (nwF 0 n 39 fun c => c) (cX1 (eR E).length (nI n) h w s) := by
    unfold kG
    rw [hx, hL.1]
  have kv : ∀ f i c, ¬ (f = 0 ∧ i = n ∧ c < 39) → kV (kG E κ h w s) f i c = kV κ f i c ∧ kN (kG E κ h w s) f i c = kN κ f i c ∧ kP (kG E κ h w s) f i c = kP κ f i c := fun f i c z => by
    rw [hk]
    exact ⟨aK_Vn (nwF_n z), aK_Nn (nwF_n z), aK_Pn (nwF_n z)⟩
  have kn : ∀ c, c < 39 → (∀ k, kV (kG E κ h w s) 0 n c k = rvI ((cX1 (eR E).length (nI n) h w s).getD c rz) k) ∧ kN (kG E κ h w s) 0 n c = rvN ((cX1 (eR E).length (nI n) h w s).getD c rz) ∧ ∀ k, kP (kG E κ h w s) 0 n c k = rvP ((cX1 (eR E).length (nI n) h w s).getD c rz) k := fun c hc => by
    rw [hk]
    exact ⟨aK_V ⟨rfl, rfl, hc⟩, aK_N ⟨rfl, rfl, hc⟩, aK_P ⟨rfl, rfl, hc⟩⟩
  have kc : kC (kG E κ h w s) = ((kC κ).1 + 39, (kC κ).2 + 341) := rfl
  have ee : ∀ f, f ≠ 0 → cntE (eG E) f = cntE E f := fun f hf => by
    rcases f with _ | _ | _ | _ | _ | _ | _ | _ | _ | _ | f
    · exact absurd rfl hf
    all_goals rfl
  by_cases e : n = 0
  · have c0 : cnt4 (eG E) 1 = 0 := (hL.2.1 e).1
    obtain ⟨a1, a2, a3, a4, a5, a6⟩ := adE_f (κ := kG E κ h w s) (c := 1) (e := n) (Or.inl rfl)
    have ef : ∀ f, f ≠ 0 → cntE (flagE (eG E) 1) f = cntE E f := fun f hf => by
      rw [← ee f hf]
      rcases f with _ | _ | _ | _ | _ | _ | _ | _ | _ | _ | f
      · exact absurd rfl hf
      all_goals rfl
    refine ⟨flagE (eG E) 1, adE (kG E κ h w s) 1 n, by unfold xG addL; rw [if_pos c0, hx], ⟨by rw [← hE]; rfl, rfl, OKE_e hO (fun f a _ _ _ => ef f a) rfl rfl, ef, rfl⟩, ⟨by rw [a3, e]; rfl, fun z => by omega, fun _ => ⟨by show ¬ (1 = 0); omega, a4, fun k => by rw [a5, e]; by_cases z : k < 1 <;> simp [z] <;> omega⟩⟩, fun f i c z1 z2 => ?_, fun c hc => ?_, by rw [a6, kc]; exact Nat.le_refl _, by rw [a6, kc]; exact Nat.le_refl _⟩
    · obtain ⟨p1, p2, p3⟩ := a1 f i c (by omega)
      rw [p1, p2, p3]
      exact kv f i c z1
    · obtain ⟨p1, p2, p3⟩ := a1 0 n c (by omega)
      rw [p1, p2, p3]
      exact kn c hc
  · obtain ⟨l1, l2, l3⟩ := hL.2.2 (by omega)
    have c0 : ¬ cnt4 (eG E) 1 = 0 := l1
    obtain ⟨k1, k2, k3⟩ := kv 4 0 1 (by omega)
    obtain ⟨a1, a2, a3, a4, a5, a6⟩ := adN_f (κ := kG E κ h w s) (c := 1) (e := n) (n := n) (Or.inl rfl) (by omega) (by rw [k1]; exact hL.1)
    refine ⟨eG E, adN (kG E κ h w s) 1 n, by unfold xG addL; rw [if_neg c0, hx], ⟨by rw [← hE]; rfl, rfl, OKE_e hO (fun f a _ _ _ => ee f a) rfl rfl, ee, rfl⟩, ⟨a3, fun z => by omega, fun _ => ⟨c0, by rw [a4, k3]; exact l2, fun k => by rw [a5, (kv 4 0 (1 + 3) (by omega)).2.2, l3 k]; by_cases z : k = n <;> by_cases z2 : k < n <;> simp [z, z2] <;> omega⟩⟩, fun f i c z1 z2 => ?_, fun c hc => ?_, by rw [a6, kc]; omega, by rw [a6, kc]; omega⟩
    · obtain ⟨p1, p2, p3⟩ := a1 f i c (by omega)
      rw [p1, p2, p3]
      exact kv f i c z1
    · obtain ⟨p1, p2, p3⟩ := a1 0 n c (by omega)
      rw [p1, p2, p3]
      exact kn c hc
