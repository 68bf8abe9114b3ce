/-! ROWS that make or copy -/
section ALLOC
variable {l0 : Launch} {X : MX} {B : BX (EE × K)} {g : GP} {cc : ByteArray} {own : String} {F L : Nat} {E : EE} {κ : K} {pc : Nat} {lv : List (Nat × AV)} {rest : List AV}
/-- the temporary array's place is no other -/
theorem ctC_setT {ca : Nat → ClassId} {e0 : Nat} {ad : Pl → Nat} {t : Option (Nat × (Nat → Int32))} {p : Pl} (h : p ≠ (7, 0, 0)) : ctC ca e0 ad (E, setT κ t) p = ctC ca e0 ad (E, κ) p := by
  obtain ⟨f, i, c⟩ := p
  unfold ctC
  by_cases h7 : f = 7
  · subst h7
    have : ¬ (i = 0 ∧ c = 0) := by rintro ⟨rfl, rfl⟩; exact h rfl
    simp [this]
  · simp only [if_neg h7]
    rfl
theorem ctC_7 {ca : Nat → ClassId} {e0 : Nat} {ad : Pl → Nat} {p : Pl} {e : va_E} (h : ctC ca e0 ad (E, κ) p = some e) (hp : p ≠ (7, 0, 0)) : liveC E p.1 p.2.1 p.2.2 = true := by
  obtain ⟨f, i, c⟩ := p
  unfold ctC at h
  by_cases h7 : f = 7
  · subst h7
    have : ¬ (i = 0 ∧ c = 0) := by rintro ⟨rfl, rfl⟩; exact hp rfl
    simp [this] at h
  · simp only [if_neg h7] at h
    split at h
    · assumption
    · cases h
/-- content depends on the map of addresses only at places that are not rows -/
theorem ctC_ad {ca : Nat → ClassId} {e0 : Nat} {ad ad' : Pl → Nat} (hE : E.1 = E.1) (p : Pl) (h : ∀ q : Pl, q ≠ (7, 0, 0) → ad' q = ad q) : ctC ca e0 ad' (E, κ) p = ctC ca e0 ad (E, κ) p := by
  obtain ⟨f, i, c⟩ := p
  have he : ∀ v : AV, v ≠ .inr (some (7, 0, 0)) → emb ad' v = emb ad v := by
    intro v hv
    match v with
    | .inl _ => rfl
    | .inr none => rfl
    | .inr (some q) => exact congrArg Value.ref (h q (fun z => hv (by rw [z])))
  unfold ctC
  by_cases h7 : f = 7
  · simp [h7]
  · simp only [if_neg h7]
    by_cases hl : liveC E f i c = true
    · simp only [if_pos hl]
      have hk : ∀ (v : Int32) (o : Option Nat) (sp : Nat × Nat × Nat), sp.2.1 ≠ 7 ∨ sp.1 ≠ 2 → emb ad' (avf E e0 f i c v o sp) = emb ad (avf E e0 f i c v o sp) := by
        intro v o sp hsp
        refine he _ ?_
        obtain ⟨t, a, b⟩ := sp
        match t, hsp with
        | 0, _ => simp [avf]
        | 1, _ =>
          intro z
          simp only [avf] at z
          injection z with z
          injection z with z
          exact h7 (by injection z)
        | 2, hsp =>
          cases o with
          | none => simp [avf]
          | some j =>
            intro z
            simp only [avf, Option.map_some] at z
            injection z with z
            injection z with z
            rcases hsp with hsp | hsp
            · exact hsp (by injection z)
            · exact hsp rfl
        | 3, _ =>
          simp only [avf]
          split
          · intro z; cases z
          · intro z
            injection z with z
            injection z with z
            exact h7 (by injection z)
        | t + 4, _ => simp [avf]
      have hfs : ∀ kd0 k : Nat, (fsp kd0 k).2.1 ≠ 7 ∨ (fsp kd0 k).1 ≠ 2 := by
        intro kd0 k
        unfold fsp
        split <;> first | exact Or.inr (by decide) | exact Or.inl (by decide)
      congr 1
      unfold cellE
      split
      · congr 2
        exact List.map_congr_left fun k _ => hk _ _ _ (hfs _ _)
      · split
        · rfl
        · split
          · rfl
          · split
            · rfl
            · split
              · rfl
              · split
                · rename_i h24
                  have h4 : f = 4 := by
                    unfold kd at h24
                    split at h24 <;> first | rfl | (exfalso; revert h24; decide)
                  subst h4
                  have h5 : c - 4 ≠ 7 := by
                    unfold kd at h24
                    split at h24 <;> first | (exfalso; revert h24; decide) | decide
                  congr 1
                  congr 1
                  congr 1
                  congr 1
                  congr 1
                  congr 1
                  congr 1
                  funext j
                  cases kP κ 4 i c j with
                  | none => rfl
                  | some q => exact congrArg some (h (c - 4, q, 0) (fun z => h5 (by injection z)))
                · split
                  · exact rcE_ad (fun q _ h7 => h q (fun z => h7 (by rw [z]))) _
                  · congr 1
                    congr 1
                    congr 1
                    congr 1
                    congr 1
                    congr 1
                    congr 1
                    funext j
                    split
                    · rw [h _ (fun z => by injection z with z; revert z; decide)]
                    · rfl
    · simp only [if_neg hl]
/-- 'new int[n]': at the temporary place -/
theorem J_newarr (O : CK l0 X B g cc own F L) (hKP : KPok B E) {n : Int32} (w1 : Cond.arrayClass .int ∈ gwl) (hn : ¬ n < 0) (hb : n.toNatClampNeg ≤ 100000000) (hlv : ∀ q ∈ lv, Stab E q.2) (hrs : ∀ v ∈ rest, Stab E v) (hd : decode cc pc = .ok (.newarray .int, 2)) (kk : J X B (E, addC (setT κ (some (n.toNatClampNeg, fun _ => 0))) 1 n.toNatClampNeg) (pc + 2) lv (.inr (some (7, 0, 0)) :: rest)) : J X B (E, κ) pc lv (.inl (.int n) :: rest) := by
  obtain ⟨OO, hB, hCst, hD⟩ := O
  obtain ⟨p, l, e, R, s, m, args, below, meth, c, Q⟩ := X
  obtain ⟨N, hN⟩ : ∃ N, N = n.toNatClampNeg := ⟨_, rfl⟩
  rw [← hN] at kk hb
  have c1 : B.2.2.2.2.1 (E, κ) = kC κ := by rw [hCst]
  have c2 : B.2.2.2.2.1 (E, addC (setT κ (some (N, fun _ => 0))) 1 N) = ((kC κ).1 + 1, (kC κ).2 + N) := by rw [hCst]; rfl
  have kk1 := kk.1
  rw [c2] at kk1
  dsimp only at kk1
  refine ⟨by rw [c1]; exact ⟨by omega, by omega⟩, fun fx ad H locs ls cells slots h1 h2 h3 h4 h5 => ?_⟩
  rw [c1] at h4 h5
  obtain ⟨hMO, hST, hSH, hF', hL', -⟩ := OO fx
  obtain ⟨hb1, hb2⟩ := hMO.2.2.2.2.2.2.2.2
  have hcb : componentBytes (newarray.typeOf .int) = 4 := by decide
  refine va_newaK hMO.1 hMO.2.1 (atype := .int) (hMO.2.2.2.2.1 _ w1) rfl hd rfl hn hN.symm (by rw [hcb]; omega) (by omega) (by omega) rfl fun H1 cA e1 z1 o1 hAr hNm => ?_
  have hcA : cA = g.2.1 0 := by
    have h9 : s.vm.findClass ("[" ++ FieldType.int.toString) = some (g.2.1 0) := (hMO.2.2.2.2.2.1.2 0 _ rfl).2
    exact Option.some.inj (hNm.symm.trans h9)
  subst hcA
  obtain ⟨ad', had⟩ : ∃ ad' : Pl → Nat, ad' = fun q => if q = (7, 0, 0) then H.size else ad q := ⟨_, rfl⟩
  have had7 : ad' (7, 0, 0) = H.size := by rw [had]; simp
  have hadn : ∀ q : Pl, q ≠ (7, 0, 0) → ad' q = ad q := fun q hq => by rw [had]; simp [hq]
  have hkeep : Keep E ad ad' := fun f i c hl _ => hadn _ (fun z => liveC_f7 hl (by injection z))
  have hst : (.inr (some (7, 0, 0)) :: rest : List AV).map (emb ad') = Value.ref H.size :: rest.map (emb ad) := by
    rw [List.map_cons, Stab_map hkeep hrs]
    show Value.ref (ad' (7, 0, 0)) :: _ = _
    rw [had7]
  have hW0 := h1.1
  rw [hB] at hW0
  have hlt : ∀ (q : Pl) (e : va_E), ctC g.2.1 g.2.2.1 ad (E, κ) q = some e → ad q < H.size := fun q e hq => (hW0.1 q e hq).1.lt
  have hold : ∀ (q : Pl) (e : va_E), q ≠ (7, 0, 0) → ctC g.2.1 g.2.2.1 ad' (E, addC (setT κ (some (N, fun _ => 0))) 1 N) q = some e → ctC g.2.1 g.2.2.1 ad (E, κ) q = some e := by
    intro q e hq h
    have h' : ctC g.2.1 g.2.2.1 ad' (E, setT κ (some (N, fun _ => 0))) q = some e := h
    rw [ctC_setT hq, ctC_ad rfl q hadn] at h'
    exact h'
  have hA0 : B.2.2.1 H.size := hMO.2.2.2.2.2.2.2.1 _ h2.1
  have hgo := kk.2 fx ad' H1 locs ls (cells + 1) (slots + N) ⟨?_, hKP ad ad' h1.2 hkeep⟩ ⟨Nat.le_trans h2.1 (by omega), fun q g1 g2 => (o1 q (Nat.lt_of_lt_of_le g1 h2.1)).trans (h2.2.1 q g1 g2), h2.2.2⟩ (by rw [Stab_mapl hkeep hlv]; exact h3) (by rw [c2]; show _ = (kC κ).1 + 1; omega) (by rw [c2]; show _ = (kC κ).2 + N; omega)
  · rw [hst] at hgo
    exact hgo
  · rw [hB]
    refine ⟨fun q e hq => ?_, fun q q' e e' hq hq' hqq => ?_⟩
    · by_cases h7 : q = (7, 0, 0)
      · subst h7
        have hq' : (some (.inl (g.2.1 0, N, .inl fun _ => 0)) : Option va_E) = some e := (ct_tmp (κ := addC (setT κ (some (N, fun _ => 0))) 1 N) rfl ad').symm.trans hq
        cases hq'
        rw [had7]
        exact ⟨e1, hA0⟩
      · have h8 := hold q e h7 hq
        rw [hadn q h7]
        exact ⟨(hW0.1 q e h8).1.kept (o1 _ (hlt q e h8)), (hW0.1 q e h8).2⟩
    · by_cases h7 : q = (7, 0, 0)
      · by_cases h7' : q' = (7, 0, 0)
        · rw [h7, h7']
        · have h8 := hlt q' e' (hold q' e' h7' hq')
          rw [h7, had7, hadn q' h7'] at hqq
          omega
      · by_cases h7' : q' = (7, 0, 0)
        · have h8 := hlt q e (hold q e h7 hq)
          rw [h7', had7, hadn q h7] at hqq
          omega
        · rw [hadn q h7, hadn q' h7'] at hqq
          exact hW0.2 q q' e e' (hold q e h7 hq) (hold q' e' h7' hq') hqq
/-- the places that a cell names are no rows, but for a row's own object -/
def chk (f c : Nat) : Bool := (List.range 42).all fun k =>
  (decide ((fsp (kd f c) k).1 ≠ 1) || decide (kd f (c + (fsp (kd f c) k).2.1) ≠ 21)) && (decide ((fsp (kd f c) k).1 ≠ 2) || decide (kd (fsp (kd f c) k).2.1 (fsp (kd f c) k).2.2 ≠ 21)) && (decide ((fsp (kd f c) k).1 ≠ 3) || decide (kd f (c + 3) ≠ 21))
theorem chk_ok : ((List.range 10).all fun f => (List.range 45).all fun c => decide (kd f c = 5) || chk f c) = true := by decide +kernel
theorem kd_small {f c : Nat} (h : kd f c < 99) : f < 10 ∧ c < 45 := by
  unfold kd at h
  split at h <;> first | (exact ⟨by decide, by decide⟩) | (exfalso; revert h; decide)
theorem nfl_le (k : Nat) : nfl k ≤ 42 := by
  unfold nfl
  split <;> decide
theorem chk_at {f c k : Nat} (h12 : kd f c < 12) (h5 : kd f c ≠ 5) (hk : k < nfl (kd f c)) : ((fsp (kd f c) k).1 = 1 → kd f (c + (fsp (kd f c) k).2.1) ≠ 21) ∧ ((fsp (kd f c) k).1 = 2 → kd (fsp (kd f c) k).2.1 (fsp (kd f c) k).2.2 ≠ 21) ∧ ((fsp (kd f c) k).1 = 3 → kd f (c + 3) ≠ 21) := by
  obtain ⟨hf, hc⟩ := kd_small (Nat.lt_trans h12 (by decide))
  have h1 := List.all_eq_true.mp (List.all_eq_true.mp chk_ok f (List.mem_range.mpr hf)) c (List.mem_range.mpr hc)
  simp only [Bool.or_eq_true, decide_eq_true_eq] at h1
  have h2 := List.all_eq_true.mp (h1.resolve_left h5) k (List.mem_range.mpr (Nat.lt_of_lt_of_le hk (nfl_le _)))
  simp only [Bool.and_eq_true, Bool.or_eq_true, decide_eq_true_eq, ne_eq] at h2
  exact ⟨fun h => h2.1.1.resolve_left (fun z => z h), fun h => h2.1.2.resolve_left (fun z => z h), fun h => h2.2.resolve_left (fun z => z h)⟩
/-- content depends on the map of addresses at places that are no rows, but for a row's own object -/
theorem ctC_adk {ca : Nat → ClassId} {e0 : Nat} {ad ad' : Pl → Nat} {f i c : Nat} (h : ∀ q : Pl, kd q.1 q.2.2 ≠ 21 → ad' q = ad q) (h5 : kd f c = 5 → ad' (f, i, c + 1) = ad (f, i, c + 1)) : ctC ca e0 ad' (E, κ) (f, i, c) = ctC ca e0 ad (E, κ) (f, i, c) := by
  unfold ctC
  by_cases h7 : f = 7
  · simp [h7]
  · simp only [if_neg h7]
    by_cases hl : liveC E f i c = true
    · simp only [if_pos hl]
      congr 1
      unfold cellE
      split
      · rename_i h12
        congr 2
        refine List.map_congr_left fun k hk => ?_
        have hk' := List.mem_range.mp hk
        by_cases hk5 : kd f c = 5
        · rw [hk5] at hk' ⊢
          match k, hk' with
          | 0, _ => exact congrArg Value.ref (h5 hk5)
          | 1, _ => rfl
        · obtain ⟨k1, k2, k3⟩ := chk_at h12 hk5 hk'
          generalize fsp (kd f c) k = sp at k1 k2 k3
          obtain ⟨t, a, b⟩ := sp
          match t, k1, k2, k3 with
          | 0, _, _, _ => rfl
          | 1, k1, _, _ => exact congrArg Value.ref (h (f, i, c + a) (k1 rfl))
          | 2, _, k2, _ =>
            simp only [avf]
            cases kP κ f i c k with
            | none => rfl
            | some j => exact congrArg Value.ref (h (a, j, b) (k2 rfl))
          | 3, _, _, k3 =>
            simp only [avf]
            split
            · rfl
            · exact congrArg Value.ref (h (f, i, c + 3) (k3 rfl))
          | t + 4, _, _, _ => rfl
      · split
        · rfl
        · split
          · rfl
          · split
            · rfl
            · split
              · rfl
              · split
                · rename_i h24
                  have h4 : kd (c - 4) 0 ≠ 21 := by
                    unfold kd at h24
                    split at h24 <;> first | (exfalso; revert h24; decide) | decide
                  congr 7
                  funext j
                  cases kP κ f i c j with
                  | none => rfl
                  | some q => exact congrArg some (h (c - 4, q, 0) h4)
                · split
                  · exact rcE_ad (fun q h21 _ => h q h21) _
                  · congr 7
                    funext j
                    split
                    · rw [h _ (by decide : kd 2 0 ≠ 21)]
                    · rfl
    · simp only [if_neg hl]
end ALLOC
