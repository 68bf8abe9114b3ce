/-! MORE ROWS: arrays that are made while a row of numbers is held; lists -/
section MORE24
variable {l0 : Launch} {X : MX} {B : BX (EE × K)} {g : GP} {cc : ByteArray} {own : String} {F L : Nat} {E : EE} {κ : K} {pc : Nat} {lv : List (Nat × AV)} {rest : List AV}
def St7 (v : AV) : Prop := v ≠ .inr (some (7, 0, 0))
theorem St7_emb {ad ad' : Pl → Nat} (h : ∀ q : Pl, q ≠ (7, 0, 0) → ad' q = ad q) {v : AV} (hv : St7 v) : emb ad' v = emb ad v := by
  match v, hv with
  | .inl _, _ => rfl
  | .inr none, _ => rfl
  | .inr (some q), hv => exact congrArg Value.ref (h q (fun z => hv (by rw [z])))
theorem St7_map {ad ad' : Pl → Nat} (h : ∀ q : Pl, q ≠ (7, 0, 0) → ad' q = ad q) {st : List AV} (hs : ∀ v ∈ st, St7 v) : st.map (emb ad') = st.map (emb ad) := List.map_congr_left fun v hv => St7_emb h (hs v hv)
theorem St7_mapl {ad ad' : Pl → Nat} (h : ∀ q : Pl, q ≠ (7, 0, 0) → ad' q = ad q) {lv : List (Nat × AV)} (hs : ∀ q ∈ lv, St7 q.2) : lv.map (eml ad') = lv.map (eml ad) := List.map_congr_left fun q hq => by show (q.1, _) = (q.1, _); rw [St7_emb h (hs q hq)]
theorem t7_0 : ∀ v ∈ ([] : List AV), St7 v := fun _ h => absurd h List.not_mem_nil
theorem t7_v {w : Value} {l : List AV} (h : ∀ v ∈ l, St7 v) : ∀ v ∈ (.inl w :: l : List AV), St7 v := fun v hv => (List.mem_cons.mp hv).elim (fun e => by rw [e]; intro z; cases z) (h v)
theorem t7_n {l : List AV} (h : ∀ v ∈ l, St7 v) : ∀ v ∈ (.inr none :: l : List AV), St7 v := fun v hv => (List.mem_cons.mp hv).elim (fun e => by rw [e]; intro z; cases z) (h v)
theorem t7_p {f i c : Nat} {l : List AV} (hw : liveC E f i c = true) (h : ∀ v ∈ l, St7 v) : ∀ v ∈ (.inr (some (f, i, c)) :: l : List AV), St7 v := fun v hv => (List.mem_cons.mp hv).elim (fun e => by rw [e]; intro z; injection z with z; injection z with z; injection z with z; exact liveC_f7 hw z) (h v)
theorem u7_0 : ∀ q ∈ ([] : List (Nat × AV)), St7 q.2 := fun _ h => absurd h List.not_mem_nil
theorem u7_v {i : Nat} {w : Value} {l : List (Nat × AV)} (h : ∀ q ∈ l, St7 q.2) : ∀ q ∈ ((i, .inl w) :: l : List (Nat × AV)), St7 q.2 := fun v hv => (List.mem_cons.mp hv).elim (fun e => by rw [e]; intro z; cases z) (h v)
theorem u7_n {i : Nat} {l : List (Nat × AV)} (h : ∀ q ∈ l, St7 q.2) : ∀ q ∈ ((i, .inr none) :: l : List (Nat × AV)), St7 q.2 := fun v hv => (List.mem_cons.mp hv).elim (fun e => by rw [e]; intro z; cases z) (h v)
theorem u7_p {i f j c : Nat} {l : List (Nat × AV)} (hw : liveC E f j c = true) (h : ∀ q ∈ l, St7 q.2) : ∀ q ∈ ((i, .inr (some (f, j, c))) :: l : List (Nat × AV)), St7 q.2 := fun v hv => (List.mem_cons.mp hv).elim (fun e => by rw [e]; intro z; injection z with z; injection z with z; injection z with z; exact liveC_f7 hw z) (h v)
/-- 'new int[n]': at the temporary place -/
theorem J_newarr7 (O : CK l0 X B g cc own F L) (hKP : KPok B E) {n : Int32} (w1 : Cond.arrayClass .int ∈ gwl) (hn : ¬ n < 0) (hb : n.toNatClampNeg ≤ 100000000) (hlv : ∀ q ∈ lv, St7 q.2) (hrs : ∀ v ∈ rest, St7 v) (hd : decode cc pc = .ok (.newarray .int, 2)) (kk : J X B (E, addC (setT κ (some (n.toNatClampNeg, fun _ => 0))) 1 n.toNatClampNeg) (pc + 2) lv (.inr (some (7, 0, 0)) :: rest)) : J X B (E, κ) pc lv (.inl (.int n) :: rest) := by
  obtain ⟨OO, hB, hCst, hD⟩ := O
  obtain ⟨p, l, e, R, s, m, args, below, meth, c, Q⟩ := X
  obtain ⟨N, hN⟩ : ∃ N, N = n.toNatClampNeg := ⟨_, rfl⟩
  rw [← hN] at kk hb
  have c1 : B.2.2.2.2.1 (E, κ) = kC κ := by rw [hCst]
  have c2 : B.2.2.2.2.1 (E, addC (setT κ (some (N, fun _ => 0))) 1 N) = ((kC κ).1 + 1, (kC κ).2 + N) := by rw [hCst]; rfl
  have kk1 := kk.1
  rw [c2] at kk1
  dsimp only at kk1
  refine ⟨by rw [c1]; exact ⟨by omega, by omega⟩, fun fx ad H locs ls cells slots h1 h2 h3 h4 h5 => ?_⟩
  rw [c1] at h4 h5
  obtain ⟨hMO, hST, hSH, hF', hL', -⟩ := OO fx
  obtain ⟨hb1, hb2⟩ := hMO.2.2.2.2.2.2.2.2
  have hcb : componentBytes (newarray.typeOf .int) = 4 := by decide
  refine va_newaK hMO.1 hMO.2.1 (atype := .int) (hMO.2.2.2.2.1 _ w1) rfl hd rfl hn hN.symm (by rw [hcb]; omega) (by omega) (by omega) rfl fun H1 cA e1 z1 o1 hAr hNm => ?_
  have hcA : cA = g.2.1 0 := by
    have h9 : s.vm.findClass ("[" ++ FieldType.int.toString) = some (g.2.1 0) := (hMO.2.2.2.2.2.1.2 0 _ rfl).2
    exact Option.some.inj (hNm.symm.trans h9)
  subst hcA
  obtain ⟨ad', had⟩ : ∃ ad' : Pl → Nat, ad' = fun q => if q = (7, 0, 0) then H.size else ad q := ⟨_, rfl⟩
  have had7 : ad' (7, 0, 0) = H.size := by rw [had]; simp
  have hadn : ∀ q : Pl, q ≠ (7, 0, 0) → ad' q = ad q := fun q hq => by rw [had]; simp [hq]
  have hkeep : Keep E ad ad' := fun f i c hl _ => hadn _ (fun z => liveC_f7 hl (by injection z))
  have hst : (.inr (some (7, 0, 0)) :: rest : List AV).map (emb ad') = Value.ref H.size :: rest.map (emb ad) := by
    rw [List.map_cons, St7_map hadn hrs]
    show Value.ref (ad' (7, 0, 0)) :: _ = _
    rw [had7]
  have hW0 := h1.1
  rw [hB] at hW0
  have hlt : ∀ (q : Pl) (e : va_E), ctC g.2.1 g.2.2.1 ad (E, κ) q = some e → ad q < H.size := fun q e hq => (hW0.1 q e hq).1.lt
  have hold : ∀ (q : Pl) (e : va_E), q ≠ (7, 0, 0) → ctC g.2.1 g.2.2.1 ad' (E, addC (setT κ (some (N, fun _ => 0))) 1 N) q = some e → ctC g.2.1 g.2.2.1 ad (E, κ) q = some e := by
    intro q e hq h
    have h' : ctC g.2.1 g.2.2.1 ad' (E, setT κ (some (N, fun _ => 0))) q = some e := h
    rw [ctC_setT hq, ctC_ad rfl q hadn] at h'
    exact h'
  have hA0 : B.2.2.1 H.size := hMO.2.2.2.2.2.2.2.1 _ h2.1
  have hgo := kk.2 fx ad' H1 locs ls (cells + 1) (slots + N) ⟨?_, hKP ad ad' h1.2 hkeep⟩ ⟨Nat.le_trans h2.1 (by omega), fun q g1 g2 => (o1 q (Nat.lt_of_lt_of_le g1 h2.1)).trans (h2.2.1 q g1 g2), h2.2.2⟩ (by rw [St7_mapl hadn hlv]; exact h3) (by rw [c2]; show _ = (kC κ).1 + 1; omega) (by rw [c2]; show _ = (kC κ).2 + N; omega)
  · rw [hst] at hgo
    exact hgo
  · rw [hB]
    refine ⟨fun q e hq => ?_, fun q q' e e' hq hq' hqq => ?_⟩
    · by_cases h7 : q = (7, 0, 0)
      · subst h7
        have hq' : (some (.inl (g.2.1 0, N, .inl fun _ => 0)) : Option va_E) = some e := (ct_tmp (κ := addC (setT κ (some (N, fun _ => 0))) 1 N) rfl ad').symm.trans hq
        cases hq'
        rw [had7]
        exact ⟨e1, hA0⟩
      · have h8 := hold q e h7 hq
        rw [hadn q h7]
        exact ⟨(hW0.1 q e h8).1.kept (o1 _ (hlt q e h8)), (hW0.1 q e h8).2⟩
    · by_cases h7 : q = (7, 0, 0)
      · by_cases h7' : q' = (7, 0, 0)
        · rw [h7, h7']
        · have h8 := hlt q' e' (hold q' e' h7' hq')
          rw [h7, had7, hadn q' h7'] at hqq
          omega
      · by_cases h7' : q' = (7, 0, 0)
        · have h8 := hlt q e (hold q e h7 hq)
          rw [h7', had7, hadn q h7] at hqq
          omega
        · rw [hadn q h7, hadn q' h7'] at hqq
          exact hW0.2 q q' e e' (hold q e h7 hq) (hold q' e' h7' hq') hqq
theorem live_24 {c : Nat} (h : PC 10 E 4 0 0) (hz : ¬ cnt4 E c = 0) (hc : c = 1 ∨ c = 2) : liveC E 4 0 (c + 3) = true := by
  have h1 : 0 < cntE E 4 := h.1
  unfold liveC
  simp only [Bool.and_eq_true, Bool.or_eq_true, decide_eq_true_eq]
  refine ⟨⟨h1, ?_, by rcases hc with rfl | rfl <;> decide⟩, Or.inr ?_⟩
  · show c + 3 < 6
    omega
  · rw [Nat.add_sub_cancel]; omega
theorem st_24 {c : Nat} (h : PC 10 E 4 0 0) (hz : ¬ cnt4 E c = 0) (hc : c = 1 ∨ c = 2) : Stab E (.inr (some (4, 0, c + 3))) := ⟨live_24 h hz hc, by rcases hc with rfl | rfl <;> decide⟩
theorem ct_24 {ca : Nat → ClassId} {e0 : Nat} {c : Nat} (hl : liveC E 4 0 (c + 3) = true) (hc : c = 1 ∨ c = 2) (ad : Pl → Nat) : ctC ca e0 ad (E, κ) (4, 0, c + 3) = some (.inl (ca 3, 10, .inr (.inr (.inr (.inr fun j => (kP κ 4 0 (c + 3) j).map fun q => ad (c - 1, q, 0)))))) := by
  rw [ctC_live hl]
  rcases hc with rfl | rfl <;> rfl
/-- an element of a list's own array -/
theorem J_aaldL {ca : Nat → ClassId} {e0 : Nat} (O : CO X B ca e0 cc own) {c : Nat} (hl : liveC E 4 0 (c + 3) = true) (hc : c = 1 ∨ c = 2) {j : Int32} (hj : vp_in j 10) {v : AV} (hv : (.inr ((kP κ 4 0 (c + 3) j.toNatClampNeg).map fun q => (c - 1, q, 0)) : AV) = v) (hd : decode cc pc = .ok (.aaload, 1)) (kk : J X B (E, κ) (pc + 1) lv (v :: rest)) : J X B (E, κ) pc lv (.inl (.int j) :: .inr (some (4, 0, c + 3)) :: rest) := by
  subst hv
  obtain ⟨OO, hB, hCst⟩ := O
  obtain ⟨p0, l, e, R, s, m, args, below, meth, c0, Q⟩ := X
  refine ⟨kk.1, fun fx ad H locs ls cells slots h1 h2 h3 h4 h5 => ?_⟩
  have O1 := OO fx
  refine va_aldq O1.1 O1.2.1 O1.2.2.2.2.2.1 (va_P1 (h1.1.at hB (ct_24 hl hc ad)).1) 0 3 rfl rfl hj hd ?_
  have e9 : va_rf ((kP κ 4 0 (c + 3) j.toNatClampNeg).map fun q => ad (c - 1, q, 0)) = emb ad (.inr ((kP κ 4 0 (c + 3) j.toNatClampNeg).map fun q => (c - 1, q, 0))) := by
    cases kP κ 4 0 (c + 3) j.toNatClampNeg <;> rfl
  rw [e9]
  exact kk.2 fx ad H locs ls cells slots h1 h2 h3 h4 h5
end MORE24
