section THROW
variable {l0 : Launch} {X : MX} {B : BX (EE × K)} {g : GP} {cc : ByteArray} {own : String} {F L : Nat} {E E' : EE} {κ κ' : K} {pc : Nat} {lv : List (Nat × AV)} {st0 rest as : List AV}
def thrN : List String := ["java/lang/RuntimeException", "java/lang/Exception"]
theorem J_throw (O : CK l0 X B g cc "GuestHall" F L) {cls : String} (hX : QXH X B g (E, addC κ 1 6) (.inr cls)) {ik is ic : Nat} {text : String} (hcls : Bundle.fit cls = true) (w1 : Cond.classLink "GuestHall" ik cls ∈ gwl) (w2 : Cond.initialized cls ∈ gwl) (hstr : (is, text) ∈ strs) (hat : ∀ w ∈ vx_atS "GuestHall" ic cls thrN, w ∈ gwl ∨ w ∈ nwl) (hF : 5 < F) (hL : rest.length + 82 ≤ L) (hrc : rest.all cat1 = true)
    (d0 : decode cc pc = .ok (.new ik, 3)) (d3 : decode cc (pc + 3) = .ok (.dup, 1)) (d4 : decode cc (pc + 4) = .ok (.ldc is, 2)) (d6 : decode cc (pc + 6) = .ok (.invokespecial ic, 3)) (d9 : decode cc (pc + 9) = .ok (.athrow, 1)) : J X B (E, κ) pc lv rest := by
  obtain ⟨ad0, x0, sz, ret, hA, hKP, hnf, hn0, hQ⟩ := hX
  obtain ⟨OO, hB, hCst, hD⟩ := O
  obtain ⟨p, l, e, R, s, m, args, below, meth, c, Q⟩ := X
  have c1 : B.2.2.2.2.1 (E, κ) = kC κ := by rw [hCst]
  have hnf' : B.2.2.2.2.2.2.1 = ((kC κ).1 + 1, (kC κ).2 + 6) := hnf
  refine ⟨by rw [c1, hnf']; exact ⟨Nat.le_succ _, Nat.le_add_right _ _⟩, fun fx ad H locs ls cells slots h1 h2 h3 h4 h5 => ?_⟩
  rw [c1] at h4 h5
  obtain ⟨O1, hST, hSH, hF', hL', hl0, hfl⟩ := OO fx
  obtain ⟨hQ1, hr, hsz, hxt⟩ := hQ fx
  obtain ⟨hb1, hb2⟩ := O1.2.2.2.2.2.2.2.2
  rw [hnf'] at hb1 hb2
  dsimp only at hb1 hb2
  subst hl0; subst hQ1
  obtain ⟨sa, hsa⟩ := hST.2.1 _ hstr
  have hw : ∀ w, w ∈ gwl ∨ w ∈ nwl → w.before args s = true ∧ vx_ot w = true := by
    intro w h
    rcases h with h | h
    · exact ⟨O1.2.2.2.2.1 w h, by unfold vx_ot; rw [(List.mem_filter.mp h).2, Bool.or_true]⟩
    · have h8 := (List.mem_filter.mp h).2
      have h9 : w.onTables = true := by cases w <;> first | (simp [isN] at h8; done) | rfl
      exact ⟨va_Nw.use h9 (hST.1 w h), by unfold vx_ot; rw [h9, Bool.true_or]⟩
  have hgood : ∀ w ∈ Cond.classLink "GuestHall" ik cls :: Cond.initialized cls :: vx_atS "GuestHall" ic cls thrN, vx_ot w = true := by
    intro w h
    rcases List.mem_cons.mp h with rfl | h
    · exact (hw _ (Or.inl w1)).2
    · rcases List.mem_cons.mp h with rfl | h
      · exact (hw _ (Or.inl w2)).2
      · exact (hw _ (hat w h)).2
  refine vx_throwS (names := thrN) (A := B.2.2.1) (sa := sa) O1.1 O1.2.1 hfl O1.2.2.2.1 hcls (by decide +kernel) (O1.2.2.2.2.1 _ w1) (O1.2.2.2.2.1 _ w2) hsa (fun w h => (hw _ (hat w h)).1) hgood hSH.2.2.2.2.2.2.1 hSH.2.2.2.2.2.2.2 h2 (by rw [O1.2.2.1, h3.1]) d0 d3 d4 d6 d9 (fun x hx => (hxt x hx).elim) (by rw [hF']; exact hF) (by rw [cat_sum ad rest hrc, hL']; exact hL) (by omega) (by omega) O1.2.2.2.2.2.2.1 (fun t hal hz hk => ?_) (fun z hz => by rw [← hA]; exact h2.2.2 z hz) (by omega) (by omega)
  have hW := h1.1
  have hKP1 := h1.2
  rw [hKP] at hKP1
  refine ⟨rfl, ⟨ad, hKP1, ?_⟩, Nat.le_trans h2.1 hz, fun q g1 g2 => ?_⟩
  · rw [hB, hD, hA] at hW
    exact ⟨fun q e hq => ⟨((hW.1 q e hq).1).kept (hk _ (hW.1 q e hq).1.lt), (hW.1 q e hq).2⟩, hW.2⟩
  · rw [hk q (Nat.lt_of_lt_of_le g1 h2.1)]
    exact h2.2.1 q g1 (by rw [hA]; exact g2)
theorem J_throwW (O : CK l0 X B g cc "GuestHall" F L) {cls : String} (hX : QXH X B g (E, addC κ 1 6) (.inr cls)) {ik is ic : Nat} {text : String} (hcls : Bundle.fit cls = true) (w1 : Cond.classLink "GuestHall" ik cls ∈ gwl) (w2 : Cond.initialized cls ∈ gwl) (hstr : (is, text) ∈ strs) (hat : ∀ w ∈ vx_atS "GuestHall" ic cls thrN, w ∈ gwl ∨ w ∈ nwl) (hF : 5 < F) (hL : rest.length + 82 ≤ L) (hrc : rest.all cat1 = true)
    (d0 : decode cc pc = .ok (.new ik, 3)) (d3 : decode cc (pc + 3) = .ok (.dup, 1)) (d4 : decode cc (pc + 4) = .ok (.ldc_w is, 3)) (d6 : decode cc (pc + 7) = .ok (.invokespecial ic, 3)) (d9 : decode cc (pc + 10) = .ok (.athrow, 1)) : J X B (E, κ) pc lv rest := by
  obtain ⟨ad0, x0, sz, ret, hA, hKP, hnf, hn0, hQ⟩ := hX
  obtain ⟨OO, hB, hCst, hD⟩ := O
  obtain ⟨p, l, e, R, s, m, args, below, meth, c, Q⟩ := X
  have c1 : B.2.2.2.2.1 (E, κ) = kC κ := by rw [hCst]
  have hnf' : B.2.2.2.2.2.2.1 = ((kC κ).1 + 1, (kC κ).2 + 6) := hnf
  refine ⟨by rw [c1, hnf']; exact ⟨Nat.le_succ _, Nat.le_add_right _ _⟩, fun fx ad H locs ls cells slots h1 h2 h3 h4 h5 => ?_⟩
  rw [c1] at h4 h5
  obtain ⟨O1, hST, hSH, hF', hL', hl0, hfl⟩ := OO fx
  obtain ⟨hQ1, hr, hsz, hxt⟩ := hQ fx
  obtain ⟨hb1, hb2⟩ := O1.2.2.2.2.2.2.2.2
  rw [hnf'] at hb1 hb2
  dsimp only at hb1 hb2
  subst hl0; subst hQ1
  obtain ⟨sa, hsa⟩ := hST.2.1 _ hstr
  have hw : ∀ w, w ∈ gwl ∨ w ∈ nwl → w.before args s = true ∧ vx_ot w = true := by
    intro w h
    rcases h with h | h
    · exact ⟨O1.2.2.2.2.1 w h, by unfold vx_ot; rw [(List.mem_filter.mp h).2, Bool.or_true]⟩
    · have h8 := (List.mem_filter.mp h).2
      have h9 : w.onTables = true := by cases w <;> first | (simp [isN] at h8; done) | rfl
      exact ⟨va_Nw.use h9 (hST.1 w h), by unfold vx_ot; rw [h9, Bool.true_or]⟩
  have hgood : ∀ w ∈ Cond.classLink "GuestHall" ik cls :: Cond.initialized cls :: vx_atS "GuestHall" ic cls thrN, vx_ot w = true := by
    intro w h
    rcases List.mem_cons.mp h with rfl | h
    · exact (hw _ (Or.inl w1)).2
    · rcases List.mem_cons.mp h with rfl | h
      · exact (hw _ (Or.inl w2)).2
      · exact (hw _ (hat w h)).2
  refine vx_throwSW (names := thrN) (A := B.2.2.1) (sa := sa) O1.1 O1.2.1 hfl O1.2.2.2.1 hcls (by decide +kernel) (O1.2.2.2.2.1 _ w1) (O1.2.2.2.2.1 _ w2) hsa (fun w h => (hw _ (hat w h)).1) hgood hSH.2.2.2.2.2.2.1 hSH.2.2.2.2.2.2.2 h2 (by rw [O1.2.2.1, h3.1]) d0 d3 d4 d6 d9 (fun x hx => (hxt x hx).elim) (by rw [hF']; exact hF) (by rw [cat_sum ad rest hrc, hL']; exact hL) (by omega) (by omega) O1.2.2.2.2.2.2.1 (fun t hal hz hk => ?_) (fun z hz => by rw [← hA]; exact h2.2.2 z hz) (by omega) (by omega)
  have hW := h1.1
  have hKP1 := h1.2
  rw [hKP] at hKP1
  refine ⟨rfl, ⟨ad, hKP1, ?_⟩, Nat.le_trans h2.1 hz, fun q g1 g2 => ?_⟩
  · rw [hB, hD, hA] at hW
    exact ⟨fun q e hq => ⟨((hW.1 q e hq).1).kept (hk _ (hW.1 q e hq).1.lt), (hW.1 q e hq).2⟩, hW.2⟩
  · rw [hk q (Nat.lt_of_lt_of_le g1 h2.1)]
    exact h2.2.1 q g1 (by rw [hA]; exact g2)
/-- a call that may throw; what is thrown goes on to the caller's caller -/
theorem J_coreX (O : CK l0 X B g cc own F L) (hKP : KPok B E) {r : Option AV ⊕ String} (hmono : (kC κ).1 ≤ (kC κ').1 ∧ (kC κ).2 ≤ (kC κ').2) (hlv : ∀ q ∈ lv, Stab E q.2) (hrs : ∀ v ∈ rest, Stab E v)
    (hrun : ∀ (p : Program) (l : Launch) (e : Env) (R : Room) (s : State) (m : MethodId) (args : Array Value) (below : List Frame) (meth : Method) (c : Code) (Q : State → Prop), X = (p, l, e, R, s, m, args, below, meth, c, Q) → CX l0 X B g cc own F L →
      ∀ (ad : Pl → Nat) (H : Heap) (locs : List Loc) (ls : Array Slot) (cells slots : Nat), Wd B.1 B.2.1 B.2.2.1 ad (E, κ) H → va_S B.2.2.1 s.heap H locs → ls.size = B.2.2.2.1 → cells + ((kC κ').1 - (kC κ).1) ≤ R.cells → slots + ((kC κ').2 - (kC κ).2) ≤ R.slots →
      ∃ a : Array Value, vx_Run p l e R s m args below meth c H locs cells slots ((kC κ').1 - (kC κ).1) ((kC κ').2 - (kC κ).2) (F0 m pc ls (st0.map (emb ad))) (rest.map (emb ad)) (QcX g ad (E, κ) H.size (E', κ') r a) (XcX g ad (E, κ) H.size (E', κ') r) (Aof g ad (E, κ) H.size))
    (kx : ∀ s : String, r = .inr s → QXH X B g (E', κ') (.inr s))
    (kk : ∀ v : Option AV, r = .inl v → J X B (E', κ') (pc + 3) lv (v.toList ++ rest)) : J X B (E, κ) pc lv st0 := by
  obtain ⟨OO, hB, hCst, hD⟩ := O
  obtain ⟨p, l, e, R, s, m, args, below, meth, c, Q⟩ := X
  have c1 : B.2.2.2.2.1 (E, κ) = kC κ := by rw [hCst]
  have c2 : B.2.2.2.2.1 (E', κ') = kC κ' := by rw [hCst]
  have kk1 : (kC κ').1 ≤ B.2.2.2.2.2.2.1.1 ∧ (kC κ').2 ≤ B.2.2.2.2.2.2.1.2 := by
    cases r with
    | inl v => have h := (kk v rfl).1; rw [c2] at h; exact h
    | inr z => obtain ⟨_, _, _, _, _, _, h, -⟩ := kx z rfl; rw [h]; exact ⟨Nat.le_refl _, Nat.le_refl _⟩
  refine ⟨by rw [c1]; exact ⟨Nat.le_trans hmono.1 kk1.1, Nat.le_trans hmono.2 kk1.2⟩, fun fx ad H locs ls cells slots h1 h2 h3 h4 h5 => ?_⟩
  rw [c1] at h4 h5
  have O1 := OO fx
  obtain ⟨hb1, hb2⟩ := O1.1.2.2.2.2.2.2.2.2
  obtain ⟨a, hr⟩ := hrun p l e R s m args below meth c Q rfl O1 ad H locs ls cells slots h1.1 h2 h3.1 (by have := kk1.1; omega) (by have := kk1.2; omega)
  have hW0 : Wd g.1 (ctC g.2.1 g.2.2.1) B.2.2.1 ad (E, κ) H := by rw [← hD, ← hB]; exact h1.1
  have hsub := Aof.sub hW0 h2.1 O1.1.2.2.2.2.2.2.2.1
  intro T hT X0
  rcases hr T hT X0 with ⟨v, st₀, t, T', Ls, h0, X', hL, e1, e2, hQr, hst⟩ | ⟨q, st₀, t, T', Ls, En, ce, h0, X', hL, e1, e2, hXr, hce, hcv, hcl, hst⟩
  · cases r with
    | inr _ => exact hQr.elim
    | inl r =>
      obtain ⟨⟨ad', hkeep, hv, hW'⟩, hz, hk⟩ := hQr
      have hv' : v = r.map (emb ad') := by injection hv
      subst hv'
      rw [h0] at hz hk
      have hS' : va_S B.2.2.1 s.heap T'.heap (locs ++ Ls) := ⟨Nat.le_trans h2.1 (by rw [e1]; exact hz), fun q g1 g2 => by rw [e1, hk q (Nat.lt_of_lt_of_le g1 h2.1) (fun z => g2 (hsub q z))]; exact h2.2.1 q g1 g2, fun q hq => by
        rcases List.mem_append.mp hq with h | h
        · exact h2.2.2 q h
        · exact hsub _ (hL q h)⟩
      have hmap : (r.toList ++ rest).map (emb ad') = (r.map (emb ad')).toList ++ rest.map (emb ad) := by
        rw [List.map_append, Stab_map hkeep hrs]
        cases r <;> rfl
      have hW2 : Wd B.1 B.2.1 B.2.2.1 ad' (E', κ') T'.heap := by rw [hD, hB, e1]; exact hW'.wide hsub
      have hgo := (kk r rfl).2 fx ad' T'.heap (locs ++ Ls) ls (cells + ((kC κ').1 - (kC κ).1)) (slots + ((kC κ').2 - (kC κ).2)) ⟨hW2, hKP ad ad' h1.2 hkeep⟩ hS' (by rw [Stab_mapl hkeep hlv]; exact h3) (by rw [c2]; have := hmono.1; omega) (by rw [c2]; have := hmono.2; omega)
      rw [hmap] at hgo
      obtain ⟨t2, a1, b1⟩ := hgo T' rfl X'
      exact ⟨t2, hst t2 a1, b1⟩
  · cases r with
    | inl _ => exact hXr.elim
    | inr z =>
      obtain ⟨rfl, ⟨ad', hkeep, hW'⟩, hz, hk⟩ := hXr
      obtain ⟨ad0, x0, sz, ret, hA, hKPe, hnf, hn0, hQ⟩ := kx En rfl
      obtain ⟨hQ1, hrr, hsz, hxt⟩ := hQ fx
      rw [h0] at hz hk
      have hS' : va_S B.2.2.1 s.heap T'.heap (locs ++ Ls) := ⟨Nat.le_trans h2.1 (by rw [e1]; exact hz), fun q g1 g2 => by rw [e1, hk q (Nat.lt_of_lt_of_le g1 h2.1) (fun z => g2 (hsub q z))]; exact h2.2.1 q g1 g2, fun q hq => by
        rcases List.mem_append.mp hq with h | h
        · exact h2.2.2 q h
        · exact hsub _ (hL q h)⟩
      have hKP2 := hKP ad ad' h1.2 hkeep
      rw [hKPe] at hKP2
      have hm1 := hmono.1
      have hm2 := hmono.2
      rw [hnf] at hb1 hb2
      dsimp only at hb1 hb2
      subst hQ1
      have hout := vx_out (p := p) (l := l) (e := e) (R := R) (s := s) (m := m) (args := args) (below := below) (meth := meth) (c := c) (H := T'.heap) (locs := locs ++ Ls) (cells := cells + ((kC κ').1 - (kC κ).1)) (slots := slots + ((kC κ').2 - (kC κ).2)) (Qc := QcX g ad0 x0 sz (E', κ') (.inr En)) (XC := XcX g ad0 x0 sz (E', κ') (.inr En)) (ls := ls) (rest := rest.map (emb ad)) (free := Aof g ad0 x0 sz) (mc := R.cells) (ms := R.slots) (pc := pc) (E := En) (ce := ce) (q := q)
        (fun x hx => (hxt x hx).elim) O1.1.2.2.2.2.2.2.1 (by rw [e1]; exact hce) hcv hcl
        (fun t9 ht9 _ => ⟨rfl, ⟨ad', hKP2, by
            have h9 := hW'.wide hsub
            rw [hA] at h9
            rw [ht9, e1]
            exact h9⟩, by rw [← hA]; exact va_S.F hS' ht9⟩)
        (fun z hz => by rw [← hA]; exact hS'.2.2 z hz) (by omega) (by omega)
      obtain ⟨t2, a1, b1⟩ := hout T' rfl X'
      exact ⟨t2, hst.trans a1, b1⟩
end THROW
