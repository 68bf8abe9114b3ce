/-! TWO NEW HALLS, and the law's row -/
/-- a value that is not of the hall h -/
def NotH (h : Nat) : AV → Prop
  | .inr (some p) => p.1 % 3 ≠ h
  | _ => True
/-- .. or is a place of it that stays -/
def StH (h : Nat) (E : EE) (v : AV) : Prop := NotH h v ∨ ∃ w, Stab E w ∧ v = shA h w
theorem NotH_emb {h : Nat} {ad ad' : Pl → Nat} {v : AV} (hv : NotH h v) : emb (adU h ad ad') v = emb ad v := by
  match v, hv with
  | .inl _, _ => rfl
  | .inr none, _ => rfl
  | .inr (some p), hv => exact congrArg Value.ref (if_neg hv)
theorem StH_emb {h : Nat} (hh : h < 2) {E : EE} {ad ad' : Pl → Nat} (hk : Keep E (adH h ad) ad') {v : AV} (hv : StH h E v) : emb (adU h ad ad') v = emb ad v := by
  rcases hv with hv | ⟨w, hw, rfl⟩
  · exact NotH_emb hv
  · rw [← emb_sh, adU_h hh, Stab_emb hk hw, emb_sh]
theorem StH_map {h : Nat} (hh : h < 2) {E : EE} {ad ad' : Pl → Nat} (hk : Keep E (adH h ad) ad') {st : List AV} (h1 : ∀ v ∈ st, StH h E v) : st.map (emb (adU h ad ad')) = st.map (emb ad) :=
  List.map_congr_left fun v hv => StH_emb hh hk (h1 v hv)
theorem StH_mapl {h : Nat} (hh : h < 2) {E : EE} {ad ad' : Pl → Nat} (hk : Keep E (adH h ad) ad') {lv : List (Nat × AV)} (h1 : ∀ q ∈ lv, StH h E q.2) : lv.map (eml (adU h ad ad')) = lv.map (eml ad) :=
  List.map_congr_left fun q hq => by show (q.1, _) = (q.1, _); rw [StH_emb hh hk (h1 q hq)]
section NEWM
variable {l0 : Launch} {X : MX} {B : BX S2} {g : GP} {cc : ByteArray} {own : String} {F L : Nat} {s2 : S2} {h : Nat} {x' y : EE × K} {E : EE} {κ : K} {pc : Nat} {lv : List (Nat × AV)} {st0 rest as : List AV} {r : Option AV}
/-- what a call upon one hall leaves -/
theorem J_core1G (O : CKM l0 X B g cc own F L) (hKP : ∀ ad : Pl → Nat, B.2.2.2.2.2.2.2.1 ad) (hh : h < 2) (hr0 : numR r) (hc : Cov x' y) (hmono : (kC (s2.1 h).2).1 ≤ (kC x'.2).1 ∧ (kC (s2.1 h).2).2 ≤ (kC x'.2).2) (hlv : ∀ q ∈ lv, StH h (s2.1 h).1 q.2) (hrs : ∀ v ∈ rest, StH h (s2.1 h).1 v)
    (hrun : ∀ (p : Program) (l : Launch) (e : Env) (R : Room) (s : State) (m : MethodId) (args : Array Value) (below : List Frame) (meth : Method) (c : Code) (Q : State → Prop), X = (p, l, e, R, s, m, args, below, meth, c, Q) → CXM l0 X B g cc own F L →
      ∀ (ad : Pl → Nat) (H : Heap) (locs : List Loc) (ls : Array Slot) (cells slots : Nat), Wd B.1 B.2.1 B.2.2.1 ad s2 H → va_S B.2.2.1 s.heap H locs → ls.size = B.2.2.2.1 → cells + ((kC x'.2).1 - (kC (s2.1 h).2).1) ≤ R.cells → slots + ((kC x'.2).2 - (kC (s2.1 h).2).2) ≤ R.slots →
      ∃ a : Array Value, va_Run p l e R s m args below meth c H locs cells slots ((kC x'.2).1 - (kC (s2.1 h).2).1) ((kC x'.2).2 - (kC (s2.1 h).2).2) (F0 m pc ls (st0.map (emb ad))) (rest.map (emb ad)) (QcC g (adH h ad) (s2.1 h) H.size x' r a) (Aof g (adH h ad) (s2.1 h) H.size))
    (kk : J X B (upH s2 h y ((kC x'.2).1 - (kC (s2.1 h).2).1) ((kC x'.2).2 - (kC (s2.1 h).2).2)) (pc + 3) lv (r.toList ++ rest)) : J X B s2 pc lv st0 := by
  obtain ⟨OO, hB, hCst, hD⟩ := O
  obtain ⟨p, l, e, R, s, m, args, below, meth, c, Q⟩ := X
  have c1 : B.2.2.2.2.1 s2 = s2.2.2 := by rw [hCst]
  have c2 : B.2.2.2.2.1 (upH s2 h y ((kC x'.2).1 - (kC (s2.1 h).2).1) ((kC x'.2).2 - (kC (s2.1 h).2).2)) = (s2.2.2.1 + ((kC x'.2).1 - (kC (s2.1 h).2).1), s2.2.2.2 + ((kC x'.2).2 - (kC (s2.1 h).2).2)) := by rw [hCst]; rfl
  have kk1 := kk.1
  rw [c2] at kk1
  have k1 : s2.2.2.1 + ((kC x'.2).1 - (kC (s2.1 h).2).1) ≤ B.2.2.2.2.2.2.1.1 := kk1.1
  have k2 : s2.2.2.2 + ((kC x'.2).2 - (kC (s2.1 h).2).2) ≤ B.2.2.2.2.2.2.1.2 := kk1.2
  refine ⟨by rw [c1]; exact ⟨by omega, by omega⟩, fun fx ad H locs ls cells slots h1 h2 h3 h4 h5 => ?_⟩
  rw [c1] at h4 h5
  have O1 := OO fx
  obtain ⟨hb1, hb2⟩ := O1.1.2.2.2.2.2.2.2.2
  obtain ⟨a, hr⟩ := hrun p l e R s m args below meth c Q rfl O1 ad H locs ls cells slots h1.1 h2 h3.1 (by omega) (by omega)
  have hW0 : Wd g.1 (ctM g.2.1 g.2.2.1) B.2.2.1 ad s2 H := by rw [← hD, ← hB]; exact h1.1
  have hWh := WdM_hall hh hW0
  have hAz : ∀ q, H.size ≤ q → B.2.2.1 q := fun q hq => O1.1.2.2.2.2.2.2.2.1 q (Nat.le_trans h2.1 hq)
  have hsub := Aof.sub (H0 := H) hWh (Nat.le_refl _) hAz
  intro T hT X0
  obtain ⟨v, st₀, t, T', Ls, h0, X', hL, e1, e2, ⟨⟨ad', hkeep, hv, hW'⟩, hz, hk⟩, hst⟩ := hr T hT X0
  have hv' : v = r.map (emb ad') := by injection hv
  subst hv'
  rw [h0] at hz hk
  have hS' : va_S B.2.2.1 s.heap T'.heap (locs ++ Ls) := ⟨Nat.le_trans h2.1 (by rw [e1]; exact hz), fun q g1 g2 => by rw [e1, hk q (Nat.lt_of_lt_of_le g1 h2.1) (fun z => g2 (hsub q z))]; exact h2.2.1 q g1 g2, fun q hq => by
    rcases List.mem_append.mp hq with h | h
    · exact h2.2.2 q h
    · exact hsub _ (hL q h)⟩
  have hmap : (r.toList ++ rest).map (emb (adU h ad ad')) = (r.map (emb ad')).toList ++ rest.map (emb ad) := by
    rw [List.map_append, StH_map hh hkeep hrs, numR_emb hr0 ad' (adU h ad ad')]
    cases r <;> rfl
  have hW2 : Wd B.1 B.2.1 B.2.2.1 (adU h ad ad') (upH s2 h y ((kC x'.2).1 - (kC (s2.1 h).2).1) ((kC x'.2).2 - (kC (s2.1 h).2).2)) T'.heap := by
    rw [hD, hB, e1]
    exact WdM_join hh hW0 hAz hW' hk hc
  have hgo := kk.2 fx (adU h ad ad') T'.heap (locs ++ Ls) ls (cells + ((kC x'.2).1 - (kC (s2.1 h).2).1)) (slots + ((kC x'.2).2 - (kC (s2.1 h).2).2)) ⟨hW2, hKP _⟩ hS' (by rw [StH_mapl hh hkeep hlv]; exact h3) (by rw [c2]; dsimp only; omega) (by rw [c2]; dsimp only; omega)
  rw [hmap] at hgo
  obtain ⟨t2, a1, b1⟩ := hgo T' rfl X'
  exact ⟨t2, hst t2 a1, b1⟩
/-- a constructor's call -/
theorem J_callIM (O : CKM l0 X B g cc own F L) (hKP : ∀ ad : Pl → Nat, B.2.2.2.2.2.2.2.1 ad) (hh : h < 2) {ym : MethodName} {b : ByteArray} {mL fr lo index n : Nat} {p0 : Pl} (hC : Con l0 ym b mL none fr lo (.inr (some p0) :: as) (s2.1 h) x' none) (hc : Cov x' y) (hst : st0 = (as.map (shA h)).reverse ++ .inr (some (shP h p0)) :: rest) (hy1 : ym.name = "<init>")
    (w1 : Cond.methodLink own index ym ∈ gwl ∨ Cond.methodLinkNest own index ym "GuestHall" ∈ nwl) (w2 : Cond.instanceMethod ym ∈ gwl) (w4 : Cond.initialized ym.cls ∈ gwl) (w5 : Cond.code ym b mL none ∈ gwl) (hpd : ym.cls ≠ "java/lang/invoke/MethodHandle" ∧ ym.cls ≠ "java/lang/invoke/VarHandle" ∧ (parseMethodDescriptor ym.desc).map (fun d => d.parameters.length) = some n) (hn : as.length = n)
    (hR : fr + 1 ≤ F ∧ 8 + (mL + 11) + lo ≤ L) (hrc : rest.all cat1 = true) (hrl : rest.length ≤ 8) (hlv : ∀ q ∈ lv, StH h (s2.1 h).1 q.2) (hrs : ∀ v ∈ rest, StH h (s2.1 h).1 v) (hd : decode cc pc = .ok (.invokespecial index, 3))
    (kk : J X B (upH s2 h y ((kC x'.2).1 - (kC (s2.1 h).2).1) ((kC x'.2).2 - (kC (s2.1 h).2).2)) (pc + 3) lv rest) : J X B s2 pc lv st0 := by
  refine J_core1G O hKP hh (r := none) trivial hc (hC.1 X) hlv hrs (fun p l e R s m args below meth c0 Q hX O1 ad H locs ls cells slots h1 h2 h3 h4 h5 => ?_) kk
  subst hX
  obtain ⟨-, hB, hCst, hD⟩ := O
  obtain ⟨hMO, hST, hSH, hF, hL, hl0, -⟩ := id O1
  subst hl0; subst hst
  have hmap : ((as.map (shA h)).reverse ++ .inr (some (shP h p0)) :: rest).map (emb ad) = (as.map (emb (adH h ad))).reverse ++ Value.ref (adH h ad p0) :: rest.map (emb ad) := by
    rw [List.map_append, List.map_reverse, map_sh]; rfl
  have hgood : ∀ w ∈ (Cond.code ym b mL none :: gwl), w ∈ gwl := by
    intro w hw
    rcases List.mem_cons.mp hw with rfl | hw <;> assumption
  rw [hmap]
  rcases w1 with w1' | w1'
  · exact ⟨_, va_runI (b := adH h ad p0) (As := as.map (emb (adH h ad))) (n := n) ⟨hMO.1, hMO.2.1, hMO.2.2.1, hMO.2.2.2.1, hMO.2.2.2.2.1⟩ (hC.2 g (adH h ad) H.size) (cwI n hMO.2.2.2.2.1 (goodIn_gwl hgood) rfl rfl rfl (hMO.2.2.2.2.1 _ w4) (hMO.2.2.2.2.1 _ w1') (hMO.2.2.2.2.1 _ w2) hy1 hpd (by rw [hF, hL]; exact hR))
      ⟨PcC.blind, PcC_ofM hh O1 hB hD h1 h2⟩ rfl (by rw [List.length_map]; exact hn) h3 rfl (by rw [cat_sum ad rest hrc]; show 2 * 0 + _ ≤ 8; omega) hd ⟨h4, h5⟩⟩
  · exact ⟨_, va_runIN (b := adH h ad p0) (As := as.map (emb (adH h ad))) (n := n) (host := "GuestHall") ⟨hMO.1, hMO.2.1, hMO.2.2.1, hMO.2.2.2.1, hMO.2.2.2.2.1⟩ (hC.2 g (adH h ad) H.size) ⟨va_cnB n hMO.2.2.2.2.1 (goodIn_gwl hgood) rfl rfl rfl (hST.1 _ w1') (hMO.2.2.2.2.1 _ w4) hpd (by rw [hF, hL]; exact hR), hy1, hMO.2.2.2.2.1 _ w2⟩
      ⟨PcC.blind, PcC_ofM hh O1 hB hD h1 h2⟩ rfl (by rw [List.length_map]; exact hn) h3 rfl (by rw [cat_sum ad rest hrc]; show 2 * 0 + _ ≤ 8; omega) hd ⟨h4, h5⟩⟩
/-- a new raw cell at the top -/
theorem J_pushM (O : CKM l0 X B g cc own F L) (hKP : ∀ ad : Pl → Nat, B.2.2.2.2.2.2.2.1 ad) (hh : h < 2) (hx : s2.1 h = (E, κ)) (hR : rawOK E) {r : RC} (hrc : rcOK ((eR E).length + 1) r) {n1 pc2 : Nat}
    (hstep : ∀ (p : Program) (l : Launch) (e : Env) (R : Room) (s : State) (m : MethodId) (args : Array Value) (below : List Frame) (meth : Method) (c : Code) (Q : State → Prop), X = (p, l, e, R, s, m, args, below, meth, c, Q) → CXM l0 X B g cc own F L → ∀ (ad : Pl → Nat) (H : Heap) (locs : List Loc) (ls : Array Slot) (cells slots : Nat), cells + 1 ≤ R.cells → slots + n1 ≤ R.slots →
      (∀ H1 : Heap, H1.size = H.size + 1 → (∀ q : Nat, q < H.size → H1[q]? = H[q]?) → (∀ ad' : Pl → Nat, va_at B.1 vwCl (H.size, rcE g.2.1 g.2.2.1 ad' r) H1) → W p l e R s m args below meth c H1 locs (cells + 1) (slots + n1) Q (F0 m pc2 ls (.ref H.size :: rest.map (emb ad)))) → W p l e R s m args below meth c H locs cells slots Q (F0 m pc ls (st0.map (emb ad))))
    (hlv : ∀ q ∈ lv, NotH h q.2) (hrs : ∀ v ∈ rest, NotH h v) (kk : rawOK (upR E (eR E ++ [r])) → J X B (upH s2 h (upR E (eR E ++ [r]), addC κ 1 n1) 1 n1) pc2 lv (.inr (some (shP h (8, (eR E).length, 0))) :: rest)) : J X B s2 pc lv st0 := by
  have kk := kk (rawOK_push hR hrc)
  obtain ⟨OO, hB, hCst, hD⟩ := O
  obtain ⟨p, l, e, R, s, m, args, below, meth, c, Q⟩ := X
  have c1 : B.2.2.2.2.1 s2 = s2.2.2 := by rw [hCst]
  have c2 : B.2.2.2.2.1 (upH s2 h (upR E (eR E ++ [r]), addC κ 1 n1) 1 n1) = (s2.2.2.1 + 1, s2.2.2.2 + n1) := by rw [hCst]; rfl
  have kk1 := kk.1
  rw [c2] at kk1
  have k1 : s2.2.2.1 + 1 ≤ _ := kk1.1
  have k2 : s2.2.2.2 + n1 ≤ _ := kk1.2
  refine ⟨by rw [c1]; exact ⟨by omega, by omega⟩, fun fx ad H locs ls cells slots h1 h2 h3 h4 h5 => ?_⟩
  rw [c1] at h4 h5
  have O1 := OO fx
  obtain ⟨hMO, hST, hSH, hF', hL', -⟩ := id O1
  obtain ⟨hb1, hb2⟩ := hMO.2.2.2.2.2.2.2.2
  refine hstep p l e R s m args below meth c Q rfl O1 ad H locs ls cells slots (by omega) (by omega) fun H1 z1 o1 e1 => ?_
  have hW0 : Wd g.1 (ctM g.2.1 g.2.2.1) B.2.2.1 ad s2 H := by rw [← hD, ← hB]; exact h1.1
  have hWh := WdM_hall hh hW0
  have hAz : ∀ q, H.size ≤ q → B.2.2.1 q := fun q hq => hMO.2.2.2.2.2.2.2.1 q (Nat.le_trans h2.1 hq)
  have hWn := hWh.narrow
  rw [hx] at hWn
  have hnew := Wd_push hWn hR o1 (Or.inr (Nat.le_refl _)) (by rw [← hD]; exact e1 _) 1 n1
  have hW2 : Wd B.1 B.2.1 B.2.2.1 (adU h ad (adp (adH h ad) (8, (eR E).length, 0) H.size)) (upH s2 h (upR E (eR E ++ [r]), addC κ 1 n1) 1 n1) H1 := by
    rw [hD, hB]
    exact WdM_join hh hW0 hAz (by rw [hx]; exact hnew) (fun q hq _ => o1 q hq) Cov.rf
  have hgo := kk.2 fx (adU h ad (adp (adH h ad) (8, (eR E).length, 0) H.size)) H1 locs ls (cells + 1) (slots + n1) ⟨hW2, hKP _⟩ ⟨Nat.le_trans h2.1 (by omega), fun q g1 g2 => (o1 q (Nat.lt_of_lt_of_le g1 h2.1)).trans (h2.2.1 q g1 g2), h2.2.2⟩ (by rw [List.map_congr_left fun q hq => (by show (q.1, _) = (q.1, _); rw [NotH_emb (hlv q hq)] : eml (adU h ad _) q = eml ad q)]; exact h3) (by rw [c2]; show _ = s2.2.2.1 + 1; omega) (by rw [c2]; show _ = s2.2.2.2 + n1; omega)
  rw [List.map_cons, List.map_congr_left fun v hv => NotH_emb (hrs v hv)] at hgo
  have e9 : emb (adU h ad (adp (adH h ad) (8, (eR E).length, 0) H.size)) (.inr (some (shP h (8, (eR E).length, 0)))) = .ref H.size := by
    refine congrArg Value.ref ?_
    exact (congrFun (adU_h hh) (8, (eR E).length, 0)).trans adp_eq
  rw [e9] at hgo
  exact hgo
theorem J_newOM (O : CKM l0 X B g cc own F L) (hKP : ∀ ad : Pl → Nat, B.2.2.2.2.2.2.2.1 ad) (hh : h < 2) (hx : s2.1 h = (E, κ)) (hR : rawOK E) {kd0 : Nat} {C : String} {T : u_T} {N : Nat} (hc : vwCl[kd0]? = some (C, T, N)) (hN : nfl kd0 = N) (hin : ∀ w ∈ u_ws C T N, w ∈ gwl) (ty0 : Nat → FieldType) (hty : ∀ k, k < N → parseFieldDescriptor (T k).2.2.1 = some (ty0 k)) {index : Nat} (w1 : Cond.classLink own index C ∈ gwl) (w2 : Cond.instantiable C N ∈ gwl) (w3 : Cond.initialized C ∈ gwl) (hlv : ∀ q ∈ lv, NotH h q.2) (hrs : ∀ v ∈ rest, NotH h v) (hd : decode cc pc = .ok (.new index, 3))
    (kk : rawOK (upR E (eR E ++ [.inl (kd0, fun j => dv (ty0 j))])) → J X B (upH s2 h (upR E (eR E ++ [.inl (kd0, fun j => dv (ty0 j))]), addC κ 1 N) 1 N) (pc + 3) lv (.inr (some (shP h (8, (eR E).length, 0))) :: rest)) : J X B s2 pc lv rest := by
  refine J_pushM (r := .inl (kd0, fun j => dv (ty0 j))) O hKP hh hx hR (show ∀ j, clA _ (dv (ty0 j)) from fun j => dv_cl _ _) (fun p l e R s m args below meth c Q hX O1 ad H locs ls cells slots hc1 hc2 k2 => ?_) hlv hrs kk
  subst hX
  have hMO := O1.1
  have hKn := hMO.2.2.2.2.2.1.1 _ _ hc
  refine W.newcK hMO.1 hMO.2.1 hMO.2.2.2.1 (hMO.2.2.2.2.1 _ w1) (hMO.2.2.2.2.1 _ w2) (hMO.2.2.2.2.1 _ w3) rfl hd hc1 hc2 hKn.2.1 rfl fun H1 kC hkC e1 z1 o1 => ?_
  refine k2 H1 z1 o1 fun ad' => ⟨_, hc, (u_born ty0 (fun w hw => hMO.2.2.2.2.1 w (hin w hw)) (fun w hw => hw) hKn hkC e1 hty).to fun j hj => ?_⟩
  show _ = ((List.range (nfl kd0)).map fun j => emb ad' (san g.2.2.1 (dv (ty0 j)))).getD j .null
  rw [hN, List.getD_eq_getElem?_getD, fld_at hj, dv_emb]
  rfl
def rhM (h : Nat) (ρ : Pl → Pl) : Pl → Pl := fun p => if p.1 % 3 = h then shP h (ρ (p.1 / 3, p.2)) else p
theorem rhM_ad {h : Nat} (hh : h < 2) {ρ : Pl → Pl} {ad : Pl → Nat} : (fun p => ad (rhM h ρ p)) = adU h ad (fun p => adH h ad (ρ p)) := by
  funext p
  unfold rhM adU adH
  split <;> rfl
theorem J_renM (O : CKM l0 X B g cc own F L) (hKP : ∀ ad : Pl → Nat, B.2.2.2.2.2.2.2.1 ad) (hh : h < 2) {E' : EE} {κ' : K} (hx : s2.1 h = (E, κ)) (ρ : Pl → Pl) (hct : ∀ (ca : Nat → ClassId) (e0 : Nat) (ad : Pl → Nat) (p : Pl) (e : va_E), ctC ca e0 (fun p => ad (ρ p)) (E', κ') p = some e → ctC ca e0 ad (E, κ) (ρ p) = some e)
    (hinj : ∀ (ca : Nat → ClassId) (e0 : Nat) (ad : Pl → Nat) (p q : Pl) (e e' : va_E), ctC ca e0 ad (E', κ') p = some e → ctC ca e0 ad (E', κ') q = some e' → ρ p = ρ q → p = q) (hc : Cov (E', κ') y) {lv' : List (Nat × AV)} {st' : List AV} (hl : lv = lv'.map fun q => (q.1, rnA (rhM h ρ) q.2)) (hs : st0 = st'.map (rnA (rhM h ρ))) (kk : J X B (upH s2 h y 0 0) pc lv' st') : J X B s2 pc lv st0 := by
  obtain ⟨OO, hB, hCst, hD⟩ := O
  obtain ⟨p, l, e, R, s, m, args, below, meth, c0, Q⟩ := X
  have hcst : B.2.2.2.2.1 (upH s2 h y 0 0) = B.2.2.2.2.1 s2 := by rw [hCst]; rfl
  refine ⟨by rw [← hcst]; exact kk.1, fun fx ad H locs ls cells slots h1 h2 h3 h4 h5 => ?_⟩
  subst hl; subst hs
  have hMO := (OO fx).1
  have hW0 : Wd g.1 (ctM g.2.1 g.2.2.1) B.2.2.1 ad s2 H := by rw [← hD, ← hB]; exact h1.1
  have hAz : ∀ q, H.size ≤ q → B.2.2.1 q := fun q hq => hMO.2.2.2.2.2.2.2.1 q (Nat.le_trans h2.1 hq)
  have hWn := (WdM_hall hh hW0).narrow
  rw [hx] at hWn
  have hnew : Wd g.1 (ctC g.2.1 g.2.2.1) (Aof g (adH h ad) (E, κ) H.size) (fun p => adH h ad (ρ p)) (E', κ') H :=
    ⟨fun p e hp => hWn.1 (ρ p) e (hct _ _ _ _ _ hp), fun p q e e' hp hq hpq => hinj _ _ _ _ _ _ _ hp hq (hWn.2 _ _ _ _ (hct _ _ _ _ _ hp) (hct _ _ _ _ _ hq) hpq)⟩
  have hgo := kk.2 fx (fun p => ad (rhM h ρ p)) H locs ls cells slots ⟨?_, hKP _⟩ h2 ?_ (by rw [hcst]; exact h4) (by rw [hcst]; exact h5)
  · have e1 : (st'.map (rnA (rhM h ρ))).map (emb ad) = st'.map (emb fun p => ad (rhM h ρ p)) := by
      rw [List.map_map]; exact List.map_congr_left fun v _ => emb_rn (rhM h ρ) ad v
    rw [e1]
    exact hgo
  · rw [rhM_ad hh, hD, hB]
    exact WdM_join hh hW0 hAz (by rw [hx]; exact hnew) (fun _ _ _ => rfl) hc
  · have e1 : (lv'.map fun q => (q.1, rnA (rhM h ρ) q.2)).map (eml ad) = lv'.map (eml fun p => ad (rhM h ρ p)) := by
      rw [List.map_map]; exact List.map_congr_left fun v _ => by show (v.1, _) = (v.1, _); rw [emb_rn (rhM h ρ) ad v.2]
    rw [e1] at h3
    exact h3
theorem J_adoptM (O : CKM l0 X B g cc own F L) (hKP : ∀ ad : Pl → Nat, B.2.2.2.2.2.2.2.1 ad) (hh : h < 2) {E' : EE} (hx : s2.1 h = (E, κ)) (nw : NW) (cells : List RC) (hE : eR E = eR E' ++ cells) (hlive : ∀ f i c : Nat, liveC E' f i c = true → nw f i c = none → f ≠ 8 → liveC E f i c = true) 
    (hnew : ∀ f i c m : Nat, liveC E' f i c = true → nw f i c = some m → ∃ r, cells[m]? = some r ∧ cOK nw (eR E').length f i c r) (hinj : ∀ f i c f' i' c' m : Nat, nw f i c = some m → nw f' i' c' = some m → (f, i, c) = (f', i', c')) (h78 : ∀ i c : Nat, nw 7 i c = none ∧ nw 8 i c = none)
    (hraw : ∀ r ∈ eR E', rcF nw (eR E').length r) (hDG : DGs E' κ nw) (hc : Cov (E', adK κ nw cells) y) {lv' : List (Nat × AV)} {st' : List AV} (hl : lv = lv'.map fun q => (q.1, rnA (rhM h (rhoN nw (eR E').length)) q.2)) (hs : st0 = st'.map (rnA (rhM h (rhoN nw (eR E').length)))) (kk : J X B (upH s2 h y 0 0) pc lv' st') : J X B s2 pc lv st0 := by
  refine J_renM (κ' := adK κ nw cells) O hKP hh hx (rhoN nw (eR E').length) (fun ca e0 ad p e hp => ?_) (fun ca e0 ad p q e e' hp hq hpq => ?_) hc hl hs kk
  · obtain ⟨f, i, c⟩ := p
    cases hm : nw f i c with
    | some m =>
      have h7 : f ≠ 7 := fun z => by rw [z, (h78 i c).1] at hm; cases hm
      have hlv := ctC_7 hp (fun z => h7 (by injection z))
      rw [ctC_live hlv] at hp
      obtain ⟨r, h5, h6⟩ := hnew f i c m hlv hm
      rw [new_cell hm h5 h6] at hp
      rw [rhoN_some hm, ← hp]
      refine ct_8 ?_
      rw [hE, List.getElem?_append_right (by omega), Nat.add_sub_cancel_left]
      exact h5
    | none =>
      rw [rhoN_none hm]
      by_cases h7 : f = 7
      · subst h7
        rw [← hp]
        unfold ctC
        rfl
      · have hlv := ctC_7 hp (fun z => h7 (by injection z))
        by_cases h8 : f = 8
        · subst h8
          obtain ⟨rfl, r, h1, h2⟩ := ct_8' hp
          rw [h2, rcE_nm (hraw r (List.mem_of_getElem? h1))]
          refine ct_8 ?_
          rw [hE, List.getElem?_append_left (List.getElem?_eq_some_iff.mp h1).1]
          exact h1
        · rw [ctC_live hlv] at hp
          rw [ctC_live (hlive f i c hlv hm h8), ← hp]
          have hV : kV (adK κ nw cells) f i c = kV κ f i c := by funext k; show (match nw f i c with | some m => rvI (cells.getD m rz) k | none => _) = _; rw [hm]; rfl
          have hN : kN (adK κ nw cells) f i c = kN κ f i c := by show (match nw f i c with | some m => rvN (cells.getD m rz) | none => _) = _; rw [hm]; rfl
          have hP : kP (adK κ nw cells) f i c = kP κ f i c := by funext k; show (match nw f i c with | some m => rvP (cells.getD m rz) k | none => _) = _; rw [hm]; rfl
          rw [hV, hN, hP]
          exact congrArg some (stay_cell hm h8 hlv hDG).symm
  · obtain ⟨f, i, c⟩ := p
    obtain ⟨f', i', c'⟩ := q
    have key : ∀ (f i c : Nat) (e : va_E), ctC ca e0 ad (E', adK κ nw cells) (f, i, c) = some e → nw f i c = none → f = 8 → i < (eR E').length := by
      intro f i c e hp _ h8
      subst h8
      obtain ⟨rfl, r, h1, h2⟩ := ct_8' hp
      exact (List.getElem?_eq_some_iff.mp h1).1
    cases hm : nw f i c with
    | some m =>
      cases hm' : nw f' i' c' with
      | some m' =>
        rw [rhoN_some hm, rhoN_some hm'] at hpq
        injection hpq with z1 z2
        injection z2 with z2 z3
        have : m = m' := by omega
        subst this
        exact hinj _ _ _ _ _ _ _ hm hm'
      | none =>
        rw [rhoN_some hm, rhoN_none hm'] at hpq
        injection hpq with z1 z2
        injection z2 with z2 z3
        have := key _ _ _ _ hq hm' z1.symm
        omega
    | none =>
      cases hm' : nw f' i' c' with
      | some m' =>
        rw [rhoN_none hm, rhoN_some hm'] at hpq
        injection hpq with z1 z2
        injection z2 with z2 z3
        have := key _ _ _ _ hp hm z1
        omega
      | none =>
        rw [rhoN_none hm, rhoN_none hm'] at hpq
        exact hpq
theorem J_newRow (O : CKM l0 X B g cc own F L) (hKP : ∀ ad : Pl → Nat, B.2.2.2.2.2.2.2.1 ad) (hno : s2.2.1 = none) (w1 : Cond.arrayClass .int ∈ gwl) (hlv : ∀ q ∈ lv, q.2 ≠ .inr (some (2, 0, 0))) (hd : decode cc pc = .ok (.newarray .int, 2)) (kk : J X B (s2.1, some (fun _ => 0), (s2.2.2.1 + 1, s2.2.2.2 + 12)) (pc + 2) lv [.inr (some (2, 0, 0))]) : J X B s2 pc lv [.inl (.int 12)] := by
  obtain ⟨OO, hB, hCst, hD⟩ := O
  obtain ⟨p, l, e, R, s, m, args, below, meth, c, Q⟩ := X
  have c1 : B.2.2.2.2.1 s2 = s2.2.2 := by rw [hCst]
  have c2 : B.2.2.2.2.1 (s2.1, some (fun _ => 0), (s2.2.2.1 + 1, s2.2.2.2 + 12)) = (s2.2.2.1 + 1, s2.2.2.2 + 12) := by rw [hCst]
  have kk1 := kk.1
  rw [c2] at kk1
  have k1 : s2.2.2.1 + 1 ≤ _ := kk1.1
  have k2 : s2.2.2.2 + 12 ≤ _ := kk1.2
  refine ⟨by rw [c1]; exact ⟨by omega, by omega⟩, fun fx ad H locs ls cells slots h1 h2 h3 h4 h5 => ?_⟩
  rw [c1] at h4 h5
  obtain ⟨hMO, hST, hSH, hF', hL', -⟩ := OO fx
  obtain ⟨hb1, hb2⟩ := hMO.2.2.2.2.2.2.2.2
  have hcb : componentBytes (newarray.typeOf .int) = 4 := by decide
  refine va_newaK hMO.1 hMO.2.1 (atype := .int) (hMO.2.2.2.2.1 _ w1) rfl hd rfl (show ¬ (12 : Int32) < 0 by decide) (show (12 : Int32).toNatClampNeg = 12 by decide) (by rw [hcb]; omega) (by omega) (by omega) rfl fun H1 cA e1 z1 o1 hAr hNm => ?_
  have hcA : cA = g.2.1 0 := by
    have h9 : s.vm.findClass ("[" ++ FieldType.int.toString) = some (g.2.1 0) := (hMO.2.2.2.2.2.1.2 0 _ rfl).2
    exact Option.some.inj (hNm.symm.trans h9)
  subst hcA
  obtain ⟨ad', had⟩ : ∃ ad' : Pl → Nat, ad' = fun q => if q = (2, 0, 0) then H.size else ad q := ⟨_, rfl⟩
  have had2 : ad' (2, 0, 0) = H.size := by rw [had]; simp
  have hadn : ∀ q : Pl, q ≠ (2, 0, 0) → ad' q = ad q := fun q hq => by rw [had]; simp [hq]
  have hadH : ∀ k, k < 2 → adH k ad' = adH k ad := fun k hk => by
    funext q
    exact hadn _ (shP_n hk)
  have hve : ∀ v : AV, v ≠ .inr (some (2, 0, 0)) → emb ad' v = emb ad v := fun v hv => by
    match v, hv with
    | .inl _, _ => rfl
    | .inr none, _ => rfl
    | .inr (some q), hv => exact congrArg Value.ref (hadn q (fun z => hv (by rw [z])))
  have hW0 := h1.1
  rw [hB] at hW0
  have hlt : ∀ (q : Pl) (e : va_E), ctM g.2.1 g.2.2.1 ad s2 q = some e → ad q < H.size := fun q e hq => (hW0.1 q e hq).1.lt
  have hold : ∀ (q : Pl) (e : va_E), q ≠ (2, 0, 0) → ctM g.2.1 g.2.2.1 ad' (s2.1, some (fun _ => 0), (s2.2.2.1 + 1, s2.2.2.2 + 12)) q = some e → ctM g.2.1 g.2.2.1 ad s2 q = some e := by
    intro q e hq h
    rcases ctM_cases h with ⟨k, q1, hk2, rfl, h5⟩ | ⟨h5, _⟩
    · rw [hadH k hk2] at h5
      rw [ctM_h hk2]
      exact h5
    · exact absurd h5 hq
  have hnw : ctM g.2.1 g.2.2.1 ad' (s2.1, some (fun _ => 0), (s2.2.2.1 + 1, s2.2.2.2 + 12)) (2, 0, 0) = some (.inl (g.2.1 0, 12, .inl fun _ => 0)) := by rw [ctM_n]; rfl
  have hA0 : B.2.2.1 H.size := hMO.2.2.2.2.2.2.2.1 _ h2.1
  have hgo := kk.2 fx ad' H1 locs ls (cells + 1) (slots + 12) ⟨?_, hKP _⟩ ⟨Nat.le_trans h2.1 (by omega), fun q g1 g2 => (o1 q (Nat.lt_of_lt_of_le g1 h2.1)).trans (h2.2.1 q g1 g2), h2.2.2⟩ (by rw [List.map_congr_left fun q hq => (by show (q.1, _) = (q.1, _); rw [hve _ (hlv q hq)] : eml ad' q = eml ad q)]; exact h3) (by rw [c2]; show _ = s2.2.2.1 + 1; omega) (by rw [c2]; show _ = s2.2.2.2 + 12; omega)
  · have hst : ([.inr (some (2, 0, 0))] : List AV).map (emb ad') = [Value.ref H.size] := by
      show [Value.ref (ad' (2, 0, 0))] = _
      rw [had2]
    rw [hst] at hgo
    exact hgo
  · rw [hB]
    refine ⟨fun q e hq => ?_, fun q q' e e' hq hq' hqq => ?_⟩
    · by_cases h7 : q = (2, 0, 0)
      · subst h7
        rw [hnw] at hq
        cases hq
        rw [had2]
        exact ⟨by show H1[H.size]? = some (vp_cell _ _); rw [vp_cell_i]; exact e1, hA0⟩
      · have h8 := hold q e h7 hq
        rw [hadn q h7]
        exact ⟨(hW0.1 q e h8).1.kept (o1 _ (hlt q e h8)), (hW0.1 q e h8).2⟩
    · by_cases h7 : q = (2, 0, 0) <;> by_cases h8 : q' = (2, 0, 0)
      · rw [h7, h8]
      · rw [h7, had2, hadn q' h8] at hqq
        exact absurd (hlt q' e' (hold q' e' h8 hq')) (by omega)
      · rw [h8, had2, hadn q h7] at hqq
        exact absurd (hlt q e (hold q e h7 hq)) (by omega)
      · rw [hadn q h7, hadn q' h8] at hqq
        exact hW0.2 q q' e e' (hold q e h7 hq) (hold q' e' h8 hq') hqq
end NEWM
/-- the hall and its hosts, out of raw cells -/
def nwH : NW := fun f i c => if f = 4 ∧ i = 0 ∧ c < 4 then some c else if f = 2 ∧ i < 2 ∧ c < 4 then some (4 + 4 * i + c) else none
def E00 : EE := (0, 0, 0, 0, 0, 0, 0, 0, 0, [])
def EH : EE := (0, 0, 0, 1, 0, 0, 0, 0, 0, [])
def κ00 : K := (fun _ _ _ _ => 0, fun _ _ _ => 0, fun _ _ _ _ => none, none, (0, 0))
def kH : K := adK (addC (addC κ00 1 4) 11 168) nwH (cX10 0)
theorem live_E00 (f i c : Nat) : liveC E00 f i c = false := by
  unfold liveC
  have h : cntE E00 f = 0 := by
    unfold cntE E00
    split <;> rfl
  rw [h, decide_eq_false (Nat.not_lt_zero i)]
  rfl
theorem cnt_EH {f : Nat} (h : cntE EH f ≠ 0) : f = 4 ∨ f = 2 := by
  unfold cntE EH at h
  split at h <;> first | exact Or.inl rfl | exact Or.inr rfl | exact absurd rfl h
theorem live_EH {f i c : Nat} (h : liveC EH f i c = true) : (f = 4 ∧ i = 0 ∧ c < 4) ∨ (f = 2 ∧ i < 2 ∧ c < 4) := by
  obtain ⟨h1, h2, h3⟩ := live_kd h
  rcases cnt_EH (f := f) (by omega) with hf | hf
  · subst hf
    refine Or.inl ⟨rfl, by have : i < 1 := h1; omega, ?_⟩
    unfold liveC at h
    simp only [Bool.and_eq_true, Bool.or_eq_true, decide_eq_true_eq] at h
    rcases h.2 with (z | z) | z
    · exact absurd rfl z
    · exact z
    · exfalso
      revert z
      unfold cnt4 EH
      split <;> exact Nat.lt_irrefl 0
  · subst hf
    exact Or.inr ⟨rfl, h1, h2⟩
theorem nwH_live {f i c : Nat} (h : liveC EH f i c = true) : nwH f i c ≠ none := by
  unfold nwH
  rcases live_EH h with ⟨rfl, rfl, z⟩ | ⟨rfl, y, z⟩
  · rw [if_pos ⟨rfl, rfl, z⟩]; exact fun q => by cases q
  · rw [if_neg (fun q => absurd q.1 (by decide)), if_pos ⟨rfl, y, z⟩]; exact fun q => by cases q
theorem nwH_cases {f i c m : Nat} (h : nwH f i c = some m) : (f = 4 ∧ i = 0 ∧ c < 4 ∧ m = c) ∨ (f = 2 ∧ i < 2 ∧ c < 4 ∧ m = 4 + 4 * i + c) := by
  unfold nwH at h
  split at h
  · rename_i z; cases h; exact Or.inl ⟨z.1, z.2.1, z.2.2, rfl⟩
  · split at h
    · rename_i z; cases h; exact Or.inr ⟨z.1, z.2.1, z.2.2, rfl⟩
    · cases h
set_option maxHeartbeats 4000000 in
set_option maxRecDepth 100000 in
theorem ad_H0 : ∀ c : Nat, c < 4 → ∃ r, (cX10 0)[c]? = some r ∧ cOK nwH 0 4 0 c r := tb_s (tb_s (tb_s (tb_s tb_0 ⟨_, rfl, ckO rfl (by decide) (by change ∀ j : Nat, j < 4 → _; exact (tb_s (tb_s (tb_s (tb_s tb_0 (fk1 rfl rfl rfl)) (fk1 rfl rfl rfl)) (fk1 rfl rfl rfl)) (fk0 rfl rfl)))⟩) ⟨_, rfl, ckO rfl (by decide) (by change ∀ j : Nat, j < 3 → _; exact (tb_s (tb_s (tb_s tb_0 (fk0 rfl rfl)) (fk3 rfl rfl)) (fk0 rfl rfl)))⟩) ⟨_, rfl, ckO rfl (by decide) (by change ∀ j : Nat, j < 3 → _; exact (tb_s (tb_s (tb_s tb_0 (fk0 rfl rfl)) (fk3 rfl rfl)) (fk0 rfl rfl)))⟩) ⟨_, rfl, Or.inl ⟨rfl, rfl, rfl, fun j hj => (by rcases (show j = 0 ∨ j = 1 by omega) with rfl | rfl <;> exact ⟨_, rfl, rfl⟩), fun j hj => (by unfold updo; rw [if_neg (by omega), if_neg (by omega)])⟩⟩
set_option maxHeartbeats 4000000 in
set_option maxRecDepth 100000 in
theorem ad_H1 : ∀ c : Nat, c < 4 → ∃ r, (cX10 0)[4 + 4 * 0 + c]? = some r ∧ cOK nwH 0 2 0 c r := tb_s (tb_s (tb_s (tb_s tb_0 ⟨_, rfl, ckO rfl (by decide) (by change ∀ j : Nat, j < 8 → _; exact (tb_s (tb_s (tb_s (tb_s (tb_s (tb_s (tb_s (tb_s tb_0 (fk0 rfl rfl)) (fk1 rfl rfl rfl)) (fk1 rfl rfl rfl)) (fk1 rfl rfl rfl)) (fk0 rfl rfl)) (fk0 rfl rfl)) (fk2n rfl rfl (by decide))) (fk0 rfl rfl)))⟩) ⟨_, rfl, ck20 rfl rfl⟩) ⟨_, rfl, ck20 rfl rfl⟩) ⟨_, rfl, ck20 rfl rfl⟩
set_option maxHeartbeats 4000000 in
set_option maxRecDepth 100000 in
theorem ad_H2 : ∀ c : Nat, c < 4 → ∃ r, (cX10 0)[4 + 4 * 1 + c]? = some r ∧ cOK nwH 0 2 1 c r := tb_s (tb_s (tb_s (tb_s tb_0 ⟨_, rfl, ckO rfl (by decide) (by change ∀ j : Nat, j < 8 → _; exact (tb_s (tb_s (tb_s (tb_s (tb_s (tb_s (tb_s (tb_s tb_0 (fk0 rfl rfl)) (fk1 rfl rfl rfl)) (fk1 rfl rfl rfl)) (fk1 rfl rfl rfl)) (fk0 rfl rfl)) (fk0 rfl rfl)) (fk2n rfl rfl (by decide))) (fk0 rfl rfl)))⟩) ⟨_, rfl, ck20 rfl rfl⟩) ⟨_, rfl, ck20 rfl rfl⟩) ⟨_, rfl, ck20 rfl rfl⟩
theorem ad_H {f i c m : Nat} (h : nwH f i c = some m) : ∃ r, (cX10 0)[m]? = some r ∧ cOK nwH (eR EH).length f i c r := by
  rcases nwH_cases h with ⟨rfl, rfl, z, rfl⟩ | ⟨rfl, y, z, rfl⟩
  · exact ad_H0 _ z
  · rcases (show i = 0 ∨ i = 1 by omega) with rfl | rfl
    · exact ad_H1 _ z
    · exact ad_H2 _ z
/-- a new hall, with the reference's rows beside it -/
def EI : EE := (0, 0, 0, 1, 1, 0, 0, 0, 1, [])
def kI : K := (fun f i c k => if f = 5 then (if i = 0 ∧ c = 39 then -1 else 0) else kH.1 f i c k, kH.2)
theorem cov_I : Cov (EH, kH) (EI, kI) := by
  intro ca e0 ad p e h
  unfold ctC at h ⊢
  dsimp only at h ⊢
  by_cases h7 : p.1 = 7
  · rw [if_pos h7] at h ⊢; exact h
  · rw [if_neg h7] at h ⊢
    by_cases hl : liveC EI p.1 p.2.1 p.2.2 = true
    · rw [if_pos hl] at h
      have hf : p.1 ≠ 5 ∧ p.1 ≠ 6 := by
        simp only [liveC, Bool.and_eq_true, decide_eq_true_eq] at hl
        refine ⟨fun z => ?_, fun z => ?_⟩ <;> (have h2 := hl.1.2.1; rw [z] at h2; exact absurd h2 (Nat.not_lt_zero _))
      have hl2 : liveC EH p.1 p.2.1 p.2.2 = true := by
        have e : cntE EI p.1 = cntE EH p.1 := by
          obtain ⟨a, b, c⟩ := p
          dsimp only at hf h7 ⊢
          unfold cntE
          split <;> first | rfl | exact absurd rfl hf.1 | exact absurd rfl hf.2
        unfold liveC at hl ⊢
        rw [← e]
        exact hl
      rw [if_pos hl2]
      have hv : kV kI p.1 = kV kH p.1 := by
        funext i c k
        exact if_neg hf.1
      rw [hv] at h
      exact h
    · rw [if_neg hl] at h; cases h
theorem kh_V {f i c m : Nat} (h : nwH f i c = some m) (k : Nat) : kV kH f i c k = rvI ((cX10 0).getD m rz) k ∧ kP kH f i c k = rvP ((cX10 0).getD m rz) k := by
  refine ⟨?_, ?_⟩
  · show (match nwH f i c with | some m => rvI ((cX10 0).getD m rz) k | none => _) = _
    rw [h]
  · show (match nwH f i c with | some m => rvP ((cX10 0).getD m rz) k | none => _) = _
    rw [h]
theorem nwh_4 {c : Nat} (hc : c < 4) : nwH 4 0 c = some c := if_pos ⟨rfl, rfl, hc⟩
theorem nwh_2 {i c : Nat} (hi : i < 2) (hc : c < 4) : nwH 2 i c = some (4 + 4 * i + c) := by
  unfold nwH
  rw [if_neg (by omega), if_pos ⟨rfl, hi, hc⟩]
theorem ki_5 {c : Nat} (k : Nat) : kV kI 5 0 c k = if c = 39 then -1 else 0 := by
  show (if 5 = 5 then (if 0 = 0 ∧ c = 39 then (-1 : Int32) else 0) else kH.1 5 0 c k) = _
  rw [if_pos rfl]
  by_cases z : c = 39
  · rw [if_pos ⟨rfl, z⟩, if_pos z]
  · rw [if_neg (fun q => z q.2), if_neg z]
theorem ki_0 {c : Nat} (h : c ≠ 39) (k : Nat) : kV kI 5 0 c k = 0 := by rw [ki_5, if_neg h]
theorem ki_o {f i c : Nat} (h5 : f ≠ 5) : kV kI f i c = kV kH f i c := by
  funext k
  exact if_neg h5
theorem REL_ini : REL EI kI (kV kI 5 0) 0 0 0 0 := by
  have h2 : ∀ h, h < 2 → ∀ c, c < 4 → ∀ k, kV kI 2 h c k = rvI ((cX10 0).getD (4 + 4 * h + c) rz) k ∧ kP kI 2 h c k = rvP ((cX10 0).getD (4 + 4 * h + c) rz) k := fun h hh c hc k => by
    rw [ki_o (by omega)]
    exact kh_V (nwh_2 hh hc) k
  have h4 : ∀ c, c < 4 → ∀ k, kV kI 4 0 c k = rvI ((cX10 0).getD c rz) k ∧ kP kI 4 0 c k = rvP ((cX10 0).getD c rz) k := fun c hc k => by
    rw [ki_o (by omega)]
    exact kh_V (nwh_4 hc) k
  have h1 : ∀ h, h < 2 → ∀ k, k < 40 → kV kI 2 h 1 k = -1 := fun h hh k hk => by
    rw [(h2 h hh 1 (by omega) k).1]
    obtain rfl | rfl : h = 0 ∨ h = 1 := by omega
    · show (if k < 40 then (-1 : Int32) else 0) = -1
      rw [if_pos hk]
    · show (if k < 40 then (-1 : Int32) else 0) = -1
      rw [if_pos hk]
  refine ⟨⟨rfl, rfl, ⟨⟨by decide, by decide +kernel⟩, ⟨by decide, by decide +kernel⟩, by decide +kernel, rfl, fun r hr => by cases hr⟩, rfl, fun i hi => absurd hi (Nat.not_lt_zero i)⟩, ⟨⟨?_, fun _ => ⟨rfl, ?_⟩, fun z => absurd z (Nat.lt_irrefl 0)⟩, ⟨?_, fun _ => ⟨rfl, ?_⟩, fun z => absurd z (Nat.lt_irrefl 0)⟩, ?_, ?_, by omega⟩, ⟨⟨⟨by omega, ?_, fun g hg => absurd hg (Nat.not_lt_zero g), fun h hh => Or.inl ?_⟩, fun g hg => absurd hg (Nat.not_lt_zero g), ⟨0, by omega, ?_⟩⟩, fun key hk => absurd hk (Nat.not_lt_zero _), fun h hh => ⟨⟨fun key hk => ?_, fun f hf => ?_, fun f hf => ?_⟩, ?_, ?_, Or.inl ?_, ?_, Or.inl ⟨?_, ?_⟩⟩, fun g hg => absurd hg (Nat.not_lt_zero g), fun s hs => absurd hs (Nat.not_lt_zero s)⟩, fun g hg => absurd hg (Nat.not_lt_zero g), ⟨?_, by omega, fun s hs => absurd hs (Nat.not_lt_zero s)⟩, fun c k a b d e _ _ => ?_, ?_, ?_⟩
  · rw [(h4 1 (by omega) 2).1]; rfl
  · rw [(h4 1 (by omega) 1).2]; rfl
  · rw [(h4 2 (by omega) 2).1]; rfl
  · rw [(h4 2 (by omega) 1).2]; rfl
  · rw [(h4 0 (by omega) 3).1]; rfl
  · rw [ki_5]; rfl
  · rw [ki_5]; rfl
  · rw [ki_5]
    obtain rfl | rfl : h = 0 ∨ h = 1 := by omega
    all_goals rfl
  · rw [ki_5]; rfl
  · rw [h1 h hh key hk, if_neg (fun z => absurd z.1 (Nat.not_lt_zero _))]
  · rw [(h2 h hh 2 (by omega) f).1, cntU_0.mpr (fun j hj => by unfold inF; rw [h1 h hh j hj]; exact decide_eq_false (fun z => by rw [m1_nI (by omega)] at z; exact z))]
    obtain rfl | rfl : h = 0 ∨ h = 1 := by omega
    all_goals rfl
  · rw [(h2 h hh 3 (by omega) f).1, ki_0 (by omega)]
    obtain rfl | rfl : h = 0 ∨ h = 1 := by omega
    all_goals rfl
  · rw [(h2 h hh 0 (by omega) 0).1]
    obtain rfl | rfl : h = 0 ∨ h = 1 := by omega
    all_goals rfl
  · rw [(h2 h hh 0 (by omega) 4).1, ki_0 (by omega)]
    obtain rfl | rfl : h = 0 ∨ h = 1 := by omega
    all_goals rfl
  · exact ki_0 (by omega) h
  · rw [(h2 h hh 0 (by omega) 7).1, ki_0 (by omega)]
    obtain rfl | rfl : h = 0 ∨ h = 1 := by omega
    all_goals rfl
  · rw [ki_5]
    obtain rfl | rfl : h = 0 ∨ h = 1 := by omega
    all_goals rfl
  · rw [(h2 h hh 0 (by omega) 6).2]
    obtain rfl | rfl : h = 0 ∨ h = 1 := by omega
    all_goals rfl
  · rw [ki_5]; rfl
  · exact ki_0 (by omega) k
  · show 8 * (kC kI).1 ≤ 3200 * 0 + 4000 + WT kI 0 0
    have e : (kC kI).1 = 12 := rfl
    omega
  · show (kC kI).2 ≤ 5000 * 0 + 60000 + 2 * WT kI 0 0
    have e : (kC kI).2 = 172 := rfl
    omega
theorem W1_ini : W1 (kV kI 5 0) := fun g _ => ⟨0, 0, 0, ki_0 (by omega) g, ki_0 (by omega) g, ki_0 (by omega) 41, by omega, by omega⟩
theorem W2_ini : W2 (kV kI 5 0) := fun g p _ _ _ k _ => ki_0 (by omega) _
