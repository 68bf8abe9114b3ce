/-! CONSTRUCTORS: what is made stands behind the cells L: first the object, then its parts T -/
def aok (m : Nat) (l : List RC) : Prop := ∀ r ∈ l, rcOK m r
theorem aok_nil {m : Nat} : aok m [] := fun _ h => absurd h List.not_mem_nil
theorem aok_cons {m : Nat} {r : RC} {l : List RC} (h : rcOK m r) (hl : aok m l) : aok m (r :: l) := fun q hq => (List.mem_cons.mp hq).elim (fun e => by rw [e]; exact h) (hl q)
theorem aok_app {m : Nat} {l l' : List RC} (h : aok m l) (h' : aok m l') : aok m (l ++ l') := fun q hq => (List.mem_append.mp hq).elim (h q) (h' q)
theorem aok_sub {m n : Nat} {l : List RC} (h : aok n l) (hn : n ≤ m) : aok m l := fun q hq => rcOK_mono hn (h q hq)
theorem updf_ok {m : Nat} {fs : Nat → AV} {k : Nat} {v : AV} (h : ∀ j, clA m (fs j)) (hv : clA m v) : ∀ j, clA m (updf fs k v j) := by
  intro j
  unfold updf
  split
  · exact hv
  · exact h j
theorem nf_b {x : Int32} (h : x = 0 ∨ x = 1) : narrow .boolean (.int x) = .int x ∧ fits .boolean (.int x) = true := by
  rcases h with h | h <;> rw [h] <;> exact ⟨by decide, by decide⟩
def cst (E0 : EE) (L : List RC) (kd0 : Nat) (fs : Nat → AV) (T : List RC) : EE := upR E0 (L ++ (.inl (kd0, fs) :: T))
section CRAW
variable {l0 : Launch} {X : MX} {B : BX (EE × K)} {g : GP} {cc : ByteArray} {own : String} {F Lo : Nat} {E0 : EE} {L T : List RC} {κ κ' : K} {pc : Nat} {lv : List (Nat × AV)} {rest st0 as : List AV} {kd0 : Nat} {fs : Nat → AV}
theorem cl_len : (L ++ (.inl (kd0, fs) :: T) : List RC).length = L.length + (T.length + 1) := by simp
theorem cl_0 : (L ++ (.inl (kd0, fs) :: T) : List RC)[L.length]? = some (.inl (kd0, fs)) := by simp
theorem cl_set {r : RC} : (L ++ (.inl (kd0, fs) :: T) : List RC).set L.length r = L ++ (r :: T) := by simp
theorem cl_k {t : Nat} : (L ++ (.inl (kd0, fs) :: T) : List RC)[L.length + (t + 1)]? = T[t]? := by
  rw [List.getElem?_append_right (by omega)]
  rw [show L.length + (t + 1) - L.length = t + 1 by omega]
  rfl
theorem cl_setk {t : Nat} {r : RC} : (L ++ (.inl (kd0, fs) :: T) : List RC).set (L.length + (t + 1)) r = L ++ (.inl (kd0, fs) :: T.set t r) := by
  rw [List.set_append_right _ _ (by omega)]
  rw [show L.length + (t + 1) - L.length = t + 1 by omega]
  rfl
theorem cl_app {T' : List RC} : (L ++ (.inl (kd0, fs) :: T) : List RC) ++ T' = L ++ (.inl (kd0, fs) :: (T ++ T')) := by simp
theorem KPok.raw {E : EE} {l : List RC} (h : KPok B E) (hs : (eR E).length ≤ l.length) : KPok B (upR E l) := h.up fun j hj => Nat.lt_of_lt_of_le hj hs
theorem stL {j : Nat} (h : j < L.length + (T.length + 1)) : Stab (cst E0 L kd0 fs T) (.inr (some (8, j, 0))) := st_8 (by show j < (L ++ (.inl (kd0, fs) :: T) : List RC).length; rw [cl_len]; exact h)
theorem stL2 {j t : Nat} (ht : T.length = t) (h : j < L.length + (t + 1)) : Stab (cst E0 L kd0 fs T) (.inr (some (8, j, 0))) := stL (by rw [ht]; exact h)
theorem clL {j t : Nat} (ht : T.length = t) (h : j < L.length + (t + 1)) : clA (L.length + (T.length + 1)) (.inr (some (8, j, 0))) := fun _ => by rw [ht]; exact h
theorem stU {f i c : Nat} (h8 : f ≠ 8) (h : Stab E0 (.inr (some (f, i, c)))) : Stab (cst E0 L kd0 fs T) (.inr (some (f, i, c))) := ⟨by show liveC (upR E0 _) f i c = true; rw [liveC_upR h8]; exact h.1, h.2⟩
theorem KPc {kd1 : Nat} {fs1 : Nat → AV} (h : KPok B (cst E0 L kd1 fs1 [])) : KPok B (cst E0 L kd0 fs T) := KPok.raw (E := cst E0 L kd1 fs1 []) (l := L ++ (.inl (kd0, fs) :: T)) h (by show (L ++ [Sum.inl (kd1, fs1)] : List RC).length ≤ _; simp)
theorem J_objInit {E : EE} (O : CK l0 X B g cc own F Lo) {p0 : Pl} {index : Nat} (w1 : Cond.methodLink own index Lib.objectInit ∈ gwl) (w2 : Cond.instanceMethod Lib.objectInit ∈ gwl) (w3 : Cond.code Lib.objectInit ⟨#[0xb1]⟩ 1 none ∈ gwl) (hF : 1 ≤ F) (hL : rest.length + 12 ≤ Lo) (hrc : rest.all cat1 = true) (hd : decode cc pc = .ok (.invokespecial index, 3)) (kk : J X B (E, κ) (pc + 3) lv rest) : J X B (E, κ) pc lv (.inr (some p0) :: rest) := by
  obtain ⟨OO, hB, hCst, hD⟩ := O
  obtain ⟨p, l, e, R, s, m, args, below, meth, c0, Q⟩ := X
  refine ⟨kk.1, fun fx ad H locs ls cells slots h1 h2 h3 h4 h5 => ?_⟩
  obtain ⟨hMO, hST, hSH, hF', hL', -⟩ := OO fx
  exact W.objInit hMO.1 hMO.2.1 hMO.2.2.2.1 (hMO.2.2.2.2.1 _ w1) (hMO.2.2.2.2.1 _ w2) (hMO.2.2.2.2.1 _ w3) rfl (by rw [hMO.2.2.1, ← h3.1]) rfl hd (by rw [hF']; exact hF) (by rw [cat_sum ad rest hrc, hL']; show 2 * 0 + _ + 12 ≤ _; omega) (kk.2 fx ad H locs ls cells slots h1 h2 h3 h4 h5)
theorem J_cGet (O : CK l0 X B g cc own F Lo) {C : String} {Tt : u_T} {N : Nat} (hc : vwCl[kd0]? = some (C, Tt, N)) (hN : nfl kd0 = N) (hin : ∀ w ∈ u_ws C Tt N, w ∈ gwl) {index : Nat} (k : Nat) (hk : k < N) {v : AV} (hv : ∀ e0, san e0 (fs k) = v) {rf nm ds : String} (hlink : Cond.fieldLink own index rf nm ds ∈ gwl) (hT : Tt k = (rf, nm, ds, (Tt k).2.2.2)) (hd : decode cc pc = .ok (.getfield index, 3)) (kk : J X B (cst E0 L kd0 fs T, κ) (pc + 3) lv (v :: rest)) : J X B (cst E0 L kd0 fs T, κ) pc lv (.inr (some (8, L.length, 0)) :: rest) :=
  J_getR O (j := L.length) cl_0 hc hN hin k hk hv hlink hT hd kk
theorem J_cPut (O : CK l0 X B g cc own F Lo) (hname : B.2.2.2.2.2.2.2.2 X → MXn X = "<init>") (hR : rawOK (cst E0 L kd0 fs T)) {C : String} {Tt : u_T} {N : Nat} (hc : vwCl[kd0]? = some (C, Tt, N)) (hN : nfl kd0 = N) (hin : ∀ w ∈ u_ws C Tt N, w ∈ gwl) (ty0 : Nat → FieldType) (hty : ∀ k, k < N → parseFieldDescriptor (Tt k).2.2.1 = some (ty0 k)) (hnm : ∀ a, a < N → ∀ b, b < N → a ≠ b → (Tt a).2.1 ≠ (Tt b).2.1) {index : Nat} (k : Nat) (hk : k < N) {v v' : AV} (hcl : clA (L.length + (T.length + 1)) v') (hvv : san g.2.2.1 v' = v) (hnf : ∀ ad : Pl → Nat, narrow (ty0 k) (emb ad v) = emb ad v ∧ fits (ty0 k) (emb ad v) = true) {rf nm ds : String} (hfin : (Tt k).2.2.2 = false ∨ rf = own) (hlink : Cond.fieldLink own index rf nm ds ∈ gwl) (hT : Tt k = (rf, nm, ds, (Tt k).2.2.2)) (hd : decode cc pc = .ok (.putfield index, 3))
    (kk : rawOK (cst E0 L kd0 (updf fs k v') T) → J X B (cst E0 L kd0 (updf fs k v') T, κ) (pc + 3) lv rest) : J X B (cst E0 L kd0 fs T, κ) pc lv (v :: .inr (some (8, L.length, 0)) :: rest) := by
  have e1 : upR (cst E0 L kd0 fs T) ((eR (cst E0 L kd0 fs T)).set L.length (.inl (kd0, updf fs k v'))) = cst E0 L kd0 (updf fs k v') T := congrArg (upR E0) cl_set
  refine J_putR O hname hR (j := L.length) cl_0 hc hN hin ty0 hty hnm k hk (v := v) (v' := v') ?_ hvv hnf hfin hlink hT hd ?_
  · rw [show (eR (cst E0 L kd0 fs T)).length = L.length + (T.length + 1) from cl_len]; exact hcl
  · rw [e1]; exact kk
theorem J_cNew (O : CK l0 X B g cc own F Lo) (hKP : KPok B (cst E0 L kd0 fs T)) (hR : rawOK (cst E0 L kd0 fs T)) {d : Nat} (hd0 : T.length + 1 = d) {kd1 : Nat} {C : String} {Tt : u_T} {N : Nat} (hc : vwCl[kd1]? = some (C, Tt, N)) (hN : nfl kd1 = N) (hin : ∀ w ∈ u_ws C Tt N, w ∈ gwl) (ty0 : Nat → FieldType) (hty : ∀ k, k < N → parseFieldDescriptor (Tt k).2.2.1 = some (ty0 k)) {index : Nat} (w1 : Cond.classLink own index C ∈ gwl) (w2 : Cond.instantiable C N ∈ gwl) (w3 : Cond.initialized C ∈ gwl) (hlv : ∀ q ∈ lv, Stab (cst E0 L kd0 fs T) q.2) (hrs : ∀ v ∈ rest, Stab (cst E0 L kd0 fs T) v) (hd : decode cc pc = .ok (.new index, 3))
    (kk : rawOK (cst E0 L kd0 fs (T ++ [.inl (kd1, fun j => dv (ty0 j))])) → J X B (cst E0 L kd0 fs (T ++ [.inl (kd1, fun j => dv (ty0 j))]), addC κ 1 N) (pc + 3) lv (.inr (some (8, L.length + d, 0)) :: rest)) : J X B (cst E0 L kd0 fs T, κ) pc lv rest := by
  subst hd0
  have e1 : upR (cst E0 L kd0 fs T) (eR (cst E0 L kd0 fs T) ++ [.inl (kd1, fun j => dv (ty0 j))]) = cst E0 L kd0 fs (T ++ [.inl (kd1, fun j => dv (ty0 j))]) := congrArg (upR E0) cl_app
  refine J_newO O hKP hR hc hN hin ty0 hty w1 w2 w3 hlv hrs hd ?_
  rw [e1, show (eR (cst E0 L kd0 fs T)).length = L.length + (T.length + 1) from cl_len]
  exact kk
theorem J_cNewa (O : CK l0 X B g cc own F Lo) (hKP : KPok B (cst E0 L kd0 fs T)) (hR : rawOK (cst E0 L kd0 fs T)) {d : Nat} (hd0 : T.length + 1 = d) {atype : ArrayType} {ty : FieldType} (hat : newarray.typeOf atype = ty) {ai : Nat} (hai : ∀ ca : Nat → ClassId, (tysOf ca)[ai]? = some (ca ai, ty)) {n : Int32} {N : Nat} {ct : (Nat → Int32) ⊕ (Nat → Int64) ⊕ (Nat → Option Pl)} (hct : ∀ (ca : Nat → ClassId) (e0 : Nat) (ad : Pl → Nat), ∃ a : vp_A, rcE ca e0 ad (.inr (ai, N, ct)) = .inl (ca ai, a) ∧ vp_cell (ca ai) a = arrV (ca ai) N (fun _ => defaultValue ty)) (hcl : ∀ m, rcOK m (.inr (ai, N, ct)))
    (w1 : Cond.arrayClass ty ∈ gwl) (hn : ¬ n < 0) (hN : n.toNatClampNeg = N) (hb : N * componentBytes ty ≤ 536870912) (hlv : ∀ q ∈ lv, Stab (cst E0 L kd0 fs T) q.2) (hrs : ∀ v ∈ rest, Stab (cst E0 L kd0 fs T) v) (hd : decode cc pc = .ok (.newarray atype, 2))
    (kk : rawOK (cst E0 L kd0 fs (T ++ [.inr (ai, N, ct)])) → J X B (cst E0 L kd0 fs (T ++ [.inr (ai, N, ct)]), addC κ 1 N) (pc + 2) lv (.inr (some (8, L.length + d, 0)) :: rest)) : J X B (cst E0 L kd0 fs T, κ) pc lv (.inl (.int n) :: rest) := by
  subst hd0
  have e1 : upR (cst E0 L kd0 fs T) (eR (cst E0 L kd0 fs T) ++ [.inr (ai, N, ct)]) = cst E0 L kd0 fs (T ++ [.inr (ai, N, ct)]) := congrArg (upR E0) cl_app
  refine J_newaR O hKP hR hat hai hct (hcl _) w1 hn hN hb hlv hrs hd ?_
  rw [e1, show (eR (cst E0 L kd0 fs T)).length = L.length + (T.length + 1) from cl_len]
  exact kk
theorem J_cIast (O : CK l0 X B g cc own F Lo) (hR : rawOK (cst E0 L kd0 fs T)) {t d n : Nat} (hd0 : t + 1 = d) {a : Nat → Int32} (hj : T[t]? = some (.inr (0, n, .inl a))) {q x : Int32} (hq : vp_in q n) {qn : Nat} (hqn : q.toNatClampNeg = qn) {T' : List RC} (hT : T.set t (.inr (0, n, .inl (upd a qn x))) = T') (hd : decode cc pc = .ok (.iastore, 1))
    (kk : rawOK (cst E0 L kd0 fs T') → J X B (cst E0 L kd0 fs T', κ) (pc + 1) lv rest) : J X B (cst E0 L kd0 fs T, κ) pc lv (.inl (.int x) :: .inl (.int q) :: .inr (some (8, L.length + d, 0)) :: rest) := by
  subst hd0; subst hT; subst hqn
  have e1 : upR (cst E0 L kd0 fs T) ((eR (cst E0 L kd0 fs T)).set (L.length + (t + 1)) (.inr (0, n, .inl (upd a q.toNatClampNeg x)))) = cst E0 L kd0 fs (T.set t (.inr (0, n, .inl (upd a q.toNatClampNeg x)))) := congrArg (upR E0) cl_setk
  refine J_iastR O hR (j := L.length + (t + 1)) (cl_k.trans hj) hq hd ?_
  rw [e1]; exact kk
/-- the constructor of a part -/
theorem J_cCall {kd1 : Nat} {fs1 : Nat → AV} (O : CK l0 X B g cc own F Lo) (hKP : KPok B (cst E0 L kd0 fs (T ++ [.inl (kd1, fs1)]))) (hR : rawOK (cst E0 L kd0 fs (T ++ [.inl (kd1, fs1)]))) {d : Nat} (hd0 : T.length + 1 = d) {cY : Nat → List RC} {len : Nat} (hlen : ∀ n, (cY n).length = len) (hpos : 0 < len) (hcY : ∀ n, aok (n + len) (cY n)) {y : MethodName} {b : ByteArray} {mL fr lo index n : Nat}
    (hC : ∀ L' : List RC, rawOK (upR E0 (L' ++ [.inl (kd1, fs1)])) → Con l0 y b mL none fr lo (.inr (some (8, L'.length, 0)) :: as) (upR E0 (L' ++ [.inl (kd1, fs1)]), κ) (upR E0 (L' ++ cY L'.length), κ') none) (hst : st0 = as.reverse ++ .inr (some (8, L.length + d, 0)) :: rest) (hy1 : y.name = "<init>")
    (w1 : Cond.methodLink own index y ∈ gwl ∨ Cond.methodLinkNest own index y "GuestHall" ∈ nwl) (w2 : Cond.instanceMethod y ∈ gwl) (w4 : Cond.initialized y.cls ∈ gwl) (w5 : Cond.code y b mL none ∈ gwl) (hpd : y.cls ≠ "java/lang/invoke/MethodHandle" ∧ y.cls ≠ "java/lang/invoke/VarHandle" ∧ (parseMethodDescriptor y.desc).map (fun d => d.parameters.length) = some n) (hn : as.length = n)
    (hRm : fr + 1 ≤ F ∧ 8 + (mL + 11) + lo ≤ Lo) (hrc : rest.all cat1 = true) (hrl : rest.length ≤ 8) (hlv : ∀ q ∈ lv, Stab (cst E0 L kd0 fs (T ++ [.inl (kd1, fs1)])) q.2) (hrs : ∀ v ∈ rest, Stab (cst E0 L kd0 fs (T ++ [.inl (kd1, fs1)])) v) (hd : decode cc pc = .ok (.invokespecial index, 3))
    (kk : rawOK (cst E0 L kd0 fs (T ++ cY (L.length + d))) → J X B (cst E0 L kd0 fs (T ++ cY (L.length + d)), κ') (pc + 3) lv rest) : J X B (cst E0 L kd0 fs (T ++ [.inl (kd1, fs1)]), κ) pc lv st0 := by
  subst hd0
  have hl := cl_len (L := L) (kd0 := kd0) (fs := fs) (T := T)
  have e1 : upR E0 ((L ++ (.inl (kd0, fs) :: T)) ++ [.inl (kd1, fs1)]) = cst E0 L kd0 fs (T ++ [.inl (kd1, fs1)]) := congrArg (upR E0) cl_app
  have e2 : upR E0 ((L ++ (.inl (kd0, fs) :: T)) ++ cY (L ++ (.inl (kd0, fs) :: T)).length) = cst E0 L kd0 fs (T ++ cY (L.length + (T.length + 1))) := by rw [hl]; exact congrArg (upR E0) cl_app
  have h1 := hC (L ++ (.inl (kd0, fs) :: T)) (by rw [e1]; exact hR)
  rw [e1, e2, hl] at h1
  refine J_callI O hKP h1 hst hy1 w1 w2 w4 w5 hpd hn hRm hrc hrl hlv hrs hd (kk ?_)
  intro r hr
  have hr' : r ∈ L ++ (.inl (kd0, fs) :: (T ++ cY (L.length + (T.length + 1)))) := hr
  have hlenE : (eR (cst E0 L kd0 fs (T ++ cY (L.length + (T.length + 1))))).length = L.length + (T.length + 1) + (cY (L.length + (T.length + 1))).length := by
    show (L ++ (.inl (kd0, fs) :: (T ++ cY (L.length + (T.length + 1))))).length = _
    simp
    omega
  rw [hlenE]
  rw [← cl_app] at hr'
  rcases List.mem_append.mp hr' with h | h
  · have hold : r ∈ eR (cst E0 L kd0 fs (T ++ [.inl (kd1, fs1)])) := by
      show r ∈ L ++ (.inl (kd0, fs) :: (T ++ [.inl (kd1, fs1)]))
      rw [← cl_app]
      exact List.mem_append.mpr (Or.inl h)
    have hz := hlen (L.length + (T.length + 1))
    refine rcOK_mono ?_ (hR r hold)
    show (L ++ (.inl (kd0, fs) :: (T ++ [.inl (kd1, fs1)])) : List RC).length ≤ _
    simp
    omega
  · rw [hlen]; exact hcY _ r h
end CRAW
