set_option maxRecDepth 100000 in
theorem mw581 : Cond.methodLink RJxa1e45 1 Lib.objectInit ∈ gwl := gwl_tb 47 rfl rfl
set_option maxRecDepth 100000 in
theorem mw582 : Cond.fieldLink RJxc12de 7 "java/util/AbstractList" "modCount" "I" ∈ gwl := gwl_tb 52 rfl rfl
set_option maxRecDepth 100000 in
theorem mw583 : Cond.methodLink RJxc12de 1 yJxa1e45_init_da8c8 ∈ gwl := gwl_tb 44 rfl rfl
set_option maxRecDepth 100000 in
theorem mw584 : Cond.instanceMethod yJxa1e45_init_da8c8 ∈ gwl := gwl_tb 45 rfl rfl
set_option maxRecDepth 100000 in
theorem mw585 : Cond.initialized RJxa1e45 ∈ gwl := gwl_tb 2 rfl rfl
set_option maxRecDepth 100000 in
theorem mw586 : Cond.code yJxa1e45_init_da8c8 cJxa1e45_init_da8c8 1 none ∈ gwl := gwl_tb 46 rfl rfl
set_option maxRecDepth 100000 in
theorem mw587 : Cond.methodLink RJx4a65c 1 yJxc12de_init_da8c8 ∈ gwl := gwl_tb 41 rfl rfl
set_option maxRecDepth 100000 in
theorem mw588 : Cond.instanceMethod yJxc12de_init_da8c8 ∈ gwl := gwl_tb 42 rfl rfl
set_option maxRecDepth 100000 in
theorem mw589 : Cond.initialized RJxc12de ∈ gwl := gwl_tb 3 rfl rfl
set_option maxRecDepth 100000 in
theorem mw590 : Cond.code yJxc12de_init_da8c8 cJxc12de_init_da8c8 1 none ∈ gwl := gwl_tb 43 rfl rfl
set_option maxRecDepth 100000 in
theorem mw591 : Cond.methodLink RX2 3 Lib.objectInit ∈ gwl := gwl_tb 68 rfl rfl
set_option maxRecDepth 100000 in
theorem mw592 : Cond.fieldLink RX2 21 "GuestHall$Host" "number" "I" ∈ gwl := gwl_tb 72 rfl rfl
set_option maxRecDepth 100000 in
theorem mw593 : Cond.methodLink RX2 25 yJ7_fill_53178 ∈ gwl := gwl_tb 69 rfl rfl
set_option maxRecDepth 100000 in
theorem mw594 : Cond.methodLink RX10 3 Lib.objectInit ∈ gwl := gwl_tb 33 rfl rfl
set_option maxRecDepth 100000 in
theorem mw595 : Cond.classLink RX10 9 RJx4a65c ∈ gwl := gwl_tb 36 rfl rfl
set_option maxRecDepth 100000 in
theorem mw596 : Cond.instantiable RJx4a65c 3 ∈ gwl := gwl_tb 37 rfl rfl
set_option maxRecDepth 100000 in
theorem mw597 : Cond.methodLink RX10 11 yJx4a65c_init_da8c8 ∈ gwl := gwl_tb 38 rfl rfl
set_option maxRecDepth 100000 in
theorem mw598 : Cond.instanceMethod yJx4a65c_init_da8c8 ∈ gwl := gwl_tb 39 rfl rfl
set_option maxRecDepth 100000 in
theorem mw599 : Cond.code yJx4a65c_init_da8c8 cJx4a65c_init_da8c8 1 none ∈ gwl := gwl_tb 40 rfl rfl
set_option maxRecDepth 100000 in
theorem mw600 : Cond.classLink RX10 19 RX2 ∈ gwl := gwl_tb 62 rfl rfl
set_option maxRecDepth 100000 in
theorem mw601 : Cond.instantiable RX2 8 ∈ gwl := gwl_tb 64 rfl rfl
set_option maxRecDepth 100000 in
theorem mw602 : Cond.methodLink RX10 21 yX2_init ∈ gwl := gwl_tb 65 rfl rfl
set_option maxRecDepth 100000 in
theorem mw603 : Cond.instanceMethod yX2_init ∈ gwl := gwl_tb 66 rfl rfl
set_option maxRecDepth 100000 in
theorem mw604 : Cond.code yX2_init cX2_init 2 none ∈ gwl := gwl_tb 67 rfl rfl
theorem pd_Jxa1e45_init_da8c8 : (yJxa1e45_init_da8c8).cls ≠ "java/lang/invoke/MethodHandle" ∧ (yJxa1e45_init_da8c8).cls ≠ "java/lang/invoke/VarHandle" ∧ (parseMethodDescriptor (yJxa1e45_init_da8c8).desc).map (fun d => d.parameters.length) = some 0 := ⟨by decide +kernel, by decide +kernel, by decide +kernel⟩
theorem pd_Jxc12de_init_da8c8 : (yJxc12de_init_da8c8).cls ≠ "java/lang/invoke/MethodHandle" ∧ (yJxc12de_init_da8c8).cls ≠ "java/lang/invoke/VarHandle" ∧ (parseMethodDescriptor (yJxc12de_init_da8c8).desc).map (fun d => d.parameters.length) = some 0 := ⟨by decide +kernel, by decide +kernel, by decide +kernel⟩
theorem pd_Jx4a65c_init_da8c8 : (yJx4a65c_init_da8c8).cls ≠ "java/lang/invoke/MethodHandle" ∧ (yJx4a65c_init_da8c8).cls ≠ "java/lang/invoke/VarHandle" ∧ (parseMethodDescriptor (yJx4a65c_init_da8c8).desc).map (fun d => d.parameters.length) = some 0 := ⟨by decide +kernel, by decide +kernel, by decide +kernel⟩
theorem pd_X2_init : (yX2_init).cls ≠ "java/lang/invoke/MethodHandle" ∧ (yX2_init).cls ≠ "java/lang/invoke/VarHandle" ∧ (parseMethodDescriptor (yX2_init).desc).map (fun d => d.parameters.length) = some 1 := ⟨by decide +kernel, by decide +kernel, by decide +kernel⟩
set_option maxHeartbeats 4000000 in
theorem ci_Jxa1e45_init_da8c8 {l : Launch} (hfl : l.stackTraces = false) {E : EE} {p0 : Pl} {κ : K} : Con l yJxa1e45_init_da8c8 cJxa1e45_init_da8c8 1 none 1 12 [.inr (some p0)] (E, κ) (E, κ) none := by
  refine Con_ofI hfl (by decide +kernel) (Nat.le_of_ble_eq_true rfl) rfl rfl (fun X B g O hKP hmL hname hE => ?_)
  show J X B (E, κ) 0 [(0, .inr (some p0))] []
  refine J_aload_n O.mo dJxa1e45_init_da8c8_0 0 rfl ?_
  refine J_objInit O mw581 mw515 mw516 (by decide) (Nat.le_of_ble_eq_true rfl) rfl dJxa1e45_init_da8c8_1 ?_
  exact hE _ _ dJxa1e45_init_da8c8_4
set_option maxHeartbeats 4000000 in
set_option maxRecDepth 100000 in
theorem ci_AL1 {l : Launch} (hfl : l.stackTraces = false) {E0 : EE} {L : List RC} {κ : K} (hR : rawOK (upR E0 (L ++ [.inl (0, fun j => dv (tyJx4a65c j))]))) : Con l yJxc12de_init_da8c8 cJxc12de_init_da8c8 1 none 2 32 [.inr (some (8, L.length, 0))] (upR E0 (L ++ [.inl (0, fun j => dv (tyJx4a65c j))]), κ) (upR E0 (L ++ [.inl (0, updf (fun j => dv (tyJx4a65c j)) 0 (.inl (.int 0)))]), κ) none := by
  refine Con_ofI hfl (by decide +kernel) (Nat.le_of_ble_eq_true rfl) rfl rfl (fun X B g O hKP hmL hname hE => ?_)
  replace hname : B.2.2.2.2.2.2.2.2 X → MXn X = "<init>" := hname
  change KPok B (cst E0 L 0 (fun j => dv (tyJx4a65c j)) []) at hKP
  change rawOK (cst E0 L 0 (fun j => dv (tyJx4a65c j)) []) at hR
  show J X B (cst E0 L 0 (fun j => dv (tyJx4a65c j)) [], κ) 0 [(0, .inr (some (8, L.length, 0)))] []
  refine J_aload_n O.mo dJxc12de_init_da8c8_0 0 rfl ?_
  refine J_callI O (KPc hKP) (as := []) (ci_Jxa1e45_init_da8c8 hfl) rfl rfl (Or.inl mw583) mw584 mw585 mw586 pd_Jxa1e45_init_da8c8 rfl (by decide) rfl (Nat.le_of_ble_eq_true rfl) (sl_p (stL2 (t := 0) rfl (by omega)) sl_0) st_0 dJxc12de_init_da8c8_1 ?_
  refine J_aload_n O.mo dJxc12de_init_da8c8_4 0 rfl ?_
  refine J_iconst O.mo (v := 0) dJxc12de_init_da8c8_5 (by decide) ?_
  refine J_cPut O hname hR (C := RJx4a65c) (Tt := TJx4a65c) (N := 3) rfl rfl in_L tyJx4a65c tyJx4a65c_ok nmJx4a65c 0 (by decide) (v := .inl (.int 0)) (v' := .inl (.int 0)) trivial rfl (fun _ => ⟨rfl, rfl⟩) (Or.inl rfl) mw582 rfl dJxc12de_init_da8c8_6 (fun hR => ?_)
  exact hE _ _ dJxc12de_init_da8c8_9
def cAL (n : Nat) : List RC := [.inl (0, (updf (updf (fun j => dv (tyJx4a65c j)) 0 (.inl (.int 0))) 1 (.inl (.retAddr 0))))]
theorem ok_AL (n : Nat) : aok (n + 1) (cAL n) := aok_cons (show ∀ j, clA (n + 1) (_ : AV) from (updf_ok (updf_ok (fun j => dv_cl _ _) trivial) trivial)) aok_nil
set_option maxHeartbeats 4000000 in
set_option maxRecDepth 100000 in
theorem ci_AL {l : Launch} (hfl : l.stackTraces = false) {E0 : EE} {L : List RC} {κ : K} (hR : rawOK (upR E0 (L ++ [.inl (0, fun j => dv (tyJx4a65c j))]))) : Con l yJx4a65c_init_da8c8 cJx4a65c_init_da8c8 1 none 3 52 [.inr (some (8, L.length, 0))] (upR E0 (L ++ [.inl (0, fun j => dv (tyJx4a65c j))]), κ) (upR E0 (L ++ cAL L.length), addC κ 0 0) none := by
  refine Con_ofI hfl (by decide +kernel) (Nat.le_of_ble_eq_true rfl) rfl rfl (fun X B g O hKP hmL hname hE => ?_)
  replace hname : B.2.2.2.2.2.2.2.2 X → MXn X = "<init>" := hname
  have h1 := ci_AL1 hfl (κ := κ) hR
  have hR2 : rawOK (cst E0 L 0 (updf (fun j => dv (tyJx4a65c j)) 0 (.inl (.int 0))) []) := by
    have h2 := rawOK_set (j := L.length) hR (r := .inl (0, (updf (fun j => dv (tyJx4a65c j)) 0 (.inl (.int 0))))) (show ∀ j, clA _ (_ : AV) from updf_ok (fun j => dv_cl _ _) trivial)
    have h3 : upR (upR E0 (L ++ [.inl (0, fun j => dv (tyJx4a65c j))])) ((eR (upR E0 (L ++ [.inl (0, fun j => dv (tyJx4a65c j))]))).set L.length (.inl (0, (updf (fun j => dv (tyJx4a65c j)) 0 (.inl (.int 0)))))) = cst E0 L 0 (updf (fun j => dv (tyJx4a65c j)) 0 (.inl (.int 0))) [] := congrArg (upR E0) cl_set
    rw [h3] at h2
    exact h2
  change KPok B (cst E0 L 0 (fun j => dv (tyJx4a65c j)) []) at hKP
  show J X B (cst E0 L 0 (fun j => dv (tyJx4a65c j)) [], κ) 0 [(0, .inr (some (8, L.length, 0)))] []
  refine J_aload_n O.mo dJx4a65c_init_da8c8_0 0 rfl ?_
  refine J_callI O (KPc hKP) (as := []) h1 rfl rfl (Or.inl mw587) mw588 mw589 mw590 pd_Jxc12de_init_da8c8 rfl (by decide) rfl (Nat.le_of_ble_eq_true rfl) (sl_p (stL2 (t := 0) rfl (by omega)) sl_0) st_0 dJx4a65c_init_da8c8_1 ?_
  show J X B (cst E0 L 0 (updf (fun j => dv (tyJx4a65c j)) 0 (.inl (.int 0))) [], κ) 4 [(0, .inr (some (8, L.length, 0)))] []
  refine J_aload_n O.mo dJx4a65c_init_da8c8_4 0 rfl ?_
  refine J_getE0 O mw566 dJx4a65c_init_da8c8_5 ?_
  refine J_cPut O hname hR2 (C := RJx4a65c) (Tt := TJx4a65c) (N := 3) rfl rfl in_L tyJx4a65c tyJx4a65c_ok nmJx4a65c 1 (by decide) (v := .inl (.ref g.2.2.1)) (v' := .inl (.retAddr 0)) trivial rfl (fun _ => ⟨rfl, rfl⟩) (Or.inl rfl) mw41 rfl dJx4a65c_init_da8c8_8 (fun hR => ?_)
  exact hE _ _ dJx4a65c_init_da8c8_11
def fi (a : Nat → Int32) (x : Int32) (i : Nat) : Nat → Int32 := fun k => if k < i then x else a k
theorem fi_s (a : Nat → Int32) (x : Int32) (i : Nat) : upd (fi a x i) i x = fi a x (i + 1) := by
  funext k
  unfold upd fi
  by_cases h : k = i
  · subst h; simp
  · by_cases h2 : k < i
    · simp [h, h2, Nat.lt_succ_of_lt h2]
    · have : ¬ k < i + 1 := by omega
      simp [h, h2, this]
theorem niNat {n : Nat} (h : n < 1000) : (nI n).toNatClampNeg = n := by
  show (Int32.ofNat n).toNatClampNeg = n
  rw [Int32.toNatClampNeg, Int32.toInt_ofNat_of_lt (by omega)]
  omega
theorem niLe {n m : Nat} (h : n < 1000) (hm : m < 1000) : nI m ≤ nI n ↔ m ≤ n := by
  show Int32.ofNat m ≤ Int32.ofNat n ↔ _
  rw [Int32.le_iff_toInt_le, Int32.toInt_ofNat_of_lt (by omega), Int32.toInt_ofNat_of_lt (by omega)]
  omega
theorem niS {n : Nat} : nI n + 1 = nI (n + 1) := by
  show Int32.ofNat n + Int32.ofNat 1 = Int32.ofNat (n + 1)
  rw [Int32.ofNat_add]
set_option maxHeartbeats 4000000 in
set_option maxRecDepth 100000 in
theorem w_fill_l {l0 : Launch} {X : MX} {B : BX (EE × K)} {g : GP} {E E' : EE} {κ : K} {L : List RC} {j n : Nat} {a : Nat → Int32} {x : Int32} (O : CK l0 X B g cJ7_fill_53178 RJ7 1 0) (hmL : B.2.2.2.1 = 4) (hn : n < 1000) (hj : j < L.length) (hR : ∀ r, rcN r = true → rawOK (upR E (L.set j r)))
    (hE : J X B (upR E (L.set j (.inr (0, n, .inl (fi a x n)))), κ) 20 [(3, .inl (.int (nI n))), (2, .inl (.int (nI n))), (0, .inr (some (8, j, 0))), (1, .inl (.int x))] []) : ∀ i : Nat, ∀ k, k + i = n → J X B (upR E (L.set j (.inr (0, n, .inl (fi a x k)))), κ) 5 [(3, .inl (.int (nI n))), (2, .inl (.int (nI k))), (0, .inr (some (8, j, 0))), (1, .inl (.int x))] [] := by
  intro i
  induction i with
  | zero =>
    intro k hk
    have hk' : k = n := by omega
    subst hk'
    refine J_iload_n O.mo dJ7_fill_53178_5 1 rfl ?_
    refine J_iload_n O.mo dJ7_fill_53178_6 0 rfl ?_
    exact J_icmp_ge O.mo (tgt := 20) dJ7_fill_53178_7 (by decide) (fun _ => hE) (fun hq => absurd ((niLe hn hn).mpr (Nat.le_refl _)) hq)
  | succ i ih =>
    intro k hk
    have hkn : k < 1000 := by omega
    refine J_iload_n O.mo dJ7_fill_53178_5 1 rfl ?_
    refine J_iload_n O.mo dJ7_fill_53178_6 0 rfl ?_
    refine J_icmp_ge O.mo (tgt := 20) dJ7_fill_53178_7 (by decide) (fun hq => absurd ((niLe hkn hn).mp hq) (by omega)) (fun _ => ?_)
    refine J_aload_n O.mo dJ7_fill_53178_10 2 rfl ?_
    refine J_iload_n O.mo dJ7_fill_53178_11 1 rfl ?_
    refine J_iload_n O.mo dJ7_fill_53178_12 3 rfl ?_
    have hg : (eR (upR E (L.set j (.inr (0, n, .inl (fi a x k))))))[j]? = some (.inr (0, n, .inl (fi a x k))) := by show (L.set j _)[j]? = _; simp [hj]
    refine J_iastR O (hR _ rfl) hg (q := nI k) (show ¬ (nI k < 0 ∨ n ≤ (nI k).toNatClampNeg) from ?_) dJ7_fill_53178_13 (fun _ => ?_)
    · rw [niNat hkn]
      rintro (h | h)
      · have h0 : ¬ (nI 0 ≤ nI k) := by
          show ¬ ((0 : Int32) ≤ nI k)
          exact Int32.not_le.mpr h
        exact h0 ((niLe hkn (by omega)).mpr (Nat.zero_le _))
      · omega
    · have e1 : upR (upR E (L.set j (.inr (0, n, .inl (fi a x k))))) ((eR (upR E (L.set j (.inr (0, n, .inl (fi a x k)))))).set j (.inr (0, n, .inl (upd (fi a x k) (nI k).toNatClampNeg x)))) = upR E (L.set j (.inr (0, n, .inl (fi a x (k + 1))))) := by
        rw [niNat hkn, fi_s]
        show upR E ((L.set j _).set j _) = _
        rw [List.set_set]
      rw [e1]
      refine J_iinc O.mo (v := nI (k + 1)) (lv' := [(3, .inl (.int (nI n))), (0, .inr (some (8, j, 0))), (1, .inl (.int x))]) dJ7_fill_53178_14 (by rw [hmL]; decide) 1 rfl (by rw [show Int32.ofInt 1 = (1 : Int32) from by decide, niS]) rfl rfl ?_
      refine J_goto O.mo (tgt := 5) dJ7_fill_53178_17 (by decide) ?_
      refine J_sub [1, 0, 2, 3] rfl ?_
      exact ih (k + 1) (by omega)
set_option maxHeartbeats 4000000 in
set_option maxRecDepth 100000 in
theorem ci_fill {l : Launch} (hfl : l.stackTraces = false) {E : EE} {κ : K} {j n : Nat} {a : Nat → Int32} {x : Int32} (hR : rawOK E) (hj : (eR E)[j]? = some (.inr (0, n, .inl a))) (hn : n < 1000) : Con l yJ7_fill_53178 cJ7_fill_53178 4 none 1 0 [.inr (some (8, j, 0)), .inl (.int x)] (E, κ) (upR E ((eR E).set j (.inr (0, n, .inl (fi a x n)))), κ) none := by
  have hjl : j < (eR E).length := (List.getElem?_eq_some_iff.mp hj).1
  refine Con_of hfl (by decide +kernel) (Nat.le_of_ble_eq_true rfl) rfl rfl (fun X B g O hKP hmL hE => ?_)
  show J X B (E, κ) 0 [(0, .inr (some (8, j, 0))), (1, .inl (.int x))] []
  refine J_iconst O.mo (v := 0) dJ7_fill_53178_0 (by decide) ?_
  refine J_istore_n O.mo (lv' := [(0, .inr (some (8, j, 0))), (1, .inl (.int x))]) dJ7_fill_53178_1 (by rw [hmL]; decide) rfl rfl ?_
  refine J_aload_n O.mo dJ7_fill_53178_2 1 rfl ?_
  refine J_alen O.co (g := a) (fun ad => ct_8 hj) dJ7_fill_53178_3 ?_
  refine J_istore_n O.mo (lv' := [(2, .inl (.int 0)), (0, .inr (some (8, j, 0))), (1, .inl (.int x))]) dJ7_fill_53178_4 (by rw [hmL]; decide) rfl rfl ?_
  have h0 : (eR E).set j (.inr (0, n, .inl (fi a x 0))) = eR E := by
    have : fi a x 0 = a := by funext k; simp [fi]
    rw [this]
    apply List.ext_getElem?
    intro q
    rw [List.getElem?_set]
    split
    · rename_i hq; subst hq; rw [hj]
    · rfl
  have hgo := w_fill_l (E := E) (E' := E) (κ := κ) (L := eR E) (a := a) (x := x) O hmL hn hjl (fun r hr => rawOK_set hR (rcOK_of_N hr)) (hE _ _ dJ7_fill_53178_20) n 0 (by omega)
  rw [h0] at hgo
  exact hgo
theorem updo_ok {m : Nat} {o : Nat → Option Pl} {k : Nat} {v : Option Pl} (h : ∀ j, clA m (.inr (o j))) (hv : clA m (.inr v)) : ∀ j, clA m (.inr (updo o k v j)) := by
  intro j
  unfold updo
  split
  · exact hv
  · exact h j
section CRAW2
variable {l0 : Launch} {X : MX} {B : BX (EE × K)} {g : GP} {cc : ByteArray} {own : String} {F Lo : Nat} {E0 : EE} {L T : List RC} {κ κ' : K} {pc : Nat} {lv : List (Nat × AV)} {rest st0 as : List AV} {kd0 : Nat} {fs : Nat → AV}
theorem J_cFill (O : CK l0 X B g cc own F Lo) (hKP : KPok B (cst E0 L kd0 fs T)) (hR : rawOK (cst E0 L kd0 fs T)) (hfl : l0.stackTraces = false) {t d n : Nat} (hd0 : t + 1 = d) {a : Nat → Int32} (hj : T[t]? = some (.inr (0, n, .inl a))) (hn : n < 1000) {x : Int32} {T' : List RC} (hT : T.set t (.inr (0, n, .inl (fi a x n))) = T') {index : Nat}
    (w1 : Cond.methodLink own index yJ7_fill_53178 ∈ gwl) (w2 : Cond.static yJ7_fill_53178 ∈ gwl) (w4 : Cond.initialized RJ7 ∈ gwl) (w5 : Cond.code yJ7_fill_53178 cJ7_fill_53178 4 none ∈ gwl) (hpd : (yJ7_fill_53178).cls ≠ "java/lang/invoke/MethodHandle" ∧ (yJ7_fill_53178).cls ≠ "java/lang/invoke/VarHandle" ∧ (parseMethodDescriptor (yJ7_fill_53178).desc).map (fun d => d.parameters.length) = some 2)
    (hRm : 1 + 1 ≤ F ∧ 8 + (4 + 11) + 0 ≤ Lo) (hrc : rest.all cat1 = true) (hrl : rest.length ≤ 8) (hlv : ∀ q ∈ lv, Stab (cst E0 L kd0 fs T) q.2) (hrs : ∀ v ∈ rest, Stab (cst E0 L kd0 fs T) v) (hd : decode cc pc = .ok (.invokestatic index, 3))
    (kk : rawOK (cst E0 L kd0 fs T') → J X B (cst E0 L kd0 fs T', κ) (pc + 3) lv rest) : J X B (cst E0 L kd0 fs T, κ) pc lv (.inl (.int x) :: .inr (some (8, L.length + d, 0)) :: rest) := by
  subst hd0; subst hT
  have e1 : upR (cst E0 L kd0 fs T) ((eR (cst E0 L kd0 fs T)).set (L.length + (t + 1)) (.inr (0, n, .inl (fi a x n)))) = cst E0 L kd0 fs (T.set t (.inr (0, n, .inl (fi a x n)))) := congrArg (upR E0) cl_setk
  have h1 := ci_fill hfl (κ := κ) (x := x) hR (j := L.length + (t + 1)) (cl_k.trans hj) hn
  have h2 := rawOK_set (j := L.length + (t + 1)) hR (r := .inr (0, n, .inl (fi a x n))) trivial
  rw [e1] at h1 h2
  exact J_callS O hKP (as := [.inr (some (8, L.length + (t + 1), 0)), .inl (.int x)]) (rest := rest) (r := none) h1 rfl w1 w2 w4 w5 hpd rfl hRm hrc hrl hlv hrs hd (kk h2)
theorem J_cAnew (O : CK l0 X B g cc own F Lo) (hKP : KPok B (cst E0 L kd0 fs T)) (hR : rawOK (cst E0 L kd0 fs T)) {d : Nat} (hd0 : T.length + 1 = d) {ai : Nat} {C : String} (hai : ∀ ca : Nat → ClassId, (tysOf ca)[ai]? = some (ca ai, .object C)) {n : Int32} {N : Nat} {index : Nat} (w1 : Cond.classLink own index C ∈ gwl) (hAO : ∀ s, ST s → va_AO C s) (hn : ¬ n < 0) (hN : n.toNatClampNeg = N) (hb : N * 4 ≤ 536870912) (hlv : ∀ q ∈ lv, Stab (cst E0 L kd0 fs T) q.2) (hrs : ∀ v ∈ rest, Stab (cst E0 L kd0 fs T) v) (hd : decode cc pc = .ok (.anewarray index, 3))
    (kk : rawOK (cst E0 L kd0 fs (T ++ [.inr (ai, N, .inr (.inr fun _ => none))])) → J X B (cst E0 L kd0 fs (T ++ [.inr (ai, N, .inr (.inr fun _ => none))]), addC κ 1 N) (pc + 3) lv (.inr (some (8, L.length + d, 0)) :: rest)) : J X B (cst E0 L kd0 fs T, κ) pc lv (.inl (.int n) :: rest) := by
  subst hd0
  have e1 : upR (cst E0 L kd0 fs T) (eR (cst E0 L kd0 fs T) ++ [.inr (ai, N, .inr (.inr fun _ => none))]) = cst E0 L kd0 fs (T ++ [.inr (ai, N, .inr (.inr fun _ => none))]) := congrArg (upR E0) cl_app
  refine J_anewR O hKP hR hai w1 hAO hn hN hb hlv hrs hd ?_
  rw [e1, show (eR (cst E0 L kd0 fs T)).length = L.length + (T.length + 1) from cl_len]
  exact kk
theorem J_cAast (O : CK l0 X B g cc own F Lo) (hR : rawOK (cst E0 L kd0 fs T)) {t d t2 d2 n ai kd1 : Nat} (hd0 : t + 1 = d) (hd2 : t2 + 1 = d2) {o : Nat → Option Pl} {fs1 : Nat → AV} (hj : T[t]? = some (.inr (ai, n, .inr (.inr o)))) (hj2 : T[t2]? = some (.inl (kd1, fs1))) {C : String} {Tt : u_T} {N : Nat} (hai : ∀ ca : Nat → ClassId, (tysOf ca)[ai]? = some (ca ai, .object C)) (hc : vwCl[kd1]? = some (C, Tt, N)) {q : Int32} (hq : vp_in q n) {qn : Nat} (hqn : q.toNatClampNeg = qn) {T' : List RC} (hT : T.set t (.inr (ai, n, .inr (.inr (updo o qn (some (8, L.length + d2, 0)))))) = T') (hd : decode cc pc = .ok (.aastore, 1))
    (kk : rawOK (cst E0 L kd0 fs T') → J X B (cst E0 L kd0 fs T', κ) (pc + 1) lv rest) : J X B (cst E0 L kd0 fs T, κ) pc lv (.inr (some (8, L.length + d2, 0)) :: .inl (.int q) :: .inr (some (8, L.length + d, 0)) :: rest) := by
  subst hd0; subst hd2; subst hT; subst hqn
  have e1 : upR (cst E0 L kd0 fs T) ((eR (cst E0 L kd0 fs T)).set (L.length + (t + 1)) (.inr (ai, n, .inr (.inr (updo o q.toNatClampNeg (some (8, L.length + (t2 + 1), 0))))))) = cst E0 L kd0 fs (T.set t (.inr (ai, n, .inr (.inr (updo o q.toNatClampNeg (some (8, L.length + (t2 + 1), 0))))))) := congrArg (upR E0) cl_setk
  refine J_aastR O hR (j := L.length + (t + 1)) (j2 := L.length + (t2 + 1)) (cl_k.trans hj) (cl_k.trans hj2) hai hc hq hd ?_
  rw [e1]; exact kk
end CRAW2
def cX2 (n : Nat) (a1 : Int32) : List RC := .inl (3, (updf (updf (updf (updf (fun j => dv (tyX2 j)) 1 (.inr (some (8, n + 1, 0)))) 2 (.inr (some (8, n + 2, 0)))) 3 (.inr (some (8, n + 3, 0)))) 0 (.inl (.int a1)))) :: ((([] ++ [.inr (0, 40, .inl (fi (fun _ => 0) ((-1)) 40))]) ++ [.inr (0, 16, .inl fun _ => 0)]) ++ [.inr (0, 16, .inl fun _ => 0)])
theorem ok_X2 (n : Nat) (a1 : Int32) : aok (n + 4) (cX2 n a1) := aok_cons (show ∀ j, clA (n + 4) (_ : AV) from (updf_ok (updf_ok (updf_ok (updf_ok (fun j => dv_cl _ _) (fun _ => (by show n + 1 < n + 4; omega))) (fun _ => (by show n + 2 < n + 4; omega))) (fun _ => (by show n + 3 < n + 4; omega))) trivial)) (aok_app (aok_app (aok_app aok_nil (aok_cons trivial aok_nil)) (aok_cons trivial aok_nil)) (aok_cons trivial aok_nil))
set_option maxHeartbeats 4000000 in
set_option maxRecDepth 100000 in
theorem ci_X2 {l : Launch} (hfl : l.stackTraces = false) (a1 : Int32) {E0 : EE} {L : List RC} {κ : K} (hR : rawOK (upR E0 (L ++ [.inl (3, fun j => dv (tyX2 j))]))) : Con l yX2_init cX2_init 2 none 2 23 [.inr (some (8, L.length, 0)), .inl (.int a1)] (upR E0 (L ++ [.inl (3, fun j => dv (tyX2 j))]), κ) (upR E0 (L ++ cX2 L.length a1), addC κ 3 72) none := by
  refine Con_ofI hfl (by decide +kernel) (Nat.le_of_ble_eq_true rfl) rfl rfl (fun X B g O hKP hmL hname hE => ?_)
  replace hname : B.2.2.2.2.2.2.2.2 X → MXn X = "<init>" := hname
  change KPok B (cst E0 L 3 (fun j => dv (tyX2 j)) []) at hKP
  change rawOK (cst E0 L 3 (fun j => dv (tyX2 j)) []) at hR
  show J X B (cst E0 L 3 (fun j => dv (tyX2 j)) [], addC κ 0 0) 0 [(0, .inr (some (8, L.length, 0))), (1, .inl (.int a1))] []
  refine J_aload_n O.mo dX2_init_0 0 rfl ?_
  refine J_objInit O mw591 mw515 mw516 (by decide) (Nat.le_of_ble_eq_true rfl) rfl dX2_init_1 ?_
  refine J_aload_n O.mo dX2_init_4 0 rfl ?_
  refine J_bipush O.mo (v := 40) dX2_init_5 (by decide) ?_
  refine J_cNewa O (KPc hKP) hR (d := 1) rfl (atype := .int) (ty := .int) (ai := 0) (ct := .inl fun _ => 0) (N := 40) rfl (fun _ => rfl) (fun _ _ _ => ⟨_, rfl, rfl⟩) (fun _ => trivial) mw_arrI (by decide) (by decide) (by decide) (sl_p (stL2 (t := 0) rfl (by omega)) (sl_v sl_0)) (st_p (stL2 (t := 0) rfl (by omega)) st_0) dX2_init_7 (fun hR => ?_)
  show J X B (cst E0 L 3 (fun j => dv (tyX2 j)) ([] ++ [.inr (0, 40, .inl fun _ => 0)]), addC κ 1 40) 9 [(0, .inr (some (8, L.length, 0))), (1, .inl (.int a1))] [.inr (some (8, L.length + 1, 0)), .inr (some (8, L.length, 0))]
  refine J_cPut O hname hR (C := RX2) (Tt := TX2) (N := 8) rfl rfl in_X2 tyX2 tyX2_ok nmX2 1 (by decide) (v := .inr (some (8, L.length + 1, 0))) (v' := .inr (some (8, L.length + 1, 0))) (clL (t := 1) rfl (by omega)) rfl (fun _ => ⟨rfl, rfl⟩) (Or.inr rfl) mw1 rfl dX2_init_9 (fun hR => ?_)
  refine J_aload_n O.mo dX2_init_12 0 rfl ?_
  refine J_bipush O.mo (v := 16) dX2_init_13 (by decide) ?_
  refine J_cNewa O (KPc hKP) hR (d := 2) rfl (atype := .int) (ty := .int) (ai := 0) (ct := .inl fun _ => 0) (N := 16) rfl (fun _ => rfl) (fun _ _ _ => ⟨_, rfl, rfl⟩) (fun _ => trivial) mw_arrI (by decide) (by decide) (by decide) (sl_p (stL2 (t := 1) rfl (by omega)) (sl_v sl_0)) (st_p (stL2 (t := 1) rfl (by omega)) st_0) dX2_init_15 (fun hR => ?_)
  show J X B (cst E0 L 3 (updf (fun j => dv (tyX2 j)) 1 (.inr (some (8, L.length + 1, 0)))) (([] ++ [.inr (0, 40, .inl fun _ => 0)]) ++ [.inr (0, 16, .inl fun _ => 0)]), addC κ 2 56) 17 [(0, .inr (some (8, L.length, 0))), (1, .inl (.int a1))] [.inr (some (8, L.length + 2, 0)), .inr (some (8, L.length, 0))]
  refine J_cPut O hname hR (C := RX2) (Tt := TX2) (N := 8) rfl rfl in_X2 tyX2 tyX2_ok nmX2 2 (by decide) (v := .inr (some (8, L.length + 2, 0))) (v' := .inr (some (8, L.length + 2, 0))) (clL (t := 2) rfl (by omega)) rfl (fun _ => ⟨rfl, rfl⟩) (Or.inr rfl) mw0 rfl dX2_init_17 (fun hR => ?_)
  refine J_aload_n O.mo dX2_init_20 0 rfl ?_
  refine J_bipush O.mo (v := 16) dX2_init_21 (by decide) ?_
  refine J_cNewa O (KPc hKP) hR (d := 3) rfl (atype := .int) (ty := .int) (ai := 0) (ct := .inl fun _ => 0) (N := 16) rfl (fun _ => rfl) (fun _ _ _ => ⟨_, rfl, rfl⟩) (fun _ => trivial) mw_arrI (by decide) (by decide) (by decide) (sl_p (stL2 (t := 2) rfl (by omega)) (sl_v sl_0)) (st_p (stL2 (t := 2) rfl (by omega)) st_0) dX2_init_23 (fun hR => ?_)
  show J X B (cst E0 L 3 (updf (updf (fun j => dv (tyX2 j)) 1 (.inr (some (8, L.length + 1, 0)))) 2 (.inr (some (8, L.length + 2, 0)))) ((([] ++ [.inr (0, 40, .inl fun _ => 0)]) ++ [.inr (0, 16, .inl fun _ => 0)]) ++ [.inr (0, 16, .inl fun _ => 0)]), addC κ 3 72) 25 [(0, .inr (some (8, L.length, 0))), (1, .inl (.int a1))] [.inr (some (8, L.length + 3, 0)), .inr (some (8, L.length, 0))]
  refine J_cPut O hname hR (C := RX2) (Tt := TX2) (N := 8) rfl rfl in_X2 tyX2 tyX2_ok nmX2 3 (by decide) (v := .inr (some (8, L.length + 3, 0))) (v' := .inr (some (8, L.length + 3, 0))) (clL (t := 3) rfl (by omega)) rfl (fun _ => ⟨rfl, rfl⟩) (Or.inr rfl) mw2 rfl dX2_init_25 (fun hR => ?_)
  refine J_aload_n O.mo dX2_init_28 0 rfl ?_
  refine J_iload_n O.mo dX2_init_29 1 rfl ?_
  refine J_cPut O hname hR (C := RX2) (Tt := TX2) (N := 8) rfl rfl in_X2 tyX2 tyX2_ok nmX2 0 (by decide) (v := .inl (.int a1)) (v' := .inl (.int a1)) trivial rfl (fun _ => ⟨rfl, rfl⟩) (Or.inr rfl) mw592 rfl dX2_init_30 (fun hR => ?_)
  refine J_aload_n O.mo dX2_init_33 0 rfl ?_
  refine J_cGet O (C := RX2) (Tt := TX2) (N := 8) rfl rfl in_X2 1 (by decide) (v := .inr (some (8, L.length + 1, 0))) (fun _ => rfl) mw1 rfl dX2_init_34 ?_
  refine J_iconst O.mo (v := (-1)) dX2_init_37 (by decide) ?_
  refine J_cFill O (KPc hKP) hR hfl (t := 0) (d := 1) rfl (n := 40) rfl (by decide) (T' := ((([] ++ [.inr (0, 40, .inl (fi (fun _ => 0) ((-1)) 40))]) ++ [.inr (0, 16, .inl fun _ => 0)]) ++ [.inr (0, 16, .inl fun _ => 0)])) rfl mw593 mw312 mw51 mw313 pd_J7_fill_53178 (by decide) rfl (Nat.le_of_ble_eq_true rfl) (sl_p (stL2 (t := 3) rfl (by omega)) (sl_v sl_0)) st_0 dX2_init_38 (fun hR => ?_)
  exact hE _ _ dX2_init_41
def cX10 (n : Nat) : List RC := .inl (10, (updf (updf (updf (fun j => dv (tyX10 j)) 0 (.inr (some (8, n + 1, 0)))) 1 (.inr (some (8, n + 2, 0)))) 2 (.inr (some (8, n + 3, 0))))) :: ((((([] ++ cAL (n + 1)) ++ cAL (n + 2)) ++ [.inr (4, 2, .inr (.inr (updo (updo (fun _ => none) 0 (some (8, n + 4, 0))) 1 (some (8, n + 8, 0)))))]) ++ cX2 (n + 4) 0) ++ cX2 (n + 8) 1)
theorem ok_X10 (n : Nat) : aok (n + 12) (cX10 n) := aok_cons (show ∀ j, clA (n + 12) (_ : AV) from (updf_ok (updf_ok (updf_ok (fun j => dv_cl _ _) (fun _ => (by show n + 1 < n + 12; omega))) (fun _ => (by show n + 2 < n + 12; omega))) (fun _ => (by show n + 3 < n + 12; omega)))) (aok_app (aok_app (aok_app (aok_app (aok_app aok_nil (aok_sub (ok_AL (n + 1)) (by omega))) (aok_sub (ok_AL (n + 2)) (by omega))) (aok_cons (show ∀ j, clA _ (.inr (_ : Option Pl)) from (updo_ok (updo_ok (fun _ => trivial) (fun _ => (by show n + 4 < n + 12; omega))) (fun _ => (by show n + 8 < n + 12; omega)))) aok_nil)) (aok_sub (ok_X2 (n + 4) 0) (by omega))) (aok_sub (ok_X2 (n + 8) 1) (by omega)))
set_option maxHeartbeats 4000000 in
set_option maxRecDepth 100000 in
theorem ci_X10 {l : Launch} (hfl : l.stackTraces = false) {E0 : EE} {L : List RC} {κ : K} (hR : rawOK (upR E0 (L ++ [.inl (10, fun j => dv (tyX10 j))]))) : Con l yX10_init cX10_init 1 none 4 72 [.inr (some (8, L.length, 0))] (upR E0 (L ++ [.inl (10, fun j => dv (tyX10 j))]), κ) (upR E0 (L ++ cX10 L.length), addC κ 11 168) none := by
  refine Con_ofI hfl (by decide +kernel) (Nat.le_of_ble_eq_true rfl) rfl rfl (fun X B g O hKP hmL hname hE => ?_)
  replace hname : B.2.2.2.2.2.2.2.2 X → MXn X = "<init>" := hname
  change KPok B (cst E0 L 10 (fun j => dv (tyX10 j)) []) at hKP
  change rawOK (cst E0 L 10 (fun j => dv (tyX10 j)) []) at hR
  show J X B (cst E0 L 10 (fun j => dv (tyX10 j)) [], addC κ 0 0) 0 [(0, .inr (some (8, L.length, 0)))] []
  refine J_aload_n O.mo dX10_init_0 0 rfl ?_
  refine J_objInit O mw594 mw515 mw516 (by decide) (Nat.le_of_ble_eq_true rfl) rfl dX10_init_1 ?_
  refine J_aload_n O.mo dX10_init_4 0 rfl ?_
  refine J_cNew O (KPc hKP) hR (d := 1) rfl (kd1 := 0) (C := RJx4a65c) (Tt := TJx4a65c) (N := 3) rfl rfl in_Jx4a65c tyJx4a65c tyJx4a65c_ok mw595 mw596 mw45 (sl_p (stL2 (t := 0) rfl (by omega)) sl_0) (st_p (stL2 (t := 0) rfl (by omega)) st_0) dX10_init_5 (fun hR => ?_)
  show J X B (cst E0 L 10 (fun j => dv (tyX10 j)) ([] ++ [.inl (0, fun j => dv (tyJx4a65c j))]), addC κ 1 3) 8 [(0, .inr (some (8, L.length, 0)))] [.inr (some (8, L.length + 1, 0)), .inr (some (8, L.length, 0))]
  refine J_dup O.mo dX10_init_8 rfl ?_
  refine J_cCall O (KPc hKP) hR (d := 1) rfl (cY := cAL) (len := 1) (fun _ => rfl) (by decide) (fun n => ok_AL n) (as := []) (fun L2 hR2 => ci_AL hfl hR2) rfl rfl (Or.inl mw597) mw598 mw45 mw599 pd_Jx4a65c_init_da8c8 rfl (by decide) rfl (Nat.le_of_ble_eq_true rfl) (sl_p (stL2 (t := 1) rfl (by omega)) sl_0) (st_p (stL2 (t := 1) rfl (by omega)) (st_p (stL2 (t := 1) rfl (by omega)) st_0)) dX10_init_9 (fun hR => ?_)
  show J X B (cst E0 L 10 (fun j => dv (tyX10 j)) ([] ++ cAL (L.length + 1)), addC κ 1 3) 12 [(0, .inr (some (8, L.length, 0)))] [.inr (some (8, L.length + 1, 0)), .inr (some (8, L.length, 0))]
  refine J_cPut O hname hR (C := RX10) (Tt := TX10) (N := 4) rfl rfl in_X10 tyX10 tyX10_ok nmX10 0 (by decide) (v := .inr (some (8, L.length + 1, 0))) (v' := .inr (some (8, L.length + 1, 0))) (clL (t := 1) rfl (by omega)) rfl (fun _ => ⟨rfl, rfl⟩) (Or.inr rfl) mw333 rfl dX10_init_12 (fun hR => ?_)
  refine J_aload_n O.mo dX10_init_15 0 rfl ?_
  refine J_cNew O (KPc hKP) hR (d := 2) rfl (kd1 := 0) (C := RJx4a65c) (Tt := TJx4a65c) (N := 3) rfl rfl in_Jx4a65c tyJx4a65c tyJx4a65c_ok mw595 mw596 mw45 (sl_p (stL2 (t := 1) rfl (by omega)) sl_0) (st_p (stL2 (t := 1) rfl (by omega)) st_0) dX10_init_16 (fun hR => ?_)
  show J X B (cst E0 L 10 (updf (fun j => dv (tyX10 j)) 0 (.inr (some (8, L.length + 1, 0)))) (([] ++ cAL (L.length + 1)) ++ [.inl (0, fun j => dv (tyJx4a65c j))]), addC κ 2 6) 19 [(0, .inr (some (8, L.length, 0)))] [.inr (some (8, L.length + 2, 0)), .inr (some (8, L.length, 0))]
  refine J_dup O.mo dX10_init_19 rfl ?_
  refine J_cCall O (KPc hKP) hR (d := 2) rfl (cY := cAL) (len := 1) (fun _ => rfl) (by decide) (fun n => ok_AL n) (as := []) (fun L2 hR2 => ci_AL hfl hR2) rfl rfl (Or.inl mw597) mw598 mw45 mw599 pd_Jx4a65c_init_da8c8 rfl (by decide) rfl (Nat.le_of_ble_eq_true rfl) (sl_p (stL2 (t := 2) rfl (by omega)) sl_0) (st_p (stL2 (t := 2) rfl (by omega)) (st_p (stL2 (t := 2) rfl (by omega)) st_0)) dX10_init_20 (fun hR => ?_)
  show J X B (cst E0 L 10 (updf (fun j => dv (tyX10 j)) 0 (.inr (some (8, L.length + 1, 0)))) (([] ++ cAL (L.length + 1)) ++ cAL (L.length + 2)), addC κ 2 6) 23 [(0, .inr (some (8, L.length, 0)))] [.inr (some (8, L.length + 2, 0)), .inr (some (8, L.length, 0))]
  refine J_cPut O hname hR (C := RX10) (Tt := TX10) (N := 4) rfl rfl in_X10 tyX10 tyX10_ok nmX10 1 (by decide) (v := .inr (some (8, L.length + 2, 0))) (v' := .inr (some (8, L.length + 2, 0))) (clL (t := 2) rfl (by omega)) rfl (fun _ => ⟨rfl, rfl⟩) (Or.inr rfl) mw469 rfl dX10_init_23 (fun hR => ?_)
  refine J_aload_n O.mo dX10_init_26 0 rfl ?_
  refine J_iconst O.mo (v := 2) dX10_init_27 (by decide) ?_
  refine J_cAnew O (KPc hKP) hR (d := 3) rfl (ai := 4) (C := "GuestHall$Host") (fun _ => rfl) (n := 2) (N := 2) mw600 (fun s hs => hs.2.2.1) (by decide) (by decide) (by decide) (sl_p (stL2 (t := 2) rfl (by omega)) sl_0) (st_p (stL2 (t := 2) rfl (by omega)) st_0) dX10_init_28 (fun hR => ?_)
  show J X B (cst E0 L 10 (updf (updf (fun j => dv (tyX10 j)) 0 (.inr (some (8, L.length + 1, 0)))) 1 (.inr (some (8, L.length + 2, 0)))) ((([] ++ cAL (L.length + 1)) ++ cAL (L.length + 2)) ++ [.inr (4, 2, .inr (.inr fun _ => none))]), addC κ 3 8) 31 [(0, .inr (some (8, L.length, 0)))] [.inr (some (8, L.length + 3, 0)), .inr (some (8, L.length, 0))]
  refine J_dup O.mo dX10_init_31 rfl ?_
  refine J_iconst O.mo (v := 0) dX10_init_32 (by decide) ?_
  refine J_cNew O (KPc hKP) hR (d := 4) rfl (kd1 := 3) (C := RX2) (Tt := TX2) (N := 8) rfl rfl in_X2 tyX2 tyX2_ok mw600 mw601 mw10 (sl_p (stL2 (t := 3) rfl (by omega)) sl_0) (st_v (st_p (stL2 (t := 3) rfl (by omega)) (st_p (stL2 (t := 3) rfl (by omega)) (st_p (stL2 (t := 3) rfl (by omega)) st_0)))) dX10_init_33 (fun hR => ?_)
  show J X B (cst E0 L 10 (updf (updf (fun j => dv (tyX10 j)) 0 (.inr (some (8, L.length + 1, 0)))) 1 (.inr (some (8, L.length + 2, 0)))) (((([] ++ cAL (L.length + 1)) ++ cAL (L.length + 2)) ++ [.inr (4, 2, .inr (.inr fun _ => none))]) ++ [.inl (3, fun j => dv (tyX2 j))]), addC κ 4 16) 36 [(0, .inr (some (8, L.length, 0)))] [.inr (some (8, L.length + 4, 0)), .inl (.int 0), .inr (some (8, L.length + 3, 0)), .inr (some (8, L.length + 3, 0)), .inr (some (8, L.length, 0))]
  refine J_dup O.mo dX10_init_36 rfl ?_
  refine J_iconst O.mo (v := 0) dX10_init_37 (by decide) ?_
  refine J_cCall O (KPc hKP) hR (d := 4) rfl (cY := (fun n => cX2 n 0)) (len := 4) (fun _ => rfl) (by decide) (fun n => ok_X2 n 0) (as := [.inl (.int 0)]) (fun L2 hR2 => ci_X2 hfl 0 hR2) rfl rfl (Or.inl mw602) mw603 mw10 mw604 pd_X2_init rfl (by decide) rfl (Nat.le_of_ble_eq_true rfl) (sl_p (stL2 (t := 4) rfl (by omega)) sl_0) (st_p (stL2 (t := 4) rfl (by omega)) (st_v (st_p (stL2 (t := 4) rfl (by omega)) (st_p (stL2 (t := 4) rfl (by omega)) (st_p (stL2 (t := 4) rfl (by omega)) st_0))))) dX10_init_38 (fun hR => ?_)
  show J X B (cst E0 L 10 (updf (updf (fun j => dv (tyX10 j)) 0 (.inr (some (8, L.length + 1, 0)))) 1 (.inr (some (8, L.length + 2, 0)))) (((([] ++ cAL (L.length + 1)) ++ cAL (L.length + 2)) ++ [.inr (4, 2, .inr (.inr fun _ => none))]) ++ cX2 (L.length + 4) 0), addC κ 7 88) 41 [(0, .inr (some (8, L.length, 0)))] [.inr (some (8, L.length + 4, 0)), .inl (.int 0), .inr (some (8, L.length + 3, 0)), .inr (some (8, L.length + 3, 0)), .inr (some (8, L.length, 0))]
  refine J_cAast O hR (t := 2) (d := 3) rfl (t2 := 3) (d2 := 4) rfl (n := 2) rfl rfl (fun _ => rfl) rfl (q := 0) (show ¬ ((0 : Int32) < 0 ∨ 2 ≤ (0 : Int32).toNatClampNeg) from by decide) (qn := 0) (by decide) (T' := (((([] ++ cAL (L.length + 1)) ++ cAL (L.length + 2)) ++ [.inr (4, 2, .inr (.inr (updo (fun _ => none) 0 (some (8, L.length + 4, 0)))))]) ++ cX2 (L.length + 4) 0)) rfl dX10_init_41 (fun hR => ?_)
  refine J_dup O.mo dX10_init_42 rfl ?_
  refine J_iconst O.mo (v := 1) dX10_init_43 (by decide) ?_
  refine J_cNew O (KPc hKP) hR (d := 8) rfl (kd1 := 3) (C := RX2) (Tt := TX2) (N := 8) rfl rfl in_X2 tyX2 tyX2_ok mw600 mw601 mw10 (sl_p (stL2 (t := 7) rfl (by omega)) sl_0) (st_v (st_p (stL2 (t := 7) rfl (by omega)) (st_p (stL2 (t := 7) rfl (by omega)) (st_p (stL2 (t := 7) rfl (by omega)) st_0)))) dX10_init_44 (fun hR => ?_)
  show J X B (cst E0 L 10 (updf (updf (fun j => dv (tyX10 j)) 0 (.inr (some (8, L.length + 1, 0)))) 1 (.inr (some (8, L.length + 2, 0)))) ((((([] ++ cAL (L.length + 1)) ++ cAL (L.length + 2)) ++ [.inr (4, 2, .inr (.inr (updo (fun _ => none) 0 (some (8, L.length + 4, 0)))))]) ++ cX2 (L.length + 4) 0) ++ [.inl (3, fun j => dv (tyX2 j))]), addC κ 8 96) 47 [(0, .inr (some (8, L.length, 0)))] [.inr (some (8, L.length + 8, 0)), .inl (.int 1), .inr (some (8, L.length + 3, 0)), .inr (some (8, L.length + 3, 0)), .inr (some (8, L.length, 0))]
  refine J_dup O.mo dX10_init_47 rfl ?_
  refine J_iconst O.mo (v := 1) dX10_init_48 (by decide) ?_
  refine J_cCall O (KPc hKP) hR (d := 8) rfl (cY := (fun n => cX2 n 1)) (len := 4) (fun _ => rfl) (by decide) (fun n => ok_X2 n 1) (as := [.inl (.int 1)]) (fun L2 hR2 => ci_X2 hfl 1 hR2) rfl rfl (Or.inl mw602) mw603 mw10 mw604 pd_X2_init rfl (by decide) rfl (Nat.le_of_ble_eq_true rfl) (sl_p (stL2 (t := 8) rfl (by omega)) sl_0) (st_p (stL2 (t := 8) rfl (by omega)) (st_v (st_p (stL2 (t := 8) rfl (by omega)) (st_p (stL2 (t := 8) rfl (by omega)) (st_p (stL2 (t := 8) rfl (by omega)) st_0))))) dX10_init_49 (fun hR => ?_)
  show J X B (cst E0 L 10 (updf (updf (fun j => dv (tyX10 j)) 0 (.inr (some (8, L.length + 1, 0)))) 1 (.inr (some (8, L.length + 2, 0)))) ((((([] ++ cAL (L.length + 1)) ++ cAL (L.length + 2)) ++ [.inr (4, 2, .inr (.inr (updo (fun _ => none) 0 (some (8, L.length + 4, 0)))))]) ++ cX2 (L.length + 4) 0) ++ cX2 (L.length + 8) 1), addC κ 11 168) 52 [(0, .inr (some (8, L.length, 0)))] [.inr (some (8, L.length + 8, 0)), .inl (.int 1), .inr (some (8, L.length + 3, 0)), .inr (some (8, L.length + 3, 0)), .inr (some (8, L.length, 0))]
  refine J_cAast O hR (t := 2) (d := 3) rfl (t2 := 7) (d2 := 8) rfl (n := 2) rfl rfl (fun _ => rfl) rfl (q := 1) (show ¬ ((1 : Int32) < 0 ∨ 2 ≤ (1 : Int32).toNatClampNeg) from by decide) (qn := 1) (by decide) (T' := ((((([] ++ cAL (L.length + 1)) ++ cAL (L.length + 2)) ++ [.inr (4, 2, .inr (.inr (updo (updo (fun _ => none) 0 (some (8, L.length + 4, 0))) 1 (some (8, L.length + 8, 0)))))]) ++ cX2 (L.length + 4) 0) ++ cX2 (L.length + 8) 1)) rfl dX10_init_52 (fun hR => ?_)
  refine J_cPut O hname hR (C := RX10) (Tt := TX10) (N := 4) rfl rfl in_X10 tyX10 tyX10_ok nmX10 2 (by decide) (v := .inr (some (8, L.length + 3, 0))) (v' := .inr (some (8, L.length + 3, 0))) (clL (t := 11) rfl (by omega)) rfl (fun _ => ⟨rfl, rfl⟩) (Or.inr rfl) mw425 rfl dX10_init_53 (fun hR => ?_)
  exact hE _ _ dX10_init_56
