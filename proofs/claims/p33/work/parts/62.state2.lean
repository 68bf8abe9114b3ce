set_option maxRecDepth 100000 in
theorem mw513 : Cond.methodLinkNest RX8 85 yX10_arePagesAlike "GuestHall" ∈ nwl := nwl_tb 952 rfl rfl
def f_X8_countPagesUnlike_N_b55 (E : EE) (f0 : Nat) (i0 : Nat) (c0 : Nat) (k33 : K → Pl → Int32 → Int32 → Option (K × Int32)) (κ : K) (q3 : Pl) (x4 : Int32) (x5 : Int32) : Option (K × Int32) := nm (x5 + 1) fun y7 => k33 κ q3 x4 y7
def f_X8_countPagesUnlike_N_b33 (E : EE) (f0 : Nat) (i0 : Nat) (c0 : Nat) : Nat → K → Pl → Int32 → Int32 → Option (K × Int32)
  | 0, _, _, _, _ => none
  | n + 1, κ, q3, x4, x5 => if 8 ≤ x5 then some (κ, x4) else bd (f_X10_arePagesAlike E κ (f0, i0, c0 + 4) x5 q3 x5) fun κ3 r5 => if r5 = 0 then nm (x4 + 1) fun y8 => f_X8_countPagesUnlike_N_b55 E f0 i0 c0 (f_X8_countPagesUnlike_N_b33 E f0 i0 c0 n) κ3 q3 y8 x5 else f_X8_countPagesUnlike_N_b55 E f0 i0 c0 (f_X8_countPagesUnlike_N_b33 E f0 i0 c0 n) κ3 q3 x4 x5
def f_X8_countPagesUnlike_N_b26 (E : EE) (f0 : Nat) (i0 : Nat) (c0 : Nat) (κ : K) (qs0 : Pl) : Option (K × Int32) := f_X8_countPagesUnlike_N_b33 E f0 i0 c0 FU κ qs0 0 0
def f_X8_countPagesUnlike_N (E : EE) (κ : K) (f0 : Nat) (i0 : Nat) (c0 : Nat) : Option (K × Int32) := nm (addC κ 1 32) fun κ1 => f_X8_countPagesUnlike_N_b26 (upR E (eR E ++ [.inr (0, 32, .inl fun _ => 0)])) f0 i0 c0 κ1 ((8, (eR E).length, 0))
set_option maxHeartbeats 4000000 in
set_option maxRecDepth 100000 in
theorem w_X8_countPagesUnlike_N_b55 {l0 : Launch} (hfl : l0.stackTraces = false) {X : MX} {B : BX (EE × K)} {g : GP} {E : EE} {κ' : K} {rr : Int32} {f0 : Nat} {i0 : Nat} {c0 : Nat} (O : CK l0 X B g cX8_countPagesUnlike RX8 2 24) (hKP : KPok B E) (hmL : B.2.2.2.1 = 6) (hE : ∀ (pc : Nat) (lv : List (Nat × AV)), decode cX8_countPagesUnlike pc = .ok (.ireturn, 1) → J X B (E, κ') pc lv [.inl (.int rr)]) (h0 : PC 9 E f0 i0 c0) (hRN : rawOK E) {k33 : K → Pl → Int32 → Int32 → Option (K × Int32)} (hk33 : ∀ (κ : K) (q3 : Pl) (x4 : Int32) (x5 : Int32) (p3 : Stab E (.inr (some q3))), k33 κ q3 x4 x5 = some (κ', rr) → J X B (E, κ) 33 [(2, .inr (some (f0, i0, c0 + 4))), (3, .inr (some q3)), (4, .inl (.int x4)), (5, .inl (.int x5))] []) : ∀ (κ : K) (q3 : Pl) (x4 : Int32) (x5 : Int32) (p3 : Stab E (.inr (some q3))), f_X8_countPagesUnlike_N_b55 E f0 i0 c0 k33 κ q3 x4 x5 = some (κ', rr) → J X B (E, κ) 55 [(2, .inr (some (f0, i0, c0 + 4))), (3, .inr (some q3)), (4, .inl (.int x4)), (5, .inl (.int x5))] [] := by
  intro κ q3 x4 x5 p3 h
  unfold f_X8_countPagesUnlike_N_b55 at h
  refine J_iinc O.mo (v := x5 + 1) (lv' := [(2, .inr (some (f0, i0, c0 + 4))), (3, .inr (some q3)), (4, .inl (.int x4))]) dX8_countPagesUnlike_55 (by rw [hmL]; decide) 3 rfl (by rw [show Int32.ofInt (1) = (1 : Int32) from by decide]) rfl rfl ?_
  refine nm_some (P := fun z => J X B (E, κ) 58 [(5, .inl (.int z)), (2, .inr (some (f0, i0, c0 + 4))), (3, .inr (some q3)), (4, .inl (.int x4))] []) h (fun y7 h => ?_)
  refine J_goto O.mo (tgt := 33) dX8_countPagesUnlike_58 (by decide) ?_
  refine J_sub [1, 2, 3, 0] rfl ?_
  exact hk33 _ _ _ _ p3 h
set_option maxHeartbeats 4000000 in
set_option maxRecDepth 100000 in
theorem w_X8_countPagesUnlike_N_b33 {l0 : Launch} (hfl : l0.stackTraces = false) {X : MX} {B : BX (EE × K)} {g : GP} {E : EE} {κ' : K} {rr : Int32} {f0 : Nat} {i0 : Nat} {c0 : Nat} (O : CK l0 X B g cX8_countPagesUnlike RX8 2 24) (hKP : KPok B E) (hmL : B.2.2.2.1 = 6) (hE : ∀ (pc : Nat) (lv : List (Nat × AV)), decode cX8_countPagesUnlike pc = .ok (.ireturn, 1) → J X B (E, κ') pc lv [.inl (.int rr)]) (h0 : PC 9 E f0 i0 c0) (hRN : rawOK E) : ∀ (n : Nat) (κ : K) (q3 : Pl) (x4 : Int32) (x5 : Int32) (p3 : Stab E (.inr (some q3))), f_X8_countPagesUnlike_N_b33 E f0 i0 c0 n κ q3 x4 x5 = some (κ', rr) → J X B (E, κ) 33 [(2, .inr (some (f0, i0, c0 + 4))), (3, .inr (some q3)), (4, .inl (.int x4)), (5, .inl (.int x5))] [] := by
  intro n
  induction n with
  | zero => intro κ q3 x4 x5 p3 h; cases h
  | succ n ih =>
    intro κ q3 x4 x5 p3 h
    rw [f_X8_countPagesUnlike_N_b33] at h
    refine J_iload O.mo dX8_countPagesUnlike_33 3 rfl ?_
    refine J_bipush O.mo (v := 8) dX8_countPagesUnlike_35 (by decide) ?_
    refine J_icmp_ge O.mo (tgt := 61) dX8_countPagesUnlike_37 (by decide) (fun hc2 => ?_) (fun hc2 => ?_)
    · replace h := (if_pos hc2).symm.trans h
      refine J_iload O.mo dX8_countPagesUnlike_61 2 rfl ?_
      cases h
      exact hE _ _ dX8_countPagesUnlike_63
    · replace h := (if_neg hc2).symm.trans h
      refine J_aload_n O.mo dX8_countPagesUnlike_40 0 rfl ?_
      refine J_iload O.mo dX8_countPagesUnlike_41 3 rfl ?_
      refine J_aload_n O.mo dX8_countPagesUnlike_43 1 rfl ?_
      refine J_iload O.mo dX8_countPagesUnlike_44 3 rfl ?_
      obtain ⟨κ3, r5, hq4, h⟩ := bd_some h
      refine J_callSN O hKP (as := [.inr (some (f0, i0, c0 + 4)), .inl (.int x5), .inr (some q3), .inl (.int x5)]) (rest := []) (r := (some (.inl (.int r5)))) (c_X10_arePagesAlike hfl hq4) rfl mw513 mw381 mw320 mw382 pd_X10_arePagesAlike rfl (by decide) rfl (Nat.le_of_ble_eq_true rfl) (sl_p (s9_4 h0) (sl_p p3 (sl_v (sl_v sl_0)))) st_0 dX8_countPagesUnlike_46 ?_
      show J X B (E, κ3) 49 [(2, .inr (some (f0, i0, c0 + 4))), (3, .inr (some q3)), (4, .inl (.int x4)), (5, .inl (.int x5))] [.inl (.int r5)]
      refine J_if_ne O.mo (tgt := 55) dX8_countPagesUnlike_49 (by decide) (fun hc6 => ?_) (fun hc6 => ?_)
      · replace h := (if_neg hc6).symm.trans h
        exact w_X8_countPagesUnlike_N_b55 hfl O hKP hmL hE h0 hRN ih _ _ _ _ p3 h
      · replace h := (if_pos hc6).symm.trans h
        refine J_iinc O.mo (v := x4 + 1) (lv' := [(2, .inr (some (f0, i0, c0 + 4))), (3, .inr (some q3)), (5, .inl (.int x5))]) dX8_countPagesUnlike_52 (by rw [hmL]; decide) 2 rfl (by rw [show Int32.ofInt (1) = (1 : Int32) from by decide]) rfl rfl ?_
        refine nm_some (P := fun z => J X B (E, κ3) 55 [(4, .inl (.int z)), (2, .inr (some (f0, i0, c0 + 4))), (3, .inr (some q3)), (5, .inl (.int x5))] []) h (fun y8 h => ?_)
        refine J_sub [1, 2, 0, 3] rfl ?_
        exact w_X8_countPagesUnlike_N_b55 hfl O hKP hmL hE h0 hRN ih _ _ _ _ p3 h
set_option maxHeartbeats 4000000 in
set_option maxRecDepth 100000 in
theorem w_X8_countPagesUnlike_N_b26 {l0 : Launch} (hfl : l0.stackTraces = false) {X : MX} {B : BX (EE × K)} {g : GP} {E : EE} {κ' : K} {rr : Int32} {f0 : Nat} {i0 : Nat} {c0 : Nat} (O : CK l0 X B g cX8_countPagesUnlike RX8 2 24) (hKP : KPok B E) (hmL : B.2.2.2.1 = 6) (hE : ∀ (pc : Nat) (lv : List (Nat × AV)), decode cX8_countPagesUnlike pc = .ok (.ireturn, 1) → J X B (E, κ') pc lv [.inl (.int rr)]) (h0 : PC 9 E f0 i0 c0) (hRN : rawOK E) : ∀ (κ : K) (qs0 : Pl) (ps0 : Stab E (.inr (some qs0))), f_X8_countPagesUnlike_N_b26 E f0 i0 c0 κ qs0 = some (κ', rr) → J X B (E, κ) 26 [(2, .inr (some (f0, i0, c0 + 4)))] [.inr (some qs0)] := by
  intro κ qs0 ps0 h
  unfold f_X8_countPagesUnlike_N_b26 at h
  refine J_astore_n O.mo (lv' := [(2, .inr (some (f0, i0, c0 + 4)))]) dX8_countPagesUnlike_26 (by rw [hmL]; decide) rfl rfl ?_
  refine J_iconst O.mo (v := 0) dX8_countPagesUnlike_27 (by decide) ?_
  refine J_istore O.mo (lv' := [(3, .inr (some qs0)), (2, .inr (some (f0, i0, c0 + 4)))]) dX8_countPagesUnlike_28 (by rw [hmL]; decide) rfl rfl ?_
  refine J_iconst O.mo (v := 0) dX8_countPagesUnlike_30 (by decide) ?_
  refine J_istore O.mo (lv' := [(4, .inl (.int 0)), (3, .inr (some qs0)), (2, .inr (some (f0, i0, c0 + 4)))]) dX8_countPagesUnlike_31 (by rw [hmL]; decide) rfl rfl ?_
  refine J_sub [3, 2, 1, 0] rfl ?_
  exact w_X8_countPagesUnlike_N_b33 hfl O hKP hmL hE h0 hRN FU _ _ _ _ ps0 h
set_option maxHeartbeats 4000000 in
set_option maxRecDepth 100000 in
theorem w_X8_countPagesUnlike_N {l0 : Launch} (hfl : l0.stackTraces = false) {X : MX} {B : BX (EE × K)} {g : GP} {E : EE} {κ' : K} {rr : Int32} {f0 : Nat} {i0 : Nat} {c0 : Nat} (O : CK l0 X B g cX8_countPagesUnlike RX8 2 24) (hKP : KPok B E) (hmL : B.2.2.2.1 = 6) (hE : ∀ (pc : Nat) (lv : List (Nat × AV)), decode cX8_countPagesUnlike pc = .ok (.ireturn, 1) → J X B (E, κ') pc lv [.inl (.int rr)]) (h0 : PC 9 E f0 i0 c0) (hRN : rawOK E) : ∀ (κ : K), f_X8_countPagesUnlike_N E κ f0 i0 c0 = some (κ', rr) → J X B (E, κ) 0 [(0, .inr (some (f0, i0, c0))), (1, .inr none)] [] := by
  intro κ h
  unfold f_X8_countPagesUnlike_N at h
  refine J_aload_n O.mo dX8_countPagesUnlike_0 0 rfl ?_
  refine J_getF O.co (kd0 := 9) (k9_0 h0) (l9_0 h0) (C := RX8) (T := TX8) (N := 10) rfl (by decide) rfl in_X8 0 (by decide) (v := .inr (some (f0, i0, c0 + 1))) rfl mw234 rfl dX8_countPagesUnlike_1 ?_
  refine J_getF O.co (kd0 := 4) (k9_1 h0) (l9_1 h0) (C := RX3) (T := TX3) (N := 9) rfl (by decide) rfl in_X3 2 (by decide) (v := .inr (some (f0, i0, c0 + 4))) rfl mw282 rfl dX8_countPagesUnlike_4 ?_
  refine J_astore_n O.mo (lv' := [(0, .inr (some (f0, i0, c0))), (1, .inr none)]) dX8_countPagesUnlike_7 (by rw [hmL]; decide) rfl rfl ?_
  refine J_aload_n O.mo dX8_countPagesUnlike_8 2 rfl ?_
  refine J_ifnonnullN O.mo dX8_countPagesUnlike_9 ?_
  refine J_bipush O.mo (v := 32) dX8_countPagesUnlike_12 (by decide) ?_
  refine J_newaR (atype := .int) (ty := .int) (ai := 0) (ct := .inl fun _ => 0) (N := 32) O hKP hRN rfl (fun _ => rfl) (fun _ _ _ => ⟨_, rfl, rfl⟩) trivial mw_arrI (by decide) (by decide) (by decide) (sl_p (s9_4 h0) (sl_p (s9_0 h0) (sl_n sl_0))) st_0 dX8_countPagesUnlike_14 (fun hRN2 => ?_)
  refine nm_some (P := fun z => J X B ((upR E (eR E ++ [.inr (0, 32, .inl fun _ => 0)])), z) 16 [(2, .inr (some (f0, i0, c0 + 4))), (0, .inr (some (f0, i0, c0))), (1, .inr none)] [.inr (some (8, (eR E).length, 0))]) h (fun κ1 h => ?_)
  refine J_goto O.mo (tgt := 26) dX8_countPagesUnlike_16 (by decide) ?_
  refine J_sub [0] rfl ?_
  have a1 : KPok B (upR E (eR E ++ [.inr (0, 32, .inl fun _ => 0)])) := hKP.raw (by simp)
  have a5 : ∀ (pc : Nat) (lv : List (Nat × AV)), decode cX8_countPagesUnlike pc = .ok (.ireturn, 1) → J X B ((upR E (eR E ++ [.inr (0, 32, .inl fun _ => 0)])), κ') pc lv [.inl (.int rr)] := fun pc lv hd => J_drop O hKP (hE pc lv hd)
  have b0 : PC 9 (upR E (eR E ++ [.inr (0, 32, .inl fun _ => 0)])) f0 i0 c0 := PC_up9 h0
  have b1 : rawOK (upR E (eR E ++ [.inr (0, 32, .inl fun _ => 0)])) := rawOK_push hRN (show rcOK _ (.inr (0, 32, .inl fun _ => 0)) from trivial)
  have d0 : Stab (upR E (eR E ++ [.inr (0, 32, .inl fun _ => 0)])) (.inr (some (8, (eR E).length, 0))) := st_8n
  generalize (upR E (eR E ++ [.inr (0, 32, .inl fun _ => 0)])) = E9 at h a1 a5 b0 b1 d0 ⊢
  exact w_X8_countPagesUnlike_N_b26 hfl O a1 hmL a5 b0 b1 _ _ d0 h
theorem c_X8_countPagesUnlike_N {l : Launch} (hfl : l.stackTraces = false) {E : EE} {κ κ' : K} {f0 : Nat} {i0 : Nat} {c0 : Nat} (h0 : PC 9 E f0 i0 c0) (hRN : rawOK E) {rr : Int32} (h : f_X8_countPagesUnlike_N E κ f0 i0 c0 = some (κ', rr)) : Con l yX8_countPagesUnlike cX8_countPagesUnlike 6 (some .int) 2 24 [.inr (some (f0, i0, c0)), .inr none] (E, κ) (E, κ') (some (.inl (.int rr))) := by
  exact Con_of hfl (by decide +kernel) (Nat.le_of_ble_eq_true rfl) rfl ⟨_, rfl, rfl⟩ (fun X B g O hKP hmL hE => w_X8_countPagesUnlike_N hfl O hKP hmL hE h0 hRN _ h)
def f_X8_countPagesUnlike_b55 (E : EE) (f0 : Nat) (i0 : Nat) (c0 : Nat) (f1 : Nat) (i1 : Nat) (c1 : Nat) (k33 : K → Int32 → Int32 → Option (K × Int32)) (κ : K) (x4 : Int32) (x5 : Int32) : Option (K × Int32) := nm (x5 + 1) fun y6 => k33 κ x4 y6
def f_X8_countPagesUnlike_b33 (E : EE) (f0 : Nat) (i0 : Nat) (c0 : Nat) (f1 : Nat) (i1 : Nat) (c1 : Nat) : Nat → K → Int32 → Int32 → Option (K × Int32)
  | 0, _, _, _ => none
  | n + 1, κ, x4, x5 => if 8 ≤ x5 then some (κ, x4) else bd (f_X10_arePagesAlike E κ (f0, i0, c0 + 4) x5 (f1, i1, c1 + 4) x5) fun κ2 r4 => if r4 = 0 then nm (x4 + 1) fun y7 => f_X8_countPagesUnlike_b55 E f0 i0 c0 f1 i1 c1 (f_X8_countPagesUnlike_b33 E f0 i0 c0 f1 i1 c1 n) κ2 y7 x5 else f_X8_countPagesUnlike_b55 E f0 i0 c0 f1 i1 c1 (f_X8_countPagesUnlike_b33 E f0 i0 c0 f1 i1 c1 n) κ2 x4 x5
def f_X8_countPagesUnlike_b26 (E : EE) (f0 : Nat) (i0 : Nat) (c0 : Nat) (f1 : Nat) (i1 : Nat) (c1 : Nat) (κ : K) : Option (K × Int32) := f_X8_countPagesUnlike_b33 E f0 i0 c0 f1 i1 c1 FU κ 0 0
def f_X8_countPagesUnlike (E : EE) (κ : K) (f0 : Nat) (i0 : Nat) (c0 : Nat) (f1 : Nat) (i1 : Nat) (c1 : Nat) : Option (K × Int32) := f_X8_countPagesUnlike_b26 E f0 i0 c0 f1 i1 c1 κ
set_option maxHeartbeats 4000000 in
set_option maxRecDepth 100000 in
theorem w_X8_countPagesUnlike_b55 {l0 : Launch} (hfl : l0.stackTraces = false) {X : MX} {B : BX (EE × K)} {g : GP} {E : EE} {κ' : K} {rr : Int32} {f0 : Nat} {i0 : Nat} {c0 : Nat} {f1 : Nat} {i1 : Nat} {c1 : Nat} (O : CK l0 X B g cX8_countPagesUnlike RX8 2 24) (hKP : KPok B E) (hmL : B.2.2.2.1 = 6) (hE : ∀ (pc : Nat) (lv : List (Nat × AV)), decode cX8_countPagesUnlike pc = .ok (.ireturn, 1) → J X B (E, κ') pc lv [.inl (.int rr)]) (h0 : PC 9 E f0 i0 c0) (h1 : PC 9 E f1 i1 c1) (hRN : rawOK E) {k33 : K → Int32 → Int32 → Option (K × Int32)} (hk33 : ∀ (κ : K) (x4 : Int32) (x5 : Int32), k33 κ x4 x5 = some (κ', rr) → J X B (E, κ) 33 [(2, .inr (some (f0, i0, c0 + 4))), (3, .inr (some (f1, i1, c1 + 4))), (4, .inl (.int x4)), (5, .inl (.int x5))] []) : ∀ (κ : K) (x4 : Int32) (x5 : Int32), f_X8_countPagesUnlike_b55 E f0 i0 c0 f1 i1 c1 k33 κ x4 x5 = some (κ', rr) → J X B (E, κ) 55 [(2, .inr (some (f0, i0, c0 + 4))), (3, .inr (some (f1, i1, c1 + 4))), (4, .inl (.int x4)), (5, .inl (.int x5))] [] := by
  intro κ x4 x5 h
  unfold f_X8_countPagesUnlike_b55 at h
  refine J_iinc O.mo (v := x5 + 1) (lv' := [(2, .inr (some (f0, i0, c0 + 4))), (3, .inr (some (f1, i1, c1 + 4))), (4, .inl (.int x4))]) dX8_countPagesUnlike_55 (by rw [hmL]; decide) 3 rfl (by rw [show Int32.ofInt (1) = (1 : Int32) from by decide]) rfl rfl ?_
  refine nm_some (P := fun z => J X B (E, κ) 58 [(5, .inl (.int z)), (2, .inr (some (f0, i0, c0 + 4))), (3, .inr (some (f1, i1, c1 + 4))), (4, .inl (.int x4))] []) h (fun y6 h => ?_)
  refine J_goto O.mo (tgt := 33) dX8_countPagesUnlike_58 (by decide) ?_
  refine J_sub [1, 2, 3, 0] rfl ?_
  exact hk33 _ _ _ h
set_option maxHeartbeats 4000000 in
set_option maxRecDepth 100000 in
theorem w_X8_countPagesUnlike_b33 {l0 : Launch} (hfl : l0.stackTraces = false) {X : MX} {B : BX (EE × K)} {g : GP} {E : EE} {κ' : K} {rr : Int32} {f0 : Nat} {i0 : Nat} {c0 : Nat} {f1 : Nat} {i1 : Nat} {c1 : Nat} (O : CK l0 X B g cX8_countPagesUnlike RX8 2 24) (hKP : KPok B E) (hmL : B.2.2.2.1 = 6) (hE : ∀ (pc : Nat) (lv : List (Nat × AV)), decode cX8_countPagesUnlike pc = .ok (.ireturn, 1) → J X B (E, κ') pc lv [.inl (.int rr)]) (h0 : PC 9 E f0 i0 c0) (h1 : PC 9 E f1 i1 c1) (hRN : rawOK E) : ∀ (n : Nat) (κ : K) (x4 : Int32) (x5 : Int32), f_X8_countPagesUnlike_b33 E f0 i0 c0 f1 i1 c1 n κ x4 x5 = some (κ', rr) → J X B (E, κ) 33 [(2, .inr (some (f0, i0, c0 + 4))), (3, .inr (some (f1, i1, c1 + 4))), (4, .inl (.int x4)), (5, .inl (.int x5))] [] := by
  intro n
  induction n with
  | zero => intro κ x4 x5 h; cases h
  | succ n ih =>
    intro κ x4 x5 h
    rw [f_X8_countPagesUnlike_b33] at h
    refine J_iload O.mo dX8_countPagesUnlike_33 3 rfl ?_
    refine J_bipush O.mo (v := 8) dX8_countPagesUnlike_35 (by decide) ?_
    refine J_icmp_ge O.mo (tgt := 61) dX8_countPagesUnlike_37 (by decide) (fun hc1 => ?_) (fun hc1 => ?_)
    · replace h := (if_pos hc1).symm.trans h
      refine J_iload O.mo dX8_countPagesUnlike_61 2 rfl ?_
      cases h
      exact hE _ _ dX8_countPagesUnlike_63
    · replace h := (if_neg hc1).symm.trans h
      refine J_aload_n O.mo dX8_countPagesUnlike_40 0 rfl ?_
      refine J_iload O.mo dX8_countPagesUnlike_41 3 rfl ?_
      refine J_aload_n O.mo dX8_countPagesUnlike_43 1 rfl ?_
      refine J_iload O.mo dX8_countPagesUnlike_44 3 rfl ?_
      obtain ⟨κ2, r4, hq3, h⟩ := bd_some h
      refine J_callSN O hKP (as := [.inr (some (f0, i0, c0 + 4)), .inl (.int x5), .inr (some (f1, i1, c1 + 4)), .inl (.int x5)]) (rest := []) (r := (some (.inl (.int r4)))) (c_X10_arePagesAlike hfl hq3) rfl mw513 mw381 mw320 mw382 pd_X10_arePagesAlike rfl (by decide) rfl (Nat.le_of_ble_eq_true rfl) (sl_p (s9_4 h0) (sl_p (s9_4 h1) (sl_v (sl_v sl_0)))) st_0 dX8_countPagesUnlike_46 ?_
      show J X B (E, κ2) 49 [(2, .inr (some (f0, i0, c0 + 4))), (3, .inr (some (f1, i1, c1 + 4))), (4, .inl (.int x4)), (5, .inl (.int x5))] [.inl (.int r4)]
      refine J_if_ne O.mo (tgt := 55) dX8_countPagesUnlike_49 (by decide) (fun hc5 => ?_) (fun hc5 => ?_)
      · replace h := (if_neg hc5).symm.trans h
        exact w_X8_countPagesUnlike_b55 hfl O hKP hmL hE h0 h1 hRN ih _ _ _ h
      · replace h := (if_pos hc5).symm.trans h
        refine J_iinc O.mo (v := x4 + 1) (lv' := [(2, .inr (some (f0, i0, c0 + 4))), (3, .inr (some (f1, i1, c1 + 4))), (5, .inl (.int x5))]) dX8_countPagesUnlike_52 (by rw [hmL]; decide) 2 rfl (by rw [show Int32.ofInt (1) = (1 : Int32) from by decide]) rfl rfl ?_
        refine nm_some (P := fun z => J X B (E, κ2) 55 [(4, .inl (.int z)), (2, .inr (some (f0, i0, c0 + 4))), (3, .inr (some (f1, i1, c1 + 4))), (5, .inl (.int x5))] []) h (fun y7 h => ?_)
        refine J_sub [1, 2, 0, 3] rfl ?_
        exact w_X8_countPagesUnlike_b55 hfl O hKP hmL hE h0 h1 hRN ih _ _ _ h
set_option maxHeartbeats 4000000 in
set_option maxRecDepth 100000 in
theorem w_X8_countPagesUnlike_b26 {l0 : Launch} (hfl : l0.stackTraces = false) {X : MX} {B : BX (EE × K)} {g : GP} {E : EE} {κ' : K} {rr : Int32} {f0 : Nat} {i0 : Nat} {c0 : Nat} {f1 : Nat} {i1 : Nat} {c1 : Nat} (O : CK l0 X B g cX8_countPagesUnlike RX8 2 24) (hKP : KPok B E) (hmL : B.2.2.2.1 = 6) (hE : ∀ (pc : Nat) (lv : List (Nat × AV)), decode cX8_countPagesUnlike pc = .ok (.ireturn, 1) → J X B (E, κ') pc lv [.inl (.int rr)]) (h0 : PC 9 E f0 i0 c0) (h1 : PC 9 E f1 i1 c1) (hRN : rawOK E) : ∀ (κ : K), f_X8_countPagesUnlike_b26 E f0 i0 c0 f1 i1 c1 κ = some (κ', rr) → J X B (E, κ) 26 [(2, .inr (some (f0, i0, c0 + 4)))] [.inr (some (f1, i1, c1 + 4))] := by
  intro κ h
  unfold f_X8_countPagesUnlike_b26 at h
  refine J_astore_n O.mo (lv' := [(2, .inr (some (f0, i0, c0 + 4)))]) dX8_countPagesUnlike_26 (by rw [hmL]; decide) rfl rfl ?_
  refine J_iconst O.mo (v := 0) dX8_countPagesUnlike_27 (by decide) ?_
  refine J_istore O.mo (lv' := [(3, .inr (some (f1, i1, c1 + 4))), (2, .inr (some (f0, i0, c0 + 4)))]) dX8_countPagesUnlike_28 (by rw [hmL]; decide) rfl rfl ?_
  refine J_iconst O.mo (v := 0) dX8_countPagesUnlike_30 (by decide) ?_
  refine J_istore O.mo (lv' := [(4, .inl (.int 0)), (3, .inr (some (f1, i1, c1 + 4))), (2, .inr (some (f0, i0, c0 + 4)))]) dX8_countPagesUnlike_31 (by rw [hmL]; decide) rfl rfl ?_
  refine J_sub [3, 2, 1, 0] rfl ?_
  exact w_X8_countPagesUnlike_b33 hfl O hKP hmL hE h0 h1 hRN FU _ _ _ h
set_option maxHeartbeats 4000000 in
set_option maxRecDepth 100000 in
theorem w_X8_countPagesUnlike {l0 : Launch} (hfl : l0.stackTraces = false) {X : MX} {B : BX (EE × K)} {g : GP} {E : EE} {κ' : K} {rr : Int32} {f0 : Nat} {i0 : Nat} {c0 : Nat} {f1 : Nat} {i1 : Nat} {c1 : Nat} (O : CK l0 X B g cX8_countPagesUnlike RX8 2 24) (hKP : KPok B E) (hmL : B.2.2.2.1 = 6) (hE : ∀ (pc : Nat) (lv : List (Nat × AV)), decode cX8_countPagesUnlike pc = .ok (.ireturn, 1) → J X B (E, κ') pc lv [.inl (.int rr)]) (h0 : PC 9 E f0 i0 c0) (h1 : PC 9 E f1 i1 c1) (hRN : rawOK E) : ∀ (κ : K), f_X8_countPagesUnlike E κ f0 i0 c0 f1 i1 c1 = some (κ', rr) → J X B (E, κ) 0 [(0, .inr (some (f0, i0, c0))), (1, .inr (some (f1, i1, c1)))] [] := by
  intro κ h
  unfold f_X8_countPagesUnlike at h
  refine J_aload_n O.mo dX8_countPagesUnlike_0 0 rfl ?_
  refine J_getF O.co (kd0 := 9) (k9_0 h0) (l9_0 h0) (C := RX8) (T := TX8) (N := 10) rfl (by decide) rfl in_X8 0 (by decide) (v := .inr (some (f0, i0, c0 + 1))) rfl mw234 rfl dX8_countPagesUnlike_1 ?_
  refine J_getF O.co (kd0 := 4) (k9_1 h0) (l9_1 h0) (C := RX3) (T := TX3) (N := 9) rfl (by decide) rfl in_X3 2 (by decide) (v := .inr (some (f0, i0, c0 + 4))) rfl mw282 rfl dX8_countPagesUnlike_4 ?_
  refine J_astore_n O.mo (lv' := [(0, .inr (some (f0, i0, c0))), (1, .inr (some (f1, i1, c1)))]) dX8_countPagesUnlike_7 (by rw [hmL]; decide) rfl rfl ?_
  refine J_aload_n O.mo dX8_countPagesUnlike_8 2 rfl ?_
  refine J_ifnonnull O.mo (tgt := 19) dX8_countPagesUnlike_9 (by decide) ?_
  refine J_aload_n O.mo dX8_countPagesUnlike_19 2 rfl ?_
  refine J_getF O.co (kd0 := 9) (k9_0 h1) (l9_0 h1) (C := RX8) (T := TX8) (N := 10) rfl (by decide) rfl in_X8 0 (by decide) (v := .inr (some (f1, i1, c1 + 1))) rfl mw234 rfl dX8_countPagesUnlike_20 ?_
  refine J_getF O.co (kd0 := 4) (k9_1 h1) (l9_1 h1) (C := RX3) (T := TX3) (N := 9) rfl (by decide) rfl in_X3 2 (by decide) (v := .inr (some (f1, i1, c1 + 4))) rfl mw282 rfl dX8_countPagesUnlike_23 ?_
  refine J_sub [0] rfl ?_
  exact w_X8_countPagesUnlike_b26 hfl O hKP hmL hE h0 h1 hRN _ h
theorem c_X8_countPagesUnlike {l : Launch} (hfl : l.stackTraces = false) {E : EE} {κ κ' : K} {f0 : Nat} {i0 : Nat} {c0 : Nat} {f1 : Nat} {i1 : Nat} {c1 : Nat} (h0 : PC 9 E f0 i0 c0) (h1 : PC 9 E f1 i1 c1) (hRN : rawOK E) {rr : Int32} (h : f_X8_countPagesUnlike E κ f0 i0 c0 f1 i1 c1 = some (κ', rr)) : Con l yX8_countPagesUnlike cX8_countPagesUnlike 6 (some .int) 2 24 [.inr (some (f0, i0, c0)), .inr (some (f1, i1, c1))] (E, κ) (E, κ') (some (.inl (.int rr))) := by
  exact Con_of hfl (by decide +kernel) (Nat.le_of_ble_eq_true rfl) rfl ⟨_, rfl, rfl⟩ (fun X B g O hKP hmL hE => w_X8_countPagesUnlike hfl O hKP hmL hE h0 h1 hRN _ h)
