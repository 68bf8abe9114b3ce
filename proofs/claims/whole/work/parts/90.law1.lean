set_option maxRecDepth 100000 in
theorem mw1160 : Cond.classLink RL 8 RX10 ∈ gwl := gwl_tb 29 rfl rfl
set_option maxRecDepth 100000 in
theorem mw1161 : Cond.instantiable RX10 4 ∈ gwl := gwl_tb 30 rfl rfl
set_option maxRecDepth 100000 in
theorem mw1162 : Cond.methodLink RL 111 yX10_init ∈ gwl := gwl_tb 31 rfl rfl
set_option maxRecDepth 100000 in
theorem mw1163 : Cond.instanceMethod yX10_init ∈ gwl := gwl_tb 32 rfl rfl
set_option maxRecDepth 100000 in
theorem mw1164 : Cond.code yX10_init cX10_init 1 none ∈ gwl := gwl_tb 33 rfl rfl
set_option maxRecDepth 100000 in
theorem mw1165 : Cond.classLink RL 112 RX11 ∈ gwl := gwl_tb 1178 rfl rfl
set_option maxRecDepth 100000 in
theorem mw1166 : Cond.instantiable RX11 42 ∈ gwl := gwl_tb 1179 rfl rfl
set_option maxRecDepth 100000 in
theorem mw1167 : Cond.methodLink RL 114 yX11_init ∈ gwl := gwl_tb 1180 rfl rfl
set_option maxRecDepth 100000 in
theorem mw1168 : Cond.instanceMethod yX11_init ∈ gwl := gwl_tb 1181 rfl rfl
set_option maxRecDepth 100000 in
theorem mw1169 : Cond.code yX11_init cX11_init 1 none ∈ gwl := gwl_tb 1182 rfl rfl
theorem pd_X10_init : (yX10_init).cls ≠ "java/lang/invoke/MethodHandle" ∧ (yX10_init).cls ≠ "java/lang/invoke/VarHandle" ∧ (parseMethodDescriptor (yX10_init).desc).map (fun d => d.parameters.length) = some 0 := ⟨by decide +kernel, by decide +kernel, by decide +kernel⟩
theorem pd_X11_init : (yX11_init).cls ≠ "java/lang/invoke/MethodHandle" ∧ (yX11_init).cls ≠ "java/lang/invoke/VarHandle" ∧ (parseMethodDescriptor (yX11_init).desc).map (fun d => d.parameters.length) = some 0 := ⟨by decide +kernel, by decide +kernel, by decide +kernel⟩
/-- the hall and its hosts, out of raw cells -/
def nwH : NW := fun f i c => if f = 4 ∧ i = 0 ∧ c < 4 then some c else if f = 2 ∧ i < 2 ∧ c < 4 then some (4 + 4 * i + c) else none
def E00 : EE := (0, 0, 0, 0, 0, 0, 0, 0, 0, [])
def EH : EE := (0, 0, 0, 1, 0, 0, 0, 0, 0, [])
def EM : EE := (0, 0, 0, 1, 1, 0, 0, 0, 0, [])
def EI : EE := (0, 0, 0, 1, 1, 0, 0, 0, 1, [])
def κ00 : K := (fun _ _ _ _ => 0, fun _ _ _ => 0, fun _ _ _ _ => none, none, (0, 0))
def kH : K := adK (addC (addC κ00 1 4) 11 168) nwH (cX10 0)
def kM : K := adK (addC (addC kH 1 42) 38 44523) (nwF 5 0 41 pmM) (cX11 0)
def kI : K := adK (addC kM 1 1) (nwF 6 0 1 fun c => c) [.inr (2, 1, .inr (.inl fun _ => 0))]
theorem live_E00 (f i c : Nat) : liveC E00 f i c = false := by
  unfold liveC
  have h : cntE E00 f = 0 := by
    unfold cntE E00
    split <;> rfl
  rw [h, decide_eq_false (Nat.not_lt_zero i)]
  rfl
theorem cnt_EH {f : Nat} (h : cntE EH f ≠ 0) : f = 4 ∨ f = 2 := by
  unfold cntE EH at h
  split at h <;> first | exact Or.inl rfl | exact Or.inr rfl | exact absurd rfl h
theorem live_EH {f i c : Nat} (h : liveC EH f i c = true) : (f = 4 ∧ i = 0 ∧ c < 4) ∨ (f = 2 ∧ i < 2 ∧ c < 4) := by
  obtain ⟨h1, h2, h3⟩ := live_kd h
  rcases cnt_EH (f := f) (by omega) with hf | hf
  · subst hf
    refine Or.inl ⟨rfl, by have : i < 1 := h1; omega, ?_⟩
    unfold liveC at h
    simp only [Bool.and_eq_true, Bool.or_eq_true, decide_eq_true_eq] at h
    rcases h.2 with (z | z) | z
    · exact absurd rfl z
    · exact z
    · exfalso
      revert z
      unfold cnt4 EH
      split <;> exact Nat.lt_irrefl 0
  · subst hf
    exact Or.inr ⟨rfl, h1, h2⟩
theorem nwH_live {f i c : Nat} (h : liveC EH f i c = true) : nwH f i c ≠ none := by
  unfold nwH
  rcases live_EH h with ⟨rfl, rfl, z⟩ | ⟨rfl, y, z⟩
  · rw [if_pos ⟨rfl, rfl, z⟩]; exact fun q => by cases q
  · rw [if_neg (fun q => absurd q.1 (by decide)), if_pos ⟨rfl, y, z⟩]; exact fun q => by cases q
theorem nwH_cases {f i c m : Nat} (h : nwH f i c = some m) : (f = 4 ∧ i = 0 ∧ c < 4 ∧ m = c) ∨ (f = 2 ∧ i < 2 ∧ c < 4 ∧ m = 4 + 4 * i + c) := by
  unfold nwH at h
  split at h
  · rename_i z; cases h; exact Or.inl ⟨z.1, z.2.1, z.2.2, rfl⟩
  · split at h
    · rename_i z; cases h; exact Or.inr ⟨z.1, z.2.1, z.2.2, rfl⟩
    · cases h
set_option maxHeartbeats 4000000 in
set_option maxRecDepth 100000 in
theorem ad_H0 : ∀ c : Nat, c < 4 → ∃ r, (cX10 0)[c]? = some r ∧ cOK nwH 0 4 0 c r := tb_s (tb_s (tb_s (tb_s tb_0 ⟨_, rfl, ckO rfl (by decide) (by change ∀ j : Nat, j < 4 → _; exact (tb_s (tb_s (tb_s (tb_s tb_0 (fk1 rfl rfl rfl)) (fk1 rfl rfl rfl)) (fk1 rfl rfl rfl)) (fk0 rfl rfl)))⟩) ⟨_, rfl, ckO rfl (by decide) (by change ∀ j : Nat, j < 3 → _; exact (tb_s (tb_s (tb_s tb_0 (fk0 rfl rfl)) (fk3 rfl rfl)) (fk0 rfl rfl)))⟩) ⟨_, rfl, ckO rfl (by decide) (by change ∀ j : Nat, j < 3 → _; exact (tb_s (tb_s (tb_s tb_0 (fk0 rfl rfl)) (fk3 rfl rfl)) (fk0 rfl rfl)))⟩) ⟨_, rfl, Or.inl ⟨rfl, rfl, rfl, fun j hj => (by rcases (show j = 0 ∨ j = 1 by omega) with rfl | rfl <;> exact ⟨_, rfl, rfl⟩), fun j hj => (by unfold updo; rw [if_neg (by omega), if_neg (by omega)])⟩⟩
set_option maxHeartbeats 4000000 in
set_option maxRecDepth 100000 in
theorem ad_H1 : ∀ c : Nat, c < 4 → ∃ r, (cX10 0)[4 + 4 * 0 + c]? = some r ∧ cOK nwH 0 2 0 c r := tb_s (tb_s (tb_s (tb_s tb_0 ⟨_, rfl, ckO rfl (by decide) (by change ∀ j : Nat, j < 8 → _; exact (tb_s (tb_s (tb_s (tb_s (tb_s (tb_s (tb_s (tb_s tb_0 (fk0 rfl rfl)) (fk1 rfl rfl rfl)) (fk1 rfl rfl rfl)) (fk1 rfl rfl rfl)) (fk0 rfl rfl)) (fk0 rfl rfl)) (fk2n rfl rfl (by decide))) (fk0 rfl rfl)))⟩) ⟨_, rfl, ck20 rfl rfl⟩) ⟨_, rfl, ck20 rfl rfl⟩) ⟨_, rfl, ck20 rfl rfl⟩
set_option maxHeartbeats 4000000 in
set_option maxRecDepth 100000 in
theorem ad_H2 : ∀ c : Nat, c < 4 → ∃ r, (cX10 0)[4 + 4 * 1 + c]? = some r ∧ cOK nwH 0 2 1 c r := tb_s (tb_s (tb_s (tb_s tb_0 ⟨_, rfl, ckO rfl (by decide) (by change ∀ j : Nat, j < 8 → _; exact (tb_s (tb_s (tb_s (tb_s (tb_s (tb_s (tb_s (tb_s tb_0 (fk0 rfl rfl)) (fk1 rfl rfl rfl)) (fk1 rfl rfl rfl)) (fk1 rfl rfl rfl)) (fk0 rfl rfl)) (fk0 rfl rfl)) (fk2n rfl rfl (by decide))) (fk0 rfl rfl)))⟩) ⟨_, rfl, ck20 rfl rfl⟩) ⟨_, rfl, ck20 rfl rfl⟩) ⟨_, rfl, ck20 rfl rfl⟩
theorem ad_H {f i c m : Nat} (h : nwH f i c = some m) : ∃ r, (cX10 0)[m]? = some r ∧ cOK nwH (eR EH).length f i c r := by
  rcases nwH_cases h with ⟨rfl, rfl, z, rfl⟩ | ⟨rfl, y, z, rfl⟩
  · exact ad_H0 _ z
  · rcases (show i = 0 ∨ i = 1 by omega) with rfl | rfl
    · exact ad_H1 _ z
    · exact ad_H2 _ z
theorem fsp5 {a k co : Nat} : fsp a k ≠ (2, 5, co) := by
  intro h
  unfold fsp at h
  split at h <;> simp at h
theorem fsp6 {a k co : Nat} : fsp a k ≠ (2, 6, co) := by
  intro h
  unfold fsp at h
  split at h <;> simp at h
/-- what the law does with one call -/
noncomputable def lawCase (x : EE × K) (o a1 a2 a3 a4 : Int32) : Option (EE × K) :=
  if o &&& 31 = 0 then lw_guest x.1 x.2 a1 a2 (bI a3) else
  if o &&& 31 = 1 then lw_instruct x.1 x.2 a1 a2 a3 a4 else
  if o &&& 31 = 2 then lw_pause x.1 x.2 a1 (bI a2) else
  if o &&& 31 = 3 then lw_scale x.1 x.2 a1 a2 else
  if o &&& 31 = 4 then lw_input x.1 x.2 a1 a2 else
  if o &&& 31 = 5 then lw_send x.1 x.2 a1 else
  if o &&& 31 = 6 then lw_tick x.1 x.2 a1 else
  if o &&& 31 = 7 then lw_share x.1 x.2 a1 else
  if o &&& 31 = 8 then lw_move x.1 x.2 a1 else
  if o &&& 31 = 9 then lw_round x.1 x.2 a1 a2 else
  if o &&& 31 = 10 then lw_land x.1 x.2 a1 (bI a2) else
  if o &&& 31 = 11 then lw_snapshot x.1 x.2 a1 else
  if o &&& 31 = 12 then lw_restore x.1 x.2 a1 a2 else
  if o &&& 31 = 13 then lw_follow x.1 x.2 a1 (bI a2) else
  if o &&& 31 = 14 then lw_step x.1 x.2 a1 else
  if o &&& 31 = 15 then lw_fail x.1 x.2 a1 else
  if o &&& 31 = 16 then lw_mend x.1 x.2 a1 else
  if o &&& 31 = 17 then lw_time x.1 x.2 else
  if o &&& 31 = 18 then lw_of x.1 x.2 a1 a2 else
  if o &&& 31 = 19 then lw_register x.1 x.2 a1 a2 else
  if o &&& 31 = 20 then lw_word x.1 x.2 a1 a2 a3 else
  if o &&& 31 = 21 then lw_pageOf x.1 x.2 a1 a2 else
  if o &&& 31 = 22 then lw_frameOf x.1 x.2 a1 a2 else
  if o &&& 31 = 23 then lw_used x.1 x.2 a1 else
  if o &&& 31 = 24 then lw_exits x.1 x.2 a1 a2 else
  if o &&& 31 = 25 then lw_out x.1 x.2 a1 else
  if o &&& 31 = 26 then lw_outAt x.1 x.2 a1 a2 else
  if o &&& 31 = 27 then lw_held x.1 x.2 a1 else
  if o &&& 31 = 28 then lw_stored x.1 x.2 a1 else
  if o &&& 31 = 29 then lw_isAsPlain x.1 x.2 a1 else
  some x
noncomputable def lawRun (L : Nat) (xs : Nat → Int32) : Nat → Nat → EE × K → Option (EE × K)
  | 0, _, _ => none
  | f + 1, n, x => gdp (OKE x.1) (if n + 5 ≤ L then (match lawCase x (xs n) (xs (n + 1)) (xs (n + 2)) (xs (n + 3)) (xs (n + 4)) with
    | none => none
    | some y => lawRun L xs f (n + 5) y) else some x)
theorem law_cmp {n L : Nat} (hL : L ≤ 2560) (hn : n ≤ L + 4) : (nI L - 5 < nI n) ↔ ¬ n + 5 ≤ L := by
  have h : (nI L - 5).toInt = (L : Int) - 5 := by
    by_cases h5 : 5 ≤ L
    · obtain ⟨k, rfl⟩ := Nat.exists_eq_add_of_le h5
      have e : nI (5 + k) - 5 = nI k := by
        rw [← nI_add, show (5 : Int32) = nI 5 from by decide, Int32.add_comm, Int32.add_sub_cancel]
      rw [e, nI_toInt (by omega)]
      omega
    · rcases (show L = 0 ∨ L = 1 ∨ L = 2 ∨ L = 3 ∨ L = 4 by omega) with rfl | rfl | rfl | rfl | rfl <;> decide
  rw [Int32.lt_iff_toInt_lt, h, nI_toInt (by omega)]
  omega
set_option maxHeartbeats 4000000 in
set_option maxRecDepth 100000 in
theorem w_law_case {l0 : Launch} (hfl : l0.stackTraces = false) {X : MX} {B : BX (EE × K)} {g : GP} (O : CK l0 X B g cL_law RL 12 462) (hKP : ∀ E, KPok B E) (hmL : B.2.2.2.1 = 7) {b L : Nat} {xs : Nat → Int32} (hs : B.2.2.2.2.2.2.2.2 X → LWX b L xs B.2.2.1 X) (hL : L ≤ 2560) {x' : EE × K} (hE : ∀ lv : List (Nat × AV), J X B x' 2128 lv [.inl (.int 1)]) {n : Nat} (hn : n + 4 < L) {E : EE} {κ : K} (hO : OKE E) {y : EE × K} (h : lawCase (E, κ) (xs n) (xs (n + 1)) (xs (n + 2)) (xs (n + 3)) (xs (n + 4)) = some y) (kk : J X B y 2121 (lvL b (nI n)) []) : J X B (E, κ) 39 (lvL b (nI n)) [.inl (.int (xs n &&& 31))] := by
  unfold lawCase at h
  dsimp only at h
  by_cases q0 : xs n &&& 31 = 0
  · rw [if_pos q0] at h
    exact J_tabIn O.mo 0 (off := 133) (tgt := 172) q0 dL_law_39 (by decide) (by decide) (by decide) (by decide) (w_law_guest hfl O hKP hmL hs hn hL hO h kk)
  rw [if_neg q0] at h
  by_cases q1 : xs n &&& 31 = 1
  · rw [if_pos q1] at h
    exact J_tabIn O.mo 1 (off := 229) (tgt := 268) q1 dL_law_39 (by decide) (by decide) (by decide) (by decide) (w_law_instruct hfl O hKP hmL hs hn hL hO h kk)
  rw [if_neg q1] at h
  by_cases q2 : xs n &&& 31 = 2
  · rw [if_pos q2] at h
    exact J_tabIn O.mo 2 (off := 321) (tgt := 360) q2 dL_law_39 (by decide) (by decide) (by decide) (by decide) (w_law_pause hfl O hKP hmL hs hn hL hO h kk)
  rw [if_neg q2] at h
  by_cases q3 : xs n &&& 31 = 3
  · rw [if_pos q3] at h
    exact J_tabIn O.mo 3 (off := 412) (tgt := 451) q3 dL_law_39 (by decide) (by decide) (by decide) (by decide) (w_law_scale hfl O hKP hmL hs hn hL hO h kk)
  rw [if_neg q3] at h
  by_cases q4 : xs n &&& 31 = 4
  · rw [if_pos q4] at h
    exact J_tabIn O.mo 4 (off := 480) (tgt := 519) q4 dL_law_39 (by decide) (by decide) (by decide) (by decide) (w_law_input hfl O hKP hmL hs hn hL hO h kk)
  rw [if_neg q4] at h
  by_cases q5 : xs n &&& 31 = 5
  · rw [if_pos q5] at h
    exact J_tabIn O.mo 5 (off := 548) (tgt := 587) q5 dL_law_39 (by decide) (by decide) (by decide) (by decide) (w_law_send hfl O hKP hmL hs hn hL hO h kk)
  rw [if_neg q5] at h
  by_cases q6 : xs n &&& 31 = 6
  · rw [if_pos q6] at h
    exact J_tabIn O.mo 6 (off := 611) (tgt := 650) q6 dL_law_39 (by decide) (by decide) (by decide) (by decide) (w_law_tick hfl O hKP hmL hs hn hL hO h kk)
  rw [if_neg q6] at h
  by_cases q7 : xs n &&& 31 = 7
  · rw [if_pos q7] at h
    exact J_tabIn O.mo 7 (off := 667) (tgt := 706) q7 dL_law_39 (by decide) (by decide) (by decide) (by decide) (w_law_share hfl O hKP hmL hs hn hL hO h kk)
  rw [if_neg q7] at h
  by_cases q8 : xs n &&& 31 = 8
  · rw [if_pos q8] at h
    exact J_tabIn O.mo 8 (off := 723) (tgt := 762) q8 dL_law_39 (by decide) (by decide) (by decide) (by decide) (w_law_move hfl O hKP hmL hs hn hL hO h kk)
  rw [if_neg q8] at h
  by_cases q9 : xs n &&& 31 = 9
  · rw [if_pos q9] at h
    exact J_tabIn O.mo 9 (off := 779) (tgt := 818) q9 dL_law_39 (by decide) (by decide) (by decide) (by decide) (w_law_round hfl O hKP hmL hs hn hL hO h kk)
  rw [if_neg q9] at h
  by_cases q10 : xs n &&& 31 = 10
  · rw [if_pos q10] at h
    exact J_tabIn O.mo 10 (off := 847) (tgt := 886) q10 dL_law_39 (by decide) (by decide) (by decide) (by decide) (w_law_land hfl O hKP hmL hs hn hL hO h kk)
  rw [if_neg q10] at h
  by_cases q11 : xs n &&& 31 = 11
  · rw [if_pos q11] at h
    exact J_tabIn O.mo 11 (off := 931) (tgt := 970) q11 dL_law_39 (by decide) (by decide) (by decide) (by decide) (w_law_snapshot hfl O hKP hmL hs hn hL hO h kk)
  rw [if_neg q11] at h
  by_cases q12 : xs n &&& 31 = 12
  · rw [if_pos q12] at h
    exact J_tabIn O.mo 12 (off := 987) (tgt := 1026) q12 dL_law_39 (by decide) (by decide) (by decide) (by decide) (w_law_restore hfl O hKP hmL hs hn hL hO h kk)
  rw [if_neg q12] at h
  by_cases q13 : xs n &&& 31 = 13
  · rw [if_pos q13] at h
    exact J_tabIn O.mo 13 (off := 1055) (tgt := 1094) q13 dL_law_39 (by decide) (by decide) (by decide) (by decide) (w_law_follow hfl O hKP hmL hs hn hL hO h kk)
  rw [if_neg q13] at h
  by_cases q14 : xs n &&& 31 = 14
  · rw [if_pos q14] at h
    exact J_tabIn O.mo 14 (off := 1146) (tgt := 1185) q14 dL_law_39 (by decide) (by decide) (by decide) (by decide) (w_law_step hfl O hKP hmL hs hn hL hO h kk)
  rw [if_neg q14] at h
  by_cases q15 : xs n &&& 31 = 15
  · rw [if_pos q15] at h
    exact J_tabIn O.mo 15 (off := 1202) (tgt := 1241) q15 dL_law_39 (by decide) (by decide) (by decide) (by decide) (w_law_fail hfl O hKP hmL hs hn hL hO h kk)
  rw [if_neg q15] at h
  by_cases q16 : xs n &&& 31 = 16
  · rw [if_pos q16] at h
    exact J_tabIn O.mo 16 (off := 1258) (tgt := 1297) q16 dL_law_39 (by decide) (by decide) (by decide) (by decide) (w_law_mend hfl O hKP hmL hs hn hL hO h kk)
  rw [if_neg q16] at h
  by_cases q17 : xs n &&& 31 = 17
  · rw [if_pos q17] at h
    exact J_tabIn O.mo 17 (off := 1294) (tgt := 1333) q17 dL_law_39 (by decide) (by decide) (by decide) (by decide) (w_law_time hfl O hKP hmL hs hn hL hO h kk)
  rw [if_neg q17] at h
  by_cases q18 : xs n &&& 31 = 18
  · rw [if_pos q18] at h
    exact J_tabIn O.mo 18 (off := 1307) (tgt := 1346) q18 dL_law_39 (by decide) (by decide) (by decide) (by decide) (w_law_of hfl O hKP hmL hs hn hL hO h kk)
  rw [if_neg q18] at h
  by_cases q19 : xs n &&& 31 = 19
  · rw [if_pos q19] at h
    exact J_tabIn O.mo 19 (off := 1375) (tgt := 1414) q19 dL_law_39 (by decide) (by decide) (by decide) (by decide) (w_law_register hfl O hKP hmL hs hn hL hO h kk)
  rw [if_neg q19] at h
  by_cases q20 : xs n &&& 31 = 20
  · rw [if_pos q20] at h
    exact J_tabIn O.mo 20 (off := 1443) (tgt := 1482) q20 dL_law_39 (by decide) (by decide) (by decide) (by decide) (w_law_word hfl O hKP hmL hs hn hL hO h kk)
  rw [if_neg q20] at h
  by_cases q21 : xs n &&& 31 = 21
  · rw [if_pos q21] at h
    exact J_tabIn O.mo 21 (off := 1523) (tgt := 1562) q21 dL_law_39 (by decide) (by decide) (by decide) (by decide) (w_law_pageOf hfl O hKP hmL hs hn hL hO h kk)
  rw [if_neg q21] at h
  by_cases q22 : xs n &&& 31 = 22
  · rw [if_pos q22] at h
    exact J_tabIn O.mo 22 (off := 1591) (tgt := 1630) q22 dL_law_39 (by decide) (by decide) (by decide) (by decide) (w_law_frameOf hfl O hKP hmL hs hn hL hO h kk)
  rw [if_neg q22] at h
  by_cases q23 : xs n &&& 31 = 23
  · rw [if_pos q23] at h
    exact J_tabIn O.mo 23 (off := 1659) (tgt := 1698) q23 dL_law_39 (by decide) (by decide) (by decide) (by decide) (w_law_used hfl O hKP hmL hs hn hL hO h kk)
  rw [if_neg q23] at h
  by_cases q24 : xs n &&& 31 = 24
  · rw [if_pos q24] at h
    exact J_tabIn O.mo 24 (off := 1715) (tgt := 1754) q24 dL_law_39 (by decide) (by decide) (by decide) (by decide) (w_law_exits hfl O hKP hmL hs hn hL hO h kk)
  rw [if_neg q24] at h
  by_cases q25 : xs n &&& 31 = 25
  · rw [if_pos q25] at h
    exact J_tabIn O.mo 25 (off := 1783) (tgt := 1822) q25 dL_law_39 (by decide) (by decide) (by decide) (by decide) (w_law_out hfl O hKP hmL hs hn hL hO h kk)
  rw [if_neg q25] at h
  by_cases q26 : xs n &&& 31 = 26
  · rw [if_pos q26] at h
    exact J_tabIn O.mo 26 (off := 1839) (tgt := 1878) q26 dL_law_39 (by decide) (by decide) (by decide) (by decide) (w_law_outAt hfl O hKP hmL hs hn hL hO h kk)
  rw [if_neg q26] at h
  by_cases q27 : xs n &&& 31 = 27
  · rw [if_pos q27] at h
    exact J_tabIn O.mo 27 (off := 1907) (tgt := 1946) q27 dL_law_39 (by decide) (by decide) (by decide) (by decide) (w_law_held hfl O hKP hmL hs hn hL hO h kk)
  rw [if_neg q27] at h
  by_cases q28 : xs n &&& 31 = 28
  · rw [if_pos q28] at h
    exact J_tabIn O.mo 28 (off := 1963) (tgt := 2002) q28 dL_law_39 (by decide) (by decide) (by decide) (by decide) (w_law_stored hfl O hKP hmL hs hn hL hO h kk)
  rw [if_neg q28] at h
  by_cases q29 : xs n &&& 31 = 29
  · rw [if_pos q29] at h
    exact J_tabIn O.mo 29 (off := 2019) (tgt := 2058) q29 dL_law_39 (by decide) (by decide) (by decide) (by decide) (w_law_isAsPlain hfl O hKP hmL hs hn hL hO h kk)
  rw [if_neg q29] at h
  cases h
  refine J_tabOut O.mo (tgt := 2121) 30 (by decide) (by decide) (fun j hj => ?_) dL_law_39 (by decide) kk
  revert j
  exact lt_s (lt_s (lt_s (lt_s (lt_s (lt_s (lt_s (lt_s (lt_s (lt_s (lt_s (lt_s (lt_s (lt_s (lt_s (lt_s (lt_s (lt_s (lt_s (lt_s (lt_s (lt_s (lt_s (lt_s (lt_s (lt_s (lt_s (lt_s (lt_s (lt_s (lt_0) q0) q1) q2) q3) q4) q5) q6) q7) q8) q9) q10) q11) q12) q13) q14) q15) q16) q17) q18) q19) q20) q21) q22) q23) q24) q25) q26) q27) q28) q29
set_option maxHeartbeats 4000000 in
set_option maxRecDepth 100000 in
theorem w_law_loop {l0 : Launch} (hfl : l0.stackTraces = false) {X : MX} {B : BX (EE × K)} {g : GP} (O : CK l0 X B g cL_law RL 12 462) (hKP : ∀ E, KPok B E) (hmL : B.2.2.2.1 = 7) {b L : Nat} {xs : Nat → Int32} (hs : B.2.2.2.2.2.2.2.2 X → LWX b L xs B.2.2.1 X) (hL : L ≤ 2560) {x' : EE × K} (hE : ∀ lv : List (Nat × AV), J X B x' 2128 lv [.inl (.int 1)]) : ∀ (f n : Nat) (x : EE × K), n ≤ L + 4 → lawRun L xs f n x = some x' → J X B x 23 (lvL b (nI n)) [] := by
  intro f
  induction f with
  | zero => intro n x hn h; cases h
  | succ f ih =>
    intro n x hn h
    obtain ⟨E, κ⟩ := x
    rw [lawRun] at h
    obtain ⟨hO, h⟩ := gdp_some h
    refine J_iload O.mo dL_law_23 4 rfl ?_
    refine J_aload_nR O.mo dL_law_25 0 rfl ?_
    refine J_slen O hs dL_law_26 ?_
    refine J_iconst O.mo (v := 5) dL_law_27 (by decide) ?_
    refine J_isub O.mo dL_law_28 ?_
    refine J_icmp_gt O.mo (tgt := 2127) dL_law_29 (by decide) (fun hc => ?_) (fun hc => ?_)
    · rw [if_neg ((law_cmp hL hn).mp hc)] at h
      cases h
      exact J_iconst O.mo (v := 1) dL_law_2127 (by decide) (hE _)
    · have hc' : n + 5 ≤ L := Decidable.of_not_not fun z => hc ((law_cmp hL hn).mpr z)
      rw [if_pos hc'] at h
      refine J_aload_nR O.mo dL_law_32 0 rfl ?_
      refine J_iload O.mo dL_law_33 4 rfl ?_
      refine J_sld O hs (vp_in_nI (by omega) (by omega)) dL_law_35 ?_
      rw [nI_clamp (by omega)]
      refine J_bipush O.mo (v := 31) dL_law_36 (by decide) ?_
      refine J_iand O.mo dL_law_38 ?_
      cases hy : lawCase (E, κ) (xs n) (xs (n + 1)) (xs (n + 2)) (xs (n + 3)) (xs (n + 4)) with
      | none => rw [hy] at h; cases h
      | some y =>
        rw [hy] at h
        refine w_law_case hfl O hKP hmL hs hL hE (by omega) hO hy ?_
        refine J_iinc O.mo (v := nI (n + 5)) dL_law_2121 (by rw [hmL]; decide) 4 rfl (by rw [show Int32.ofInt (5) = nI 5 from by decide, nI_add]) rfl rfl ?_
        refine J_goto O.mo (tgt := 23) dL_law_2124 (by decide) ?_
        refine J_sub [1, 2, 3, 4, 0] rfl ?_
        exact ih (n + 5) y (by omega) h
set_option maxHeartbeats 4000000 in
set_option maxRecDepth 100000 in
theorem w_law_start {l0 : Launch} (hfl : l0.stackTraces = false) {X : MX} {B : BX (EE × K)} {g : GP} (O : CK l0 X B g cL_law RL 12 462) (hKP : ∀ E, KPok B E) (hmL : B.2.2.2.1 = 7) {b L : Nat} {xs : Nat → Int32} (hs : B.2.2.2.2.2.2.2.2 X → LWX b L xs B.2.2.1 X) (hL : L ≤ 2560) {x' : EE × K} (hE : ∀ lv : List (Nat × AV), J X B x' 2128 lv [.inl (.int 1)]) {f : Nat} (h : lawRun L xs f 0 (EI, kI) = some x') : J X B (E00, κ00) 0 [(0, .inl (.ref b))] [] := by
  have hR0 : rawOK E00 := fun r hr => absurd hr List.not_mem_nil
  refine J_newO O (hKP _) hR0 (kd0 := 10) (C := RX10) (T := TX10) (N := 4) rfl rfl in_X10 tyX10 tyX10_ok mw1160 mw1161 mw320 (sl_v sl_0) st_0 dL_law_0 (fun hR => ?_)
  refine J_dup O.mo dL_law_3 rfl ?_
  refine J_callI O (hKP _) (as := []) (rest := [.inr (some (8, 0, 0))]) (ci_X10 hfl (E0 := E00) (L := []) hR) rfl rfl (Or.inl mw1162) mw1163 mw320 mw1164 pd_X10_init rfl (by decide) rfl (Nat.le_of_ble_eq_true rfl) (sl_v sl_0) (st_p (st_8 (Nat.zero_lt_one)) st_0) dL_law_4 ?_
  change J X B (upR E00 ([] ++ cX10 0), addC (addC κ00 1 4) 11 168) 7 [(0, .inl (.ref b))] [.inr (some (8, 0, 0))]
  refine J_astore_n O.mo (lv' := [(0, .inl (.ref b))]) dL_law_7 (by rw [hmL]; decide) rfl rfl ?_
  refine J_adopt (E' := EH) (E0 := E00) O (hKP _) nwH (cX10 0) (fun f i c h1 _ => absurd h1 (by rw [live_E00]; decide)) rfl (fun f i c h1 h2 _ => absurd h2 (nwH_live h1)) (fun f i c m _ h2 => ad_H h2) (fun f i c f' i' c' m h1 h2 => ?_) (fun i c => ⟨rfl, rfl⟩) (fun r hr => absurd hr List.not_mem_nil) (fun f i c h1 h2 _ => absurd h2 (nwH_live h1)) (lv' := [(1, .inr (some (4, 0, 0))), (0, .inl (.ref b))]) (st' := []) rfl rfl ?_
  · rcases nwH_cases h1 with ⟨rfl, rfl, z, rfl⟩ | ⟨rfl, y, z, rfl⟩ <;> rcases nwH_cases h2 with ⟨rfl, rfl, z2, e⟩ | ⟨rfl, y2, z2, e⟩
    · rw [e]
    · omega
    · omega
    · have e1 : i = i' := by omega
      have e2 : c = c' := by omega
      rw [e1, e2]
  change J X B (EH, kH) 8 [(1, .inr (some (4, 0, 0))), (0, .inl (.ref b))] []
  have hH0 : PC 10 EH 4 0 0 := ⟨Nat.zero_lt_one, by decide +kernel⟩
  have hR1 : rawOK EH := fun r hr => absurd hr List.not_mem_nil
  refine J_newO O (hKP _) hR1 (kd0 := 11) (C := RX11) (T := TX11) (N := 42) rfl rfl in_X11 tyX11 tyX11_ok mw1165 mw1166 mw517 (sl_p (s10_0 hH0) (sl_v sl_0)) st_0 dL_law_8 (fun hR => ?_)
  refine J_dup O.mo dL_law_11 rfl ?_
  have hH1 : PC 10 (upR EH ([] ++ [.inl (11, fun j => dv (tyX11 j))])) 4 0 0 := PC_up (by decide) hH0
  refine J_callI O (hKP _) (as := []) (rest := [.inr (some (8, 0, 0))]) (ci_X11 hfl (E0 := EH) (L := []) hR) rfl rfl (Or.inl mw1167) mw1168 mw517 mw1169 pd_X11_init rfl (by decide) rfl (Nat.le_of_ble_eq_true rfl) (sl_p (s10_0 hH1) (sl_v sl_0)) (st_p (st_8 (Nat.zero_lt_one)) st_0) dL_law_12 ?_
  change J X B (upR EH ([] ++ cX11 0), addC (addC kH 1 42) 38 44523) 15 [(1, .inr (some (4, 0, 0))), (0, .inl (.ref b))] [.inr (some (8, 0, 0))]
  refine J_astore_n O.mo (lv' := [(1, .inr (some (4, 0, 0))), (0, .inl (.ref b))]) dL_law_15 (by rw [hmL]; decide) rfl rfl ?_
  refine J_bmp (E0 := EH) (i0 := 0) (sz := 41) (pm := pmM) (l := []) (cells := cX11 0) O (hKP _) (fam := 5) rfl rfl rfl (fun i hi => hi) pmM_inj rfl ad_M (fun r hr => absurd hr List.not_mem_nil) ⟨fun f i c k co _ _ hz => absurd hz fsp5, fun i c k _ h24 hc => absurd hc (by have := kd_24 h24; omega)⟩ (lv' := [(2, .inr (some (5, 0, 0))), (1, .inr (some (4, 0, 0))), (0, .inl (.ref b))]) (st' := []) rfl rfl ?_
  change J X B (EM, kM) 16 [(2, .inr (some (5, 0, 0))), (1, .inr (some (4, 0, 0))), (0, .inl (.ref b))] []
  have hM0 : PC 10 EM 4 0 0 := ⟨Nat.zero_lt_one, by decide +kernel⟩
  have hM5 : PC 11 EM 5 0 0 := ⟨Nat.zero_lt_one, by decide +kernel⟩
  have hR2 : rawOK EM := fun r hr => absurd hr List.not_mem_nil
  refine J_iconst O.mo (v := 1) dL_law_16 (by decide) ?_
  refine J_newaR O (hKP _) hR2 (atype := .long) (ty := .long) rfl (ai := 2) (fun _ => rfl) (N := 1) (ct := .inr (.inl fun _ => 0)) (fun _ _ _ => ⟨_, rfl, rfl⟩) trivial mw_arrL (by decide) (by decide) (by decide) (sl_p (s11_0 hM5) (sl_p (s10_0 hM0) (sl_v sl_0))) st_0 dL_law_17 (fun hR => ?_)
  change J X B (upR EM ([] ++ [.inr (2, 1, .inr (.inl fun _ => 0))]), addC kM 1 1) 19 [(2, .inr (some (5, 0, 0))), (1, .inr (some (4, 0, 0))), (0, .inl (.ref b))] [.inr (some (8, 0, 0))]
  refine J_astore_n O.mo (lv' := [(2, .inr (some (5, 0, 0))), (1, .inr (some (4, 0, 0))), (0, .inl (.ref b))]) dL_law_19 (by rw [hmL]; decide) rfl rfl ?_
  refine J_bmp (E0 := EM) (i0 := 0) (sz := 1) (pm := fun c => c) (l := []) (cells := [.inr (2, 1, .inr (.inl fun _ => 0))]) O (hKP _) (fam := 6) rfl rfl rfl (fun i hi => hi) (fun c _ c2 _ h => h) rfl (fun c hc _ => ?_) (fun r hr => absurd hr List.not_mem_nil) ⟨fun f i c k co _ _ hz => absurd hz fsp6, fun i c k _ h24 hc => absurd hc (by have := kd_24 h24; omega)⟩ (lv' := [(3, .inr (some (6, 0, 0))), (2, .inr (some (5, 0, 0))), (1, .inr (some (4, 0, 0))), (0, .inl (.ref b))]) (st' := []) rfl rfl ?_
  · rcases (show c = 0 by omega) with rfl
    exact ⟨_, rfl, ck23 rfl rfl (fun _ => rfl)⟩
  change J X B (EI, kI) 20 [(3, .inr (some (6, 0, 0))), (2, .inr (some (5, 0, 0))), (1, .inr (some (4, 0, 0))), (0, .inl (.ref b))] []
  refine J_iconst O.mo (v := nI 0) dL_law_20 (by decide) ?_
  refine J_istore O.mo (lv' := [(3, .inr (some (6, 0, 0))), (2, .inr (some (5, 0, 0))), (1, .inr (some (4, 0, 0))), (0, .inl (.ref b))]) dL_law_21 (by rw [hmL]; decide) rfl rfl ?_
  refine J_sub [4, 3, 2, 1, 0] rfl ?_
  exact w_law_loop hfl O hKP hmL hs hL hE f 0 (EI, kI) (by omega) h
