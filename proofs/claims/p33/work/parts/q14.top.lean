/-! THE CLAIM OUT OF ONE WALK OF THE LAW'S BODY. Your part is whole_start (and what it stands on); all else here is the same for every law, but numbers. -/
def R_law : String := "GuestHallLaw"
def lw_P (b : Addr) (xs : List Int32) (args : Array Value) (s : State) : Prop := args = #[.ref b] ∧ s.IntsAt b xs ∧ xs.length ≤ 260 ∧ (Jvm.Cond.and given_1 narrow_1).before args s = true
def lw_Q (_ : Array Value) (s : State) (o : Outcome) (t : State) : Prop := o = .returned (some (.int 1)) ∧ Framed s o t [] 662023 7115554
def lw_Z (below : List Frame) (a : Array Value) (s : State) : State → Prop := fun t => ∃ o, t.status = .running ∧ Ended t below o ∧ lw_Q a s o t
/-- the law's own end, with 1 on the stack, nothing written that was there before, its room as the claim has it -/
theorem lw_ret {p : Program} {l : Launch} {e : Env} {s : State} {m : MethodId} {below : List Frame} {meth : Method} {c : Code} {b : Nat} (hx : p.tables.exec = Jvm.exec) (hb : c.code = code) (hr : meth.sig.returnType = ret) (hlocks : meth.locks = false) {pc : Nat} {H : Heap} {ls : Array Slot} (hdg : decode code pc = .ok (.ireturn, 1)) : W p l e room_1 s m #[Value.ref b] below meth c H [] 662023 7115554 (lw_Z below #[Value.ref b] s) (F0 m pc ls [.int 1]) := by
  intro T hT X
  obtain ⟨fs, hret, hrun, hended, hW, hframe⟩ := X.leave (v := some (.int 1)) (hlocks := hlocks) (fun h => by rw [hr] at h; cases h)
  have hmeth' : T.vm.method? m = some meth := X.method'
  refine ⟨T.setFrames fs, ?_, .returned (some (.int 1)), hrun, hended, rfl, ⟨_, rfl⟩, hW, hframe⟩
  jvm_step X.here [X.here.top, hx, hb, hdg, hmeth', hr, ret, narrow_b1]
  (try refine ⟨rfl, ?_⟩); (try refine ⟨rfl, ?_⟩)
  first | (intro acts; rw [hret _ acts rfl rfl rfl]) | rw [hret _ _ rfl rfl rfl]
  exact Steps.refl _
/-- what holds at the law's entry: the machine, the code, the tables' words (any of lw_tbl by 'hts w (by decide +kernel)'), the script of L ints xs at the cell b, what the Statement gives of the start (any of its parts by flat_of_before) -/
def lw_At (p : Program) (s : State) (m : MethodId) (meth : Method) (c : Code) (b L : Nat) (xs : Nat → Int32) : Prop :=
  p.tables.exec = Jvm.exec ∧ c.code = code ∧ meth.sig.returnType = ret ∧ c.maxLocals = 9 ∧ s.vm.findClass R_law = some m.cls ∧ (∀ w ∈ lw_tbl, w.before #[Value.ref b] s = true) ∧ va_X b L xs s s.heap ∧ b < s.heap.size ∧ meth.locks = false ∧ (Jvm.Cond.and given_1 narrow_1).before #[Value.ref b] s = true
theorem gwl_lw {w : Cond} (h : w ∈ gwl) : w ∈ lw_tbl := (List.mem_filter.mp h).1
set_option maxHeartbeats 4000000 in
set_option maxRecDepth 100000 in
theorem law_A {s : State} {args : Array Value} (hts : ∀ w ∈ lw_tbl, w.before args s = true) (hn : ∀ w ∈ flatC (Jvm.Cond.and given_1 narrow_1), w.before args s = true) {A : Nat → Prop} (hA : ∀ a : Nat, a < s.heap.size → ¬ A a) : ∃ t : Nat, va_Z "GuestHall" "A_NUMBERS" "[I" (.ref t) A s s.heap ∧ va_T .int t 14 fA A s s.heap := by
  obtain ⟨t, ht, hT⟩ := va_Tof (tm := (.static "GuestHall" "A_NUMBERS" "[I")) (ty := .int) (N := 14) (f := fA) (A := A) (by decide) (hn _ (List.mem_of_getElem? (i := 11) (by decide +kernel))) (va_eqt (t := .length (.static "GuestHall" "A_NUMBERS" "[I")) (z := 14) (hn _ (List.mem_of_getElem? (i := 12) (by decide +kernel)))) (by exact (tb_s (tb_s (tb_s (tb_s (tb_s (tb_s (tb_s (tb_s (tb_s (tb_s (tb_s (tb_s (tb_s (tb_s tb_0 (va_eqt (t := .elem (.static "GuestHall" "A_NUMBERS" "[I") (.int 0)) (z := 4) (hn _ (List.mem_of_getElem? (i := 13) (by decide +kernel))))) (va_eqt (t := .elem (.static "GuestHall" "A_NUMBERS" "[I") (.int 1)) (z := 4) (hn _ (List.mem_of_getElem? (i := 14) (by decide +kernel))))) (va_eqt (t := .elem (.static "GuestHall" "A_NUMBERS" "[I") (.int 2)) (z := 4) (hn _ (List.mem_of_getElem? (i := 15) (by decide +kernel))))) (va_eqt (t := .elem (.static "GuestHall" "A_NUMBERS" "[I") (.int 3)) (z := 4) (hn _ (List.mem_of_getElem? (i := 16) (by decide +kernel))))) (va_eqt (t := .elem (.static "GuestHall" "A_NUMBERS" "[I") (.int 4)) (z := 4) (hn _ (List.mem_of_getElem? (i := 17) (by decide +kernel))))) (va_eqt (t := .elem (.static "GuestHall" "A_NUMBERS" "[I") (.int 5)) (z := 8) (hn _ (List.mem_of_getElem? (i := 18) (by decide +kernel))))) (va_eqt (t := .elem (.static "GuestHall" "A_NUMBERS" "[I") (.int 6)) (z := 4) (hn _ (List.mem_of_getElem? (i := 19) (by decide +kernel))))) (va_eqt (t := .elem (.static "GuestHall" "A_NUMBERS" "[I") (.int 7)) (z := 4) (hn _ (List.mem_of_getElem? (i := 20) (by decide +kernel))))) (va_eqt (t := .elem (.static "GuestHall" "A_NUMBERS" "[I") (.int 8)) (z := 0) (hn _ (List.mem_of_getElem? (i := 21) (by decide +kernel))))) (va_eqt (t := .elem (.static "GuestHall" "A_NUMBERS" "[I") (.int 9)) (z := 0) (hn _ (List.mem_of_getElem? (i := 22) (by decide +kernel))))) (va_eqt (t := .elem (.static "GuestHall" "A_NUMBERS" "[I") (.int 10)) (z := 0) (hn _ (List.mem_of_getElem? (i := 23) (by decide +kernel))))) (va_eqt (t := .elem (.static "GuestHall" "A_NUMBERS" "[I") (.int 11)) (z := 0) (hn _ (List.mem_of_getElem? (i := 24) (by decide +kernel))))) (va_eqt (t := .elem (.static "GuestHall" "A_NUMBERS" "[I") (.int 12)) (z := 0) (hn _ (List.mem_of_getElem? (i := 25) (by decide +kernel))))) (va_eqt (t := .elem (.static "GuestHall" "A_NUMBERS" "[I") (.int 13)) (z := 0) (hn _ (List.mem_of_getElem? (i := 26) (by decide +kernel)))))) hA
  exact ⟨t, va_Zof (hts _ (List.mem_append_right _ (List.mem_of_getElem? (i := 596) rfl))) (hts _ (List.mem_append_right _ (List.mem_of_getElem? (i := 1) rfl))) ht hA, hT⟩
set_option maxHeartbeats 4000000 in
set_option maxRecDepth 100000 in
theorem law_B {s : State} {args : Array Value} (hts : ∀ w ∈ lw_tbl, w.before args s = true) (hn : ∀ w ∈ flatC (Jvm.Cond.and given_1 narrow_1), w.before args s = true) {A : Nat → Prop} (hA : ∀ a : Nat, a < s.heap.size → ¬ A a) : ∃ t : Nat, va_Z "GuestHall" "B_NUMBERS" "[I" (.ref t) A s s.heap ∧ va_T .int t 14 fB A s s.heap := by
  obtain ⟨t, ht, hT⟩ := va_Tof (tm := (.static "GuestHall" "B_NUMBERS" "[I")) (ty := .int) (N := 14) (f := fB) (A := A) (by decide) (hn _ (List.mem_of_getElem? (i := 28) (by decide +kernel))) (va_eqt (t := .length (.static "GuestHall" "B_NUMBERS" "[I")) (z := 14) (hn _ (List.mem_of_getElem? (i := 29) (by decide +kernel)))) (by exact (tb_s (tb_s (tb_s (tb_s (tb_s (tb_s (tb_s (tb_s (tb_s (tb_s (tb_s (tb_s (tb_s (tb_s tb_0 (va_eqt (t := .elem (.static "GuestHall" "B_NUMBERS" "[I") (.int 0)) (z := 10000) (hn _ (List.mem_of_getElem? (i := 30) (by decide +kernel))))) (va_eqt (t := .elem (.static "GuestHall" "B_NUMBERS" "[I") (.int 1)) (z := 4) (hn _ (List.mem_of_getElem? (i := 31) (by decide +kernel))))) (va_eqt (t := .elem (.static "GuestHall" "B_NUMBERS" "[I") (.int 2)) (z := 4) (hn _ (List.mem_of_getElem? (i := 32) (by decide +kernel))))) (va_eqt (t := .elem (.static "GuestHall" "B_NUMBERS" "[I") (.int 3)) (z := 4) (hn _ (List.mem_of_getElem? (i := 33) (by decide +kernel))))) (va_eqt (t := .elem (.static "GuestHall" "B_NUMBERS" "[I") (.int 4)) (z := 24) (hn _ (List.mem_of_getElem? (i := 34) (by decide +kernel))))) (va_eqt (t := .elem (.static "GuestHall" "B_NUMBERS" "[I") (.int 5)) (z := 9) (hn _ (List.mem_of_getElem? (i := 35) (by decide +kernel))))) (va_eqt (t := .elem (.static "GuestHall" "B_NUMBERS" "[I") (.int 6)) (z := 2) (hn _ (List.mem_of_getElem? (i := 36) (by decide +kernel))))) (va_eqt (t := .elem (.static "GuestHall" "B_NUMBERS" "[I") (.int 7)) (z := 3) (hn _ (List.mem_of_getElem? (i := 37) (by decide +kernel))))) (va_eqt (t := .elem (.static "GuestHall" "B_NUMBERS" "[I") (.int 8)) (z := 0) (hn _ (List.mem_of_getElem? (i := 38) (by decide +kernel))))) (va_eqt (t := .elem (.static "GuestHall" "B_NUMBERS" "[I") (.int 9)) (z := 24) (hn _ (List.mem_of_getElem? (i := 39) (by decide +kernel))))) (va_eqt (t := .elem (.static "GuestHall" "B_NUMBERS" "[I") (.int 10)) (z := 2) (hn _ (List.mem_of_getElem? (i := 40) (by decide +kernel))))) (va_eqt (t := .elem (.static "GuestHall" "B_NUMBERS" "[I") (.int 11)) (z := 0) (hn _ (List.mem_of_getElem? (i := 41) (by decide +kernel))))) (va_eqt (t := .elem (.static "GuestHall" "B_NUMBERS" "[I") (.int 12)) (z := 8) (hn _ (List.mem_of_getElem? (i := 42) (by decide +kernel))))) (va_eqt (t := .elem (.static "GuestHall" "B_NUMBERS" "[I") (.int 13)) (z := 0) (hn _ (List.mem_of_getElem? (i := 43) (by decide +kernel)))))) hA
  exact ⟨t, va_Zof (hts _ (List.mem_append_right _ (List.mem_of_getElem? (i := 601) rfl))) (hts _ (List.mem_append_right _ (List.mem_of_getElem? (i := 1) rfl))) ht hA, hT⟩
set_option maxHeartbeats 4000000 in
set_option maxRecDepth 100000 in
theorem law_E {s : State} {args : Array Value} (hts : ∀ w ∈ lw_tbl, w.before args s = true) (hn : ∀ w ∈ flatC (Jvm.Cond.and given_1 narrow_1), w.before args s = true) {A : Nat → Prop} (hA : ∀ a : Nat, a < s.heap.size → ¬ A a) : ∃ t : Nat, va_Z "java/util/ArrayList" "DEFAULTCAPACITY_EMPTY_ELEMENTDATA" "[Ljava/lang/Object;" (.ref t) A s s.heap ∧ va_T (.object "java/lang/Object") t 0 (fun _ => .null) A s s.heap := by
  obtain ⟨t, ht, hT⟩ := va_Tof (tm := (.static "java/util/ArrayList" "DEFAULTCAPACITY_EMPTY_ELEMENTDATA" "[Ljava/lang/Object;")) (ty := .object "java/lang/Object") (N := 0) (f := fun _ => .null) (A := A) (by decide) (hn _ (List.mem_of_getElem? (i := 5) (by decide +kernel))) (va_eqt (t := .length (.static "java/util/ArrayList" "DEFAULTCAPACITY_EMPTY_ELEMENTDATA" "[Ljava/lang/Object;")) (z := 0) (hn _ (List.mem_of_getElem? (i := 7) (by decide +kernel)))) (fun j hj => absurd hj (Nat.not_lt_zero j)) hA
  exact ⟨t, va_Zof (hts _ (List.mem_append_right _ (List.mem_of_getElem? (i := 49) rfl))) (hts _ (List.mem_append_right _ (List.mem_of_getElem? (i := 4) rfl))) ht hA, hT⟩
set_option maxHeartbeats 4000000 in
set_option maxRecDepth 100000 in
theorem law_str {s : State} {args : Array Value} (hts : ∀ w ∈ lw_tbl, w.before args s = true) (hn : ∀ w ∈ flatC (Jvm.Cond.and given_1 narrow_1), w.before args s = true) : ∀ q ∈ strs, ∃ sa : Nat, vk_R "GuestHall" q.1 q.2 sa s := by
  have key : ∀ (k : Nat) (tx : String), (Cond.stringRef "GuestHall" k tx).before args s = true → (Cond.exactly (.string "GuestHall" k) "java/lang/String").before args s = true → ∃ sa : Nat, vk_R "GuestHall" k tx sa s := by
    intro k tx h1 h2
    obtain ⟨a, c, cA, kA, q1, -⟩ := Cond.exactly_spec (args := args) (first := s) (o := none) (s := s) (idx := []) (t := .string "GuestHall" k) (cls := "java/lang/String") h2
    exact ⟨a, vk_R.of h1 q1⟩
  unfold strs
  exact List.forall_mem_cons.mpr ⟨key 349 "no such number" (hts _ (List.mem_append_right _ (List.mem_of_getElem? (i := 183) rfl))) (hn _ (List.mem_of_getElem? (i := 99) (by decide +kernel))), List.forall_mem_cons.mpr ⟨key 34 "weight" (hts _ (List.mem_append_right _ (List.mem_of_getElem? (i := 219) rfl))) (hn _ (List.mem_of_getElem? (i := 117) (by decide +kernel))), List.forall_mem_cons.mpr ⟨key 49 "no room, or a host that failed" (hts _ (List.mem_append_right _ (List.mem_of_getElem? (i := 239) rfl))) (hn _ (List.mem_of_getElem? (i := 128) (by decide +kernel))), List.forall_mem_cons.mpr ⟨key 76 "instruction" (hts _ (List.mem_append_right _ (List.mem_of_getElem? (i := 602) rfl))) (hn _ (List.mem_of_getElem? (i := 164) (by decide +kernel))), List.forall_mem_cons.mpr ⟨key 93 "the program is full, or in use" (hts _ (List.mem_append_right _ (List.mem_of_getElem? (i := 603) rfl))) (hn _ (List.mem_of_getElem? (i := 182) (by decide +kernel))), List.forall_mem_cons.mpr ⟨key 102 "scale" (hts _ (List.mem_append_right _ (List.mem_of_getElem? (i := 622) rfl))) (hn _ (List.mem_of_getElem? (i := 220) (by decide +kernel))), List.forall_mem_cons.mpr ⟨key 106 "value" (hts _ (List.mem_append_right _ (List.mem_of_getElem? (i := 630) rfl))) (hn _ (List.mem_of_getElem? (i := 234) (by decide +kernel))), List.forall_mem_cons.mpr ⟨key 121 "too many inputs" (hts _ (List.mem_append_right _ (List.mem_of_getElem? (i := 631) rfl))) (hn _ (List.mem_of_getElem? (i := 249) (by decide +kernel))), List.forall_mem_cons.mpr ⟨key 147 "stopped or dead" (hts _ (List.mem_append_right _ (List.mem_of_getElem? (i := 657) rfl))) (hn _ (List.mem_of_getElem? (i := 275) (by decide +kernel))), List.forall_mem_cons.mpr ⟨key 155 "ticks" (hts _ (List.mem_append_right _ (List.mem_of_getElem? (i := 673) rfl))) (hn _ (List.mem_of_getElem? (i := 302) (by decide +kernel))), List.forall_mem_cons.mpr ⟨key 160 "too late" (hts _ (List.mem_append_right _ (List.mem_of_getElem? (i := 674) rfl))) (hn _ (List.mem_of_getElem? (i := 320) (by decide +kernel))), List.forall_mem_cons.mpr ⟨key 197 "moving, dead, or nowhere to go" (hts _ (List.mem_append_right _ (List.mem_of_getElem? (i := 888) rfl))) (hn _ (List.mem_of_getElem? (i := 342) (by decide +kernel))), List.forall_mem_cons.mpr ⟨key 210 "pages" (hts _ (List.mem_append_right _ (List.mem_of_getElem? (i := 902) rfl))) (hn _ (List.mem_of_getElem? (i := 387) (by decide +kernel))), List.forall_mem_cons.mpr ⟨key 212 "not moving" (hts _ (List.mem_append_right _ (List.mem_of_getElem? (i := 903) rfl))) (hn _ (List.mem_of_getElem? (i := 408) (by decide +kernel))), List.forall_mem_cons.mpr ⟨key 223 "dead, or too many snapshots" (hts _ (List.mem_append_right _ (List.mem_of_getElem? (i := 926) rfl))) (hn _ (List.mem_of_getElem? (i := 435) (by decide +kernel))), List.forall_mem_cons.mpr ⟨key 242 "another's snapshot, followed, or a host that failed" (hts _ (List.mem_append_right _ (List.mem_of_getElem? (i := 977) rfl))) (hn _ (List.mem_of_getElem? (i := 480) (by decide +kernel))), List.forall_mem_cons.mpr ⟨key 249 "dead" (hts _ (List.mem_append_right _ (List.mem_of_getElem? (i := 996) rfl))) (hn _ (List.mem_of_getElem? (i := 550) (by decide +kernel))), List.forall_mem_cons.mpr ⟨key 257 "not followed" (hts _ (List.mem_append_right _ (List.mem_of_getElem? (i := 1018) rfl))) (hn _ (List.mem_of_getElem? (i := 574) (by decide +kernel))), List.forall_mem_cons.mpr ⟨key 259 "failed already" (hts _ (List.mem_append_right _ (List.mem_of_getElem? (i := 1026) rfl))) (hn _ (List.mem_of_getElem? (i := 607) (by decide +kernel))), List.forall_mem_cons.mpr ⟨key 271 "not failed" (hts _ (List.mem_append_right _ (List.mem_of_getElem? (i := 1048) rfl))) (hn _ (List.mem_of_getElem? (i := 643) (by decide +kernel))), List.forall_mem_cons.mpr ⟨key 294 "what" (hts _ (List.mem_append_right _ (List.mem_of_getElem? (i := 1056) rfl))) (hn _ (List.mem_of_getElem? (i := 676) (by decide +kernel))), List.forall_mem_cons.mpr ⟨key 318 "kind" (hts _ (List.mem_append_right _ (List.mem_of_getElem? (i := 1108) rfl))) (hn _ (List.mem_of_getElem? (i := 704) (by decide +kernel))), fun _ h => absurd h List.not_mem_nil⟩⟩⟩⟩⟩⟩⟩⟩⟩⟩⟩⟩⟩⟩⟩⟩⟩⟩⟩⟩⟩⟩
set_option maxHeartbeats 4000000 in
set_option maxRecDepth 100000 in
theorem law_ST {s : State} {args : Array Value} (hts : ∀ w ∈ lw_tbl, w.before args s = true) (hn : ∀ w ∈ flatC (Jvm.Cond.and given_1 narrow_1), w.before args s = true) : ST s := by
  refine ⟨fun w hw => ?_, law_str hts hn, va_AO.of (hts _ (List.mem_append_right _ (List.mem_of_getElem? (i := 63) rfl))), va_AO.of (hts _ (List.mem_append_right _ (List.mem_of_getElem? (i := 557) rfl))), ?_⟩
  · have h2 := (List.mem_filter.mp hw).2
    have h1 := hts w (List.mem_filter.mp hw).1
    cases w <;> first | (simp [isN] at h2; done) | exact va_Nw.of rfl h1
  · unfold ncs
    exact List.forall_mem_cons.mpr ⟨va_Nc.of (hn _ (List.mem_of_getElem? (i := 47) (by decide +kernel))), List.forall_mem_cons.mpr ⟨va_Nc.of (hn _ (List.mem_of_getElem? (i := 48) (by decide +kernel))), List.forall_mem_cons.mpr ⟨va_Nc.of (hn _ (List.mem_of_getElem? (i := 61) (by decide +kernel))), fun _ h => absurd h List.not_mem_nil⟩⟩⟩
set_option maxHeartbeats 4000000 in
set_option maxRecDepth 100000 in
theorem law_Kn {s : State} {args : Array Value} (hts : ∀ w ∈ lw_tbl, w.before args s = true) (hn : ∀ w ∈ flatC (Jvm.Cond.and given_1 narrow_1), w.before args s = true) : ∃ D : va_G, ∀ (k : Nat) (q : vw_C), vwCl[k]? = some q → u_Kn s q.1 q.2.1 q.2.2 (D.1 k) (D.2 k) := by
  have h0 : ∀ k : Nat, ∃ D : ClassId × (Nat → Nat), ∀ q : vw_C, vwCl[k]? = some q → u_Kn s q.1 q.2.1 q.2.2 D.1 D.2 := by
    intro k
    match k with
    | 0 =>
      obtain ⟨c, i, h⟩ := u_known (C := RJx4a65c) (T := TJx4a65c) (N := 3) (n := 3) hts (fun w hw => gwl_lw (in_Jx4a65c w hw)) (hts _ (List.mem_append_right _ (List.mem_of_getElem? (i := 37) rfl)))
      exact ⟨(c, i), fun q hq => by cases hq; exact h⟩
    | 1 =>
      obtain ⟨c, i, h⟩ := u_known (C := RX0) (T := TX0) (N := 4) (n := 4) hts (fun w hw => gwl_lw (in_X0 w hw)) (hts _ (List.mem_append_right _ (List.mem_of_getElem? (i := 398) rfl)))
      exact ⟨(c, i), fun q hq => by cases hq; exact h⟩
    | 2 =>
      obtain ⟨c, i, h⟩ := u_known (C := RX1) (T := TX1) (N := 19) (n := 19) hts (fun w hw => gwl_lw (in_X1 w hw)) (hts _ (List.mem_append_right _ (List.mem_of_getElem? (i := 247) rfl)))
      exact ⟨(c, i), fun q hq => by cases hq; exact h⟩
    | 3 =>
      obtain ⟨c, i, h⟩ := u_known (C := RX2) (T := TX2) (N := 8) (n := 8) hts (fun w hw => gwl_lw (in_X2 w hw)) (hts _ (List.mem_append_right _ (List.mem_of_getElem? (i := 64) rfl)))
      exact ⟨(c, i), fun q hq => by cases hq; exact h⟩
    | 4 =>
      obtain ⟨c, i, h⟩ := u_known (C := RX3) (T := TX3) (N := 9) (n := 9) hts (fun w hw => gwl_lw (in_X3 w hw)) (hts _ (List.mem_append_right _ (List.mem_of_getElem? (i := 286) rfl)))
      exact ⟨(c, i), fun q hq => by cases hq; exact h⟩
    | 5 =>
      obtain ⟨c, i, h⟩ := u_known (C := RX4) (T := TX4) (N := 2) (n := 2) hts (fun w hw => gwl_lw (in_X4 w hw)) (hts _ (List.mem_append_right _ (List.mem_of_getElem? (i := 332) rfl)))
      exact ⟨(c, i), fun q hq => by cases hq; exact h⟩
    | 6 =>
      obtain ⟨c, i, h⟩ := u_known (C := RX5) (T := TX5) (N := 4) (n := 4) hts (fun w hw => gwl_lw (in_X5 w hw)) (hts _ (List.mem_append_right _ (List.mem_of_getElem? (i := 256) rfl)))
      exact ⟨(c, i), fun q hq => by cases hq; exact h⟩
    | 7 =>
      obtain ⟨c, i, h⟩ := u_known (C := RX6) (T := TX6) (N := 5) (n := 5) hts (fun w hw => gwl_lw (in_X6 w hw)) (hts _ (List.mem_append_right _ (List.mem_of_getElem? (i := 1145) rfl)))
      exact ⟨(c, i), fun q hq => by cases hq; exact h⟩
    | 8 =>
      obtain ⟨c, i, h⟩ := u_known (C := RX7) (T := TX7) (N := 3) (n := 3) hts (fun w hw => gwl_lw (in_X7 w hw)) (hts _ (List.mem_append_right _ (List.mem_of_getElem? (i := 928) rfl)))
      exact ⟨(c, i), fun q hq => by cases hq; exact h⟩
    | 9 =>
      obtain ⟨c, i, h⟩ := u_known (C := RX8) (T := TX8) (N := 10) (n := 10) hts (fun w hw => gwl_lw (in_X8 w hw)) (hts _ (List.mem_append_right _ (List.mem_of_getElem? (i := 280) rfl)))
      exact ⟨(c, i), fun q hq => by cases hq; exact h⟩
    | 10 =>
      obtain ⟨c, i, h⟩ := u_known (C := RX10) (T := TX10) (N := 4) (n := 4) hts (fun w hw => gwl_lw (in_X10 w hw)) (hts _ (List.mem_append_right _ (List.mem_of_getElem? (i := 29) rfl)))
      exact ⟨(c, i), fun q hq => by cases hq; exact h⟩
    | k + 11 => exact ⟨(0, fun _ => 0), fun q hq => by cases hq⟩
  obtain ⟨f, hf⟩ := Classical.axiomOfChoice h0
  exact ⟨(fun k => (f k).1, fun k => (f k).2), fun k q hq => hf k q hq⟩
set_option maxHeartbeats 4000000 in
set_option maxRecDepth 100000 in
theorem law_Ca {s : State} {args : Array Value} (hts : ∀ w ∈ lw_tbl, w.before args s = true) (hn : ∀ w ∈ flatC (Jvm.Cond.and given_1 narrow_1), w.before args s = true) : ∃ ca : Nat → ClassId, ∀ (k : Nat) (q : ClassId × FieldType), (tysOf ca)[k]? = some q → ArrOfT s q.1 q.2 ∧ va_RA s q.1 q.2 := by
  obtain ⟨c0, k0, m0, u0, v0, w0⟩ := Cond.arrayClass_spec (args := args) (first := s) (o := none) (s := s) (idx := []) (type := .int) (hts _ (List.mem_append_right _ (List.mem_of_getElem? (i := 103) rfl)))
  obtain ⟨c1, k1, m1, u1, v1, w1⟩ := Cond.arrayClass_spec (args := args) (first := s) (o := none) (s := s) (idx := []) (type := .int) (hts _ (List.mem_append_right _ (List.mem_of_getElem? (i := 103) rfl)))
  obtain ⟨c2, k2, m2, u2, v2, w2⟩ := Cond.arrayClass_spec (args := args) (first := s) (o := none) (s := s) (idx := []) (type := .int) (hts _ (List.mem_append_right _ (List.mem_of_getElem? (i := 103) rfl)))
  obtain ⟨m3, c3, k3, a3, -, v3, w3, u3⟩ := Cond.arrayOver_spec (args := args) (first := s) (o := none) (s := s) (idx := []) (n := "java/lang/Object") (hts _ (List.mem_append_right _ (List.mem_of_getElem? (i := 557) rfl)))
  obtain ⟨m4, c4, k4, a4, -, v4, w4, u4⟩ := Cond.arrayOver_spec (args := args) (first := s) (o := none) (s := s) (idx := []) (n := "GuestHall$Host") (hts _ (List.mem_append_right _ (List.mem_of_getElem? (i := 63) rfl)))
  refine ⟨fun k => if k = 0 then c0 else if k = 1 then c1 else if k = 2 then c2 else if k = 3 then c3 else c4, fun k q hq => ?_⟩
  match k, hq with
  | 0, hq => cases hq; exact ⟨fun n z => ⟨fun _ h => (by cases h), k0, v0, m0, w0⟩, u0⟩
  | 1, hq => cases hq; exact ⟨fun n z => ⟨fun _ h => (by cases h), k1, v1, m1, w1⟩, u1⟩
  | 2, hq => cases hq; exact ⟨fun n z => ⟨fun _ h => (by cases h), k2, v2, m2, w2⟩, u2⟩
  | 3, hq => cases hq; exact ⟨fun n z => ⟨fun _ h => (by cases h), k3, v3, m3, w3⟩, k3, m3, v3, w3, a3, u3⟩
  | 4, hq => cases hq; exact ⟨fun n z => ⟨fun _ h => (by cases h), k4, v4, m4, w4⟩, k4, m4, v4, w4, a4, u4⟩
  | k + 5, hq => cases hq
set_option maxHeartbeats 4000000 in
set_option maxRecDepth 100000 in
theorem law_g {s : State} {args : Array Value} (hts : ∀ w ∈ lw_tbl, w.before args s = true) (hn : ∀ w ∈ flatC (Jvm.Cond.and given_1 narrow_1), w.before args s = true) : ∃ g : GP, va_K g.1 vwCl (tysOf g.2.1) s ∧ SH g (fun q => s.heap.size ≤ q) s s.heap := by
  have hA : ∀ a : Nat, a < s.heap.size → ¬ s.heap.size ≤ a := fun a h => Nat.not_le.mpr h
  obtain ⟨D, hD⟩ := law_Kn hts hn
  obtain ⟨ca, hca⟩ := law_Ca hts hn
  obtain ⟨tE, e1, e2⟩ := law_E hts hn (A := fun q => s.heap.size ≤ q) hA
  obtain ⟨tA, a1, a2⟩ := law_A hts hn (A := fun q => s.heap.size ≤ q) hA
  obtain ⟨tB, b1, b2⟩ := law_B hts hn (A := fun q => s.heap.size ≤ q) hA
  exact ⟨(D, ca, (tE, tA, tB)), ⟨hD, hca⟩, a1, a2, b1, b2, e1, e2, vx_Zqof (hts _ (List.mem_append_right _ (List.mem_of_getElem? (i := 169) rfl))) (hts _ (List.mem_append_right _ (List.mem_of_getElem? (i := 7) rfl))) (hn _ (List.mem_of_getElem? (i := 8) (by decide +kernel))) hA, vx_Zqof (hts _ (List.mem_append_right _ (List.mem_of_getElem? (i := 171) rfl))) (hts _ (List.mem_append_right _ (List.mem_of_getElem? (i := 7) rfl))) (hn _ (List.mem_of_getElem? (i := 9) (by decide +kernel))) hA⟩
theorem ctC_E00 (ca : Nat → ClassId) (e0 : Nat) (ad : Pl → Nat) (p : Pl) : ctC ca e0 ad (E00, κ00) p = none := by
  unfold ctC
  dsimp only
  rw [live_E00]
  split
  · split <;> rfl
  · rfl
set_option maxHeartbeats 4000000 in
set_option maxRecDepth 100000 in
/-- the law from its entry to its end -/
theorem whole_open {p : Program} {e : Env} {s : State} {m : MethodId} {below : List Frame} {meth : Method} {c : Code} (l : Launch) (hflags : l.flags = flags0) {b L : Nat} {xs : Nat → Int32} (hL : L ≤ 260) (C0 : lw_At p s m meth c b L xs) : W p l e room_1 s m #[Value.ref b] below meth c s.heap [] 0 0 (lw_Z below #[Value.ref b] s) (entryFrame m ([Value.ref b] : List Value).toArray 9) := by
  obtain ⟨hx, hb, hr, hml, hown, hts, hX, hbl, hlocks, hgv⟩ := id C0
  have hn := flat_of_before _ hgv
  obtain ⟨g, hK, hSH⟩ := law_g hts hn
  have hST : ST s := law_ST hts hn
  have hfl : l.stackTraces = false := by unfold Launch.stackTraces; rw [hflags]; decide +kernel
  have hl := lv_entry ([.ref b]) (n := 9) (Nat.le_of_ble_eq_true rfl)
  rw [lg_entry_eq]
  generalize (lg_sl ([.ref b]) ++ List.replicate (9 - (lg_sl ([.ref b])).length) Slot.unset).toArray = ls at hl ⊢
  generalize hX0 : ((p, l, e, room_1, s, m, #[Value.ref b], below, meth, c, lw_Z below #[Value.ref b] s) : MX) = X0
  generalize hB0 : ((g.1, ctM g.2.1 g.2.2.1, (fun q => s.heap.size ≤ q), 9, (fun y => y.2.2), (0, 0), (662023, 7115554), (fun _ => True), (fun X => X = X0)) : BX S2) = B0
  have hCX : CXM l X0 B0 g cL_law yL_law.cls 14 534 := by
    rw [← hX0, ← hB0]
    exact ⟨⟨hx, hb, hml, hown, fun w hw => hts w (gwl_lw hw), hK, hlocks, fun q hq => hq, ⟨Nat.zero_add _, Nat.zero_add _⟩⟩, hST, hSH, rfl, rfl, rfl, hfl⟩
  have O : CKM l X0 B0 g cL_law yL_law.cls 14 534 := ⟨fun _ => hCX, by rw [← hB0], by rw [← hB0], by rw [← hB0]⟩
  have hs : B0.2.2.2.2.2.2.2.2 X0 → LWX b L xs B0.2.2.1 X0 := by
    intro _
    rw [← hX0, ← hB0]
    exact ⟨hX, hbl, Nat.not_le.mpr hbl⟩
  have hE : ∀ (y : S2) (lv : List (Nat × AV)), y.2.2.1 ≤ 662023 → y.2.2.2 ≤ 7115554 → J X0 B0 y 319 lv [.inl (.int 1)] := by
    intro y lv hc1 hc2
    rw [← hX0, ← hB0]
    refine ⟨⟨hc1, hc2⟩, fun _ ad H locs ls cells slots g1 g2 g3 g4 g5 => ?_⟩
    have g4' : 0 + cells = y.2.2.1 := g4
    have g5' : 0 + slots = y.2.2.2 := g5
    exact W.widen (k := 662023) (n := 7115554) (by omega) (by omega) (va_forget (fun q hq => g2.2.2 q hq) (lw_ret hx hb hr hlocks dL_law_319))
  have hJ := law_start hfl O (fun _ => by rw [← hB0]; trivial) (by rw [← hB0]) hs (show L ≤ 2560 by omega) hE
  rw [← hX0, ← hB0] at hJ
  have hnone : ∀ (ad : Pl → Nat) (q : Pl), ctM g.2.1 g.2.2.1 ad ((fun _ => (E00, κ00), none, (0, 0)) : S2) q = none := fun ad q => by
    unfold ctM
    split
    · exact ctC_E00 _ _ _ _
    · split <;> rfl
  exact hJ.2 hX0 (fun _ => 0) s.heap [] ls 0 0 ⟨⟨fun q z h => absurd ((hnone _ _).symm.trans h) (fun w => by cases w), fun q z e1 e2 h => absurd ((hnone _ _).symm.trans h) (fun w => by cases w)⟩, trivial⟩ va_S.rf hl rfl rfl
