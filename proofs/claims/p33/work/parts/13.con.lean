/-! CONTRACTS over the store -/
def isN : Cond → Bool
  | .methodLinkNest .. => true
  | .fieldLinkNest .. => true
  | .declares .. => true
  | .castable .. => true
  | _ => false
def nwl : List Cond := lw_tbl.filter isN
theorem nwl_tb {w : Cond} (k : Nat) (h : tables_1[k]? = some w) (hg : isN w = true) : w ∈ nwl := List.mem_filter.mpr ⟨List.mem_append_right _ (List.mem_of_getElem? h), hg⟩
/-- the texts of the class's exceptions -/
def strs : List (Nat × String) := [(349, "no such number"), (34, "weight"), (49, "no room, or a host that failed"), (76, "instruction"), (93, "the program is full, or in use"), (102, "scale"), (106, "value"), (121, "too many inputs"), (147, "stopped or dead"), (155, "ticks"), (160, "too late"), (197, "moving, dead, or nowhere to go"), (210, "pages"), (212, "not moving"), (223, "dead, or too many snapshots"), (242, "another's snapshot, followed, or a host that failed"), (249, "dead"), (257, "not followed"), (259, "failed already"), (271, "not failed"), (294, "what"), (318, "kind")]
/-- exceptions that are none of a kind -/
def ncs : List (String × String) := [("java/lang/IllegalArgumentException", "java/lang/IndexOutOfBoundsException"), ("java/lang/IllegalStateException", "java/lang/IndexOutOfBoundsException"), ("java/lang/IllegalStateException", "java/lang/IllegalArgumentException")]
/-- what the tables tell beside gwl -/
def ST (U : State) : Prop := (∀ w ∈ nwl, va_Nw w U) ∧ (∀ q ∈ strs, ∃ sa : Nat, vk_R "GuestHall" q.1 q.2 sa U) ∧ va_AO "GuestHall$Host" U ∧ va_AO "java/lang/Object" U ∧ ∀ q ∈ ncs, va_Nc q.1 q.2 U
theorem ST.warm {s U : State} (hW : s.WarmedH U.vm) (h : ST s) : ST U := by
  refine ⟨fun w hw => ?_, fun q hq => ?_, h.2.2.1.moved hW.alike, h.2.2.2.1.moved hW.alike, fun q hq => (h.2.2.2.2 q hq).moved hW.alike⟩
  · have h1 := h.1 w hw
    have h2 := (List.mem_filter.mp hw).2
    cases w <;> first | (simp [isN] at h2; done) | exact va_Nw.warmM hW h1 | exact va_Nw.warmF hW h1 | exact va_Nw.warmD hW h1 | exact va_tabs rfl (rfl : (s.setVm U.vm).vm = U.vm) (by rw [Cond.castable_setVm hW.alike]; exact h1)
  · obtain ⟨sa, h1⟩ := h.2.1 q hq
    exact ⟨sa, vk_R.warm hW h1⟩
theorem ST.same {s U : State} (hv : U.vm = s.vm) (h : ST s) : ST U := by
  refine ⟨fun w hw => ?_, fun q hq => ?_, h.2.2.1.moved (by rw [hv]; exact Vm.Alike.refl _), h.2.2.2.1.moved (by rw [hv]; exact Vm.Alike.refl _), fun q hq => (h.2.2.2.2 q hq).moved (by rw [hv]; exact Vm.Alike.refl _)⟩
  · have h1 := h.1 w hw
    have h2 := (List.mem_filter.mp hw).2
    refine va_Nw.same ?_ hv.symm h1
    cases w <;> first | (simp [isN] at h2; done) | rfl
  · obtain ⟨sa, h1⟩ := h.2.1 q hq
    exact ⟨sa, vk_R.same hv h1⟩
/-- the tables, the classes of arrays, and where the static arrays lie: the empty list's, A_NUMBERS, B_NUMBERS -/
abbrev GP : Type := va_G × (Nat → ClassId) × (Nat × Nat × Nat)
def fA : Nat → Value := fun j => .int (([4, 4, 4, 4, 4, 8, 4, 4, 0, 0, 0, 0, 0, 0] : List Int32).getD j 0)
def fB : Nat → Value := fun j => .int (([10000, 4, 4, 4, 24, 9, 2, 3, 0, 24, 2, 0, 8, 0] : List Int32).getD j 0)
/-- what static fields hold, beside the cells that may change -/
def SH (g : GP) (A : Nat → Prop) (U : State) (H : Heap) : Prop :=
  va_Z "GuestHall" "A_NUMBERS" "[I" (.ref g.2.2.2.1) A U H ∧ va_T .int g.2.2.2.1 14 fA A U H ∧ va_Z "GuestHall" "B_NUMBERS" "[I" (.ref g.2.2.2.2) A U H ∧ va_T .int g.2.2.2.2 14 fB A U H ∧
  va_Z "java/util/ArrayList" "DEFAULTCAPACITY_EMPTY_ELEMENTDATA" "[Ljava/lang/Object;" (.ref g.2.2.1) A U H ∧ va_T (.object "java/lang/Object") g.2.2.1 0 (fun _ => .null) A U H ∧
  vx_Zq Bundle.tN "UNASSIGNED_STACK" Bundle.steD A U H ∧ vx_Zq Bundle.tN "SUPPRESSED_SENTINEL" Bundle.listD A U H
theorem SH.moved {g : GP} {A : Nat → Prop} {u U : State} {H : Heap} (hvm : u.vm.Alike U.vm) (h : SH g A u H) : SH g A U H :=
  ⟨h.1.moved hvm, h.2.1.moved hvm, h.2.2.1.moved hvm, h.2.2.2.1.moved hvm, h.2.2.2.2.1.moved hvm, h.2.2.2.2.2.1.moved hvm, h.2.2.2.2.2.2.1.moved hvm, h.2.2.2.2.2.2.2.moved hvm⟩
theorem SH.kept {g : GP} {A : Nat → Prop} {U : State} {H H1 : Heap} (h : SH g A U H) (hq : ∀ a : Nat, a < H.size → ¬ A a → H1[a]? = H[a]?) : SH g A U H1 :=
  ⟨h.1.kept hq, h.2.1.kept hq, h.2.2.1.kept hq, h.2.2.2.1.kept hq, h.2.2.2.2.1.kept hq, h.2.2.2.2.2.1.kept hq, h.2.2.2.2.2.2.1.kept hq, h.2.2.2.2.2.2.2.kept hq⟩
theorem SH.narrow {g : GP} {A A' : Nat → Prop} {U : State} {H : Heap} (h : SH g A U H) (hq : ∀ q, A' q → A q) : SH g A' U H :=
  ⟨h.1.narrow hq, h.2.1.narrow hq, h.2.2.1.narrow hq, h.2.2.2.1.narrow hq, h.2.2.2.2.1.narrow hq, h.2.2.2.2.2.1.narrow hq, h.2.2.2.2.2.2.1.narrow hq, h.2.2.2.2.2.2.2.narrow hq⟩
/-- the cells of a world, and all new ones -/
def Aof (g : GP) (ad : Pl → Nat) (x : EE × K) (sz : Nat) : Nat → Prop := fun q => (∃ (p : Pl) (e : va_E), ctC g.2.1 g.2.2.1 ad x p = some e ∧ ad p = q) ∨ sz ≤ q
def PcC (g : GP) (ad : Pl → Nat) (x : EE × K) (sz : Nat) (as : List AV) : Array Value → State → Prop := fun v U =>
  v = (as.map (emb ad)).toArray ∧ U.heap.size = sz ∧ va_K g.1 vwCl (tysOf g.2.1) U ∧ ST U ∧ SH g (Aof g ad x sz) U U.heap ∧ Wd g.1 (ctC g.2.1 g.2.2.1) (Aof g ad x sz) ad x U.heap
/-- places keep their addresses, but for the rows of numbers, which may be made anew -/
def Keep (E : EE) (ad ad' : Pl → Nat) : Prop := ∀ f i c : Nat, liveC E f i c = true → kd f c ≠ 21 → ad' (f, i, c) = ad (f, i, c)
def QcC (g : GP) (ad : Pl → Nat) (x : EE × K) (sz : Nat) (x' : EE × K) (r : Option AV) : Array Value → State → Outcome → State → Prop := fun _ st o t =>
  (∃ ad' : Pl → Nat, Keep x.1 ad ad' ∧ o = .returned (r.map (emb ad')) ∧ Wd g.1 (ctC g.2.1 g.2.2.1) (Aof g ad x sz) ad' x' t.heap) ∧ va_F (Aof g ad x sz) st t
def Con (l : Launch) (y : MethodName) (b : ByteArray) (mL : Nat) (ret : Option FieldType) (fr lo : Nat) (as : List AV) (x x' : EE × K) (r : Option AV) : Prop :=
  (MX → (kC x.2).1 ≤ (kC x'.2).1 ∧ (kC x.2).2 ≤ (kC x'.2).2) ∧ ∀ (g : GP) (ad : Pl → Nat) (sz : Nat),
    Met l y (Cond.code y b mL ret :: gwl) ({ frames := fr, cells := (kC x'.2).1 - (kC x.2).1, slots := (kC x'.2).2 - (kC x.2).2, locals := lo }) (PcC g ad x sz as) (QcC g ad x sz x' r) ((kC x'.2).1 - (kC x.2).1) ((kC x'.2).2 - (kC x.2).2) (Aof g ad x sz)
/-- .. that may throw: the exception's class, or an answer -/
def XcC (g : GP) (ad : Pl → Nat) (x : EE × K) (sz : Nat) (x' : EE × K) (E : String) : String → State → State → Prop := fun E' st t =>
  E' = E ∧ (∃ ad' : Pl → Nat, Keep x.1 ad ad' ∧ Wd g.1 (ctC g.2.1 g.2.2.1) (Aof g ad x sz) ad' x' t.heap) ∧ va_F (Aof g ad x sz) st t
def QcX (g : GP) (ad : Pl → Nat) (x : EE × K) (sz : Nat) (x' : EE × K) : Option AV ⊕ String → Array Value → State → Outcome → State → Prop
  | .inl r => QcC g ad x sz x' r
  | .inr _ => fun _ _ _ _ => False
def XcX (g : GP) (ad : Pl → Nat) (x : EE × K) (sz : Nat) (x' : EE × K) : Option AV ⊕ String → String → State → State → Prop
  | .inl _ => fun _ _ _ => False
  | .inr E => XcC g ad x sz x' E
def ConX (l : Launch) (y : MethodName) (b : ByteArray) (mL : Nat) (ret : Option FieldType) (fr lo : Nat) (as : List AV) (x x' : EE × K) (r : Option AV ⊕ String) : Prop :=
  (MX → (kC x.2).1 ≤ (kC x'.2).1 ∧ (kC x.2).2 ≤ (kC x'.2).2) ∧ ∀ (g : GP) (ad : Pl → Nat) (sz : Nat),
    vx_Met l y (Cond.code y b mL ret :: gwl) ({ frames := fr, cells := (kC x'.2).1 - (kC x.2).1, slots := (kC x'.2).2 - (kC x.2).2, locals := lo }) (PcC g ad x sz as) (QcX g ad x sz x' r) (XcX g ad x sz x' r) ((kC x'.2).1 - (kC x.2).1) ((kC x'.2).2 - (kC x.2).2) (Aof g ad x sz)
theorem PcC.blind {g : GP} {ad : Pl → Nat} {x : EE × K} {sz : Nat} {as : List AV} : FrameBlind (PcC g ad x sz as) := by
  intro a U fr mk h
  obtain ⟨h1, h2, h3, h4, h5, h6⟩ := h
  exact ⟨h1, h2, va_K.moved (u := U) (U := U.calling fr mk a) (Vm.Alike.refl U.vm) h3, ST.same (s := U) rfl h4, SH.moved (u := U) (U := U.calling fr mk a) (Vm.Alike.refl U.vm) h5, h6⟩
/-- what a body over the store knows: as CO, and what the statics hold -/
def CX (l0 : Launch) (X : MX) (B : BX (EE × K)) (g : GP) (cc : ByteArray) (own : String) (F L : Nat) : Prop := match X with
  | (p, l, e, R, s, m, args, below, meth, c, Q) => MO (p, l, e, R, s, m, args, below, meth, c, Q) B g.2.1 cc own ∧ ST s ∧ SH g B.2.2.1 s s.heap ∧ R.frames = F ∧ R.locals = L ∧ l = l0 ∧ l0.stackTraces = false
def CK (l0 : Launch) (X : MX) (B : BX (EE × K)) (g : GP) (cc : ByteArray) (own : String) (F L : Nat) : Prop := (B.2.2.2.2.2.2.2.2 X → CX l0 X B g cc own F L) ∧ B.2.1 = ctC g.2.1 g.2.2.1 ∧ B.2.2.2.2.1 = (fun x => kC x.2) ∧ B.1 = g.1
theorem CK.co {X : MX} {B : BX (EE × K)} {g : GP} {cc : ByteArray} {own : String} {F L : Nat} {l0 : Launch} (h : CK l0 X B g cc own F L) : CO X B g.2.1 g.2.2.1 cc own := ⟨fun o => (h.1 o).1, h.2.1, h.2.2.1⟩
theorem CK.mo {X : MX} {B : BX (EE × K)} {g : GP} {cc : ByteArray} {own : String} {F L : Nat} {l0 : Launch} (h : CK l0 X B g cc own F L) : B.2.2.2.2.2.2.2.2 X → MO X B g.2.1 cc own := fun o => (h.1 o).1
/-- a value that a call leaves as it is -/
def Stab (E : EE) : AV → Prop
  | .inr (some p) => liveC E p.1 p.2.1 p.2.2 = true ∧ kd p.1 p.2.2 ≠ 21
  | _ => True
theorem Stab_emb {E : EE} {ad ad' : Pl → Nat} (hk : Keep E ad ad') {v : AV} (h : Stab E v) : emb ad' v = emb ad v := by
  match v, h with
  | .inl _, _ => rfl
  | .inr none, _ => rfl
  | .inr (some (f, i, c)), h => exact congrArg Value.ref (hk f i c h.1 h.2)
theorem Stab_map {E : EE} {ad ad' : Pl → Nat} (hk : Keep E ad ad') : ∀ {st : List AV}, (∀ v ∈ st, Stab E v) → st.map (emb ad') = st.map (emb ad) := by
  intro st h
  exact List.map_congr_left fun v hv => Stab_emb hk (h v hv)
theorem Stab_mapl {E : EE} {ad ad' : Pl → Nat} (hk : Keep E ad ad') : ∀ {lv : List (Nat × AV)}, (∀ q ∈ lv, Stab E q.2) → lv.map (eml ad') = lv.map (eml ad) := by
  intro lv h
  exact List.map_congr_left fun q hq => by show (q.1, _) = (q.1, _); rw [Stab_emb hk (h q hq)]
/-- the callee's cells are the caller's -/
theorem Aof.sub {g : GP} {ad : Pl → Nat} {x : EE × K} {A : Nat → Prop} {H0 H : Heap} (hW : Wd g.1 (ctC g.2.1 g.2.2.1) A ad x H) (hz : H0.size ≤ H.size) (hA : ∀ q, H0.size ≤ q → A q) : ∀ q, Aof g ad x H.size q → A q := by
  intro q h
  rcases h with ⟨p, e, h1, h2⟩ | h
  · rw [← h2]; exact (hW.1 p e h1).2
  · exact hA q (Nat.le_trans hz h)
theorem Wd.narrow {g : GP} {ad : Pl → Nat} {x : EE × K} {A : Nat → Prop} {H : Heap} (hW : Wd g.1 (ctC g.2.1 g.2.2.1) A ad x H) : Wd g.1 (ctC g.2.1 g.2.2.1) (Aof g ad x H.size) ad x H :=
  ⟨fun p e h => ⟨(hW.1 p e h).1, Or.inl ⟨p, e, h, rfl⟩⟩, hW.2⟩
theorem Wd.wide {σ : Type} {D : va_G} {ct : CtF σ} {A A' : Nat → Prop} {ad : Pl → Nat} {x : σ} {H : Heap} (hW : Wd D ct A ad x H) (h : ∀ q, A q → A' q) : Wd D ct A' ad x H :=
  ⟨fun p e hp => ⟨(hW.1 p e hp).1, h _ (hW.1 p e hp).2⟩, hW.2⟩
