section CALLSX
variable {l0 : Launch} {X : MX} {B : BX (EE × K)} {g : GP} {cc : ByteArray} {own : String} {F L : Nat} {E E' : EE} {κ κ' : K} {pc : Nat} {lv : List (Nat × AV)} {st0 rest as : List AV}
theorem J_callVX (O : CK l0 X B g cc own F L) (hKP : KPok B E) {y : MethodName} {b : ByteArray} {mL fr lo index n : Nat} {ret : Option FieldType} {f i c : Nat} {r : Option AV ⊕ String} (hC : ConX l0 y b mL ret fr lo (.inr (some (f, i, c)) :: as) (E, κ) (E', κ') r) (hst : st0 = as.reverse ++ .inr (some (f, i, c)) :: rest)
    {kd0 : Nat} (hkd : kd f c = kd0) (hl : liveC E f i c = true) {T : u_T} {N : Nat} (hc : vwCl[kd0]? = some (y.cls, T, N)) (h12 : kd0 < 12)
    (w1 : Cond.methodLink own index y ∈ gwl) (w2 : Cond.instanceMethod y ∈ gwl) (w3 : Cond.selects y.cls y y ∈ gwl) (w4 : Cond.initialized y.cls ∈ gwl) (w5 : Cond.code y b mL ret ∈ gwl) (hpd : y.cls ≠ "java/lang/invoke/MethodHandle" ∧ y.cls ≠ "java/lang/invoke/VarHandle" ∧ (parseMethodDescriptor y.desc).map (fun d => d.parameters.length) = some n) (hn : as.length = n)
    (hR : fr + 1 ≤ F ∧ 8 + (mL + 11) + lo ≤ L) (hrc : rest.all cat1 = true) (hrl : rest.length ≤ 8) (hlv : ∀ q ∈ lv, Stab E q.2) (hrs : ∀ v ∈ rest, Stab E v) (hd : decode cc pc = .ok (.invokevirtual index, 3))
    (kx : ∀ s : String, r = .inr s → QXH X B g (E', κ') (.inr s)) (kk : ∀ v : Option AV, r = .inl v → J X B (E', κ') (pc + 3) lv (v.toList ++ rest)) : J X B (E, κ) pc lv st0 := by
  refine J_coreX O hKP (hC.1 X) hlv hrs (fun p l e R s m args below meth c0 Q hX O1 ad H locs ls cells slots h1 h2 h3 h4 h5 => ?_) kx kk
  subst hX
  obtain ⟨-, hB, hCst, hD⟩ := O
  obtain ⟨hMO, hST, hSH, hF, hL, hl0, -⟩ := id O1
  subst hl0; subst hst
  have h6 := (h1.at hB (ctC_live hl)).1
  rw [cell_obj (by rw [hkd]; exact h12), hkd] at h6
  have hmap : (as.reverse ++ .inr (some (f, i, c)) :: rest).map (emb ad) = (as.map (emb ad)).reverse ++ Value.ref (ad (f, i, c)) :: rest.map (emb ad) := by
    rw [List.map_append, List.map_reverse]; rfl
  have hgood : ∀ w ∈ wsV own index y.cls y (Cond.code y b mL ret :: gwl), w ∈ gwl := by
    intro w hw
    simp only [wsV, List.mem_append, List.mem_cons, List.not_mem_nil, or_false] at hw
    rcases hw with (rfl | rfl | rfl | rfl) | rfl | hw <;> assumption
  rw [hmap]
  exact ⟨_, vx_runV (As := as.map (emb ad)) (n := n) ⟨hMO.1, hMO.2.1, hMO.2.2.1, hMO.2.2.2.1, hMO.2.2.2.2.1⟩ (hC.2 g ad H.size) (cwV n hMO.2.2.2.2.1 (goodIn_gwl hgood) rfl rfl rfl ⟨rfl, hpd⟩ (by rw [hF, hL]; exact hR))
    ⟨PcC.blind, va_recv hMO.2.2.2.2.2.1 (va_P1 h6) hc (q0 := 0) rfl, PcC_of O1 hB hD h1 h2⟩ rfl (by rw [List.length_map]; exact hn) h3 rfl (by rw [cat_sum ad rest hrc]; show 2 * 0 + _ ≤ 8; omega) hd ⟨h4, h5⟩⟩
theorem J_callSX (O : CK l0 X B g cc own F L) (hKP : KPok B E) {y : MethodName} {b : ByteArray} {mL fr lo index n : Nat} {ret : Option FieldType} {r : Option AV ⊕ String} (hC : ConX l0 y b mL ret fr lo as (E, κ) (E', κ') r) (hst : st0 = as.reverse ++ rest)
    (w1 : Cond.methodLink own index y ∈ gwl) (w2 : Cond.static y ∈ gwl) (w4 : Cond.initialized y.cls ∈ gwl) (w5 : Cond.code y b mL ret ∈ gwl) (hpd : y.cls ≠ "java/lang/invoke/MethodHandle" ∧ y.cls ≠ "java/lang/invoke/VarHandle" ∧ (parseMethodDescriptor y.desc).map (fun d => d.parameters.length) = some n) (hn : as.length = n)
    (hR : fr + 1 ≤ F ∧ 8 + (mL + 11) + lo ≤ L) (hrc : rest.all cat1 = true) (hrl : rest.length ≤ 8) (hlv : ∀ q ∈ lv, Stab E q.2) (hrs : ∀ v ∈ rest, Stab E v) (hd : decode cc pc = .ok (.invokestatic index, 3))
    (kx : ∀ s : String, r = .inr s → QXH X B g (E', κ') (.inr s)) (kk : ∀ v : Option AV, r = .inl v → J X B (E', κ') (pc + 3) lv (v.toList ++ rest)) : J X B (E, κ) pc lv st0 := by
  refine J_coreX O hKP (hC.1 X) hlv hrs (fun p l e R s m args below meth c0 Q hX O1 ad H locs ls cells slots h1 h2 h3 h4 h5 => ?_) kx kk
  subst hX
  obtain ⟨-, hB, hCst, hD⟩ := O
  obtain ⟨hMO, hST, hSH, hF, hL, hl0, -⟩ := id O1
  subst hl0; subst hst
  have hmap : (as.reverse ++ rest).map (emb ad) = (as.map (emb ad)).reverse ++ rest.map (emb ad) := by
    rw [List.map_append, List.map_reverse]
  have hgood : ∀ w ∈ va_wsS own index y (Cond.code y b mL ret :: gwl), w ∈ gwl := by
    intro w hw
    simp only [va_wsS, List.mem_append, List.mem_cons, List.not_mem_nil, or_false] at hw
    rcases hw with (rfl | rfl | rfl) | rfl | hw <;> assumption
  rw [hmap]
  exact ⟨_, vx_runS (As := as.map (emb ad)) (n := n) ⟨hMO.1, hMO.2.1, hMO.2.2.1, hMO.2.2.2.1, hMO.2.2.2.2.1⟩ (hC.2 g ad H.size) (va_cwS n hMO.2.2.2.2.1 (goodIn_gwl hgood) rfl rfl rfl hpd (by rw [hF, hL]; exact hR))
    ⟨PcC.blind, PcC_of O1 hB hD h1 h2⟩ rfl (by rw [List.length_map]; exact hn) h3 rfl (by rw [cat_sum ad rest hrc]; show 2 * 0 + _ ≤ 8; omega) hd ⟨h4, h5⟩⟩
end CALLSX
