theorem pv_comm {κ : K} {f i f2 i2 : Nat} {w w2 : MU} (h : ¬ (f2 = f ∧ i2 = i)) : pv (pv κ f i w) f2 i2 w2 = pv (pv κ f2 i2 w2) f i w := by
  unfold pv
  congr 1
  funext f' i' c k
  dsimp only
  by_cases h1 : f' = f ∧ i' = i
  · rw [if_pos h1, if_neg (fun z => h ⟨z.1.symm.trans h1.1, z.2.symm.trans h1.2⟩), if_pos h1]
  · rw [if_neg h1, if_neg h1]
/-- a store whose guest g has rows v, whose host h has rows w -/
def PP (κ : K) (g h : Nat) (v w : MU) : K := pv (pv κ 0 g v) 2 h w
theorem PP_v {κ : K} {g h : Nat} {v w : MU} : kV (PP κ g h v w) 0 g = v := by
  unfold PP
  rw [pv_n (by omega), pv_kV]
theorem PP_w {κ : K} {g h : Nat} {v w : MU} : kV (PP κ g h v w) 2 h = w := pv_kV
theorem PP_n {κ : K} {g h f i : Nat} {v w : MU} (h1 : ¬ (f = 0 ∧ i = g)) (h2 : ¬ (f = 2 ∧ i = h)) : kV (PP κ g h v w) f i = kV κ f i := by
  unfold PP
  rw [pv_n h2, pv_n h1]
theorem PP_P {κ : K} {g h : Nat} {v w : MU} : kP (PP κ g h v w) = kP κ := rfl
theorem PP_N {κ : K} {g h : Nat} {v w : MU} : kN (PP κ g h v w) = kN κ := rfl
theorem PP_C {κ : K} {g h : Nat} {v w : MU} : kC (PP κ g h v w) = kC κ := rfl
theorem PP_0 {κ : K} {g h : Nat} {v w v' : MU} : pv (PP κ g h v w) 0 g v' = PP κ g h v' w := by
  unfold PP
  rw [pv_comm (f := 2) (by omega), pv_pv]
theorem PP_2 {κ : K} {g h : Nat} {v w w' : MU} : pv (PP κ g h v w) 2 h w' = PP κ g h v w' := pv_pv
theorem PP_self {κ : K} {g h : Nat} : PP κ g h (kV κ 0 g) (kV κ 2 h) = κ := by
  unfold PP
  rw [pv_self, pv_self]
theorem PP_s0 {κ : K} {g h c k : Nat} {v w : MU} {x : Int32} : setV (PP κ g h v w) 0 g c k x = PP κ g h (mu v c k x) w := by rw [setp, PP_v, PP_0]
theorem PP_s2 {κ : K} {g h c k : Nat} {v w : MU} {x : Int32} : setV (PP κ g h v w) 2 h c k x = PP κ g h v (mu w c k x) := by rw [setp, PP_w, PP_2]
def exV (v : MU) (k : Nat) : MU := mu v 38 k (v 38 k + 1)
def sendV (v : MU) (p : Nat) : MU := if v 0 15 = -1 then v else mu v 0 15 (v 0 15 ||| bitI p)
theorem g_exit {E : EE} {κ : K} {g h k : Nat} {v w : MU} (hk : k < 6) : f_X1_countExit E (PP κ g h v w) g (nI k) = some (PP κ g h (exV v k) w, ()) := by
  rw [f_X1_countExit, nI_cl (by omega), gdi (by omega), gdi (by omega), nmE, PP_v, PP_s0]
  rfl
theorem g_send {E : EE} {κ : K} {g h p : Nat} {v w : MU} : f_X1_sendAgain E (PP κ g h v w) g (nI p) = some (PP κ g h (sendV v p) w, ()) := by
  rw [f_X1_sendAgain, f_X1_isMoving, f_X1_isMoving_e, PP_v]
  unfold sendV
  by_cases e : v 0 15 = -1
  · rw [if_pos e, if_pos e, bd_s, gd_t (Or.inl rfl), bd_s, if_pos rfl]
  · rw [if_neg e, if_neg e, bd_s, gd_t (Or.inr rfl), bd_s, if_neg (by decide), nmE, PP_v, PP_s0]
    rfl
theorem g_isBare {E : EE} {κ : K} {g p : Nat} : f_X1_isBare E κ g (nI p) = some (κ, if kV κ 0 g 0 14 &&& bitI p = 0 then 0 else 1) := by
  rw [f_X1_isBare, f_X1_isBare_e]
  by_cases e : kV κ 0 g 0 14 &&& (1 <<< (nI p &&& 31)) = 0
  · rw [if_pos e, bd_s, gd_t (Or.inl rfl), if_pos (show kV κ 0 g 0 14 &&& bitI p = 0 from e)]
  · rw [if_neg e, bd_s, gd_t (Or.inr rfl), if_neg (show ¬ kV κ 0 g 0 14 &&& bitI p = 0 from e)]
theorem g_keyOf {E : EE} {κ : K} {g p : Nat} (h0 : kV κ 0 g 0 0 = nI g) : f_X1_keyOf E κ g (nI p) = some (κ, nI (8 * g + p)) := by
  rw [f_X1_keyOf, h0, l8, nI_mul, nI_add, Nat.mul_comm]
def sendW (wr : Int32) (v : MU) (p : Nat) : MU := if wr = 0 then v else sendV v p
theorem g_b127 {E : EE} {κ : K} {g h p : Nat} {v w : MU} {wr : Int32} : f_X1_reach_b127 E g (PP κ g h v w) (nI p) wr = some (PP κ g h (sendW wr v p) w, ()) := by
  rw [f_X1_reach_b127]
  unfold sendW
  by_cases e : wr = 0
  · rw [if_pos e, if_pos e]
  · rw [if_neg e, if_neg e, g_send, bd_s]
def reachV (v w : MU) (key p : Nat) (wr : Int32) : MU :=
  if w 1 key = -1 then
    let v1 := exV v (if v 0 14 &&& bitI p = 0 then 1 else 0)
    sendW wr (mu v1 0 14 (v1 0 14 &&& (bitI p ^^^ (-1)))) p
  else if wr = 0 then sendW wr v p
  else if w 2 (w 1 key).toNatClampNeg ≤ 1 then sendW wr v p
  else sendW wr (exV v 2) p
def reachW (w : MU) (key : Nat) (wr : Int32) : MU :=
  if w 1 key = -1 then holdH w key (-1)
  else if wr = 0 then mu w 3 (w 1 key).toNatClampNeg (w 0 5)
  else if w 2 (w 1 key).toNatClampNeg ≤ 1 then mu w 3 (w 1 key).toNatClampNeg (w 0 5)
  else holdH (leaveH w key) key (w 1 key)
theorem g_reach {E : EE} {κ : K} {g h p : Nat} {v w : MU} {wr : Int32} (hP : kP κ 0 g 0 8 = some h) (hc : h < cntE E 2) (h0 : v 0 0 = nI g) (hg : g < 5) (hp : p < 8) (hw : w 1 (8 * g + p) = -1 ∨ ∃ f, f < 16 ∧ w 1 (8 * g + p) = nI f) : f_X1_reach E (PP κ g h v w) g (nI p) wr = some (PP κ g h (reachV v w (8 * g + p) p wr) (reachW w (8 * g + p) wr), ()) := by
  have hold : ∀ (v w : MU) (s : Int32), f_X2_hold E (PP κ g h v w) h (nI (8 * g + p)) s = some (PP κ g h v (holdH w (8 * g + p) s), ()) := by
    intro v w s
    rw [h_hold (by omega), PP_w, PP_2]
  have b110 : ∀ (f : Nat), f < 16 → f_X1_reach_b110 E g (PP κ g h v w) (nI p) wr (nI f) = some (PP κ g h (sendW wr v p) (mu w 3 f (w 0 5)), ()) := by
    intro f hf
    rw [f_X1_reach_b110, PP_P, hP, optG_s hc, optG_s hc, nI_cl (by omega), gdi (by omega), nmE, PP_w, PP_s2, g_b127]
  have b37 : ∀ (k : Nat), k < 6 → f_X1_reach_b37 E g (PP κ g h v w) (nI p) wr (nI (8 * g + p)) (nI k) = some (PP κ g h (sendW wr (mu (exV v k) 0 14 ((exV v k) 0 14 &&& (bitI p ^^^ (-1)))) p) (holdH w (8 * g + p) (-1)), ()) := by
    intro k hk
    rw [f_X1_reach_b37, g_exit hk, bd_s, nmE, PP_v, PP_s0, PP_P, hP, optG_s hc, hold, bd_s]
    exact g_b127
  rw [f_X1_reach, g_keyOf (by rw [PP_v]; exact h0), bd_s, PP_P, hP, optG_s hc, nI_cl (by omega), gdi (by omega), nmE, PP_w]
  unfold reachV reachW
  by_cases e : w 1 (8 * g + p) = -1
  · rw [if_pos e, if_pos e, if_pos e, g_isBare, bd_s, PP_v]
    by_cases eb : v 0 14 &&& bitI p = 0
    · rw [if_pos eb, if_pos rfl]
      simp only [if_pos eb]
      exact b37 1 (by omega)
    · rw [if_neg eb, if_neg (by decide)]
      simp only [if_neg eb]
      exact b37 0 (by omega)
  · rw [if_neg e, if_neg e, if_neg e]
    obtain ⟨f, hf, ef⟩ : ∃ f, f < 16 ∧ w 1 (8 * g + p) = nI f := hw.resolve_left e
    rw [ef, nI_cl (by omega)]
    by_cases e2 : wr = 0
    · rw [if_pos e2, if_pos e2, if_pos e2]
      exact b110 f hf
    · rw [if_neg e2, if_neg e2, if_neg e2, optG_s hc, gdi (by omega), PP_w]
      by_cases e3 : w 2 f ≤ 1
      · rw [if_pos e3, if_pos e3, if_pos e3]
        exact b110 f hf
      · rw [if_neg e3, if_neg e3, if_neg e3, show (2 : Int32) = nI 2 from rfl, g_exit (by omega), bd_s, PP_P, hP, optG_s hc, h_leave (by omega) (Or.inr (by rw [PP_w]; exact ⟨f, hf, ef⟩)), bd_s, PP_w, PP_2, PP_P, hP, optG_s hc, hold, bd_s]
        exact g_b127
theorem g_give {E : EE} {κ : K} {g h p : Nat} {v w : MU} (hP : kP κ 0 g 0 8 = some h) (hc : h < cntE E 2) (h0 : v 0 0 = nI g) (hg : g < 5) (hp : p < 8) (hw : w 1 (8 * g + p) = -1 ∨ ∃ f, f < 16 ∧ w 1 (8 * g + p) = nI f) : f_X1_giveBack E (PP κ g h v w) g (nI p) = some (PP κ g h (sendV (mu v 0 14 (v 0 14 ||| bitI p)) p) (leaveH w (8 * g + p)), ()) := by
  rw [f_X1_giveBack, PP_P, hP, optG_s hc, g_keyOf (by rw [PP_v]; exact h0), bd_s, h_leave (by omega) (by rw [PP_w]; exact hw), bd_s, PP_w, PP_2, nmE, PP_v, PP_s0]
  rw [show (v 0 14 ||| (1 <<< (nI p &&& 31))) = v 0 14 ||| bitI p from rfl, g_send, bd_s]
/-! a guest's exits and sets of pages -/
def EXI (v μ : MU) (g : Nat) : Prop := ∀ k, k < 6 → v 38 k = μ 25 (6 * g + k)
def BAR (v μ : MU) (g : Nat) : Prop := ∃ B, B < 256 ∧ v 0 14 = nI B ∧ ∀ p, p < 8 → (B.testBit p = true ↔ μ 27 (8 * g + p) = 0)
def SND (v μ : MU) (g : Nat) : Prop := (μ 30 g = 0 ∧ v 0 15 = -1) ∨ (μ 30 g = 1 ∧ ∃ T, T < 256 ∧ v 0 15 = nI T ∧ μ 31 g = nI T)
theorem sendV_c {v : MU} {p c : Nat} (hc : c ≠ 0) : (sendV v p) c = v c := by
  unfold sendV
  split
  · rfl
  · exact mu_row hc
theorem sendV_k {v : MU} {p k : Nat} (hk : k ≠ 15) : (sendV v p) 0 k = v 0 k := by
  unfold sendV
  split
  · rfl
  · exact muD (by omega)
theorem sendW_c {v : MU} {p c : Nat} {wr : Int32} (hc : c ≠ 0) : (sendW wr v p) c = v c := by
  unfold sendW
  split
  · rfl
  · exact sendV_c hc
theorem sendW_k {v : MU} {p k : Nat} {wr : Int32} (hk : k ≠ 15) : (sendW wr v p) 0 k = v 0 k := by
  unfold sendW
  split
  · rfl
  · exact sendV_k hk
theorem reachV_c {v w : MU} {key p c : Nat} {wr : Int32} (hc : c ≠ 0) (h38 : c ≠ 38) : (reachV v w key p wr) c = v c := by
  unfold reachV
  split
  · dsimp only
    rw [sendW_c hc, mu_row hc]
    exact mu_row h38
  · split
    · exact sendW_c hc
    · split
      · exact sendW_c hc
      · rw [sendW_c hc]
        exact mu_row h38
theorem reachV_k {v w : MU} {key p k : Nat} {wr : Int32} (hk : k ≠ 15) (h14 : k ≠ 14) : (reachV v w key p wr) 0 k = v 0 k := by
  unfold reachV
  split
  · dsimp only
    rw [sendW_k hk, muD (by omega)]
    exact muD (by omega)
  · split
    · exact sendW_k hk
    · split
      · exact sendW_k hk
      · rw [sendW_k hk]
        exact muD (by omega)
theorem SND_send {v μ : MU} {g p : Nat} (hp : p < 8) (h : SND v μ g) : SND (sendV v p) (mu μ 31 g (μ 31 g ||| (if μ 30 g = 0 then (0 : Int32) else bitI p))) g := by
  unfold SND sendV
  rw [mu_row (show (30 : Nat) ≠ 31 by omega), muS ⟨rfl, rfl⟩]
  rcases h with ⟨h1, h2⟩ | ⟨h1, T, hT, h2, h3⟩
  · rw [if_pos h2]
    exact Or.inl ⟨h1, h2⟩
  · rw [if_neg (by rw [h2, nI_m1 (by omega)]; exact id), muS ⟨rfl, rfl⟩, h2, h3, bit_set T hT p hp, if_neg (by rw [h1]; decide), bit_set T hT p hp]
    exact Or.inr ⟨h1, _, set_lt T hT p hp, rfl, rfl⟩
theorem SND_v {v v' μ μ' : MU} {g : Nat} (h : SND v μ g) (e : v' 0 15 = v 0 15) (e30 : μ' 30 g = μ 30 g) (e31 : μ' 31 g = μ 31 g) : SND v' μ' g := by
  unfold SND
  rw [e, e30, e31]
  exact h
theorem or_0 (x : Int32) : x ||| 0 = x := by simp
theorem SND_mark {v μ : MU} {g page h : Nat} {w : Int32} (hp : page < 8) (hS : SND v μ g) : SND (sendW w v page) (markM μ g page w h) g := by
  unfold sendW markM
  dsimp only
  rw [mu_row (show (30 : Nat) ≠ 29 by omega), mu_row (show (31 : Nat) ≠ 29 by omega)]
  by_cases e : w = 0
  · rw [if_pos e, if_pos e, or_0, mu_self (by rw [mu_row (show (31 : Nat) ≠ 29 by omega)])]
    exact SND_v hS rfl (by rw [mu_row (by omega)]) (by rw [mu_row (by omega)])
  · rw [if_neg e, if_neg e]
    have := SND_send (p := page) hp (SND_v (v' := v) (μ' := mu μ 29 (16 * h + (μ 28 (8 * g + page)).toNatClampNeg) (μ 0 41 + 1)) hS rfl (by rw [mu_row (by omega)]) (by rw [mu_row (by omega)]))
    rw [mu_row (show (30 : Nat) ≠ 29 by omega), mu_row (show (31 : Nat) ≠ 29 by omega)] at this
    exact this
theorem EXI_v {v v' μ μ' : MU} {g : Nat} (h : EXI v μ g) (e : v' 38 = v 38) (e25 : ∀ k, k < 6 → μ' 25 (6 * g + k) = μ 25 (6 * g + k)) : EXI v' μ' g := fun k hk => by rw [e, e25 k hk]; exact h k hk
theorem EXI_up {v μ : MU} {g j : Nat} (h : EXI v μ g) (hj : j < 6) : EXI (exV v j) (mu μ 25 (6 * g + j) (μ 25 (6 * g + j) + 1)) g := by
  intro k hk
  unfold exV
  by_cases e : k = j
  · subst e; rw [muS ⟨rfl, rfl⟩, muS ⟨rfl, rfl⟩, h k hk]
  · rw [muD (by omega), muD (by omega)]; exact h k hk
theorem BAR_v {v v' μ μ' : MU} {g : Nat} (h : BAR v μ g) (e : v' 0 14 = v 0 14) (e27 : ∀ p, p < 8 → (μ' 27 (8 * g + p) = 0 ↔ μ 27 (8 * g + p) = 0)) : BAR v' μ' g := by
  obtain ⟨B, h1, h2, h3⟩ := h
  exact ⟨B, h1, e.trans h2, fun p hp => (h3 p hp).trans (e27 p hp).symm⟩
/-- the class's reach and the model's touch -/
theorem reach_touch {v w μ : MU} {n g h p : Nat} {wr : Int32} (hn : n ≤ 5) (hg : g < n) (hh2 : h < 2) (hp : p < 8) (hh : μ 15 g = nI h) (hR : RH w μ n h) (hF : FRM μ n) (hE : EXI v μ g) (hB : BAR v μ g) (hS : SND v μ g) (ht : w 0 5 = μ 0 41 + 1) :
    RH (reachW w (8 * g + p) wr) (touchM μ n g p wr h) n h ∧ (reachW w (8 * g + p) wr) 0 = w 0 ∧ EXI (reachV v w (8 * g + p) p wr) (touchM μ n g p wr h) g ∧ BAR (reachV v w (8 * g + p) p wr) (touchM μ n g p wr h) g ∧ SND (reachV v w (8 * g + p) p wr) (touchM μ n g p wr h) g ∧ (∃ j, j < 16 ∧ (touchP μ n g p wr h) 28 (8 * g + p) = nI j) := by
  have hk : 8 * g + p < 40 := by omega
  have hd : (8 * g + p) / 8 = g := by omega
  have hkg : (8 * g + p) / 8 < n := by rw [hd]; exact hg
  have hkh : μ 15 ((8 * g + p) / 8) = nI h := by rw [hd]; exact hh
  have hw1 : w 1 (8 * g + p) = μ 28 (8 * g + p) := RH_key hR hk hkg hkh
  have fin : ∀ (w1 v1 μ1 : MU) (j : Nat), j < 16 → μ1 28 (8 * g + p) = nI j → μ1 0 41 = μ 0 41 → RH (mu w1 3 j (w 0 5)) (mu μ1 29 (16 * h + j) (w 0 5)) n h → EXI v1 μ1 g → BAR v1 μ1 g → SND v1 μ1 g →
      RH (mu w1 3 j (w 0 5)) (markM μ1 g p wr h) n h ∧ EXI (sendW wr v1 p) (markM μ1 g p wr h) g ∧ BAR (sendW wr v1 p) (markM μ1 g p wr h) g ∧ SND (sendW wr v1 p) (markM μ1 g p wr h) g := by
    intro w1 v1 μ1 j hj e28 e41 r1 r2 r3 r4
    refine ⟨?_, EXI_v r2 (sendW_c (by omega)) (fun k _ => by rw [mark_row (by omega)]), BAR_v r3 (sendW_k (by omega)) (fun q _ => by rw [mark_row (by omega)]), SND_mark hp r4⟩
    unfold markM
    dsimp only
    rw [e28, nI_cl (by omega), e41, ← ht]
    exact RH_row r1 (by rw [mu_row (by omega)]) (by rw [mu_row (by omega)]) (by rw [mu_row (by omega)])
  rw [touch_P]
  rcases hF (8 * g + p) hkg with ⟨k1, f, hf, k2⟩ | ⟨k1, k2⟩
  · have hne : ¬ w 1 (8 * g + p) = -1 := by rw [hw1, k2, nI_m1 (by omega)]; exact id
    have use : (touchP μ n g p wr h) = μ → reachW w (8 * g + p) wr = mu w 3 f (w 0 5) → reachV v w (8 * g + p) p wr = sendW wr v p → _ := fun a b c => by
      have r := fin w v μ f hf k2 rfl (RH_use hR hf) hE hB hS
      exact show RH (reachW w (8 * g + p) wr) (markM (touchP μ n g p wr h) g p wr h) n h ∧ (reachW w (8 * g + p) wr) 0 = w 0 ∧ EXI (reachV v w (8 * g + p) p wr) (markM (touchP μ n g p wr h) g p wr h) g ∧ BAR (reachV v w (8 * g + p) p wr) (markM (touchP μ n g p wr h) g p wr h) g ∧ SND (reachV v w (8 * g + p) p wr) (markM (touchP μ n g p wr h) g p wr h) g ∧ (∃ j, j < 16 ∧ (touchP μ n g p wr h) 28 (8 * g + p) = nI j) from by
        rw [a, b, c]
        exact ⟨r.1, mu_row (by omega), r.2.1, r.2.2.1, r.2.2.2, f, hf, k2⟩
    by_cases e : wr = 0
    · refine use ?_ ?_ ?_
      · unfold touchP; rw [if_pos k1, if_pos e]
      · unfold reachW; rw [if_neg hne, if_pos e, hw1, k2, nI_cl (by omega)]
      · unfold reachV; rw [if_neg hne, if_pos e]
    · have hhold : holdM μ n (nI h) (nI f) = w 2 f := RH_hold hn hf hR
      by_cases e1 : w 2 f ≤ 1
      · refine use ?_ ?_ ?_
        · unfold touchP; rw [if_pos k1, if_neg e, k2, hhold, if_pos e1]
        · unfold reachW; rw [if_neg hne, if_neg e, hw1, k2, nI_cl (by omega), if_pos e1]
        · unfold reachV; rw [if_neg hne, if_neg e, hw1, k2, nI_cl (by omega), if_pos e1]
      · have eP : touchP μ n g p wr h = mu (mu (frM μ n h (nI f)).1 25 (6 * g + 2) ((frM μ n h (nI f)).1 25 (6 * g + 2) + 1)) 28 (8 * g + p) (frM μ n h (nI f)).2 := by
          unfold touchP
          rw [if_pos k1, if_neg e, k2, hhold, if_neg e1]
        have eW : reachW w (8 * g + p) wr = holdH (leaveH w (8 * g + p)) (8 * g + p) (nI f) := by
          unfold reachW
          rw [if_neg hne, if_neg e, hw1, k2, nI_cl (by omega), if_neg e1]
        have eV : reachV v w (8 * g + p) p wr = sendW wr (exV v 2) p := by
          unfold reachV
          rw [if_neg hne, if_neg e, hw1, k2, nI_cl (by omega), if_neg e1]
        obtain ⟨j, hj, ej⟩ := frM_2 μ n h (nI f)
        have hL := RH_leave hR hk hf (hw1.trans k2)
        have hfr := frM_left hn hh2 hR hk hkg hkh hf k2 (by rw [hhold]; exact e1)
        have hwl : (leaveH w (8 * g + p)) 1 (8 * g + p) = -1 := by
          unfold leaveH
          rw [if_neg hne]
          exact muS ⟨rfl, rfl⟩
        have hH := RH_holdH (s := nI f) hn hh2 hL hk hkg (by rw [mu_row (by omega)]; exact hkh) hwl
        rw [hfr.1, ej, nI_cl (by omega), leaveH_0] at hH
        have r3 : BAR (exV v 2) (touchP μ n g p wr h) g := by
          refine BAR_v hB (muD (by omega)) (fun q hq => ?_)
          rw [eP, mu_row (by omega), mu_row (by omega)]
          exact fr_27 hF (by omega)
        have r2 : EXI (exV v 2) (touchP μ n g p wr h) g := by
          rw [eP]
          refine EXI_v (EXI_up (μ := (frM μ n h (nI f)).1) (EXI_v hE rfl (fun k _ => by rw [frM_row _ _ _ _ (by omega)])) (by omega)) rfl (fun k _ => ?_)
          rw [mu_row (show (25 : Nat) ≠ 28 by omega)]
        have r4 : SND (exV v 2) (touchP μ n g p wr h) g := by
          refine SND_v hS (muD (by omega)) ?_ ?_
          · rw [eP, mu_row (by omega), mu_row (by omega), frM_row _ _ _ _ (by omega)]
          · rw [eP, mu_row (by omega), mu_row (by omega), frM_row _ _ _ _ (by omega)]
        have e28 : (touchP μ n g p wr h) 28 (8 * g + p) = nI j := by rw [eP, muS ⟨rfl, rfl⟩, ej]
        have hRf : RH (reachW w (8 * g + p) wr) (mu (touchP μ n g p wr h) 29 (16 * h + j) (w 0 5)) n h := by
          rw [eW]
          refine RH_row hH ?_ ?_ ?_
          · rw [mu_row (by omega), mu_row (by omega), mu_row (by omega), eP, mu_row (by omega), mu_row (by omega), frM_row _ _ _ _ (by omega), frM_row _ _ _ _ (by omega), mu_row (by omega)]
          · rw [mu_row (show (28 : Nat) ≠ 29 by omega), mu_row (show (28 : Nat) ≠ 29 by omega), hfr.2 (nI j), eP, ej]
            funext k
            by_cases ek : k = 8 * g + p
            · subst ek; rw [muS ⟨rfl, rfl⟩, muS ⟨rfl, rfl⟩]
            · rw [muD (by omega), muD (by omega), muD (by omega)]
          · have e29 : (touchP μ n g p wr h) 29 = (mu (frM (mu μ 28 (8 * g + p) (-1)) n h (nI f)).1 28 (8 * g + p) (nI j)) 29 := by
              rw [mu_row (by omega), frM_row _ _ _ _ (by omega), mu_row (by omega), eP, mu_row (by omega), mu_row (by omega), frM_row _ _ _ _ (by omega)]
            funext k
            unfold mu
            split
            · rfl
            · exact congrFun e29 k
        have e41 : (touchP μ n g p wr h) 0 41 = μ 0 41 := by rw [eP, mu_row (by omega), mu_row (by omega), frM_row _ _ _ _ (by omega)]
        have hmk : RH (reachW w (8 * g + p) wr) (markM (touchP μ n g p wr h) g p wr h) n h := by
          unfold markM
          dsimp only
          rw [e28, nI_cl (by omega), e41, ← ht]
          exact RH_row hRf (by rw [mu_row (by omega)]) (by rw [mu_row (by omega)]) (by rw [mu_row (by omega)])
        refine ⟨hmk, by rw [eW, holdH_0, leaveH_0], ?_, ?_, ?_, j, hj, e28⟩
        · rw [eV]; exact EXI_v r2 (sendW_c (by omega)) (fun k _ => by rw [mark_row (by omega)])
        · rw [eV]; exact BAR_v r3 (sendW_k (by omega)) (fun q _ => by rw [mark_row (by omega)])
        · rw [eV]; exact SND_mark hp r4
  · have hwn : w 1 (8 * g + p) = -1 := hw1.trans k2
    have hk1 : ¬ μ 27 (8 * g + p) = 1 := by rcases k1 with z | z <;> rw [z] <;> decide
    have h27 : (frM μ n h (-1)).1 27 (8 * g + p) = μ 27 (8 * g + p) := (frM_key (Or.inl k2)).2
    obtain ⟨j, hj, ej⟩ := frM_2 μ n h (-1)
    obtain ⟨B, hB1, hB2, hB3⟩ := hB
    have hbit := bit_and B hB1 p hp
    let kk : Nat := if μ 27 (8 * g + p) = 0 then 0 else 1
    have hkk : kk < 6 := by show (if _ then _ else _) < 6; split <;> omega
    have eP : touchP μ n g p wr h = mu (mu (mu (frM μ n h (-1)).1 25 (6 * g + kk) ((frM μ n h (-1)).1 25 (6 * g + kk) + 1)) 27 (8 * g + p) 1) 28 (8 * g + p) (frM μ n h (-1)).2 := by
      unfold touchP
      rw [if_neg hk1]
      dsimp only
      rw [h27]
      by_cases e : μ 27 (8 * g + p) = 0
      · rw [show kk = 0 from if_pos e, if_pos e, Nat.add_zero]
      · rw [show kk = 1 from if_neg e, if_neg e]
    have ek : (if v 0 14 &&& bitI p = 0 then 1 else 0) = kk := by
      rw [hB2]
      by_cases e : μ 27 (8 * g + p) = 0
      · have t := (hB3 p hp).mpr e
        rw [t] at hbit
        rw [show kk = 0 from if_pos e, if_neg (of_decide_eq_false hbit)]
      · have t : B.testBit p = false := Bool.eq_false_iff.mpr (fun z => e ((hB3 p hp).mp z))
        rw [t] at hbit
        rw [show kk = 1 from if_neg e, if_pos (of_decide_eq_true hbit)]
    have eV : reachV v w (8 * g + p) p wr = sendW wr (mu (exV v kk) 0 14 ((exV v kk) 0 14 &&& (bitI p ^^^ (-1)))) p := by
      unfold reachV
      rw [if_pos hwn, ek]
    have eW : reachW w (8 * g + p) wr = holdH w (8 * g + p) (-1) := by
      unfold reachW
      rw [if_pos hwn]
    have hH := RH_holdH (s := -1) hn hh2 hR hk hkg hkh hwn
    rw [ej, nI_cl (by omega)] at hH
    have e28 : (touchP μ n g p wr h) 28 (8 * g + p) = nI j := by rw [eP, muS ⟨rfl, rfl⟩, ej]
    have e41 : (touchP μ n g p wr h) 0 41 = μ 0 41 := by rw [eP, mu_row (by omega), mu_row (by omega), mu_row (by omega), frM_row _ _ _ _ (by omega)]
    have hmk : RH (reachW w (8 * g + p) wr) (markM (touchP μ n g p wr h) g p wr h) n h := by
      unfold markM
      dsimp only
      rw [e28, nI_cl (by omega), e41, ← ht, eW]
      refine RH_row hH ?_ ?_ ?_
      · rw [mu_row (by omega), mu_row (by omega), mu_row (by omega), mu_row (by omega), eP, mu_row (by omega), mu_row (by omega), mu_row (by omega)]
      · rw [mu_row (show (28 : Nat) ≠ 31 by omega), mu_row (show (28 : Nat) ≠ 29 by omega), mu_row (show (28 : Nat) ≠ 29 by omega), eP, ej]
        funext k
        by_cases ek : k = 8 * g + p
        · subst ek; rw [muS ⟨rfl, rfl⟩, muS ⟨rfl, rfl⟩]
        · rw [muD (by omega), muD (by omega), muD (by omega), muD (by omega)]
      · have e29 : (touchP μ n g p wr h) 29 = (mu (frM μ n h (-1)).1 28 (8 * g + p) (nI j)) 29 := by
          rw [mu_row (by omega), eP, mu_row (by omega), mu_row (by omega), mu_row (by omega)]
        rw [mu_row (show (29 : Nat) ≠ 31 by omega)]
        funext k
        unfold mu at e29 ⊢
        split
        · rfl
        · exact congrFun e29 k
    refine ⟨hmk, by rw [eW, holdH_0], ?_, ?_, ?_, j, hj, e28⟩
    · rw [eV]
      refine EXI_v (EXI_up (μ := (frM μ n h (-1)).1) (EXI_v hE rfl (fun k _ => by rw [frM_row _ _ _ _ (by omega)])) hkk) ?_ (fun k _ => ?_)
      · rw [sendW_c (by omega), mu_row (by omega)]
      · rw [mark_row (by omega), eP, mu_row (show (25 : Nat) ≠ 28 by omega), mu_row (show (25 : Nat) ≠ 27 by omega)]
    · rw [eV]
      refine ⟨clrB B p, clr_lt B hB1 p hp, ?_, fun q hq => ?_⟩
      · rw [sendW_k (by omega), muS ⟨rfl, rfl⟩, show (exV v kk) 0 14 = v 0 14 from muD (by omega), hB2, bit_clr B hB1 p hp]
      · rw [clr_bit B hB1 p hp q hq, mark_row (by omega), eP, mu_row (show (27 : Nat) ≠ 28 by omega)]
        by_cases e : q = p
        · subst e
          rw [muS ⟨rfl, rfl⟩]
          simp
        · rw [muD (by omega), mu_row (show (27 : Nat) ≠ 25 by omega)]
          have := fr_27 (h := h) (but := -1) hF (show (8 * g + q) / 8 < n by omega)
          rw [this, ← hB3 q hq]
          simp [e]
    · rw [eV]
      refine SND_mark hp (SND_v hS ?_ ?_ ?_)
      · rw [muD (by omega)]; exact muD (by omega)
      · rw [eP, mu_row (by omega), mu_row (by omega), mu_row (by omega), frM_row _ _ _ _ (by omega)]
      · rw [eP, mu_row (by omega), mu_row (by omega), mu_row (by omega), frM_row _ _ _ _ (by omega)]
