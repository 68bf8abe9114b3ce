/-! WHAT IS REFUSED, and what is answered: of the class alone, where the relation holds -/
theorem ng_instruct {E : EE} {κ : K} {n ns t C : Nat} (hR : REL E κ (kV κ 5 0) n ns t C) {a b c d : Int32} (ha : ¬ vp_in a n) : f_X10_instruct E κ a b c d = some (addC κ 1 6, .inr 1) := by
  obtain ⟨⟨rfl, rfl, hO, h9⟩, ⟨q1, q2, q3, q4, q5⟩, hM, hQ, hS, hZ, hC⟩ := hR
  have hn : E.1 ≤ 5 := hM.1.1.1
  have hH : E.2.2.2.1 = 1 := hO.2.2.2.1
  rw [f_X10_instruct, guestAt_no q1 hn ha, bx_r]
theorem ng_pause {E : EE} {κ : K} {n ns t C : Nat} (hR : REL E κ (kV κ 5 0) n ns t C) {a b : Int32} (ha : ¬ vp_in a n) : f_X10_pause E κ a b = some (addC κ 1 6, .inr 1) := by
  obtain ⟨⟨rfl, rfl, hO, h9⟩, ⟨q1, q2, q3, q4, q5⟩, hM, hQ, hS, hZ, hC⟩ := hR
  have hn : E.1 ≤ 5 := hM.1.1.1
  have hH : E.2.2.2.1 = 1 := hO.2.2.2.1
  rw [f_X10_pause, f_X10_pause_e, guestAt_no q1 hn ha, bx_r, bx_r]
theorem ng_scale {E : EE} {κ : K} {n ns t C : Nat} (hR : REL E κ (kV κ 5 0) n ns t C) {a b : Int32} (ha : ¬ vp_in a n) : f_X10_scale E κ a b = some (addC κ 1 6, .inr 1) := by
  obtain ⟨⟨rfl, rfl, hO, h9⟩, ⟨q1, q2, q3, q4, q5⟩, hM, hQ, hS, hZ, hC⟩ := hR
  have hn : E.1 ≤ 5 := hM.1.1.1
  have hH : E.2.2.2.1 = 1 := hO.2.2.2.1
  rw [f_X10_scale, guestAt_no q1 hn ha, bx_r]
theorem ng_input {E : EE} {κ : K} {n ns t C : Nat} (hR : REL E κ (kV κ 5 0) n ns t C) {a b : Int32} (ha : ¬ vp_in a n) : f_X10_input E κ a b = some (addC κ 1 6, .inr 1) := by
  obtain ⟨⟨rfl, rfl, hO, h9⟩, ⟨q1, q2, q3, q4, q5⟩, hM, hQ, hS, hZ, hC⟩ := hR
  have hn : E.1 ≤ 5 := hM.1.1.1
  have hH : E.2.2.2.1 = 1 := hO.2.2.2.1
  rw [f_X10_input, guestAt_no q1 hn ha, bx_r]
theorem ng_send {E : EE} {κ : K} {n ns t C : Nat} (hR : REL E κ (kV κ 5 0) n ns t C) {a : Int32} (ha : ¬ vp_in a n) : f_X10_send E κ a = some (addC κ 1 6, .inr 1) := by
  obtain ⟨⟨rfl, rfl, hO, h9⟩, ⟨q1, q2, q3, q4, q5⟩, hM, hQ, hS, hZ, hC⟩ := hR
  have hn : E.1 ≤ 5 := hM.1.1.1
  have hH : E.2.2.2.1 = 1 := hO.2.2.2.1
  rw [f_X10_send, f_X10_send_e, guestAt_no q1 hn ha, bx_r, bx_r]
theorem ng_move {E : EE} {κ : K} {n ns t C : Nat} (hR : REL E κ (kV κ 5 0) n ns t C) {a : Int32} (ha : ¬ vp_in a n) : f_X10_move E κ a = some (addC κ 1 6, .inr 1) := by
  obtain ⟨⟨rfl, rfl, hO, h9⟩, ⟨q1, q2, q3, q4, q5⟩, hM, hQ, hS, hZ, hC⟩ := hR
  have hn : E.1 ≤ 5 := hM.1.1.1
  have hH : E.2.2.2.1 = 1 := hO.2.2.2.1
  rw [f_X10_move, guestAt_no q1 hn ha, bx_r]
theorem ng_round {E : EE} {κ : K} {n ns t C : Nat} (hR : REL E κ (kV κ 5 0) n ns t C) {a b : Int32} (ha : ¬ vp_in a n) : f_X10_round E κ a b = some (addC κ 1 6, .inr 1) := by
  obtain ⟨⟨rfl, rfl, hO, h9⟩, ⟨q1, q2, q3, q4, q5⟩, hM, hQ, hS, hZ, hC⟩ := hR
  have hn : E.1 ≤ 5 := hM.1.1.1
  have hH : E.2.2.2.1 = 1 := hO.2.2.2.1
  rw [f_X10_round, guestAt_no q1 hn ha, bx_r]
theorem ng_land {E : EE} {κ : K} {n ns t C : Nat} (hR : REL E κ (kV κ 5 0) n ns t C) {a b : Int32} (ha : ¬ vp_in a n) : f_X10_land E κ a b = some (addC κ 1 6, .inr 1) := by
  obtain ⟨⟨rfl, rfl, hO, h9⟩, ⟨q1, q2, q3, q4, q5⟩, hM, hQ, hS, hZ, hC⟩ := hR
  have hn : E.1 ≤ 5 := hM.1.1.1
  have hH : E.2.2.2.1 = 1 := hO.2.2.2.1
  rw [f_X10_land, guestAt_no q1 hn ha, bx_r]
theorem ng_restore {E : EE} {κ : K} {n ns t C : Nat} (hR : REL E κ (kV κ 5 0) n ns t C) {a b : Int32} (ha : ¬ vp_in a n) : f_X10_restore E κ a b = some (addC κ 1 6, .inr 1) := by
  obtain ⟨⟨rfl, rfl, hO, h9⟩, ⟨q1, q2, q3, q4, q5⟩, hM, hQ, hS, hZ, hC⟩ := hR
  have hn : E.1 ≤ 5 := hM.1.1.1
  have hH : E.2.2.2.1 = 1 := hO.2.2.2.1
  rw [f_X10_restore, guestAt_no q1 hn ha, bx_r]
theorem ng_follow {E : EE} {κ : K} {n ns t C : Nat} (hR : REL E κ (kV κ 5 0) n ns t C) {a b : Int32} (ha : ¬ vp_in a n) : f_X10_follow E κ a b = some (addC κ 1 6, .inr 1) := by
  obtain ⟨⟨rfl, rfl, hO, h9⟩, ⟨q1, q2, q3, q4, q5⟩, hM, hQ, hS, hZ, hC⟩ := hR
  have hn : E.1 ≤ 5 := hM.1.1.1
  have hH : E.2.2.2.1 = 1 := hO.2.2.2.1
  rw [f_X10_follow, f_X10_follow_e, guestAt_no q1 hn ha, bx_r, bx_r]
theorem ng_step {E : EE} {κ : K} {n ns t C : Nat} (hR : REL E κ (kV κ 5 0) n ns t C) {a : Int32} (ha : ¬ vp_in a n) : f_X10_step E κ a = some (addC κ 1 6, .inr 1) := by
  obtain ⟨⟨rfl, rfl, hO, h9⟩, ⟨q1, q2, q3, q4, q5⟩, hM, hQ, hS, hZ, hC⟩ := hR
  have hn : E.1 ≤ 5 := hM.1.1.1
  have hH : E.2.2.2.1 = 1 := hO.2.2.2.1
  rw [f_X10_step, guestAt_no q1 hn ha, bx_r]
theorem ng_of {E : EE} {κ : K} {n ns t C : Nat} (hR : REL E κ (kV κ 5 0) n ns t C) {a b : Int32} (ha : ¬ vp_in a n) : f_X10_of E κ a b = some (addC κ 1 6, .inr 1) := by
  obtain ⟨⟨rfl, rfl, hO, h9⟩, ⟨q1, q2, q3, q4, q5⟩, hM, hQ, hS, hZ, hC⟩ := hR
  have hn : E.1 ≤ 5 := hM.1.1.1
  have hH : E.2.2.2.1 = 1 := hO.2.2.2.1
  rw [f_X10_of, guestAt_no q1 hn ha, bx_r]
theorem ng_register {E : EE} {κ : K} {n ns t C : Nat} (hR : REL E κ (kV κ 5 0) n ns t C) {a b : Int32} (ha : ¬ vp_in a n) : f_X10_register E κ a b = some (addC κ 1 6, .inr 1) := by
  obtain ⟨⟨rfl, rfl, hO, h9⟩, ⟨q1, q2, q3, q4, q5⟩, hM, hQ, hS, hZ, hC⟩ := hR
  have hn : E.1 ≤ 5 := hM.1.1.1
  have hH : E.2.2.2.1 = 1 := hO.2.2.2.1
  rw [f_X10_register, guestAt_no q1 hn ha, bx_r]
theorem ng_word {E : EE} {κ : K} {n ns t C : Nat} (hR : REL E κ (kV κ 5 0) n ns t C) {a b c : Int32} (ha : ¬ vp_in a n) : f_X10_word E κ a b c = some (addC κ 1 6, .inr 1) := by
  obtain ⟨⟨rfl, rfl, hO, h9⟩, ⟨q1, q2, q3, q4, q5⟩, hM, hQ, hS, hZ, hC⟩ := hR
  have hn : E.1 ≤ 5 := hM.1.1.1
  have hH : E.2.2.2.1 = 1 := hO.2.2.2.1
  rw [f_X10_word, guestAt_no q1 hn ha, bx_r]
theorem ng_pageOf {E : EE} {κ : K} {n ns t C : Nat} (hR : REL E κ (kV κ 5 0) n ns t C) {a b : Int32} (ha : ¬ vp_in a n) : f_X10_pageOf E κ a b = some (addC κ 1 6, .inr 1) := by
  obtain ⟨⟨rfl, rfl, hO, h9⟩, ⟨q1, q2, q3, q4, q5⟩, hM, hQ, hS, hZ, hC⟩ := hR
  have hn : E.1 ≤ 5 := hM.1.1.1
  have hH : E.2.2.2.1 = 1 := hO.2.2.2.1
  rw [f_X10_pageOf, guestAt_no q1 hn ha, bx_r]
theorem ng_frameOf {E : EE} {κ : K} {n ns t C : Nat} (hR : REL E κ (kV κ 5 0) n ns t C) {a b : Int32} (ha : ¬ vp_in a n) : f_X10_frameOf E κ a b = some (addC κ 1 6, .inr 1) := by
  obtain ⟨⟨rfl, rfl, hO, h9⟩, ⟨q1, q2, q3, q4, q5⟩, hM, hQ, hS, hZ, hC⟩ := hR
  have hn : E.1 ≤ 5 := hM.1.1.1
  have hH : E.2.2.2.1 = 1 := hO.2.2.2.1
  rw [f_X10_frameOf, guestAt_no q1 hn ha, bx_r]
theorem ng_exits {E : EE} {κ : K} {n ns t C : Nat} (hR : REL E κ (kV κ 5 0) n ns t C) {a b : Int32} (ha : ¬ vp_in a n) : f_X10_exits E κ a b = some (addC κ 1 6, .inr 1) := by
  obtain ⟨⟨rfl, rfl, hO, h9⟩, ⟨q1, q2, q3, q4, q5⟩, hM, hQ, hS, hZ, hC⟩ := hR
  have hn : E.1 ≤ 5 := hM.1.1.1
  have hH : E.2.2.2.1 = 1 := hO.2.2.2.1
  rw [f_X10_exits, guestAt_no q1 hn ha, bx_r]
theorem ng_out {E : EE} {κ : K} {n ns t C : Nat} (hR : REL E κ (kV κ 5 0) n ns t C) {a : Int32} (ha : ¬ vp_in a n) : f_X10_out E κ a = some (addC κ 1 6, .inr 1) := by
  obtain ⟨⟨rfl, rfl, hO, h9⟩, ⟨q1, q2, q3, q4, q5⟩, hM, hQ, hS, hZ, hC⟩ := hR
  have hn : E.1 ≤ 5 := hM.1.1.1
  have hH : E.2.2.2.1 = 1 := hO.2.2.2.1
  rw [f_X10_out, guestAt_no q1 hn ha, bx_r]
theorem ng_outAt {E : EE} {κ : K} {n ns t C : Nat} (hR : REL E κ (kV κ 5 0) n ns t C) {a b : Int32} (ha : ¬ vp_in a n) : f_X10_outAt E κ a b = some (addC κ 1 6, .inr 1) := by
  obtain ⟨⟨rfl, rfl, hO, h9⟩, ⟨q1, q2, q3, q4, q5⟩, hM, hQ, hS, hZ, hC⟩ := hR
  have hn : E.1 ≤ 5 := hM.1.1.1
  have hH : E.2.2.2.1 = 1 := hO.2.2.2.1
  rw [f_X10_outAt, guestAt_no q1 hn ha, bx_r]
theorem ng_held {E : EE} {κ : K} {n ns t C : Nat} (hR : REL E κ (kV κ 5 0) n ns t C) {a : Int32} (ha : ¬ vp_in a n) : f_X10_held E κ a = some (addC κ 1 6, .inr 1) := by
  obtain ⟨⟨rfl, rfl, hO, h9⟩, ⟨q1, q2, q3, q4, q5⟩, hM, hQ, hS, hZ, hC⟩ := hR
  have hn : E.1 ≤ 5 := hM.1.1.1
  have hH : E.2.2.2.1 = 1 := hO.2.2.2.1
  rw [f_X10_held, guestAt_no q1 hn ha, bx_r]
theorem ng_snapshot {E : EE} {κ : K} {n ns t C : Nat} (hR : REL E κ (kV κ 5 0) n ns t C) {a : Int32} (ha : ¬ vp_in a n) : f_X10_snapshot E κ a = some ((E, addC κ 1 6), .inr 1) := by
  obtain ⟨⟨rfl, rfl, hO, h9⟩, ⟨q1, q2, q3, q4, q5⟩, hM, hQ, hS, hZ, hC⟩ := hR
  have hn : E.1 ≤ 5 := hM.1.1.1
  have hH : E.2.2.2.1 = 1 := hO.2.2.2.1
  have hgu : f_X10_guestAt E κ a = some (addC κ 1 6, .inr 1) := guestAt_no q1 hn ha
  rw [f_X10_snapshot, hgu]
  rfl
theorem ng_isAsPlain {E : EE} {κ : K} {n ns t C : Nat} (hR : REL E κ (kV κ 5 0) n ns t C) {a : Int32} (ha : ¬ vp_in a n) : f_X10_isAsPlain E κ a = some ((E, addC κ 1 6), .inr 1) := by
  obtain ⟨⟨rfl, rfl, hO, h9⟩, ⟨q1, q2, q3, q4, q5⟩, hM, hQ, hS, hZ, hC⟩ := hR
  have hn : E.1 ≤ 5 := hM.1.1.1
  have hH : E.2.2.2.1 = 1 := hO.2.2.2.1
  have hgu : f_X10_guestAt E κ a = some (addC κ 1 6, .inr 1) := guestAt_no q1 hn ha
  rw [f_X10_isAsPlain, hgu]
  rfl
theorem nh_guest {E : EE} {κ : K} {n ns t C : Nat} (hR : REL E κ (kV κ 5 0) n ns t C) {a b c : Int32} (ha : ¬ vp_in a 2) : f_X10_guest E κ a b c = some ((E, addC κ 1 6), .inr 1) := by
  obtain ⟨⟨rfl, rfl, hO, h9⟩, ⟨q1, q2, q3, q4, q5⟩, hM, hQ, hS, hZ, hC⟩ := hR
  have hn : E.1 ≤ 5 := hM.1.1.1
  have hH : E.2.2.2.1 = 1 := hO.2.2.2.1
  rw [f_X10_guest, hostAt_no ha]
  rfl
theorem nh_share {E : EE} {κ : K} {n ns t C : Nat} (hR : REL E κ (kV κ 5 0) n ns t C) {a : Int32} (ha : ¬ vp_in a 2) : f_X10_share E κ a = some (addC κ 1 6, .inr 1) := by
  obtain ⟨⟨rfl, rfl, hO, h9⟩, ⟨q1, q2, q3, q4, q5⟩, hM, hQ, hS, hZ, hC⟩ := hR
  have hn : E.1 ≤ 5 := hM.1.1.1
  have hH : E.2.2.2.1 = 1 := hO.2.2.2.1
  rw [f_X10_share, hostAt_no ha, bx_r]
theorem nh_fail {E : EE} {κ : K} {n ns t C : Nat} (hR : REL E κ (kV κ 5 0) n ns t C) {a : Int32} (ha : ¬ vp_in a 2) : f_X10_fail E κ a = some (addC κ 1 6, .inr 1) := by
  obtain ⟨⟨rfl, rfl, hO, h9⟩, ⟨q1, q2, q3, q4, q5⟩, hM, hQ, hS, hZ, hC⟩ := hR
  have hn : E.1 ≤ 5 := hM.1.1.1
  have hH : E.2.2.2.1 = 1 := hO.2.2.2.1
  rw [f_X10_fail, hostAt_no ha, bx_r]
theorem nh_mend {E : EE} {κ : K} {n ns t C : Nat} (hR : REL E κ (kV κ 5 0) n ns t C) {a : Int32} (ha : ¬ vp_in a 2) : f_X10_mend E κ a = some (addC κ 1 6, .inr 1) := by
  obtain ⟨⟨rfl, rfl, hO, h9⟩, ⟨q1, q2, q3, q4, q5⟩, hM, hQ, hS, hZ, hC⟩ := hR
  have hn : E.1 ≤ 5 := hM.1.1.1
  have hH : E.2.2.2.1 = 1 := hO.2.2.2.1
  rw [f_X10_mend, hostAt_no ha, bx_r]
theorem nh_used {E : EE} {κ : K} {n ns t C : Nat} (hR : REL E κ (kV κ 5 0) n ns t C) {a : Int32} (ha : ¬ vp_in a 2) : f_X10_used E κ a = some (addC κ 1 6, .inr 1) := by
  obtain ⟨⟨rfl, rfl, hO, h9⟩, ⟨q1, q2, q3, q4, q5⟩, hM, hQ, hS, hZ, hC⟩ := hR
  have hn : E.1 ≤ 5 := hM.1.1.1
  have hH : E.2.2.2.1 = 1 := hO.2.2.2.1
  rw [f_X10_used, hostAt_no ha, bx_r]
theorem ns_stored {E : EE} {κ : K} {n ns t C : Nat} (hR : REL E κ (kV κ 5 0) n ns t C) {a : Int32} (ha : ¬ vp_in a ns) : f_X10_stored E κ a = some (addC κ 1 6, .inr 1) := by
  obtain ⟨⟨rfl, rfl, hO, h9⟩, ⟨q1, q2, q3, q4, q5⟩, hM, hQ, hS, hZ, hC⟩ := hR
  have hn : E.1 ≤ 5 := hM.1.1.1
  have hH : E.2.2.2.1 = 1 := hO.2.2.2.1
  have hs10 : E.2.1 ≤ 10 := hS.2.1
  rw [f_X10_stored, snapAt_no q2 hs10 ha, bx_r]
theorem na_guest {E : EE} {κ : K} {n ns t C : Nat} (hR : REL E κ (kV κ 5 0) n ns t C) {h : Nat} {b c : Int32} (hh : h < 2) (hb : b < 1 ∨ nI 4 < b) : f_X10_guest E κ (nI h) b c = some ((E, addC κ 1 6), .inr 2) := by
  obtain ⟨⟨rfl, rfl, hO, h9⟩, ⟨q1, q2, q3, q4, q5⟩, hM, hQ, hS, hZ, hC⟩ := hR
  have hn : E.1 ≤ 5 := hM.1.1.1
  have hH : E.2.2.2.1 = 1 := hO.2.2.2.1
  have hh2 : h < cntE E 2 := by show h < 2 * E.2.2.2.1; omega
  rw [f_X10_guest, hostAt_ok hH hh]
  show gd _ _ = _
  rw [gd_t hh2]
  by_cases z : b < 1
  · rw [if_pos z]
  · rw [if_neg z, if_neg (show ¬ b ≤ 4 from Int32.not_le.mpr (hb.resolve_left z))]
theorem na_tick {E : EE} {κ : K} {n ns t C : Nat} (hR : REL E κ (kV κ 5 0) n ns t C) {a : Int32} (hb : a < nI 1 ∨ nI 100 < a) : f_X10_tick E κ a = some (addC κ 1 6, .inr 2) := by
  obtain ⟨⟨rfl, rfl, hO, h9⟩, ⟨q1, q2, q3, q4, q5⟩, hM, hQ, hS, hZ, hC⟩ := hR
  have hn : E.1 ≤ 5 := hM.1.1.1
  have hH : E.2.2.2.1 = 1 := hO.2.2.2.1
  rw [f_X10_tick, i32_1, show (100 : Int32) = nI 100 from rfl]
  rcases hb with z | z
  · rw [if_pos z]; rfl
  · rw [if_neg (fun y => by rw [Int32.lt_iff_toInt_lt, nI_toInt (by omega)] at y z; omega), if_neg (Int32.not_le.mpr z)]; rfl
theorem na_instruct {E : EE} {κ : K} {n ns t C : Nat} (hR : REL E κ (kV κ 5 0) n ns t C) {g : Nat} (hg : g < n) {w b c : Int32} (hi : ¬ insOK w b c) : f_X10_instruct E κ (nI g) w b c = some (addC κ 1 6, .inr 2) := by
  obtain ⟨⟨rfl, rfl, hO, h9⟩, ⟨q1, q2, q3, q4, q5⟩, hM, hQ, hS, hZ, hC⟩ := hR
  have hn : E.1 ≤ 5 := hM.1.1.1
  have hH : E.2.2.2.1 = 1 := hO.2.2.2.1
  exact ins_cls0 q1 hn hg hi
theorem no_instruct {E : EE} {κ : K} {n ns t C : Nat} (hR : REL E κ (kV κ 5 0) n ns t C) {g : Nat} (hg : g < n) {k : Nat} {b c : Int32} (hk : k < 14) (o1 : okN (LA k) b) (o2 : okN (LB k) c) (hr : ¬ kV κ 5 0 24 g = 0) : f_X10_instruct E κ (nI g) (nI k) b c = some (addC κ 1 6, .inr 3) := by
  obtain ⟨⟨rfl, rfl, hO, h9⟩, ⟨q1, q2, q3, q4, q5⟩, hM, hQ, hS, hZ, hC⟩ := hR
  have hn : E.1 ≤ 5 := hM.1.1.1
  have hH : E.2.2.2.1 = 1 := hO.2.2.2.1
  obtain ⟨N, hN24, hN, _⟩ := (hM.1.1.2.2.1 g hg).2.1
  obtain ⟨_, _, r, _, _, hr2, _, hrt⟩ := (hQ g hg).1
  have e1 : kV κ 0 g 1 3 = nI N := (hM.2.2.2.1 g hg).1.1.2.2.2.2.1.1.trans hN
  have e12 : kV κ 0 g 0 12 = nI r := (hM.2.2.2.1 g hg).1.2.2.1.trans hr2
  have e17 : kV κ 0 g 0 17 = kV κ 5 0 19 g := (hM.2.2.2.1 g hg).1.1.1.2.2.2.2.2.2.2
  have x2 : 0 < r := by
    rcases Nat.eq_zero_or_pos r with z | z
    · exact absurd (by rw [hr2, z]; rfl) hr
    · exact z
  rw [ins_cls1 q1 hn hg hk o1 o2, e1, e12, e17]
  by_cases x1 : N = 24
  · rw [if_pos (by rw [x1]; decide)]; rfl
  · rw [if_neg (by rw [show (24 : Int32) = nI 24 from rfl, nI_le' (by omega) (by omega)]; omega), if_pos (by rw [i32_0, nI_lt' (by omega) (by omega)]; exact x2)]; rfl
theorem na_scale {E : EE} {κ : K} {n ns t C : Nat} (hR : REL E κ (kV κ 5 0) n ns t C) {g : Nat} (hg : g < n) {b : Int32} (hb : b < nI 1 ∨ nI 3 < b) : f_X10_scale E κ (nI g) b = some (addC κ 1 6, .inr 2) := by
  obtain ⟨⟨rfl, rfl, hO, h9⟩, ⟨q1, q2, q3, q4, q5⟩, hM, hQ, hS, hZ, hC⟩ := hR
  have hn : E.1 ≤ 5 := hM.1.1.1
  have hH : E.2.2.2.1 = 1 := hO.2.2.2.1
  rw [f_X10_scale, guestAt_ok q1 hn hg, bx_s, gd_t (show g < cntE E 0 from hg), i32_1, l3]
  rcases hb with z | z
  · rw [if_pos z]; rfl
  · rw [if_neg (fun y => by rw [Int32.lt_iff_toInt_lt, nI_toInt (by omega)] at y z; omega), if_neg (Int32.not_le.mpr z)]; rfl
theorem na_round {E : EE} {κ : K} {n ns t C : Nat} (hR : REL E κ (kV κ 5 0) n ns t C) {g : Nat} (hg : g < n) {b : Int32} (hb : b < nI 1 ∨ nI 8 < b) : f_X10_round E κ (nI g) b = some (addC κ 1 6, .inr 2) := by
  obtain ⟨⟨rfl, rfl, hO, h9⟩, ⟨q1, q2, q3, q4, q5⟩, hM, hQ, hS, hZ, hC⟩ := hR
  have hn : E.1 ≤ 5 := hM.1.1.1
  have hH : E.2.2.2.1 = 1 := hO.2.2.2.1
  rw [f_X10_round, guestAt_ok q1 hn hg, bx_s, gd_t (show g < cntE E 0 from hg), i32_1, l8]
  rcases hb with z | z
  · rw [if_pos z]; rfl
  · rw [if_neg (fun y => by rw [Int32.lt_iff_toInt_lt, nI_toInt (by omega)] at y z; omega), if_neg (Int32.not_le.mpr z)]; rfl
theorem na_input {E : EE} {κ : K} {n ns t C : Nat} (hR : REL E κ (kV κ 5 0) n ns t C) {g : Nat} (hg : g < n) {b : Int32} (hb : ¬ vp_in b 10000) : f_X10_input E κ (nI g) b = some (addC κ 1 6, .inr 2) := by
  obtain ⟨⟨rfl, rfl, hO, h9⟩, ⟨q1, q2, q3, q4, q5⟩, hM, hQ, hS, hZ, hC⟩ := hR
  have hn : E.1 ≤ 5 := hM.1.1.1
  have hH : E.2.2.2.1 = 1 := hO.2.2.2.1
  have hb2 := vp_not (n := 9999) (by omega) hb
  have e10 : (10000 : Int32) = nI 10000 := rfl
  rw [f_X10_input, guestAt_ok q1 hn hg, bx_s, gd_t (show g < cntE E 0 from hg), e10]
  by_cases z0 : b < 0
  · rw [if_pos z0]; rfl
  · rw [if_neg z0, if_neg (fun y => by
      rcases hb2 with z | z
      · exact z0 z
      · rw [Int32.lt_iff_toInt_lt, nI_toInt (by omega)] at y z; omega)]; rfl
theorem no_send {E : EE} {κ : K} {n ns t C : Nat} (hR : REL E κ (kV κ 5 0) n ns t C) {g : Nat} (hg : g < n) (h2 : ¬ kV κ 5 0 1 (55 * g + 49) < nI 2) : f_X10_send E κ (nI g) = some (addC κ 1 6, .inr 3) := by
  obtain ⟨⟨rfl, rfl, hO, h9⟩, ⟨q1, q2, q3, q4, q5⟩, hM, hQ, hS, hZ, hC⟩ := hR
  have hn : E.1 ≤ 5 := hM.1.1.1
  have hH : E.2.2.2.1 = 1 := hO.2.2.2.1
  obtain ⟨x, hst, hx⟩ := (hM.1.1.2.2.1 g hg).1.st
  have e68 : kV κ 0 g 6 8 = nI x := ((hM.2.2.2.1 g hg).1.2.1.2.2.2.2.2.2.1).trans hst
  rw [hst, nI_lt' (by omega) (by omega)] at h2
  rw [f_X10_send, f_X10_send_e, guestAt_ok q1 hn hg, bx_s, gd_t (show g < cntE E 0 from hg), ended_E e68 hx, if_neg h2, bd_s, if_neg (by decide), bx_r]
theorem no_move {E : EE} {κ : K} {n ns t C : Nat} (hR : REL E κ (kV κ 5 0) n ns t C) {g : Nat} (hg : g < n) (h30 : ¬ kV κ 5 0 30 g = 0) : f_X10_move E κ (nI g) = some (addC κ 1 6, .inr 3) := by
  obtain ⟨⟨rfl, rfl, hO, h9⟩, ⟨q1, q2, q3, q4, q5⟩, hM, hQ, hS, hZ, hC⟩ := hR
  have hn : E.1 ≤ 5 := hM.1.1.1
  have hH : E.2.2.2.1 = 1 := hO.2.2.2.1
  have hSN := (hM.2.2.2.1 g hg).1.1.2.2.2.1
  rw [f_X10_move, guestAt_ok q1 hn hg, bx_s, gd_t (show g < cntE E 0 from hg), moving_E hSN, bd_s, if_neg h30]
  rfl
theorem no_round {E : EE} {κ : K} {n ns t C : Nat} (hR : REL E κ (kV κ 5 0) n ns t C) {g : Nat} (hg : g < n) {l : Nat} (l1 : 1 ≤ l) (l8x : l ≤ 8) (h30 : kV κ 5 0 30 g = 0) : f_X10_round E κ (nI g) (nI l) = some (addC κ 1 6, .inr 3) := by
  obtain ⟨⟨rfl, rfl, hO, h9⟩, ⟨q1, q2, q3, q4, q5⟩, hM, hQ, hS, hZ, hC⟩ := hR
  have hn : E.1 ≤ 5 := hM.1.1.1
  have hH : E.2.2.2.1 = 1 := hO.2.2.2.1
  have hSN := (hM.2.2.2.1 g hg).1.1.2.2.2.1
  have hc1 : ¬ nI l < 1 := by rw [i32_1, nI_lt' (by omega) (by omega)]; omega
  have hc2 : nI l ≤ 8 := by rw [l8, nI_le' (by omega) (by omega)]; omega
  rw [f_X10_round, guestAt_ok q1 hn hg, bx_s, gd_t (show g < cntE E 0 from hg), if_neg hc1, if_pos hc2, moving_E hSN, bd_s, if_pos h30]
theorem no_land {E : EE} {κ : K} {n ns t C : Nat} (hR : REL E κ (kV κ 5 0) n ns t C) {g : Nat} (hg : g < n) {b : Int32} (h30 : kV κ 5 0 30 g = 0) : f_X10_land E κ (nI g) b = some (addC κ 1 6, .inr 3) := by
  obtain ⟨⟨rfl, rfl, hO, h9⟩, ⟨q1, q2, q3, q4, q5⟩, hM, hQ, hS, hZ, hC⟩ := hR
  have hn : E.1 ≤ 5 := hM.1.1.1
  have hH : E.2.2.2.1 = 1 := hO.2.2.2.1
  have hSN := (hM.2.2.2.1 g hg).1.1.2.2.2.1
  rw [f_X10_land, guestAt_ok q1 hn hg, bx_s, gd_t (show g < cntE E 0 from hg), moving_E hSN, bd_s, if_pos h30]
theorem no_snapshot {E : EE} {κ : K} {n ns t C : Nat} (hR : REL E κ (kV κ 5 0) n ns t C) {g : Nat} (hg : g < n) (h3 : kV κ 5 0 1 (55 * g + 49) = nI 3) : f_X10_snapshot E κ (nI g) = some ((E, addC κ 1 6), .inr 3) := by
  obtain ⟨⟨rfl, rfl, hO, h9⟩, ⟨q1, q2, q3, q4, q5⟩, hM, hQ, hS, hZ, hC⟩ := hR
  have hn : E.1 ≤ 5 := hM.1.1.1
  have hH : E.2.2.2.1 = 1 := hO.2.2.2.1
  obtain ⟨x, hst, hx⟩ := (hM.1.1.2.2.1 g hg).1.st
  have e68 : kV κ 0 g 6 8 = nI x := ((hM.2.2.2.1 g hg).1.2.1.2.2.2.2.2.2.1).trans hst
  have hx3 : x = 3 := by rw [hst, nI_eq' (by omega) (by omega)] at h3; exact h3
  have hgu : f_X10_guestAt E κ (nI g) = some (κ, .inl g) := guestAt_ok q1 hn hg
  rw [f_X10_snapshot, hgu]
  show gd (g < cntE E 0) _ = _
  rw [gd_t (show g < cntE E 0 from hg), dead_E e68 hx]
  dsimp only
  rw [if_pos hx3, if_neg (by decide)]
theorem no_follow {E : EE} {κ : K} {n ns t C : Nat} (hR : REL E κ (kV κ 5 0) n ns t C) {g : Nat} (hg : g < n) {b : Int32} (h3 : kV κ 5 0 1 (55 * g + 49) = nI 3) : f_X10_follow E κ (nI g) b = some (addC κ 1 6, .inr 3) := by
  obtain ⟨⟨rfl, rfl, hO, h9⟩, ⟨q1, q2, q3, q4, q5⟩, hM, hQ, hS, hZ, hC⟩ := hR
  have hn : E.1 ≤ 5 := hM.1.1.1
  have hH : E.2.2.2.1 = 1 := hO.2.2.2.1
  obtain ⟨x, hst, hx⟩ := (hM.1.1.2.2.1 g hg).1.st
  have e68 : kV κ 0 g 6 8 = nI x := ((hM.2.2.2.1 g hg).1.2.1.2.2.2.2.2.2.1).trans hst
  have hx3 : x = 3 := by rw [hst, nI_eq' (by omega) (by omega)] at h3; exact h3
  rw [f_X10_follow, f_X10_follow_e, guestAt_ok q1 hn hg, bx_s, gd_t (show g < cntE E 0 from hg), dead_E e68 hx, if_pos hx3, bd_s, if_neg (by decide), bx_r]
theorem ns_restore {E : EE} {κ : K} {n ns t C : Nat} (hR : REL E κ (kV κ 5 0) n ns t C) {g : Nat} (hg : g < n) {b : Int32} (hb : ¬ vp_in b ns) : f_X10_restore E κ (nI g) b = some (addC κ 1 6, .inr 1) := by
  obtain ⟨⟨rfl, rfl, hO, h9⟩, ⟨q1, q2, q3, q4, q5⟩, hM, hQ, hS, hZ, hC⟩ := hR
  have hn : E.1 ≤ 5 := hM.1.1.1
  have hH : E.2.2.2.1 = 1 := hO.2.2.2.1
  have hs10 : E.2.1 ≤ 10 := hS.2.1
  rw [f_X10_restore, guestAt_ok q1 hn hg, bx_s, gd_t (show g < cntE E 0 from hg), snapAt_no q2 hs10 hb, bx_r]
theorem na_of {E : EE} {κ : K} {n ns t C : Nat} (hR : REL E κ (kV κ 5 0) n ns t C) {g : Nat} (hg : g < n) {b : Int32} (hb : b < nI 0 ∨ nI 10 < b) : f_X10_of E κ (nI g) b = some (addC κ 1 6, .inr 2) := by
  obtain ⟨⟨rfl, rfl, hO, h9⟩, ⟨q1, q2, q3, q4, q5⟩, hM, hQ, hS, hZ, hC⟩ := hR
  have hn : E.1 ≤ 5 := hM.1.1.1
  have hH : E.2.2.2.1 = 1 := hO.2.2.2.1
  have hne : ∀ k, k ≤ 10 → ¬ b = nI k := fun k hk z => by
    rcases hb with y | y <;> rw [z, nI_lt' (by omega) (by omega)] at y <;> omega
  rw [f_X10_of, guestAt_ok q1 hn hg, bx_s, gd_t (show g < cntE E 0 from hg), if_neg (show ¬ b = (0 : Int32) from hne 0 (by omega)), if_neg (show ¬ b = (1 : Int32) from hne 1 (by omega)), if_neg (show ¬ b = (2 : Int32) from hne 2 (by omega)), if_neg (show ¬ b = (3 : Int32) from hne 3 (by omega)), if_neg (show ¬ b = (4 : Int32) from hne 4 (by omega)), if_neg (show ¬ b = (5 : Int32) from hne 5 (by omega)), if_neg (show ¬ b = (6 : Int32) from hne 6 (by omega)), if_neg (show ¬ b = (7 : Int32) from hne 7 (by omega)), if_neg (show ¬ b = (8 : Int32) from hne 8 (by omega)), if_neg (show ¬ b = (9 : Int32) from hne 9 (by omega)), if_neg (show ¬ b = (10 : Int32) from hne 10 (by omega))]
theorem na_register {E : EE} {κ : K} {n ns t C : Nat} (hR : REL E κ (kV κ 5 0) n ns t C) {g : Nat} (hg : g < n) {b : Int32} (hb : ¬ vp_in b 4) : f_X10_register E κ (nI g) b = some (addC κ 1 6, .inr 1) := by
  obtain ⟨⟨rfl, rfl, hO, h9⟩, ⟨q1, q2, q3, q4, q5⟩, hM, hQ, hS, hZ, hC⟩ := hR
  have hn : E.1 ≤ 5 := hM.1.1.1
  have hH : E.2.2.2.1 = 1 := hO.2.2.2.1
  rw [f_X10_register, guestAt_ok q1 hn hg, bx_s, gd_t (show g < cntE E 0 from hg), show (4 : Int32) = nI 4 from rfl, checkPlace_no (by omega) hb, bx_r]
theorem na_pageOf {E : EE} {κ : K} {n ns t C : Nat} (hR : REL E κ (kV κ 5 0) n ns t C) {g : Nat} (hg : g < n) {b : Int32} (hb : ¬ vp_in b 8) : f_X10_pageOf E κ (nI g) b = some (addC κ 1 6, .inr 1) := by
  obtain ⟨⟨rfl, rfl, hO, h9⟩, ⟨q1, q2, q3, q4, q5⟩, hM, hQ, hS, hZ, hC⟩ := hR
  have hn : E.1 ≤ 5 := hM.1.1.1
  have hH : E.2.2.2.1 = 1 := hO.2.2.2.1
  rw [f_X10_pageOf, guestAt_ok q1 hn hg, bx_s, gd_t (show g < cntE E 0 from hg), show (8 : Int32) = nI 8 from rfl, checkPlace_no (by omega) hb, bx_r]
theorem na_frameOf {E : EE} {κ : K} {n ns t C : Nat} (hR : REL E κ (kV κ 5 0) n ns t C) {g : Nat} (hg : g < n) {b : Int32} (hb : ¬ vp_in b 8) : f_X10_frameOf E κ (nI g) b = some (addC κ 1 6, .inr 1) := by
  obtain ⟨⟨rfl, rfl, hO, h9⟩, ⟨q1, q2, q3, q4, q5⟩, hM, hQ, hS, hZ, hC⟩ := hR
  have hn : E.1 ≤ 5 := hM.1.1.1
  have hH : E.2.2.2.1 = 1 := hO.2.2.2.1
  rw [f_X10_frameOf, guestAt_ok q1 hn hg, bx_s, gd_t (show g < cntE E 0 from hg), show (8 : Int32) = nI 8 from rfl, checkPlace_no (by omega) hb, bx_r]
theorem na_word {E : EE} {κ : K} {n ns t C : Nat} (hR : REL E κ (kV κ 5 0) n ns t C) {g : Nat} (hg : g < n) {b c : Int32} (hb : ¬ vp_in b 8) : f_X10_word E κ (nI g) b c = some (addC κ 1 6, .inr 1) := by
  obtain ⟨⟨rfl, rfl, hO, h9⟩, ⟨q1, q2, q3, q4, q5⟩, hM, hQ, hS, hZ, hC⟩ := hR
  have hn : E.1 ≤ 5 := hM.1.1.1
  have hH : E.2.2.2.1 = 1 := hO.2.2.2.1
  rw [f_X10_word, guestAt_ok q1 hn hg, bx_s, gd_t (show g < cntE E 0 from hg), show (8 : Int32) = nI 8 from rfl, checkPlace_no (by omega) hb, bx_r]
theorem nb_word {E : EE} {κ : K} {n ns t C : Nat} (hR : REL E κ (kV κ 5 0) n ns t C) {g : Nat} (hg : g < n) {p : Nat} {c : Int32} (hp : p < 8) (hc : ¬ vp_in c 4) : f_X10_word E κ (nI g) (nI p) c = some (addC κ 1 6, .inr 1) := by
  obtain ⟨⟨rfl, rfl, hO, h9⟩, ⟨q1, q2, q3, q4, q5⟩, hM, hQ, hS, hZ, hC⟩ := hR
  have hn : E.1 ≤ 5 := hM.1.1.1
  have hH : E.2.2.2.1 = 1 := hO.2.2.2.1
  rw [f_X10_word, guestAt_ok q1 hn hg, bx_s, gd_t (show g < cntE E 0 from hg), show (8 : Int32) = nI 8 from rfl, checkPlace_ok hp (by omega), bx_s, show (4 : Int32) = nI 4 from rfl, checkPlace_no (by omega) hc, bx_r]
theorem na_exits {E : EE} {κ : K} {n ns t C : Nat} (hR : REL E κ (kV κ 5 0) n ns t C) {g : Nat} (hg : g < n) {b : Int32} (hb : ¬ vp_in b 6) : f_X10_exits E κ (nI g) b = some (addC κ 1 6, .inr 2) := by
  obtain ⟨⟨rfl, rfl, hO, h9⟩, ⟨q1, q2, q3, q4, q5⟩, hM, hQ, hS, hZ, hC⟩ := hR
  have hn : E.1 ≤ 5 := hM.1.1.1
  have hH : E.2.2.2.1 = 1 := hO.2.2.2.1
  have hb2 := vp_not (n := 5) (by omega) hb
  rw [f_X10_exits, guestAt_ok q1 hn hg, bx_s, gd_t (show g < cntE E 0 from hg)]
  unfold f_X10_exits_b15
  rcases hb2 with z | z
  · rw [if_pos z]
  · by_cases z0 : b < 0
    · rw [if_pos z0]
    · rw [if_neg z0, if_neg (by rw [l5]; exact Int32.not_le.mpr z)]
theorem na_outAt {E : EE} {κ : K} {n ns t C : Nat} (hR : REL E κ (kV κ 5 0) n ns t C) {g : Nat} (hg : g < n) {b : Int32} (hb : ∀ m, kV κ 5 0 35 g = nI m → m ≤ 3000 → ¬ vp_in b m) : f_X10_outAt E κ (nI g) b = some (addC κ 1 6, .inr 1) := by
  obtain ⟨⟨rfl, rfl, hO, h9⟩, ⟨q1, q2, q3, q4, q5⟩, hM, hQ, hS, hZ, hC⟩ := hR
  have hn : E.1 ≤ 5 := hM.1.1.1
  have hH : E.2.2.2.1 = 1 := hO.2.2.2.1
  obtain ⟨m, hm3, e1, e2, e3, e4, e5⟩ := (hM.2.2.2.1 g hg).1.1.2.2.2.2.2.2.2.1
  rw [f_X10_outAt, guestAt_ok q1 hn hg, bx_s, gd_t (show g < cntE E 0 from hg), e2, checkPlace_no (by omega) (hb m e1 hm3), bx_r]
theorem qa_time {E : EE} {κ : K} {n ns t C : Nat} (hR : REL E κ (kV κ 5 0) n ns t C) : f_X10_time E κ = some (κ, nI t) := by
  obtain ⟨⟨rfl, rfl, hO, h9⟩, ⟨q1, q2, q3, q4, q5⟩, hM, hQ, hS, hZ, hC⟩ := hR
  have hn : E.1 ≤ 5 := hM.1.1.1
  have hH : E.2.2.2.1 = 1 := hO.2.2.2.1
  rw [f_X10_time, q3]
theorem qa_out {E : EE} {κ : K} {n ns t C : Nat} (hR : REL E κ (kV κ 5 0) n ns t C) {g : Nat} (hg : g < n) : f_X10_out E κ (nI g) = some (κ, .inl (kV κ 5 0 35 g)) := by
  obtain ⟨⟨rfl, rfl, hO, h9⟩, ⟨q1, q2, q3, q4, q5⟩, hM, hQ, hS, hZ, hC⟩ := hR
  have hn : E.1 ≤ 5 := hM.1.1.1
  have hH : E.2.2.2.1 = 1 := hO.2.2.2.1
  have hv : kV κ 0 g 36 1 = kV κ 5 0 35 g := by
    obtain ⟨m, _, e1, e2, _⟩ := (hM.2.2.2.1 g hg).1.1.2.2.2.2.2.2.2.1
    rw [e1, e2]
  rw [f_X10_out, guestAt_ok q1 hn hg, bx_s, gd_t (show g < cntE E 0 from hg), hv]
theorem qa_held {E : EE} {κ : K} {n ns t C : Nat} (hR : REL E κ (kV κ 5 0) n ns t C) {g : Nat} (hg : g < n) : f_X10_held E κ (nI g) = some (κ, .inl (kV κ 5 0 37 g)) := by
  obtain ⟨⟨rfl, rfl, hO, h9⟩, ⟨q1, q2, q3, q4, q5⟩, hM, hQ, hS, hZ, hC⟩ := hR
  have hn : E.1 ≤ 5 := hM.1.1.1
  have hH : E.2.2.2.1 = 1 := hO.2.2.2.1
  have hv : kV κ 0 g 34 1 = kV κ 5 0 37 g := by
    obtain ⟨m, _, e1, e2, _⟩ := (hM.2.2.2.1 g hg).1.1.2.2.2.2.2.2.2.2.1
    rw [e1, e2]
  rw [f_X10_held, guestAt_ok q1 hn hg, bx_s, gd_t (show g < cntE E 0 from hg), hv]
theorem qa_exits {E : EE} {κ : K} {n ns t C : Nat} (hR : REL E κ (kV κ 5 0) n ns t C) {g : Nat} (hg : g < n) {k : Nat} (hk : k < 6) : f_X10_exits E κ (nI g) (nI k) = some (κ, .inl (kV κ 5 0 25 (6 * g + k))) := by
  obtain ⟨⟨rfl, rfl, hO, h9⟩, ⟨q1, q2, q3, q4, q5⟩, hM, hQ, hS, hZ, hC⟩ := hR
  have hn : E.1 ≤ 5 := hM.1.1.1
  have hH : E.2.2.2.1 = 1 := hO.2.2.2.1
  have hv : kV κ 0 g 38 k = kV κ 5 0 25 (6 * g + k) := (hM.2.2.2.1 g hg).1.1.2.1 k hk
  rw [f_X10_exits, guestAt_ok q1 hn hg, bx_s, gd_t (show g < cntE E 0 from hg), if_neg (nI_pos (by omega)), if_pos (by rw [l5, nI_le' (by omega) (by omega)]; omega), nI_cl (by omega), gdi (by omega), hv]
theorem qa_frameOf {E : EE} {κ : K} {n ns t C : Nat} (hR : REL E κ (kV κ 5 0) n ns t C) {g : Nat} (hg : g < n) {p : Nat} (hp : p < 8) : f_X10_frameOf E κ (nI g) (nI p) = some (κ, .inl (kV κ 5 0 28 (8 * g + p))) := by
  obtain ⟨⟨rfl, rfl, hO, h9⟩, ⟨q1, q2, q3, q4, q5⟩, hM, hQ, hS, hZ, hC⟩ := hR
  have hn : E.1 ≤ 5 := hM.1.1.1
  have hH : E.2.2.2.1 = 1 := hO.2.2.2.1
  rw [f_X10_frameOf, guestAt_ok q1 hn hg, bx_s, gd_t (show g < cntE E 0 from hg), show (8 : Int32) = nI 8 from rfl, checkPlace_ok hp (by omega), bx_s, frame_E hH hg hn hp (hM.2.2.2.1 g hg).1 (hM.2.2.2.1 g hg).2.1 hM.2.2.1, bd_s]
theorem qa_of0 {E : EE} {κ : K} {n ns t C : Nat} (hR : REL E κ (kV κ 5 0) n ns t C) {g : Nat} (hg : g < n) : f_X10_of E κ (nI g) (nI 0) = some (κ, .inl (kV κ 5 0 1 (55 * g + 49))) := by
  obtain ⟨⟨rfl, rfl, hO, h9⟩, ⟨q1, q2, q3, q4, q5⟩, hM, hQ, hS, hZ, hC⟩ := hR
  have hn : E.1 ≤ 5 := hM.1.1.1
  have hH : E.2.2.2.1 = 1 := hO.2.2.2.1
  have hv : kV κ 0 g 6 8 = kV κ 5 0 1 (55 * g + 49) := (hM.2.2.2.1 g hg).1.2.1.2.2.2.2.2.2.1
  rw [f_X10_of, guestAt_ok q1 hn hg, bx_s, gd_t (show g < cntE E 0 from hg), if_pos (by decide), hv]
theorem qa_of1 {E : EE} {κ : K} {n ns t C : Nat} (hR : REL E κ (kV κ 5 0) n ns t C) {g : Nat} (hg : g < n) : f_X10_of E κ (nI g) (nI 1) = some (κ, .inl (kV κ 5 0 15 g)) := by
  obtain ⟨⟨rfl, rfl, hO, h9⟩, ⟨q1, q2, q3, q4, q5⟩, hM, hQ, hS, hZ, hC⟩ := hR
  have hn : E.1 ≤ 5 := hM.1.1.1
  have hH : E.2.2.2.1 = 1 := hO.2.2.2.1
  obtain ⟨h, hh, hP, h15⟩ := (hM.2.2.2.1 g hg).2.1.1
  have hv : kV κ 2 h 0 0 = kV κ 5 0 15 g := by rw [h15]; exact (hM.2.2.1 h hh).2.1
  rw [f_X10_of, guestAt_ok q1 hn hg, bx_s, gd_t (show g < cntE E 0 from hg), if_neg (by decide), if_pos (by decide), hP, optG_s (host_lt hH hh), hv]
theorem qa_of2 {E : EE} {κ : K} {n ns t C : Nat} (hR : REL E κ (kV κ 5 0) n ns t C) {g : Nat} (hg : g < n) : f_X10_of E κ (nI g) (nI 2) = some (κ, .inl (kV κ 5 0 1 (55 * g + 4))) := by
  obtain ⟨⟨rfl, rfl, hO, h9⟩, ⟨q1, q2, q3, q4, q5⟩, hM, hQ, hS, hZ, hC⟩ := hR
  have hn : E.1 ≤ 5 := hM.1.1.1
  have hH : E.2.2.2.1 = 1 := hO.2.2.2.1
  have hv : kV κ 0 g 6 3 = kV κ 5 0 1 (55 * g + 4) := (hM.2.2.2.1 g hg).1.2.1.2.1
  rw [f_X10_of, guestAt_ok q1 hn hg, bx_s, gd_t (show g < cntE E 0 from hg), if_neg (by decide), if_neg (by decide), if_pos (by decide), hv]
theorem qa_of3 {E : EE} {κ : K} {n ns t C : Nat} (hR : REL E κ (kV κ 5 0) n ns t C) {g : Nat} (hg : g < n) : f_X10_of E κ (nI g) (nI 3) = some (κ, .inl (kV κ 5 0 1 (55 * g + 7))) := by
  obtain ⟨⟨rfl, rfl, hO, h9⟩, ⟨q1, q2, q3, q4, q5⟩, hM, hQ, hS, hZ, hC⟩ := hR
  have hn : E.1 ≤ 5 := hM.1.1.1
  have hH : E.2.2.2.1 = 1 := hO.2.2.2.1
  have hv : kV κ 0 g 6 6 = kV κ 5 0 1 (55 * g + 7) := (hM.2.2.2.1 g hg).1.2.1.2.2.2.2.1
  rw [f_X10_of, guestAt_ok q1 hn hg, bx_s, gd_t (show g < cntE E 0 from hg), if_neg (by decide), if_neg (by decide), if_neg (by decide), if_pos (by decide), hv]
theorem qa_of4 {E : EE} {κ : K} {n ns t C : Nat} (hR : REL E κ (kV κ 5 0) n ns t C) {g : Nat} (hg : g < n) : f_X10_of E κ (nI g) (nI 4) = some (κ, .inl (kV κ 5 0 1 (55 * g + 8))) := by
  obtain ⟨⟨rfl, rfl, hO, h9⟩, ⟨q1, q2, q3, q4, q5⟩, hM, hQ, hS, hZ, hC⟩ := hR
  have hn : E.1 ≤ 5 := hM.1.1.1
  have hH : E.2.2.2.1 = 1 := hO.2.2.2.1
  have hm : kV κ 0 g 6 7 = kV κ 5 0 1 (55 * g + 8) := (hM.2.2.2.1 g hg).1.2.1.2.2.2.2.2.1
  have hb := bit01 (k := 8) (hM.1.1.2.2.1 g hg).1 (by omega)
  have z : f_X10_of E κ (nI g) (nI 4) = if kV κ 0 g 6 7 = 0 then some (κ, .inl 0) else some (κ, .inl 1) := by rw [f_X10_of, guestAt_ok q1 hn hg, bx_s, gd_t (show g < cntE E 0 from hg), if_neg (by decide), if_neg (by decide), if_neg (by decide), if_neg (by decide), if_pos (by decide)]
  rw [z, hm]
  rcases hb with y | y
  · rw [y, if_pos rfl]
  · rw [y, if_neg (by decide)]
theorem qa_of5 {E : EE} {κ : K} {n ns t C : Nat} (hR : REL E κ (kV κ 5 0) n ns t C) {g : Nat} (hg : g < n) : f_X10_of E κ (nI g) (nI 5) = some (κ, .inl (clockM (kV κ 5 0) g)) := by
  obtain ⟨⟨rfl, rfl, hO, h9⟩, ⟨q1, q2, q3, q4, q5⟩, hM, hQ, hS, hZ, hC⟩ := hR
  have hn : E.1 ≤ 5 := hM.1.1.1
  have hH : E.2.2.2.1 = 1 := hO.2.2.2.1
  have hv : kV κ 0 g 5 9 = clockM (kV κ 5 0) g := (hM.2.2.2.1 g hg).1.1.2.2.2.2.2.1.2.2.2
  rw [f_X10_of, guestAt_ok q1 hn hg, bx_s, gd_t (show g < cntE E 0 from hg), if_neg (by decide), if_neg (by decide), if_neg (by decide), if_neg (by decide), if_neg (by decide), if_pos (by decide), hv]
theorem qa_of6 {E : EE} {κ : K} {n ns t C : Nat} (hR : REL E κ (kV κ 5 0) n ns t C) {g : Nat} (hg : g < n) : f_X10_of E κ (nI g) (nI 6) = some (κ, .inl (kV κ 5 0 23 g)) := by
  obtain ⟨⟨rfl, rfl, hO, h9⟩, ⟨q1, q2, q3, q4, q5⟩, hM, hQ, hS, hZ, hC⟩ := hR
  have hn : E.1 ≤ 5 := hM.1.1.1
  have hH : E.2.2.2.1 = 1 := hO.2.2.2.1
  have hv : kV κ 0 g 0 11 = kV κ 5 0 23 g := (hM.2.2.2.1 g hg).1.1.1.2.2.2.2.1
  rw [f_X10_of, guestAt_ok q1 hn hg, bx_s, gd_t (show g < cntE E 0 from hg), if_neg (by decide), if_neg (by decide), if_neg (by decide), if_neg (by decide), if_neg (by decide), if_neg (by decide), if_pos (by decide), hv]
theorem qa_of7 {E : EE} {κ : K} {n ns t C : Nat} (hR : REL E κ (kV κ 5 0) n ns t C) {g : Nat} (hg : g < n) : f_X10_of E κ (nI g) (nI 7) = some (κ, .inl (kV κ 5 0 24 g)) := by
  obtain ⟨⟨rfl, rfl, hO, h9⟩, ⟨q1, q2, q3, q4, q5⟩, hM, hQ, hS, hZ, hC⟩ := hR
  have hn : E.1 ≤ 5 := hM.1.1.1
  have hH : E.2.2.2.1 = 1 := hO.2.2.2.1
  have hv : kV κ 0 g 0 12 = kV κ 5 0 24 g := (hM.2.2.2.1 g hg).1.2.2.1
  rw [f_X10_of, guestAt_ok q1 hn hg, bx_s, gd_t (show g < cntE E 0 from hg), if_neg (by decide), if_neg (by decide), if_neg (by decide), if_neg (by decide), if_neg (by decide), if_neg (by decide), if_neg (by decide), if_pos (by decide), hv]
theorem qa_of8 {E : EE} {κ : K} {n ns t C : Nat} (hR : REL E κ (kV κ 5 0) n ns t C) {g : Nat} (hg : g < n) : f_X10_of E κ (nI g) (nI 8) = some (κ, .inl (kV κ 5 0 1 (55 * g + 54))) := by
  obtain ⟨⟨rfl, rfl, hO, h9⟩, ⟨q1, q2, q3, q4, q5⟩, hM, hQ, hS, hZ, hC⟩ := hR
  have hn : E.1 ≤ 5 := hM.1.1.1
  have hH : E.2.2.2.1 = 1 := hO.2.2.2.1
  have hv : kV κ 0 g 10 1 = kV κ 5 0 1 (55 * g + 54) := by
    obtain ⟨m, _, e1, e2, _⟩ := (hM.2.2.2.1 g hg).1.1.2.2.2.2.2.2.1
    rw [e1, e2]
  rw [f_X10_of, guestAt_ok q1 hn hg, bx_s, gd_t (show g < cntE E 0 from hg), if_neg (by decide), if_neg (by decide), if_neg (by decide), if_neg (by decide), if_neg (by decide), if_neg (by decide), if_neg (by decide), if_neg (by decide), if_pos (by decide), hv]
theorem qa_of9 {E : EE} {κ : K} {n ns t C : Nat} (hR : REL E κ (kV κ 5 0) n ns t C) {g : Nat} (hg : g < n) : (kV κ 5 0 30 g = 0 ∧ f_X10_of E κ (nI g) (nI 9) = some (κ, .inl (-1))) ∨ (¬ kV κ 5 0 30 g = 0 ∧ ∃ T, T < 256 ∧ f_X10_of E κ (nI g) (nI 9) = some (κ, .inl (nI (pop T)))) := by
  obtain ⟨⟨rfl, rfl, hO, h9⟩, ⟨q1, q2, q3, q4, q5⟩, hM, hQ, hS, hZ, hC⟩ := hR
  have hn : E.1 ≤ 5 := hM.1.1.1
  have hH : E.2.2.2.1 = 1 := hO.2.2.2.1
  have hS9 := (hM.2.2.2.1 g hg).1.1.2.2.2.1
  rcases id hS9 with ⟨h1, h2⟩ | ⟨h1, T, h2, h3, h4⟩
  · exact Or.inl ⟨h1, by rw [f_X10_of, guestAt_ok q1 hn hg, bx_s, gd_t (show g < cntE E 0 from hg), if_neg (by decide), if_neg (by decide), if_neg (by decide), if_neg (by decide), if_neg (by decide), if_neg (by decide), if_neg (by decide), if_neg (by decide), if_neg (by decide), if_pos (by decide), moving_E hS9, bd_s, if_pos h1]⟩
  · exact Or.inr ⟨by rw [h1]; decide, T, h2, by rw [f_X10_of, guestAt_ok q1 hn hg, bx_s, gd_t (show g < cntE E 0 from hg), if_neg (by decide), if_neg (by decide), if_neg (by decide), if_neg (by decide), if_neg (by decide), if_neg (by decide), if_neg (by decide), if_neg (by decide), if_neg (by decide), if_pos (by decide), moving_E hS9, bd_s, if_neg (by rw [h1]; decide), h3, bitCount_E h2, bd_s]⟩
theorem qa_of10 {E : EE} {κ : K} {n ns t C : Nat} (hR : REL E κ (kV κ 5 0) n ns t C) {g : Nat} (hg : g < n) : f_X10_of E κ (nI g) (nI 10) = some (κ, .inl (kV κ 5 0 32 g)) := by
  obtain ⟨⟨rfl, rfl, hO, h9⟩, ⟨q1, q2, q3, q4, q5⟩, hM, hQ, hS, hZ, hC⟩ := hR
  have hn : E.1 ≤ 5 := hM.1.1.1
  have hH : E.2.2.2.1 = 1 := hO.2.2.2.1
  have hv : kV κ 0 g 0 13 = kV κ 5 0 32 g := (hM.2.2.2.1 g hg).1.1.1.2.2.2.2.2.1
  rw [f_X10_of, guestAt_ok q1 hn hg, bx_s, gd_t (show g < cntE E 0 from hg), if_neg (by decide), if_neg (by decide), if_neg (by decide), if_neg (by decide), if_neg (by decide), if_neg (by decide), if_neg (by decide), if_neg (by decide), if_neg (by decide), if_neg (by decide), if_pos (by decide), hv]
theorem qa_register {E : EE} {κ : K} {n ns t C : Nat} (hR : REL E κ (kV κ 5 0) n ns t C) {g : Nat} (hg : g < n) {k : Nat} (hk : k < 4) : f_X10_register E κ (nI g) (nI k) = some (κ, .inl (if kV κ 5 0 17 g = 0 then kV κ 5 0 1 (55 * g + k) else -1)) := by
  obtain ⟨⟨rfl, rfl, hO, h9⟩, ⟨q1, q2, q3, q4, q5⟩, hM, hQ, hS, hZ, hC⟩ := hR
  have hn : E.1 ≤ 5 := hM.1.1.1
  have hH : E.2.2.2.1 = 1 := hO.2.2.2.1
  have hv : kV κ 0 g 7 k = kV κ 5 0 1 (55 * g + k) := (hM.2.2.2.1 g hg).1.2.1.1 k hk
  have h17 : kV κ 0 g 0 2 = kV κ 5 0 17 g := (hM.2.2.2.1 g hg).1.1.1.2.2.1
  rw [f_X10_register, guestAt_ok q1 hn hg, bx_s, gd_t (show g < cntE E 0 from hg), show (4 : Int32) = nI 4 from rfl, checkPlace_ok hk (by omega), bx_s, h17]
  by_cases z : kV κ 5 0 17 g = 0
  · rw [if_pos z, if_pos z, nI_cl (by omega), gdi (by omega), hv]
  · rw [if_neg z, if_neg z]
theorem qa_word {E : EE} {κ : K} {n ns t C : Nat} (hR : REL E κ (kV κ 5 0) n ns t C) {g : Nat} (hg : g < n) {p k : Nat} (hp : p < 8) (hk : k < 4) : f_X10_word E κ (nI g) (nI p) (nI k) = some (κ, .inl (if kV κ 5 0 17 g = 0 then kV κ 5 0 1 (55 * g + (17 + (4 * p + k))) else -1)) := by
  obtain ⟨⟨rfl, rfl, hO, h9⟩, ⟨q1, q2, q3, q4, q5⟩, hM, hQ, hS, hZ, hC⟩ := hR
  have hn : E.1 ≤ 5 := hM.1.1.1
  have hH : E.2.2.2.1 = 1 := hO.2.2.2.1
  have hv : kV κ 0 g 9 (4 * p + k) = kV κ 5 0 1 (55 * g + (17 + (4 * p + k))) := (hM.2.2.2.1 g hg).1.2.1.2.2.2.2.2.2.2.2 _ (by omega)
  have h17 : kV κ 0 g 0 2 = kV κ 5 0 17 g := (hM.2.2.2.1 g hg).1.1.1.2.2.1
  rw [f_X10_word, guestAt_ok q1 hn hg, bx_s, gd_t (show g < cntE E 0 from hg), show (8 : Int32) = nI 8 from rfl, checkPlace_ok hp (by omega), bx_s, show (4 : Int32) = nI 4 from rfl, checkPlace_ok hk (by omega), bx_s, h17]
  by_cases z : kV κ 5 0 17 g = 0
  · rw [if_pos z, if_pos z, nI_mul, nI_add, nI_cl (by omega), gdi (by omega), Nat.mul_comm p 4, hv]
  · rw [if_neg z, if_neg z]
theorem qa_pageOf {E : EE} {κ : K} {n ns t C : Nat} (hR : REL E κ (kV κ 5 0) n ns t C) {g : Nat} (hg : g < n) {p : Nat} (hp : p < 8) : f_X10_pageOf E κ (nI g) (nI p) = some (κ, .inl (kV κ 5 0 27 (8 * g + p))) := by
  obtain ⟨⟨rfl, rfl, hO, h9⟩, ⟨q1, q2, q3, q4, q5⟩, hM, hQ, hS, hZ, hC⟩ := hR
  have hn : E.1 ≤ 5 := hM.1.1.1
  have hH : E.2.2.2.1 = 1 := hO.2.2.2.1
  rw [f_X10_pageOf, guestAt_ok q1 hn hg, bx_s, gd_t (show g < cntE E 0 from hg), show (8 : Int32) = nI 8 from rfl, checkPlace_ok hp (by omega), bx_s, g_isBare, bd_s]
  obtain ⟨B, b1, b2, b3⟩ := (hM.2.2.2.1 g hg).1.1.2.2.1
  have hbit := bit_and B b1 p hp
  rw [b2]
  by_cases z : kV κ 5 0 27 (8 * g + p) = 0
  · rw [(b3 p hp).mpr z] at hbit
    rw [if_neg (of_decide_eq_false hbit), if_neg (by decide), z]
  · rw [show B.testBit p = false from Bool.eq_false_iff.mpr (fun y => z ((b3 p hp).mp y))] at hbit
    rw [if_pos (of_decide_eq_true hbit), if_pos rfl, frame_E hH hg hn hp (hM.2.2.2.1 g hg).1 (hM.2.2.2.1 g hg).2.1 hM.2.2.1, bd_s]
    rcases hM.2.1 (8 * g + p) (by omega) with ⟨y1, f, hf, y2⟩ | ⟨y1, y2⟩
    · rw [y2, if_neg (by rw [nI_m1 (by omega)]; exact id), y1]
    · rw [y2, if_pos rfl, y1.resolve_left z]
/-- frames that hold something -/
def usU (w : MU) : Nat → Nat
  | 0 => 0
  | k + 1 => usU w k + (if cntU (inF w (nI k)) 40 = 0 then 0 else 1)
theorem usU_le (w : MU) : ∀ k, usU w k ≤ k
  | 0 => Nat.le_refl 0
  | k + 1 => by
    have := usU_le w k
    unfold usU
    split <;> omega
theorem usU_run {E : EE} {κ : K} {μ : MU} {n h : Nat} (hR : RH (kV κ 2 h) μ n h) : ∀ d i m, i + d = 16 → d < m → f_X2_countUsed_b4 E h m κ (nI (usU (kV κ 2 h) i)) (nI i) = some (κ, nI (usU (kV κ 2 h) 16)) := by
  intro d
  induction d with
  | zero =>
    intro i m hi hm
    obtain ⟨m, rfl⟩ : ∃ q, m = q + 1 := ⟨m - 1, by omega⟩
    rw [f_X2_countUsed_b4, if_pos (by rw [l16, nI_le' (by omega) (by omega)]; omega), show i = 16 from by omega]
  | succ d ih =>
    intro i m hi hm
    obtain ⟨m, rfl⟩ : ∃ q, m = q + 1 := ⟨m - 1, by omega⟩
    have hw := hR.2.1 i (by omega)
    have hc := cntU_le (inF (kV κ 2 h) (nI i)) 40
    have hu := usU_le (kV κ 2 h) i
    have hr := ih (i + 1) m (by omega) (by omega)
    rw [show usU (kV κ 2 h) (i + 1) = usU (kV κ 2 h) i + (if cntU (inF (kV κ 2 h) (nI i)) 40 = 0 then 0 else 1) from rfl] at hr
    by_cases e : cntU (inF (kV κ 2 h) (nI i)) 40 = 0
    · rw [if_pos e, Nat.add_zero] at hr
      rw [f_X2_countUsed_b4, if_neg (by rw [l16, nI_le' (by omega) (by omega)]; omega), nI_cl (by omega), gdi (by omega), hw, if_pos (by rw [i32_0, nI_le' (by omega) (by omega)]; omega), f_X2_countUsed_b22, nmE, nI_1, hr]
    · rw [if_neg e] at hr
      rw [f_X2_countUsed_b4, if_neg (by rw [l16, nI_le' (by omega) (by omega)]; omega), nI_cl (by omega), gdi (by omega), hw, if_neg (by rw [i32_0, nI_le' (by omega) (by omega)]; omega), nmE, nI_1, f_X2_countUsed_b22, nmE, nI_1, hr]
theorem qa_used {E : EE} {κ : K} {n ns t C : Nat} (hR : REL E κ (kV κ 5 0) n ns t C) {h : Nat} (hh : h < 2) : f_X10_used E κ (nI h) = some (κ, .inl (nI (usU (kV κ 2 h) 16))) := by
  obtain ⟨⟨rfl, rfl, hO, h9⟩, ⟨q1, q2, q3, q4, q5⟩, hM, hQ, hS, hZ, hC⟩ := hR
  have hn : E.1 ≤ 5 := hM.1.1.1
  have hH : E.2.2.2.1 = 1 := hO.2.2.2.1
  have hRH := (hM.2.2.1 h hh).1
  have r1 := usU_run (E := E) hRH 16 0 FU (by omega) (by unfold FU; omega)
  rw [show usU (kV κ 2 h) 0 = 0 from rfl, nI_0] at r1
  rw [f_X10_used, hostAt_ok hH hh, bx_s, gd_t (host_lt hH hh), f_X2_countUsed, r1, bd_s]
theorem qa_stored {E : EE} {κ : K} {n ns t C : Nat} (hR : REL E κ (kV κ 5 0) n ns t C) {s : Nat} (hs1 : s < ns) : f_X10_stored E κ (nI s) = some (κ, .inl (kV κ 5 0 10 s)) := by
  obtain ⟨⟨rfl, rfl, hO, h9⟩, ⟨q1, q2, q3, q4, q5⟩, hM, hQ, hS, hZ, hC⟩ := hR
  have hn : E.1 ≤ 5 := hM.1.1.1
  have hH : E.2.2.2.1 = 1 := hO.2.2.2.1
  have hs10 := hS.2.1
  have hv : kV κ 1 s 0 2 = kV κ 5 0 10 s := by
    obtain ⟨g, _, _, _, _, e, _⟩ := hM.2.2.2.2 s hs1
    exact e
  rw [f_X10_stored, snapAt_ok q2 hs10 hs1, bx_s, gd_t (show s < cntE E 1 from hs1), hv]
