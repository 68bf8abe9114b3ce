theorem len_push {E : EE} {r : RC} : (eR E).length < (eR (upR E (eR E ++ [r]))).length := by
  have h : eR (upR E (eR E ++ [r])) = eR E ++ [r] := rfl
  rw [h, List.length_append]
  exact Nat.lt_succ_self _
theorem st_8n {E : EE} {r : RC} : Stab (upR E (eR E ++ [r])) (.inr (some (8, (eR E).length, 0))) := st_8 len_push
