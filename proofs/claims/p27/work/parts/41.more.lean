def oppV (v : Nat) : Nat := (v + 5) % 10
theorem aM_Tr (a : Nat → Int32) (v c : Nat) : aM (aTr a v) c = aM a c := by unfold aM; rw [aTr_o (by omega)]
theorem aS_Tr (a : Nat → Int32) (v c : Nat) : aS (aTr a v) c = aS a c := by unfold aS; rw [aTr_o (by omega)]
