theorem ySend_tr {M : zMo} {z : Bool} {t : Nat} {dl : Int32} {f1 f2 : Int64} : xtr (m5 (ySend M z t dl f1 f2)) = xtr (m5 M) := by
  unfold ySend
  split <;> rfl
theorem ySend_me {M : zMo} {z : Bool} {t : Nat} {dl : Int32} {f1 f2 : Int64} : xme (m5 (ySend M z t dl f1 f2)) ≤ xme (m5 M) + 1 := by
  unfold ySend
  split
  · exact Nat.le_succ _
  · exact Nat.le_refl _
