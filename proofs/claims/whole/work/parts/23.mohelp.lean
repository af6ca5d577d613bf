theorem tr4_of {m : Nat} (h : ¬ nI m = 4) (hm : m ≤ 4) : m < 4 := by
  rcases Nat.lt_or_ge m 4 with q | q
  · exact q
  · have : m = 4 := by omega
    subst this
    exact absurd rfl h
theorem tr4_of1 {m : Nat} (h : ¬ nI m = 4) (hm : m ≤ 4) : m - 1 < 4 := Nat.lt_of_le_of_lt (Nat.sub_le m 1) (tr4_of h hm)
theorem yTake_me {M : zMo} {k : Nat} : xme (m5 (yTake M k)) = xme (m5 M) := by
  unfold yTake
  split <;> split <;> rfl
theorem yTake_m4 {M : zMo} {k : Nat} : m4 (yTake M k) = m4 M := by
  unfold yTake
  split <;> split <;> rfl
theorem yDT_me {M : zMo} {k : Nat} : xme (m5 (yDrop (yTake M k) k)) = xme (m5 M) - 1 := by
  show xme (m5 (yTake M k)) - 1 = _
  rw [yTake_me]
theorem yShL_mt : ∀ (j i : Nat) (u : zM4) (q : Nat), xmt (yShL j i u) q = if i ≤ q ∧ q < i + j then xmt u (q + 1) else xmt u q := by
  intro j
  induction j with
  | zero => intro i u q; rw [if_neg (by omega)]; rfl
  | succ j ih =>
    intro i u q
    show xmt (yShL j (i + 1) (yShift u i)) q = _
    rw [ih]
    by_cases h1 : i + 1 ≤ q ∧ q < i + 1 + j
    · rw [if_pos h1, if_pos (by omega)]
      show va_up (xmt u) i (xmt u (i + 1)) (q + 1) = _
      rw [va_up_ne _ _ (by omega)]
    · rw [if_neg h1]
      by_cases h2 : q = i
      · subst h2
        rw [if_pos (by omega)]
        show va_up (xmt u) q (xmt u (q + 1)) q = _
        rw [va_up_self]
      · rw [if_neg (by omega)]
        show va_up (xmt u) i (xmt u (i + 1)) q = _
        rw [va_up_ne _ _ h2]
theorem yDT_ok {M : zMo} {k : Nat} (hI : ∀ j, j < xme (m5 M) → xmt (m4 M) j < 4) : ∀ j, j < xme (m5 (yDrop (yTake M k) k)) → xmt (m4 (yDrop (yTake M k) k)) j < 4 := by
  intro j hj
  rw [yDT_me] at hj
  show xmt (yShL (xme (m5 (yTake M k)) - 1 - k) k (m4 (yTake M k))) j < 4
  rw [yShL_mt, yTake_m4]
  split
  · exact hI _ (by omega)
  · exact hI _ (by omega)
