/-! numbers: the machine's and the mathematical ones -/
theorem v_add {x y : Int32} (h1 : -2147483648 ≤ x.toInt + y.toInt) (h2 : x.toInt + y.toInt < 2147483648) : (x + y).toInt = x.toInt + y.toInt := by
  rw [Int32.toInt_add]
  exact Int.bmod_eq_of_le_mul_two (by omega) (by omega)
theorem v_sub {x y : Int32} (h1 : -2147483648 ≤ x.toInt - y.toInt) (h2 : x.toInt - y.toInt < 2147483648) : (x - y).toInt = x.toInt - y.toInt := by
  rw [Int32.toInt_sub]
  exact Int.bmod_eq_of_le_mul_two (by omega) (by omega)
theorem v_mul {x y : Int32} (h1 : -2147483648 ≤ x.toInt * y.toInt) (h2 : x.toInt * y.toInt < 2147483648) : (x * y).toInt = x.toInt * y.toInt := by
  rw [Int32.toInt_mul]
  exact Int.bmod_eq_of_le_mul_two (by omega) (by omega)
theorem l_add {x y : Int64} (h1 : -9223372036854775808 ≤ x.toInt + y.toInt) (h2 : x.toInt + y.toInt < 9223372036854775808) : (x + y).toInt = x.toInt + y.toInt := by
  rw [Int64.toInt_add]
  exact Int.bmod_eq_of_le_mul_two (by omega) (by omega)
theorem l_sub {x y : Int64} (h1 : -9223372036854775808 ≤ x.toInt - y.toInt) (h2 : x.toInt - y.toInt < 9223372036854775808) : (x - y).toInt = x.toInt - y.toInt := by
  rw [Int64.toInt_sub]
  exact Int.bmod_eq_of_le_mul_two (by omega) (by omega)
theorem l_mul {x y : Int64} (h1 : -9223372036854775808 ≤ x.toInt * y.toInt) (h2 : x.toInt * y.toInt < 9223372036854775808) : (x * y).toInt = x.toInt * y.toInt := by
  rw [Int64.toInt_mul]
  exact Int.bmod_eq_of_le_mul_two (by omega) (by omega)
theorem v_half {x : Int32} (h0 : 0 ≤ x.toInt) : (x / 2).toInt = x.toInt / 2 := by
  have h2 := Int32.toInt_lt x
  rw [Int32.toInt_div, show (2 : Int32).toInt = 2 by decide, Int.tdiv_eq_ediv_of_nonneg h0]
  exact Int.bmod_eq_of_le_mul_two (by omega) (by omega)
theorem l_half {x : Int64} (h0 : 0 ≤ x.toInt) : (x / 2).toInt = x.toInt / 2 := by
  have h2 := Int64.toInt_lt x
  rw [Int64.toInt_div, show (2 : Int64).toInt = 2 by decide, Int.tdiv_eq_ediv_of_nonneg h0]
  exact Int.bmod_eq_of_le_mul_two (by omega) (by omega)
theorem l_to32 {y : Int64} (h1 : -2147483648 ≤ y.toInt) (h2 : y.toInt < 2147483648) : y.toInt32.toInt = y.toInt := by
  rw [Int64.toInt_toInt32]
  exact Int.bmod_eq_of_le_mul_two (by omega) (by omega)
theorem v_eq {x y : Int32} (h : x.toInt = y.toInt) : x = y := Int32.toInt_inj.mp h
theorem l_eq {x y : Int64} (h : x.toInt = y.toInt) : x = y := Int64.toInt_inj.mp h
theorem l_to {x : Int32} {y : Int64} (h : x.toInt = y.toInt) : y.toInt32 = x := by
  apply v_eq
  have h1 := Int32.le_toInt x
  have h2 := Int32.toInt_lt x
  rw [l_to32 (by omega) (by omega), h]
theorem nI_int {n : Nat} (h : n < 2147483648) : (nI n).toInt = (n : Int) := nI_toInt h
def zP (z : Int) : Nat := if z < 0 then 0 else if 32768 ≤ z then 7 else z.toNat / 4096
theorem zP_lt (z : Int) : zP z < 8 := by
  unfold zP
  split
  · decide
  · split
    · decide
    · omega
theorem nPiece_z (x : Int32) : nPiece x = zP x.toInt := by
  unfold nPiece jPiece zP
  have e0 : (0 : Int32).toInt = 0 := by decide
  have e1 : (32768 : Int32).toInt = 32768 := by decide
  by_cases h0 : 0 ≤ x
  · have a0 := Int32.le_iff_toInt_le.mp h0
    rw [e0] at a0
    rw [if_pos h0, if_neg (show ¬ x.toInt < 0 by omega)]
    by_cases h1 : (32768 : Int32) ≤ x
    · have a1 := Int32.le_iff_toInt_le.mp h1
      rw [e1] at a1
      rw [if_pos h1, if_pos a1]
      decide
    · have a1 : ¬ 32768 ≤ x.toInt := fun q => h1 (Int32.le_iff_toInt_le.mpr (by rw [e1]; exact q))
      rw [if_neg h1, if_neg a1]
      obtain ⟨j, hj, rfl⟩ := nI_of (x := x) (fun q => by have := Int32.lt_iff_toInt_lt.mp q; omega)
      rw [nI_toInt hj] at a1 ⊢
      have e : nI j / 4096 = nI (j / 4096) := pk_div (d := 4096) hj (by decide) (by decide)
      rw [e, nI_clamp (by omega)]
      omega
  · have a0 : ¬ 0 ≤ x.toInt := fun q => h0 (Int32.le_iff_toInt_le.mpr (by rw [e0]; exact q))
    rw [if_neg h0, if_pos (show x.toInt < 0 by omega)]
    decide
theorem pPiece_z (x : Int64) : pPiece x = zP x.toInt := by
  unfold pPiece lPiece zP
  have e0 : (0 : Int64).toInt = 0 := by decide
  have e1 : (32768 : Int64).toInt = 32768 := by decide
  by_cases h0 : 0 ≤ x
  · have a0 := Int64.le_iff_toInt_le.mp h0
    rw [e0] at a0
    rw [if_pos h0, if_neg (show ¬ x.toInt < 0 by omega)]
    by_cases h1 : x < (32768 : Int64)
    · have a1 := Int64.lt_iff_toInt_lt.mp h1
      rw [e1] at a1
      rw [if_pos h1, if_neg (show ¬ 32768 ≤ x.toInt by omega)]
      obtain ⟨j, hj, rfl⟩ := pk_lOf (x := x) (fun q => by have := Int64.lt_iff_toInt_lt.mp q; omega)
      rw [pk_lT hj] at a1 ⊢
      have e : lN j / 4096 = lN (j / 4096) := pk_lDiv (b := 4096) hj (by decide) (by decide)
      rw [e, lN_i, nI_clamp (by omega)]
      omega
    · have a1 : ¬ x.toInt < 32768 := fun q => h1 (Int64.lt_iff_toInt_lt.mpr (by rw [e1]; exact q))
      rw [if_neg h1, if_pos (show 32768 ≤ x.toInt by omega)]
      decide
  · have a0 : ¬ 0 ≤ x.toInt := fun q => h0 (Int64.le_iff_toInt_le.mpr (by rw [e0]; exact q))
    rw [if_neg h0, if_pos (show x.toInt < 0 by omega)]
    decide
theorem sq_le {a b : Int} (ha : 0 ≤ a) (hb : 0 ≤ b) : a ≤ b ↔ a * a ≤ b * b := by
  constructor
  · intro h
    exact Int.mul_le_mul h h ha hb
  · intro h
    rcases Int.lt_or_le b a with q | q
    · exfalso
      have h1 : (b + 1) * (b + 1) ≤ a * a := Int.mul_le_mul q q (by omega) ha
      have e : (b + 1) * (b + 1) = b * b + 2 * b + 1 := by
        rw [Int.add_mul, Int.mul_add]
        omega
      omega
    · exact q
theorem sq_b {a c : Int} (ha : 0 ≤ a) (hc : a ≤ c) : 0 ≤ a * a ∧ a * a ≤ c * c := ⟨Int.mul_nonneg ha ha, Int.mul_le_mul hc hc ha (Int.le_trans ha hc)⟩
-- the state of safety, over the integers
def zC (li : Nat → Int) (r : Int) (i : Nat) : Int := li i * li i + 12 * (if i ≤ zP r then 0 else 4096 * (i : Int) - r)
def rB (r : Int) : Prop := -30000 ≤ r ∧ r ≤ 110000000
def kB (k : zTk) : Prop := ∀ i, i < 8 → 8 ≤ (kli k i).toInt ∧ (kli k i).toInt ≤ 320
theorem cand_z {k : zTk} {r : Int32} (hk : kB k) (hr : rB r.toInt) {i : Nat} (hi : i < 8) : (kli k i * kli k i + 12 * jWay i r).toInt = zC (fun j => (kli k j).toInt) r.toInt i := by
  obtain ⟨h1, h2⟩ := hk i hi
  obtain ⟨q1, q2⟩ := sq_b (by omega : (0 : Int) ≤ (kli k i).toInt) h2
  have e1 : (kli k i * kli k i).toInt = (kli k i).toInt * (kli k i).toInt := v_mul (by omega) (by omega)
  have e12 : (12 : Int32).toInt = 12 := by decide
  have ew : (jWay i r).toInt = if i ≤ zP r.toInt then 0 else 4096 * (i : Int) - r.toInt := by
    unfold jWay
    have hz := zP_lt r.toInt
    rw [nPiece_z]
    by_cases hc : i ≤ zP r.toInt
    · rw [if_pos ((nI_leI (by omega) (by omega)).mpr hc), if_pos hc]
      decide
    · rw [if_neg (fun q => hc ((nI_leI (by omega) (by omega)).mp q)), if_neg hc]
      have e4 : (4096 : Int32).toInt = 4096 := by decide
      have em : (nI i * 4096).toInt = 4096 * (i : Int) := by
        rw [v_mul (by rw [nI_int (by omega), e4]; omega) (by rw [nI_int (by omega), e4]; omega), nI_int (by omega), e4]
        omega
      rw [v_sub (by rw [em]; have := hr.2; omega) (by rw [em]; have := hr.1; omega), em]
  have hwb : -111000000 ≤ (jWay i r).toInt ∧ (jWay i r).toInt ≤ 70000 := by
    rw [ew]
    obtain ⟨b1, b2⟩ := hr
    split <;> omega
  have e2 : (12 * jWay i r).toInt = 12 * (jWay i r).toInt := by
    rw [v_mul (by rw [e12]; omega) (by rw [e12]; omega), e12]
  have q3 : (kli k i).toInt * (kli k i).toInt ≤ 102400 := by
    have : (320 : Int) * 320 = 102400 := by decide
    omega
  rw [v_add (by rw [e1, e2]; omega) (by rw [e1, e2]; omega), e1, e2, ew]
  rfl
theorem mn_z (x y : Int32) (v : Int) : v ≤ (mn x y).toInt ↔ v ≤ x.toInt ∧ v ≤ y.toInt := by
  unfold mn
  by_cases h : y < x
  · have := Int32.lt_iff_toInt_lt.mp h
    rw [if_pos h]
    omega
  · have : ¬ y.toInt < x.toInt := fun q => h (Int32.lt_iff_toInt_lt.mpr q)
    rw [if_neg h]
    omega
theorem gssL_z {k : zTk} {r : Int32} (hk : kB k) (hr : rB r.toInt) (v : Int) : ∀ (j i : Nat) (q : Int32), i + j ≤ 8 → (v ≤ (gssL k r j i q).toInt ↔ v ≤ q.toInt ∧ ∀ i', i ≤ i' → i' < i + j → v ≤ zC (fun j => (kli k j).toInt) r.toInt i') := by
  intro j
  induction j with
  | zero =>
    intro i q _
    constructor
    · intro h; exact ⟨h, fun i' h1 h2 => absurd h2 (by omega)⟩
    · intro h; exact h.1
  | succ j ih =>
    intro i q hi
    show v ≤ (gssL k r j (i + 1) (mn q (kli k i * kli k i + 12 * jWay i r))).toInt ↔ _
    rw [ih (i + 1) _ (by omega), mn_z, cand_z hk hr (by omega)]
    constructor
    · rintro ⟨⟨h1, h2⟩, h3⟩
      refine ⟨h1, fun i' h4 h5 => ?_⟩
      rcases Nat.eq_or_lt_of_le h4 with e | e
      · subst e; exact h2
      · exact h3 i' e (by omega)
    · rintro ⟨h1, h2⟩
      exact ⟨⟨h1, h2 i (Nat.le_refl i) (by omega)⟩, fun i' h4 h5 => h2 i' (by omega) (by omega)⟩
theorem gss_z {k : zTk} {au r t : Int32} (hk : kB k) (hr : rB r.toInt) (ha : -30000 ≤ au.toInt ∧ au.toInt ≤ 110000000) (v : Int) : v ≤ (gss k au r t).toInt ↔ v ≤ 12 * (au.toInt - r.toInt) ∧ ∀ i', zP t.toInt ≤ i' → i' < 8 → v ≤ zC (fun j => (kli k j).toInt) r.toInt i' := by
  unfold gss
  have hz := zP_lt t.toInt
  obtain ⟨b1, b2⟩ := hr
  have e12 : (12 : Int32).toInt = 12 := by decide
  have es : (au - r).toInt = au.toInt - r.toInt := v_sub (by omega) (by omega)
  have em : (12 * (au - r)).toInt = 12 * (au.toInt - r.toInt) := by
    rw [v_mul (by rw [e12, es]; omega) (by rw [e12, es]; omega), e12, es]
  rw [nPiece_z, gssL_z hk ⟨b1, b2⟩ v _ _ _ (by omega), em]
  constructor
  · rintro ⟨h1, h2⟩; exact ⟨h1, fun i' h3 h4 => h2 i' h3 (by omega)⟩
  · rintro ⟨h1, h2⟩; exact ⟨h1, fun i' h3 h4 => h2 i' h3 (by omega)⟩
