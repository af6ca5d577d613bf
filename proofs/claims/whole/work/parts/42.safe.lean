/-! safe states: class and reference -/
def lB (M : zMo) : Prop := ∀ i, i < 8 → 1 ≤ (xli (m1 M) i).toInt ∧ (xli (m1 M) i).toInt ≤ 40
theorem yLim_z {M : zMo} (hl : lB M) {i : Nat} (hi : i < 8) : (yLim M i).toInt = 8 * (xli (m1 M) i).toInt := by
  obtain ⟨h1, h2⟩ := hl i hi
  have e8 : (8 : Int64).toInt = 8 := by decide
  show (8 * (xli (m1 M) i).toInt64).toInt = _
  rw [l_mul (by rw [e8, Int32.toInt_toInt64]; omega) (by rw [e8, Int32.toInt_toInt64]; omega), e8, Int32.toInt_toInt64]
theorem safL_z {M : zMo} {v r : Int64} (hl : lB M) (hr : rB r.toInt) (hv : 0 ≤ v.toInt ∧ v.toInt ≤ 46000) : ∀ (j i : Nat), i + j ≤ 8 → (safL M v r j i = true ↔ ∀ i', i ≤ i' → i' < i + j → v.toInt * v.toInt ≤ zC (fun j => 8 * (xli (m1 M) j).toInt) r.toInt i') := by
  intro j
  induction j with
  | zero => intro i _; exact ⟨fun _ i' h1 h2 => absurd h2 (by omega), fun _ => rfl⟩
  | succ j ih =>
    intro i hi
    obtain ⟨l1, l2⟩ := hl i (by omega)
    have el := yLim_z hl (i := i) (by omega)
    obtain ⟨b1, b2⟩ := hr
    obtain ⟨w1, w2⟩ := hv
    obtain ⟨s1, s2⟩ := sq_b w1 w2
    have e46 : (46000 : Int) * 46000 = 2116000000 := by decide
    obtain ⟨s3, s4⟩ := sq_b (show (0 : Int) ≤ 8 * (xli (m1 M) i).toInt by omega) (show 8 * (xli (m1 M) i).toInt ≤ 320 by omega)
    have e32 : (320 : Int) * 320 = 102400 := by decide
    have hz := zP_lt r.toInt
    have head : (if nI i ≤ nI (pPiece r) then (if v ≤ yLim M i then safL M v r j (i + 1) else false) else (if v * v ≤ yLim M i * yLim M i + 12 * (4096 * (nI i).toInt64 - r) then safL M v r j (i + 1) else false)) = true ↔ v.toInt * v.toInt ≤ zC (fun j => 8 * (xli (m1 M) j).toInt) r.toInt i ∧ safL M v r j (i + 1) = true := by
      rw [pPiece_z]
      by_cases hc : i ≤ zP r.toInt
      · rw [if_pos ((nI_leI (by omega) (by omega)).mpr hc)]
        have e : zC (fun j => 8 * (xli (m1 M) j).toInt) r.toInt i = 8 * (xli (m1 M) i).toInt * (8 * (xli (m1 M) i).toInt) := by
          unfold zC
          rw [if_pos hc]
          show 8 * (xli (m1 M) i).toInt * (8 * (xli (m1 M) i).toInt) + 12 * 0 = _
          omega
        rw [e, ← sq_le w1 (by omega)]
        by_cases h : v ≤ yLim M i
        · have := Int64.le_iff_toInt_le.mp h
          rw [el] at this
          rw [if_pos h]
          exact ⟨fun q => ⟨this, q⟩, fun q => q.2⟩
        · rw [if_neg h]
          constructor
          · intro q; cases q
          · intro q
            exact absurd (Int64.le_iff_toInt_le.mpr (by rw [el]; exact q.1)) h
      · rw [if_neg (fun q => hc ((nI_leI (by omega) (by omega)).mp q))]
        have e12 : (12 : Int64).toInt = 12 := by decide
        have e4 : (4096 : Int64).toInt = 4096 := by decide
        have ei : (nI i).toInt64.toInt = (i : Int) := by rw [Int32.toInt_toInt64, nI_int (by omega)]
        have em : (4096 * (nI i).toInt64).toInt = 4096 * (i : Int) := by
          rw [l_mul (by rw [e4, ei]; omega) (by rw [e4, ei]; omega), e4, ei]
        have es : (4096 * (nI i).toInt64 - r).toInt = 4096 * (i : Int) - r.toInt := by
          rw [l_sub (by rw [em]; omega) (by rw [em]; omega), em]
        have et : (12 * (4096 * (nI i).toInt64 - r)).toInt = 12 * (4096 * (i : Int) - r.toInt) := by
          rw [l_mul (by rw [e12, es]; omega) (by rw [e12, es]; omega), e12, es]
        have eq : (yLim M i * yLim M i).toInt = 8 * (xli (m1 M) i).toInt * (8 * (xli (m1 M) i).toInt) := by
          rw [l_mul (by rw [el]; omega) (by rw [el]; omega), el]
        have ev : (v * v).toInt = v.toInt * v.toInt := l_mul (by omega) (by omega)
        have ea : (yLim M i * yLim M i + 12 * (4096 * (nI i).toInt64 - r)).toInt = zC (fun j => 8 * (xli (m1 M) j).toInt) r.toInt i := by
          rw [l_add (by rw [eq, et]; omega) (by rw [eq, et]; omega), eq, et]
          unfold zC
          rw [if_neg hc]
        by_cases h : v * v ≤ yLim M i * yLim M i + 12 * (4096 * (nI i).toInt64 - r)
        · have := Int64.le_iff_toInt_le.mp h
          rw [ev, ea] at this
          rw [if_pos h]
          exact ⟨fun q => ⟨this, q⟩, fun q => q.2⟩
        · rw [if_neg h]
          constructor
          · intro q; cases q
          · intro q
            exact absurd (Int64.le_iff_toInt_le.mpr (by rw [ev, ea]; exact q.1)) h
    show (if nI i ≤ nI (pPiece r) then (if v ≤ yLim M i then safL M v r j (i + 1) else false) else (if v * v ≤ yLim M i * yLim M i + 12 * (4096 * (nI i).toInt64 - r) then safL M v r j (i + 1) else false)) = true ↔ _
    rw [head, ih (i + 1) (by omega)]
    constructor
    · rintro ⟨h1, h2⟩ i' h3 h4
      rcases Nat.eq_or_lt_of_le h3 with e | e
      · subst e; exact h1
      · exact h2 i' e (by omega)
    · intro h
      exact ⟨h i (Nat.le_refl i) (by omega), fun i' h3 h4 => h i' (by omega) (by omega)⟩
def kR (k : zTk) (M : zMo) : Prop := ∀ i, i < 8 → (kli k i).toInt = 8 * (xli (m1 M) i).toInt ∧ kgr k i = xgr (m1 M) i
theorem kB_of {k : zTk} {M : zMo} (hk : kR k M) (hl : lB M) : kB k := by
  intro i hi
  have := (hk i hi).1
  obtain ⟨h1, h2⟩ := hl i hi
  omega
theorem zC_eq {f g : Nat → Int} {r : Int} {i : Nat} (h : f i = g i) : zC f r i = zC g r i := by
  unfold zC
  rw [h]
theorem safe_eq {k : zTk} {M : zMo} {t : Nat} {v au r ta : Int32} {v' r' ta' : Int64} (hk : kR k M) (hl : lB M) (hv : v.toInt = v'.toInt) (hv0 : 0 ≤ v.toInt ∧ v.toInt ≤ 46000) (ha : au.toInt = (xau (m3 M) t).toInt) (hab : -30000 ≤ au.toInt ∧ au.toInt ≤ 110000000) (hr : r.toInt = r'.toInt) (hrb : rB r.toInt) (ht : ta.toInt = ta'.toInt) (hs : ¬ xas (m3 M) t = 0) : v * v ≤ gss k au r ta ↔ ySafe M t v' r' ta' = true := by
  obtain ⟨s1, s2⟩ := sq_b hv0.1 hv0.2
  have e46 : (46000 : Int) * 46000 = 2116000000 := by decide
  have ev : (v * v).toInt = v.toInt * v.toInt := v_mul (by omega) (by omega)
  have ev' : (v' * v').toInt = v.toInt * v.toInt := by
    rw [l_mul (by rw [← hv]; omega) (by rw [← hv]; omega), ← hv]
  have e12 : (12 : Int64).toInt = 12 := by decide
  obtain ⟨b1, b2⟩ := hrb
  have es : (xau (m3 M) t - r').toInt = au.toInt - r.toInt := by
    rw [l_sub (by rw [← ha, ← hr]; omega) (by rw [← ha, ← hr]; omega), ← ha, ← hr]
  have em : (12 * (xau (m3 M) t - r')).toInt = 12 * (au.toInt - r.toInt) := by
    rw [l_mul (by rw [e12, es]; omega) (by rw [e12, es]; omega), e12, es]
  have hz := zP_lt ta.toInt
  rw [Int32.le_iff_toInt_le, ev, gss_z (kB_of hk hl) ⟨b1, b2⟩ hab]
  unfold ySafe
  rw [if_neg hs, pPiece_z, ← ht]
  by_cases h : v' * v' ≤ 12 * (xau (m3 M) t - r')
  · have h1 := Int64.le_iff_toInt_le.mp h
    rw [ev', em] at h1
    rw [if_pos h, safL_z hl (by rw [← hr]; exact ⟨b1, b2⟩) (by rw [← hv]; exact hv0) _ _ (by omega), ← hv, ← hr]
    constructor
    · rintro ⟨-, q⟩ i' h2 h3
      rw [← zC_eq (f := fun j => (kli k j).toInt) (hk i' (by omega)).1]
      exact q i' h2 (by omega)
    · intro q
      refine ⟨h1, fun i' h2 h3 => ?_⟩
      rw [zC_eq (g := fun j => 8 * (xli (m1 M) j).toInt) (hk i' (by omega)).1]
      exact q i' h2 (by omega)
  · rw [if_neg h]
    constructor
    · rintro ⟨q, -⟩
      exact absurd (Int64.le_iff_toInt_le.mpr (by rw [ev', em]; exact q)) h
    · intro q; cases q
