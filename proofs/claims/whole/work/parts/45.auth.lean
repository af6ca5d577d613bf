/-! authorities: class and reference -/
def yR (y : zWy) (M : zMo) : Prop := (∀ h, h < 4 → (ypl y h).toInt = (xho (m1 M) h).toInt ∧ 0 ≤ (ypl y h).toInt ∧ (ypl y h).toInt ≤ 32768 ∧ ycl y h = xhc (m1 M) h) ∧ ∀ z, z < 2 → yup y z = !(xdn (m1 M) z)
def mBd (x : Int) : Prop := -19000 ≤ x ∧ x ≤ 110000000
def rR (n : Nat) (T : zTr) (M : zMo) (t : Nat) : Prop := csp (trp T) = xrs (m3 M) t ∧ ∃ s : Nat, s ≤ n ∧ csp (trp T) = nI s ∧ (s = 0 → xsr (m3 M) t = -1 ∧ xst (m3 M) t = -1) ∧ (0 < s → (cf1 (trp T)).toInt = (xsr (m3 M) t).toInt ∧ (cf2 (trp T)).toInt = (xst (m3 M) t).toInt ∧ mBd (cf1 (trp T)).toInt ∧ mBd (cf2 (trp T)).toInt)
theorem eq_of_le {a b : Int} (h : ∀ v : Int, v ≤ a ↔ v ≤ b) : a = b := Int.le_antisymm ((h a).mp (Int.le_refl a)) ((h b).mpr (Int.le_refl b))
theorem endL_z {y : zWy} {r : Int32} (v : Int) : ∀ (j i : Nat) (q : Int32), v ≤ (endL y r j i q).toInt ↔ v ≤ q.toInt ∧ ∀ h, i ≤ h → h < i + j → ycl y h = true → r.toInt ≤ (ypl y h).toInt → v ≤ (ypl y h).toInt := by
  intro j
  induction j with
  | zero => intro i q; exact ⟨fun h => ⟨h, fun h' a b => absurd b (by omega)⟩, fun h => h.1⟩
  | succ j ih =>
    intro i q
    show v ≤ (endL y r j (i + 1) (if bI (ycl y i) = 0 then q else if ypl y i < r then q else mn q (ypl y i))).toInt ↔ _
    rw [ih]
    have head : v ≤ (if bI (ycl y i) = 0 then q else if ypl y i < r then q else mn q (ypl y i)).toInt ↔ v ≤ q.toInt ∧ (ycl y i = true → r.toInt ≤ (ypl y i).toInt → v ≤ (ypl y i).toInt) := by
      by_cases h1 : bI (ycl y i) = 0
      · rw [if_pos h1]
        have := bI_0.mp h1
        exact ⟨fun q => ⟨q, fun w => by rw [this] at w; cases w⟩, fun q => q.1⟩
      · rw [if_neg h1]
        have hc : ycl y i = true := by
          cases hq : ycl y i with
          | true => rfl
          | false => exact absurd (bI_0.mpr hq) h1
        by_cases h2 : ypl y i < r
        · have := Int32.lt_iff_toInt_lt.mp h2
          rw [if_pos h2]
          exact ⟨fun q => ⟨q, fun _ w => absurd w (by omega)⟩, fun q => q.1⟩
        · have h3 : ¬ (ypl y i).toInt < r.toInt := fun q => h2 (Int32.lt_iff_toInt_lt.mpr q)
          rw [if_neg h2, mn_z]
          exact ⟨fun q => ⟨q.1, fun _ _ => q.2⟩, fun q => ⟨q.1, q.2 hc (by omega)⟩⟩
    rw [head]
    constructor
    · rintro ⟨⟨h1, h2⟩, h3⟩
      refine ⟨h1, fun h a b c d => ?_⟩
      rcases Nat.eq_or_lt_of_le a with e | e
      · subst e; exact h2 c d
      · exact h3 h e (by omega) c d
    · rintro ⟨h1, h2⟩
      exact ⟨⟨h1, h2 i (Nat.le_refl i) (by omega)⟩, fun h a b => h2 h (by omega) (by omega)⟩
theorem end0_z {y : zWy} {r : Int32} (v : Int) : v ≤ (end0 y r).toInt ↔ v ≤ 32768 ∧ (r.toInt < 16384 → yup y 1 = false → v ≤ 16384) := by
  have c1 : (16384 : Int32).toInt = 16384 := by decide
  have c2 : (32768 : Int32).toInt = 32768 := by decide
  unfold end0
  by_cases h : 16384 ≤ r
  · have := Int32.le_iff_toInt_le.mp h
    rw [c1] at this
    rw [if_pos h, c2]
    exact ⟨fun q => ⟨q, fun w => absurd w (by omega)⟩, fun q => q.1⟩
  · have h1 : ¬ 16384 ≤ r.toInt := fun q => h (Int32.le_iff_toInt_le.mpr (by rw [c1]; exact q))
    rw [if_neg h]
    by_cases h2 : bI (yup y 1) = 0
    · have := bI_0.mp h2
      rw [if_pos h2, c1]
      exact ⟨fun q => ⟨by omega, fun _ _ => q⟩, fun q => q.2 (by omega) this⟩
    · rw [if_neg h2, c2]
      exact ⟨fun q => ⟨q, fun _ w => absurd (bI_0.mpr w) h2⟩, fun q => q.1⟩
def bz (S : zMB) (o : Nat) : Int := if bI (cTaken (trp (sT S o))) = 0 then 0 else (cf2 (trp (sT S o))).toInt - 64
theorem behL_z {S : zMB} (hB : ∀ o, o < 4 → ¬ bI (cTaken (trp (sT S o))) = 0 → mBd (cf2 (trp (sT S o))).toInt) (v : Int) : ∀ (j i : Nat) (q : Int32), i + j ≤ 4 → (v ≤ (behL S j i q).toInt ↔ v ≤ q.toInt ∧ ∀ o, i ≤ o → o < i + j → v ≤ bz S o) := by
  intro j
  induction j with
  | zero => intro i q _; exact ⟨fun h => ⟨h, fun h' a b => absurd b (by omega)⟩, fun h => h.1⟩
  | succ j ih =>
    intro i q hi
    show v ≤ (behL S j (i + 1) (mn q (if bI (cTaken (trp (sT S i))) = 0 then 0 else cf2 (trp (sT S i)) - 64))).toInt ↔ _
    have e : (if bI (cTaken (trp (sT S i))) = 0 then (0 : Int32) else cf2 (trp (sT S i)) - 64).toInt = bz S i := by
      unfold bz
      by_cases h : bI (cTaken (trp (sT S i))) = 0
      · rw [if_pos h, if_pos h]; decide
      · rw [if_neg h, if_neg h]
        obtain ⟨b1, b2⟩ := hB i (by omega) h
        have c : (64 : Int32).toInt = 64 := by decide
        rw [v_sub (by rw [c]; omega) (by rw [c]; omega), c]
    rw [ih (i + 1) _ (by omega), mn_z, e]
    constructor
    · rintro ⟨⟨h1, h2⟩, h3⟩
      refine ⟨h1, fun h a b => ?_⟩
      rcases Nat.eq_or_lt_of_le a with e | e
      · subst e; exact h2
      · exact h3 h e (by omega)
    · rintro ⟨h1, h2⟩
      exact ⟨⟨h1, h2 i (Nat.le_refl i) (by omega)⟩, fun h a b => h2 h (by omega) (by omega)⟩
theorem wkL1_z {M : zMo} {r : Int64} (v : Int) : ∀ (j i : Nat) (q : Int64), v ≤ (wkL1 M r j i q).toInt ↔ v ≤ q.toInt ∧ ∀ h, i ≤ h → h < i + j → xhc (m1 M) h = true → r.toInt ≤ (xho (m1 M) h).toInt → v ≤ (xho (m1 M) h).toInt := by
  intro j
  induction j with
  | zero => intro i q; exact ⟨fun h => ⟨h, fun h' a b => absurd b (by omega)⟩, fun h => h.1⟩
  | succ j ih =>
    intro i q
    show v ≤ (wkL1 M r j (i + 1) (if bI (xhc (m1 M) i) = 0 then q else if xho (m1 M) i < r then q else if q ≤ xho (m1 M) i then q else xho (m1 M) i)).toInt ↔ _
    rw [ih]
    have head : v ≤ (if bI (xhc (m1 M) i) = 0 then q else if xho (m1 M) i < r then q else if q ≤ xho (m1 M) i then q else xho (m1 M) i).toInt ↔ v ≤ q.toInt ∧ (xhc (m1 M) i = true → r.toInt ≤ (xho (m1 M) i).toInt → v ≤ (xho (m1 M) i).toInt) := by
      by_cases h1 : bI (xhc (m1 M) i) = 0
      · rw [if_pos h1]
        have := bI_0.mp h1
        exact ⟨fun q => ⟨q, fun w => by rw [this] at w; cases w⟩, fun q => q.1⟩
      · rw [if_neg h1]
        have hc : xhc (m1 M) i = true := by
          cases hq : xhc (m1 M) i with
          | true => rfl
          | false => exact absurd (bI_0.mpr hq) h1
        by_cases h2 : xho (m1 M) i < r
        · have := Int64.lt_iff_toInt_lt.mp h2
          rw [if_pos h2]
          exact ⟨fun q => ⟨q, fun _ w => absurd w (by omega)⟩, fun q => q.1⟩
        · have h3 : ¬ (xho (m1 M) i).toInt < r.toInt := fun q => h2 (Int64.lt_iff_toInt_lt.mpr q)
          rw [if_neg h2]
          by_cases h4 : q ≤ xho (m1 M) i
          · have := Int64.le_iff_toInt_le.mp h4
            rw [if_pos h4]
            exact ⟨fun q => ⟨q, fun _ _ => by omega⟩, fun q => q.1⟩
          · have h5 : ¬ q.toInt ≤ (xho (m1 M) i).toInt := fun w => h4 (Int64.le_iff_toInt_le.mpr w)
            rw [if_neg h4]
            exact ⟨fun q => ⟨by omega, fun _ _ => q⟩, fun q => q.2 hc (by omega)⟩
    rw [head]
    constructor
    · rintro ⟨⟨h1, h2⟩, h3⟩
      refine ⟨h1, fun h a b c d => ?_⟩
      rcases Nat.eq_or_lt_of_le a with e | e
      · subst e; exact h2 c d
      · exact h3 h e (by omega) c d
    · rintro ⟨h1, h2⟩
      exact ⟨⟨h1, h2 i (Nat.le_refl i) (by omega)⟩, fun h a b => h2 h (by omega) (by omega)⟩
theorem wkMid_z {M : zMo} {r q : Int64} (v : Int) : v ≤ (wkMid M r q).toInt ↔ v ≤ q.toInt ∧ (r.toInt < 16384 → xdn (m1 M) 1 = true → v ≤ 16384) := by
  have c1 : (16384 : Int64).toInt = 16384 := by decide
  unfold wkMid
  by_cases h : 16384 ≤ r
  · have := Int64.le_iff_toInt_le.mp h
    rw [c1] at this
    rw [if_pos h]
    exact ⟨fun q => ⟨q, fun w => absurd w (by omega)⟩, fun q => q.1⟩
  · have h1 : ¬ 16384 ≤ r.toInt := fun q => h (Int64.le_iff_toInt_le.mpr (by rw [c1]; exact q))
    rw [if_neg h]
    by_cases h2 : bI (xdn (m1 M) 1) = 0
    · have := bI_0.mp h2
      rw [if_pos h2]
      exact ⟨fun q => ⟨q, fun _ w => by rw [this] at w; cases w⟩, fun q => q.1⟩
    · have hd : xdn (m1 M) 1 = true := by
        cases hq : xdn (m1 M) 1 with
        | true => rfl
        | false => exact absurd (bI_0.mpr hq) h2
      rw [if_neg h2]
      by_cases h4 : q ≤ 16384
      · have := Int64.le_iff_toInt_le.mp h4
        rw [c1] at this
        rw [if_pos h4]
        exact ⟨fun q => ⟨q, fun _ _ => by omega⟩, fun q => q.1⟩
      · have h5 : ¬ q.toInt ≤ 16384 := fun w => h4 (Int64.le_iff_toInt_le.mpr (by rw [c1]; exact w))
        rw [if_neg h4, c1]
        exact ⟨fun q => ⟨by omega, fun _ _ => q⟩, fun q => q.2 (by omega) hd⟩
theorem wkL2_z {M : zMo} (v : Int) : ∀ (j i : Nat) (q : Int64), v ≤ (wkL2 M j i q).toInt ↔ v ≤ q.toInt ∧ ∀ o, i ≤ o → o < i + j → v ≤ (wkTo M o).toInt := by
  intro j
  induction j with
  | zero => intro i q; exact ⟨fun h => ⟨h, fun h' a b => absurd b (by omega)⟩, fun h => h.1⟩
  | succ j ih =>
    intro i q
    show v ≤ (wkL2 M j (i + 1) (if q ≤ wkTo M i then q else wkTo M i)).toInt ↔ _
    rw [ih]
    have head : v ≤ (if q ≤ wkTo M i then q else wkTo M i).toInt ↔ v ≤ q.toInt ∧ v ≤ (wkTo M i).toInt := by
      by_cases h4 : q ≤ wkTo M i
      · have := Int64.le_iff_toInt_le.mp h4
        rw [if_pos h4]; omega
      · have h5 : ¬ q.toInt ≤ (wkTo M i).toInt := fun w => h4 (Int64.le_iff_toInt_le.mpr w)
        rw [if_neg h4]; omega
    rw [head]
    constructor
    · rintro ⟨⟨h1, h2⟩, h3⟩
      refine ⟨h1, fun h a b => ?_⟩
      rcases Nat.eq_or_lt_of_le a with e | e
      · subst e; exact h2
      · exact h3 h e (by omega)
    · rintro ⟨h1, h2⟩
      exact ⟨⟨h1, h2 i (Nat.le_refl i) (by omega)⟩, fun h a b => h2 h (by omega) (by omega)⟩
theorem bz_to {n : Nat} {S : zMB} {M : zMo} {o : Nat} (hn : n ≤ 4300) (h : rR n (sT S o) M o) : bz S o = (wkTo M o).toInt ∧ -20000 ≤ bz S o ∧ (¬ bI (cTaken (trp (sT S o))) = 0 → mBd (cf2 (trp (sT S o))).toInt) := by
  obtain ⟨e1, s, hs, e2, h0, h1⟩ := h
  unfold bz wkTo
  rw [← e1]
  by_cases hz : s = 0
  · have ht := (taken_z e2 (by omega)).mpr hz
    rw [if_pos ht, if_pos (by rw [e2]; exact (as_0 (by omega)).mpr hz)]
    exact ⟨by decide, by decide, fun q => absurd ht q⟩
  · have ht : ¬ bI (cTaken (trp (sT S o))) = 0 := fun q => hz ((taken_z e2 (by omega)).mp q)
    obtain ⟨q1, q2, q3, q4⟩ := h1 (by omega)
    have hc : ¬ csp (trp (sT S o)) = 0 := fun q => hz ((as_0 (by omega)).mp (by rw [← e2]; exact q))
    rw [if_neg ht, if_neg hc]
    have c : (64 : Int64).toInt = 64 := by decide
    obtain ⟨b1, b2⟩ := q4
    refine ⟨?_, by omega, fun _ => ⟨b1, b2⟩⟩
    rw [l_sub (by rw [c, ← q2]; omega) (by rw [c, ← q2]; omega), c, ← q2]
theorem auth_z {n : Nat} {S : zMB} {M : zMo} {i : Nat} {r : Int32} (hi : i < 4) (hn : n ≤ 4300) (hy : yR (sy S) M) (hr : ∀ o, o < 4 → rR n (sT S o) M o) (er : r.toInt = (xsr (m3 M) i).toInt) : (mn (endFor (sy S) r) (sBehind S i)).toInt = (yWorked M i).toInt ∧ -20000 ≤ (mn (endFor (sy S) r) (sBehind S i)).toInt ∧ (mn (endFor (sy S) r) (sBehind S i)).toInt ≤ 32768 := by
  have c2 : (32768 : Int32).toInt = 32768 := by decide
  have d2 : (32768 : Int64).toInt = 32768 := by decide
  obtain ⟨y1, y2⟩ := hy
  have hup := y2 1 (by decide)
  have key : ∀ v : Int, v ≤ (mn (endFor (sy S) r) (sBehind S i)).toInt ↔ v ≤ 32768 ∧ (r.toInt < 16384 → yup (sy S) 1 = false → v ≤ 16384) ∧ (∀ h, h < 4 → ycl (sy S) h = true → r.toInt ≤ (ypl (sy S) h).toInt → v ≤ (ypl (sy S) h).toInt) ∧ ∀ o, o < i → v ≤ bz S o := by
    intro v
    unfold endFor sBehind
    rw [mn_z, endL_z, end0_z, behL_z (fun o ho => (bz_to hn (hr o ho)).2.2) v i 0 _ (by omega), c2]
    constructor
    · rintro ⟨⟨⟨h1, h2⟩, h3⟩, -, h4⟩
      exact ⟨h1, h2, fun h a => h3 h (by omega) (by omega), fun o a => h4 o (by omega) (by omega)⟩
    · rintro ⟨h1, h2, h3, h4⟩
      exact ⟨⟨⟨h1, h2⟩, fun h _ b => h3 h (by omega)⟩, h1, fun o _ b => h4 o (by omega)⟩
  refine ⟨eq_of_le (fun v => ?_), ?_, ?_⟩
  · rw [key v]
    unfold yWorked
    rw [wkL2_z, wkMid_z, wkL1_z, d2, ← er]
    constructor
    · rintro ⟨h1, h2, h3, h4⟩
      refine ⟨⟨⟨h1, fun h _ b c d => ?_⟩, fun a b => h2 a (by rw [hup, b]; rfl)⟩, fun o _ b => ?_⟩
      · obtain ⟨e1, -, -, e2⟩ := y1 h (by omega)
        rw [← e1] at d ⊢
        exact h3 h (by omega) (by rw [e2]; exact c) d
      · rw [← (bz_to hn (hr o (by omega))).1]
        exact h4 o (by omega)
    · rintro ⟨⟨⟨h1, h2⟩, h3⟩, h4⟩
      refine ⟨h1, fun a b => h3 a (by rw [hup] at b; cases hq : xdn (m1 M) 1 with | true => rfl | false => rw [hq] at b; cases b), fun h a b c => ?_, fun o a => ?_⟩
      · obtain ⟨e1, -, -, e2⟩ := y1 h a
        rw [e1] at c ⊢
        exact h2 h (by omega) (by omega) (by rw [← e2]; exact b) c
      · rw [(bz_to hn (hr o (by omega))).1]
        exact h4 o (by omega) (by omega)
  · rw [key]
    refine ⟨by omega, fun _ _ => by omega, fun h a _ _ => ?_, fun o a => (bz_to hn (hr o (by omega))).2.1⟩
    obtain ⟨-, e, -, -⟩ := y1 h a
    omega
  · exact ((key _).mp (Int.le_refl _)).1
