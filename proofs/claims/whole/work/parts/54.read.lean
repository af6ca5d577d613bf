/-! what is read, class against reference -/
theorem yCntL_z {M : zMo} {x : Int32} : ∀ (j i q : Nat), yCntL M x j i (nI q) = nI (q + ((List.range' i j).filter (fun k => decide (nI (xmt (m4 M) k) = x))).length) := by
  intro j
  induction j with
  | zero => intro i q; rfl
  | succ j ih =>
    intro i q
    show yCntL M x j (i + 1) (if nI (xmt (m4 M) i) = x then nI q + 1 else nI q) = _
    rw [List.range'_succ, List.filter_cons]
    by_cases h : nI (xmt (m4 M) i) = x
    · rw [if_pos h, if_pos (decide_eq_true h), show nI q + 1 = nI (q + 1) from nI_add q 1, ih, List.length_cons]
      congr 1
      omega
    · rw [if_neg h, if_neg (by rw [decide_eq_false h]; exact Bool.false_ne_true), ih]
theorem lz_two {t : Nat} : ∀ (L : List zQ), (L.filter (fun m => decide (qt m = t))).length = lz false t L + lz true t L := by
  intro L
  induction L with
  | nil => rfl
  | cons m L ih =>
    rw [lz_cons, lz_cons, List.filter_cons]
    have key : (if decide (qt m = t) = true then 1 else 0) = (if kf false t m then 1 else 0) + (if kf true t m then 1 else 0) := by
      unfold kf
      cases qz m <;> cases decide (qt m = t) <;> rfl
    by_cases h : decide (qt m = t) = true
    · rw [if_pos h] at key
      rw [if_pos h, List.length_cons, ih]
      omega
    · rw [if_neg h] at key
      rw [if_neg h, ih]
      omega
section REL
variable {S : zMB} {M : zMo}
theorem otw_z (h : Rel S M) {t : Nat} (ht : t < 4) : tOtw (sT S t) (sn S) = nI (lz false t (zQL M) + lz true t (zQL M)) := by
  obtain ⟨-, -, -, -, -, p6, p7⟩ := h.2.2.2.2 t ht
  unfold tOtw lz
  rw [p6.2, p7.2, cOtw_z (z := false) (t := t), cOtw_z (z := true) (t := t), nI_add]
theorem cnt_z (h : Rel S M) {t : Nat} (ht : t < 4) : yCntL M (nI t) (xme (m5 M)) 0 0 = nI (lz false t (zQL M) + lz true t (zQL M)) := by
  have e := yCntL_z (M := M) (x := nI t) (xme (m5 M)) 0 0
  rw [Nat.zero_add] at e
  refine Eq.trans e ?_
  rw [← lz_two]
  unfold zQL qL
  rw [List.filter_map, List.length_map, ← List.range_eq_range']
  congr 2
  apply List.filter_congr
  intro k hk
  have h4 := (rel_mB h).2.2 k (List.mem_range.mp hk)
  show decide (nI (xmt (m4 M) k) = nI t) = decide (xmt (m4 M) k = t)
  exact decide_eq_decide.mpr (nI_eq (by omega) (by omega))
theorem rel_measure (h : Rel S M) (hn : sn S ≤ 4096) (x w : Int32) : xMeasure S x w = yMeasure M x w := by
  unfold xMeasure yMeasure
  rw [no_z h x]
  by_cases c1 : bI (mNo M x) = 0
  · obtain ⟨t, ht, ht4, ex, ec⟩ := no_t h c1
    rw [if_pos c1, if_pos c1, ec]
    obtain ⟨p1, p2', p3, p4, -⟩ := h.2.2.2.2 t ht4
    have p2 : pBd (sn S) (sT S t) := p2'
    obtain ⟨q1, q2⟩ := rear_z p1 p2 (by omega)
    obtain ⟨u1, u2, u3, u4, u5, -⟩ := p1
    by_cases w0 : w = 0
    · rw [if_pos w0, if_pos w0]; exact (l_to u2).symm
    rw [if_neg w0, if_neg w0]
    by_cases w1 : w = 1
    · rw [if_pos w1, if_pos w1]; exact (l_to u3).symm
    rw [if_neg w1, if_neg w1]
    by_cases w2 : w = 2
    · rw [if_pos w2, if_pos w2]; exact (l_to u4).symm
    rw [if_neg w2, if_neg w2]
    by_cases w3 : w = 3
    · rw [if_pos w3, if_pos w3]; exact (l_to u5).symm
    rw [if_neg w3, if_neg w3]
    by_cases w4 : w = 4
    · rw [if_pos w4, if_pos w4]
      obtain ⟨a1, s, hs, a2, a3⟩ := p4
      have hs' : s ≤ 4096 := Nat.le_trans hs hn
      by_cases hz : s = 0
      · rw [if_pos ((taken_z a2 (by omega)).mpr hz), if_pos (by rw [← a1, a2]; exact (as_0 (by omega)).mpr hz)]
      · rw [if_neg (fun q => hz ((taken_z a2 (by omega)).mp q)), if_neg (fun q => hz ((as_0 (by omega)).mp (by rw [← a2, a1]; exact q)))]
        exact (l_to (a3 (by omega)).1).symm
    rw [if_neg w4, if_neg w4]
    obtain ⟨a1, s, hs, a2, a0, a3⟩ := p3
    have hs' : s ≤ 4096 := Nat.le_trans hs hn
    by_cases w5 : w = 5
    · rw [if_pos w5, if_pos w5]
      by_cases hz : s = 0
      · rw [if_pos ((taken_z a2 (by omega)).mpr hz), (a0 hz).1]
        decide
      · rw [if_neg (fun q => hz ((taken_z a2 (by omega)).mp q))]
        exact (l_to (a3 (by omega)).1).symm
    rw [if_neg w5, if_neg w5]
    by_cases w6 : w = 6
    · rw [if_pos w6, if_pos w6]
      by_cases hz : s = 0
      · rw [if_pos ((taken_z a2 (by omega)).mpr hz), (a0 hz).2]
        decide
      · rw [if_neg (fun q => hz ((taken_z a2 (by omega)).mp q))]
        exact (l_to (a3 (by omega)).2.1).symm
    rw [if_neg w6, if_neg w6]
    by_cases w7 : w = 7
    · rw [if_pos w7, if_pos w7]
      exact (l_to (q1.trans q2.symm)).symm
    rw [if_neg w7, if_neg w7]
  · rw [if_neg c1, if_neg c1]
theorem rel_state (h : Rel S M) (hn : sn S ≤ 4096) (x w : Int32) : xState S x w = yState M x w := by
  unfold xState yState
  rw [no_z h x]
  by_cases c1 : bI (mNo M x) = 0
  · obtain ⟨t, ht, ht4, ex, ec⟩ := no_t h c1
    rw [if_pos c1, if_pos c1, ec]
    have o1 := otw_z h ht4
    have o2 := cnt_z h ht4
    rw [← ex] at o2
    rw [o1, o2]
    obtain ⟨p1, p2', p3, p4, -⟩ := h.2.2.2.2 t ht4
    obtain ⟨u1, u2, u3, u4, u5, u6, u7, u8, u9⟩ := p1
    rw [← u8, ← u9, ← p3.1, ← p4.1, nPiece_z, pPiece_z, u2]
  · rw [if_neg c1, if_neg c1]
theorem best_z {q : Int32} {t : Nat} : ∀ (j : Nat), (∀ i, i ≤ j → (q < nI (2 * i) * nI (2 * i) ↔ bI (ySafe M t (nI (2 * i)).toInt64 (yReach M t) (yTail M t)) = 0)) → tBestL q j = yBestL M t j := by
  intro j
  induction j with
  | zero =>
    intro h
    have h0 := h 0 (Nat.le_refl 0)
    unfold tBestL yBestL
    by_cases c : q < nI (2 * 0) * nI (2 * 0)
    · rw [if_pos c, if_pos (h0.mp c)]
    · rw [if_neg c, if_neg (fun w => c (h0.mpr w))]
  | succ j ih =>
    intro h
    have h0 := h (j + 1) (Nat.le_refl _)
    unfold tBestL yBestL
    by_cases c : q < nI (2 * (j + 1)) * nI (2 * (j + 1))
    · rw [if_pos c, if_pos (h0.mp c)]
      exact ih (fun i hi => h i (by omega))
    · rw [if_neg c, if_neg (fun w => c (h0.mpr w))]
theorem rel_permitted (h : Rel S M) (hn : sn S ≤ 4096) (x : Int32) : xPermitted S x = yPermitted M x := by
  unfold xPermitted yPermitted
  rw [no_z h x]
  by_cases c1 : bI (mNo M x) = 0
  · obtain ⟨t, ht, ht4, ex, ec⟩ := no_t h c1
    rw [if_pos c1, if_pos c1, ec]
    unfold tBest
    have hg := h.1
    obtain ⟨p1, p2', p3, p4, -⟩ := h.2.2.2.2 t ht4
    have p2 : pBd (sn S) (sT S t) := p2'
    obtain ⟨r1, r2⟩ := reach_z p1 p2 (by omega)
    obtain ⟨t1, t2⟩ := tail_z p1 p2 (by omega)
    obtain ⟨b1, b2, b3, b4, b5, b6, b7⟩ := p2
    obtain ⟨a1, s, hs, a2, a3⟩ := p4
    have hs' : s ≤ 4096 := Nat.le_trans hs hn
    refine best_z 160 (fun i hi => ?_)
    have ev : (nI (2 * i)).toInt = 2 * (i : Int) := by
      rw [nI_int (by omega)]
      omega
    have hv0 : 0 ≤ (nI (2 * i)).toInt ∧ (nI (2 * i)).toInt ≤ 46000 := by rw [ev]; omega
    unfold tHere
    by_cases hz : s = 0
    · rw [if_pos ((taken_z a2 (by omega)).mpr hz)]
      have hx : xas (m3 M) t = 0 := by rw [← a1, a2]; exact (as_0 (by omega)).mpr hz
      have hy : ySafe M t (nI (2 * i)).toInt64 (yReach M t) (yTail M t) = false := if_pos hx
      rw [hy]
      refine ⟨fun _ => by decide, fun _ => ?_⟩
      obtain ⟨s1, s2⟩ := sq_b hv0.1 hv0.2
      have e46 : (46000 : Int) * 46000 = 2116000000 := by decide
      have zm : (-1 : Int32).toInt = -1 := by decide
      rw [Int32.lt_iff_toInt_lt, v_mul (by omega) (by omega), zm]
      omega
    · rw [if_neg (fun q => hz ((taken_z a2 (by omega)).mp q))]
      have hx : ¬ xas (m3 M) t = 0 := fun q => hz ((as_0 (by omega)).mp (by rw [← a2, a1]; exact q))
      obtain ⟨v1, v2, v3'⟩ := a3 (by omega)
      have key := safe_eq (k := sk S) (M := M) (t := t) (v := nI (2 * i)) (au := cf1 (tau (sT S t))) (r := tReach (sT S t)) (ta := tTail (sT S t)) (v' := (nI (2 * i)).toInt64) (r' := yReach M t) (ta' := yTail M t) hg.2.2.2.1 hg.2.2.2.2.1 (by rw [Int32.toInt_toInt64]) hv0 v1 ⟨by omega, by omega⟩ (r1.trans r2.symm) (by rw [r1]; unfold rB; omega) (t1.trans t2.symm) hx
      constructor
      · intro q
        cases hy : ySafe M t (nI (2 * i)).toInt64 (yReach M t) (yTail M t) with
        | false => decide
        | true =>
          exfalso
          have k1 := Int32.le_iff_toInt_le.mp (key.mpr hy)
          have k2 := Int32.lt_iff_toInt_lt.mp q
          omega
      · intro q
        have hy := bI_0.mp q
        have k1 : ¬ nI (2 * i) * nI (2 * i) ≤ gss (sk S) (cf1 (tau (sT S t))) (tReach (sT S t)) (tTail (sT S t)) := fun w => by
          have := key.mp w
          rw [hy] at this
          cases this
        rw [Int32.lt_iff_toInt_lt]
        have k2 : ¬ (nI (2 * i) * nI (2 * i)).toInt ≤ (gss (sk S) (cf1 (tau (sT S t))) (tReach (sT S t)) (tTail (sT S t))).toInt := fun w => k1 (Int32.le_iff_toInt_le.mpr w)
        omega
  · rw [if_neg c1, if_neg c1]
theorem bey_z (h : Rel S M) (hn : sn S ≤ 4096) : ∀ (j i : Nat) (q : Int32), 1 ≤ i → i + j ≤ 4 → beyL S j i q = yBeyL M j i q := by
  intro j
  induction j with
  | zero => intro i q _ _; rfl
  | succ j ih =>
    intro i q h1 h2
    show beyL S j (i + 1) (if tfr (sT S i) ≤ tRear (sT S (i - 1)) then q else q + 1) = yBeyL M j (i + 1) (if xfr (m2 M) i ≤ yRear M (i - 1) then q else q + 1)
    rw [ih (i + 1) _ (by omega) (by omega)]
    obtain ⟨p1, -⟩ := h.2.2.2.2 i (by omega)
    obtain ⟨r1, r2', -⟩ := h.2.2.2.2 (i - 1) (by omega)
    have r2 : pBd (sn S) (sT S (i - 1)) := r2'
    obtain ⟨q1, q2⟩ := rear_z r1 r2 (by omega)
    have e := p1.2.1
    by_cases c : tfr (sT S i) ≤ tRear (sT S (i - 1))
    · have a := Int32.le_iff_toInt_le.mp c
      rw [if_pos c, if_pos (Int64.le_iff_toInt_le.mpr (by rw [q2, ← q1, ← e]; exact a))]
    · rw [if_neg c, if_neg (fun w => c (Int32.le_iff_toInt_le.mpr (by
        have a := Int64.le_iff_toInt_le.mp w
        rw [q2, ← q1, ← e] at a
        exact a)))]
def acL (f : Nat → Int32) : Nat → Nat → Int32 → Int32
  | 0, _, q => q
  | j + 1, i, q => acL f j (i + 1) (q + f i)
theorem ac_otw : ∀ (j i : Nat) (q : Int32), otwL S j i q = acL (fun t => tOtw (sT S t) (sn S)) j i q := by
  intro j
  induction j with
  | zero => intro i q; rfl
  | succ j ih => intro i q; exact ih (i + 1) _
theorem ac_los : ∀ (j i : Nat) (q : Int32), losL S j i q = acL (fun t => clo (trp (sT S t)) + clo (tau (sT S t))) j i q := by
  intro j
  induction j with
  | zero => intro i q; rfl
  | succ j ih => intro i q; exact ih (i + 1) _
theorem ac_not : ∀ (j i : Nat) (q : Int32), notL S j i q = acL (fun t => cnt (trp (sT S t)) + cnt (tau (sT S t))) j i q := by
  intro j
  induction j with
  | zero => intro i q; rfl
  | succ j ih => intro i q; exact ih (i + 1) _
theorem ac_s4 {f : Nat → Int32} {m : Nat} (hm : m ≤ 4) (h : ∀ t, m ≤ t → t < 4 → f t = 0) : acL f m 0 0 = s4 f := by
  have q : m = 0 ∨ m = 1 ∨ m = 2 ∨ m = 3 ∨ m = 4 := by omega
  unfold s4
  rcases q with q | q | q | q | q <;> subst q
  · rw [h 0 (by omega) (by omega), h 1 (by omega) (by omega), h 2 (by omega) (by omega), h 3 (by omega) (by omega)]
    show (0 : Int32) = _
    grind
  · rw [h 1 (by omega) (by omega), h 2 (by omega) (by omega), h 3 (by omega) (by omega)]
    show 0 + f 0 = _
    grind
  · rw [h 2 (by omega) (by omega), h 3 (by omega) (by omega)]
    show 0 + f 0 + f 1 = _
    grind
  · rw [h 3 (by omega) (by omega)]
    show 0 + f 0 + f 1 + f 2 = _
    grind
  · show 0 + f 0 + f 1 + f 2 + f 3 = _
    grind
theorem s4_sum {f g : Nat → Int32} : s4 (fun t => f t + g t) = s4 f + s4 g := by
  unfold s4
  grind
theorem rel_count (h : Rel S M) (hn : sn S ≤ 4096) (w : Int32) : xCount S w = yCount M w := by
  unfold xCount yCount
  have g1 := h.1.1
  have g2 := h.1.2.1
  have g3 := h.1.2.2.1
  have g8 := h.1.2.2.2.2.2.2.2
  rw [g1, g3]
  by_cases w0 : w = 0
  · rw [if_pos w0, if_pos w0]
  rw [if_neg w0, if_neg w0]
  by_cases w1 : w = 1
  · rw [if_pos w1, if_pos w1]
  rw [if_neg w1, if_neg w1]
  by_cases w2 : w = 2
  · rw [if_pos w2, if_pos w2]
    by_cases hz : sm S = 0
    · rw [hz]; rfl
    · exact bey_z h hn _ _ _ (by omega) (by omega)
  rw [if_neg w2, if_neg w2]
  by_cases w3 : w = 3
  · rw [if_pos w3, if_pos w3, ac_otw, ac_s4 g2 (fun t h1 h2 => ?_)]
    · have e : ∀ t, t < 4 → tOtw (sT S t) (sn S) = nI (lz false t (zQL M) + lz true t (zQL M)) := fun t ht => otw_z h ht
      unfold s4
      show tOtw (sT S 0) (sn S) + tOtw (sT S 1) (sn S) + tOtw (sT S 2) (sn S) + tOtw (sT S 3) (sn S) = _
      rw [e 0 (by decide), e 1 (by decide), e 2 (by decide), e 3 (by decide), nI_add, nI_add, nI_add]
      have l := len8 (zQL M) h.2.1
      have l2 : (zQL M).length = xme (m5 M) := qL_len
      rw [← l2, l]
    · show tOtw (sT S t) (sn S) = 0
      rw [g8 t h1]
      show cOtw zc0 (sn S) + cOtw zc0 (sn S) = 0
      rw [cOtw_z (z := false) (t := t), pd_0 (by omega)]
      decide
  rw [if_neg w3, if_neg w3]
  by_cases w4 : w = 4
  · rw [if_pos w4, if_pos w4, ac_los, ac_s4 g2 (fun t h1 h2 => ?_)]
    · rw [s4_sum]
      exact h.2.2.1.symm
    · show clo (trp (sT S t)) + clo (tau (sT S t)) = 0
      rw [g8 t h1]
      decide
  rw [if_neg w4, if_neg w4]
  by_cases w5 : w = 5
  · rw [if_pos w5, if_pos w5, ac_not, ac_s4 g2 (fun t h1 h2 => ?_)]
    · rw [s4_sum]
      exact h.2.2.2.1.symm
    · show cnt (trp (sT S t)) + cnt (tau (sT S t)) = 0
      rw [g8 t h1]
      decide
  rw [if_neg w5, if_neg w5]
end REL
