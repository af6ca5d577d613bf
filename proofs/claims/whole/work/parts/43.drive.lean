/-! driving: class and reference -/
def pE (T : zTr) (M : zMo) (t : Nat) : Prop := (tle T).toInt = (xle (m2 M) t).toInt ∧ (tfr T).toInt = (xfr (m2 M) t).toInt ∧ (tsp T).toInt = (xsp (m2 M) t).toInt ∧ (tes T).toInt = (xes (m2 M) t).toInt ∧ (tdo T).toInt = (xdo (m2 M) t).toInt ∧ tde T = xwi (m2 M) t ∧ tdr T = xdr (m2 M) t ∧ tem T = xem (m2 M) t ∧ tec T = xec (m2 M) t
def pBd (n : Nat) (T : zTr) : Prop := (0 ≤ (tle T).toInt ∧ (tle T).toInt ≤ 1600) ∧ (0 ≤ (tfr T).toInt ∧ (tfr T).toInt ≤ 32000 + 26000 * n) ∧ (0 ≤ (tsp T).toInt ∧ (tsp T).toInt ≤ 6 * n) ∧ (-(2 * (n : Int)) ≤ (tes T).toInt ∧ (tes T).toInt ≤ 32000 + 26000 * n) ∧ (0 ≤ (tdo T).toInt ∧ (tdo T).toInt ≤ 2 * n) ∧ (-1 ≤ (tde T).toInt ∧ (tde T).toInt ≤ 1) ∧ (-2 ≤ (tdr T).toInt ∧ (tdr T).toInt ≤ 2)
def aR (n : Nat) (T : zTr) (M : zMo) (t : Nat) : Prop := csp (tau T) = xas (m3 M) t ∧ ∃ s : Nat, s ≤ n ∧ csp (tau T) = nI s ∧ (0 < s → (cf1 (tau T)).toInt = (xau (m3 M) t).toInt ∧ -20000 ≤ (cf1 (tau T)).toInt ∧ (cf1 (tau T)).toInt ≤ 32768)
def gB (k : zTk) : Prop := ∀ i, i < 8 → -1 ≤ (kgr k i).toInt ∧ (kgr k i).toInt ≤ 1
section DRV
variable {n : Nat} {T : zTr} {M : zMo} {t : Nat} {k : zTk}
theorem reach_z (hE : pE T M t) (hB : pBd n T) (hn : n ≤ 4200) : (tReach T).toInt = (tes T).toInt + (tdo T).toInt ∧ (yReach M t).toInt = (tes T).toInt + (tdo T).toInt := by
  obtain ⟨-, -, -, e4, e5, -⟩ := hE
  obtain ⟨-, -, -, b4, b5, -⟩ := hB
  refine ⟨v_add (by omega) (by omega), ?_⟩
  show (xes (m2 M) t + xdo (m2 M) t).toInt = _
  rw [l_add (by rw [← e4, ← e5]; omega) (by rw [← e4, ← e5]; omega), ← e4, ← e5]
theorem tail_z (hE : pE T M t) (hB : pBd n T) (hn : n ≤ 4200) : (tTail T).toInt = (tes T).toInt - (tdo T).toInt - (tle T).toInt ∧ (yTail M t).toInt = (tes T).toInt - (tdo T).toInt - (tle T).toInt := by
  obtain ⟨e1, -, -, e4, e5, -⟩ := hE
  obtain ⟨b1, -, -, b4, b5, -⟩ := hB
  have h1 : (tes T - tdo T).toInt = (tes T).toInt - (tdo T).toInt := v_sub (by omega) (by omega)
  have h2 : (xes (m2 M) t - xdo (m2 M) t).toInt = (tes T).toInt - (tdo T).toInt := by
    rw [l_sub (by rw [← e4, ← e5]; omega) (by rw [← e4, ← e5]; omega), ← e4, ← e5]
  refine ⟨?_, ?_⟩
  · show (tes T - tdo T - tle T).toInt = _
    rw [v_sub (by rw [h1]; omega) (by rw [h1]; omega), h1]
  · show (xes (m2 M) t - xdo (m2 M) t - xle (m2 M) t).toInt = _
    rw [l_sub (by rw [h2, ← e1]; omega) (by rw [h2, ← e1]; omega), h2, ← e1]
theorem after_z (hE : pE T M t) (hB : pBd n T) (hn : n ≤ 4200) (hk : kR k M) (hg : gB k) {pu : Int32} (hp : -12 ≤ pu.toInt ∧ pu.toInt ≤ 4) : (tAfter T pu k).toInt = (yNext M t pu).toInt ∧ 0 ≤ (tAfter T pu k).toInt ∧ (tAfter T pu k).toInt ≤ 6 * ((n : Int) + 1) := by
  obtain ⟨-, e2, e3, -⟩ := hE
  obtain ⟨-, b2, b3, -⟩ := hB
  have hz := zP_lt (tfr T).toInt
  obtain ⟨g1, g2⟩ := hg (nPiece (tfr T)) (by rw [nPiece_z]; exact hz)
  have eg := (hk (nPiece (tfr T)) (by rw [nPiece_z]; exact hz)).2
  have ep : pPiece (xfr (m2 M) t) = nPiece (tfr T) := by rw [pPiece_z, nPiece_z, e2]
  have c2 : (2 : Int32).toInt = 2 := by decide
  have c0 : (0 : Int32).toInt = 0 := by decide
  have d0 : (0 : Int64).toInt = 0 := by decide
  have q1 : (tsp T + pu).toInt = (tsp T).toInt + pu.toInt := v_add (by omega) (by omega)
  have q2 : (2 * kgr k (nPiece (tfr T))).toInt = 2 * (kgr k (nPiece (tfr T))).toInt := by
    rw [v_mul (by rw [c2]; omega) (by rw [c2]; omega), c2]
  have q3 : (tsp T + pu - 2 * kgr k (nPiece (tfr T))).toInt = (tsp T).toInt + pu.toInt - 2 * (kgr k (nPiece (tfr T))).toInt := by
    rw [v_sub (by rw [q1, q2]; omega) (by rw [q1, q2]; omega), q1, q2]
  have r1 : (xsp (m2 M) t + pu.toInt64).toInt = (tsp T).toInt + pu.toInt := by
    rw [l_add (by rw [← e3, Int32.toInt_toInt64]; omega) (by rw [← e3, Int32.toInt_toInt64]; omega), ← e3, Int32.toInt_toInt64]
  have r3 : (yNx0 M t pu).toInt = (tsp T).toInt + pu.toInt - 2 * (kgr k (nPiece (tfr T))).toInt := by
    show (xsp (m2 M) t + pu.toInt64 - (2 * xgr (m1 M) (pPiece (xfr (m2 M) t))).toInt64).toInt = _
    rw [ep, ← eg]
    rw [l_sub (by rw [r1, Int32.toInt_toInt64, q2]; omega) (by rw [r1, Int32.toInt_toInt64, q2]; omega), r1, Int32.toInt_toInt64, q2]
  have ea : (tAfter T pu k).toInt = if 0 ≤ (tsp T).toInt + pu.toInt - 2 * (kgr k (nPiece (tfr T))).toInt then (tsp T).toInt + pu.toInt - 2 * (kgr k (nPiece (tfr T))).toInt else 0 := by
    unfold tAfter mx
    by_cases h : (0 : Int32) < tsp T + pu - 2 * kgr k (nPiece (tfr T))
    · have := Int32.lt_iff_toInt_lt.mp h
      rw [c0, q3] at this
      rw [if_pos h, if_pos (by omega), q3]
    · have h2 : ¬ (0 : Int) < (tsp T).toInt + pu.toInt - 2 * (kgr k (nPiece (tfr T))).toInt := fun q => h (Int32.lt_iff_toInt_lt.mpr (by rw [c0, q3]; exact q))
      rw [if_neg h, c0]
      split <;> omega
  have eb : (yNext M t pu).toInt = if 0 ≤ (tsp T).toInt + pu.toInt - 2 * (kgr k (nPiece (tfr T))).toInt then (tsp T).toInt + pu.toInt - 2 * (kgr k (nPiece (tfr T))).toInt else 0 := by
    unfold yNext
    by_cases h : 0 ≤ yNx0 M t pu
    · have := Int64.le_iff_toInt_le.mp h
      rw [d0, r3] at this
      rw [if_pos h, if_pos this, r3]
    · have h2 : ¬ (0 : Int) ≤ (tsp T).toInt + pu.toInt - 2 * (kgr k (nPiece (tfr T))).toInt := fun q => h (Int64.le_iff_toInt_le.mpr (by rw [d0, r3]; exact q))
      rw [if_neg h, if_neg h2, d0]
  refine ⟨ea.trans eb.symm, ?_, ?_⟩
  · rw [ea]; split <;> omega
  · rw [ea]; split <;> omega
theorem way_z (hE : pE T M t) (hB : pBd n T) (hn : n ≤ 4200) {v : Int32} {v' : Int64} (hv : v.toInt = v'.toInt) (h0 : 0 ≤ v.toInt) (h1 : v.toInt ≤ 6 * ((n : Int) + 1)) : (tWay T v).toInt = ((tsp T).toInt + v.toInt) / 2 ∧ (yWay M t v').toInt = ((tsp T).toInt + v.toInt) / 2 := by
  obtain ⟨-, -, e3, -⟩ := hE
  obtain ⟨-, -, b3, -⟩ := hB
  have q1 : (tsp T + v).toInt = (tsp T).toInt + v.toInt := v_add (by omega) (by omega)
  have q2 : (xsp (m2 M) t + v').toInt = (tsp T).toInt + v.toInt := by
    rw [l_add (by rw [← e3, ← hv]; omega) (by rw [← e3, ← hv]; omega), ← e3, ← hv]
  refine ⟨?_, ?_⟩
  · show ((tsp T + v) / 2).toInt = _
    rw [v_half (by rw [q1]; omega), q1]
  · show ((xsp (m2 M) t + v') / 2).toInt = _
    rw [l_half (by rw [q2]; omega), q2]
theorem taken_z {c : zCh} {s : Nat} (hs : csp c = nI s) (h : s < 2147483648) : bI (cTaken c) = 0 ↔ s = 0 := by
  have c0 : (0 : Int32).toInt = 0 := by decide
  rw [bI_0]
  unfold cTaken
  by_cases h1 : csp c ≤ 0
  · have := Int32.le_iff_toInt_le.mp h1
    rw [hs, nI_int h, c0] at this
    rw [if_pos h1]
    exact ⟨fun _ => by omega, fun _ => rfl⟩
  · rw [if_neg h1]
    constructor
    · intro q; cases q
    · intro q
      subst q
      exact absurd (by rw [hs]; decide) h1
theorem as_0 {s : Nat} (h : s < 2147483648) : nI s = 0 ↔ s = 0 := nI_eq h (by decide)
theorem fresh_z {N : Nat} (hA : aR N T M t) (hN : N ≤ 4300) (hc : xck (m5 M) = N) : bI (tFresh T N) = 0 ↔ ¬ bI (yOld M t) = 0 := by
  obtain ⟨e1, s, hs, e2, -⟩ := hA
  have c5 : (5 : Int32).toInt = 5 := by decide
  have ed : (nI N - csp (tau T)).toInt = (N : Int) - s := by
    rw [e2, v_sub (by rw [nI_int (by omega), nI_int (by omega)]; omega) (by rw [nI_int (by omega), nI_int (by omega)]; omega), nI_int (by omega), nI_int (by omega)]
  rw [bI_0, bI_0]
  unfold tFresh yOld
  rw [hc, ← e1]
  by_cases h0 : s = 0
  · rw [if_pos ((taken_z e2 (by omega)).mpr h0), if_pos (by rw [e2]; exact (as_0 (by omega)).mpr h0)]
    simp
  · have ht0 : ¬ bI (cTaken (tau T)) = 0 := fun q => h0 ((taken_z e2 (by omega)).mp q)
    have hs0 : ¬ csp (tau T) = 0 := fun q => h0 ((as_0 (by omega)).mp (by rw [← e2]; exact q))
    rw [if_neg ht0, if_neg hs0]
    by_cases h5 : 5 < nI N - csp (tau T)
    · have := Int32.lt_iff_toInt_lt.mp h5
      rw [c5, ed] at this
      have h7 : ¬ nI N - csp (tau T) ≤ 5 := fun q => by have := Int32.le_iff_toInt_le.mp q; rw [c5, ed] at this; omega
      rw [if_pos h5, if_neg h7]
      simp
    · have h6 : ¬ (5 : Int) < (N : Int) - s := fun q => h5 (Int32.lt_iff_toInt_lt.mpr (by rw [c5, ed]; exact q))
      have h7 : nI N - csp (tau T) ≤ 5 := Int32.le_iff_toInt_le.mpr (by rw [c5, ed]; omega)
      rw [if_neg h5, if_pos h7]
      simp
theorem fresh_as {N : Nat} (hA : aR N T M t) (hN : N ≤ 4300) (hf : ¬ bI (tFresh T N) = 0) : ¬ xas (m3 M) t = 0 ∧ ¬ bI (cTaken (tau T)) = 0 ∧ (cf1 (tau T)).toInt = (xau (m3 M) t).toInt ∧ -20000 ≤ (cf1 (tau T)).toInt ∧ (cf1 (tau T)).toInt ≤ 32768 := by
  obtain ⟨e1, s, hs, e2, h⟩ := hA
  have h0 : ¬ s = 0 := by
    intro q
    apply hf
    rw [bI_0]
    unfold tFresh
    rw [if_pos ((taken_z e2 (by omega)).mpr q)]
  refine ⟨fun q => h0 ((as_0 (by omega)).mp (by rw [← e2, e1]; exact q)), fun q => h0 ((taken_z e2 (by omega)).mp q), h (by omega)⟩
theorem here_z {N : Nat} (hE : pE T M t) (hB : pBd n T) (hn : n ≤ 4200) (hA : aR N T M t) (hN : N ≤ 4300) (hk : kR k M) (hl : lB M) (hf : ¬ bI (tFresh T N) = 0) : tsp T * tsp T ≤ tHere T k ↔ ¬ bI (ySafe M t (xsp (m2 M) t) (yReach M t) (yTail M t)) = 0 := by
  obtain ⟨a1, a2, a3, a4, a5⟩ := fresh_as hA hN hf
  obtain ⟨r1, r2⟩ := reach_z hE hB hn
  obtain ⟨q1, q2⟩ := tail_z hE hB hn
  have hB' := hB
  obtain ⟨b1, -, b3, b4, b5, -⟩ := hB'
  unfold tHere
  rw [if_neg a2, safe_eq (v' := xsp (m2 M) t) (r' := yReach M t) (ta' := yTail M t) hk hl hE.2.2.1 (by omega) a3 (by omega) (by rw [r1, r2]) ⟨by omega, by omega⟩ (by rw [q1, q2]) a1, bI_0]
  simp
theorem stays_z {N : Nat} (hE : pE T M t) (hB : pBd n T) (hn : n ≤ 4200) (hA : aR N T M t) (hN : N ≤ 4300) (hk : kR k M) (hg : gB k) (hl : lB M) (hf : ¬ bI (tFresh T N) = 0) {pu : Int32} (hp : -12 ≤ pu.toInt ∧ pu.toInt ≤ 4) : bI (tStays T pu k) = 0 ↔ bI (yGood M t pu) = 0 := by
  obtain ⟨a1, a2, a3, a4, a5⟩ := fresh_as hA hN hf
  obtain ⟨r1, r2⟩ := reach_z hE hB hn
  obtain ⟨q1, q2⟩ := tail_z hE hB hn
  obtain ⟨v1, v2, v3⟩ := after_z hE hB hn hk hg hp
  obtain ⟨w1, w2⟩ := way_z hE hB hn v1 v2 v3
  have hB' := hB
  obtain ⟨b1, -, b3, b4, b5, -⟩ := hB'
  have c0 : (0 : Int32).toInt = 0 := by decide
  have d0 : (0 : Int64).toInt = 0 := by decide
  have m1' : (tMore (tWay T (tAfter T pu k))).toInt = (yMore (yWay M t (yNext M t pu))).toInt ∧ 0 ≤ (tMore (tWay T (tAfter T pu k))).toInt ∧ (tMore (tWay T (tAfter T pu k))).toInt ≤ 2 := by
    unfold tMore yMore
    by_cases h : tWay T (tAfter T pu k) = 0
    · have h2 : yWay M t (yNext M t pu) = 0 := l_eq (by rw [w2, ← w1, h, c0, d0])
      rw [if_pos h, if_pos h2]
      decide
    · have h2 : ¬ yWay M t (yNext M t pu) = 0 := fun q => h (v_eq (by rw [w1, ← w2, q, c0, d0]))
      rw [if_neg h, if_neg h2]
      decide
  obtain ⟨m1', m2', m3'⟩ := m1'
  generalize hmo : tMore (tWay T (tAfter T pu k)) = mo at m1' m2' m3'
  generalize hmy : yMore (yWay M t (yNext M t pu)) = my at m1'
  have hW : 0 ≤ (tWay T (tAfter T pu k)).toInt ∧ (tWay T (tAfter T pu k)).toInt ≤ 26000 := by rw [w1]; omega
  have hWe : (tWay T (tAfter T pu k)).toInt = (yWay M t (yNext M t pu)).toInt := by rw [w1, w2]
  generalize hwa : tWay T (tAfter T pu k) = wa at hW hWe hmo
  generalize hwy : yWay M t (yNext M t pu) = wy at hWe hmy
  have s1 : (tReach T + wa + mo).toInt = (tes T).toInt + (tdo T).toInt + wa.toInt + mo.toInt := by
    have : (tReach T + wa).toInt = (tes T).toInt + (tdo T).toInt + wa.toInt := by rw [v_add (by rw [r1]; omega) (by rw [r1]; omega), r1]
    rw [v_add (by rw [this]; omega) (by rw [this]; omega), this]
  have s2 : (yReach M t + wy + my).toInt = (tes T).toInt + (tdo T).toInt + wa.toInt + mo.toInt := by
    have : (yReach M t + wy).toInt = (tes T).toInt + (tdo T).toInt + wa.toInt := by rw [l_add (by rw [r2, ← hWe]; omega) (by rw [r2, ← hWe]; omega), r2, ← hWe]
    rw [l_add (by rw [this, ← m1']; omega) (by rw [this, ← m1']; omega), this, ← m1']
  have s3 : (tTail T + wa - mo).toInt = (tes T).toInt - (tdo T).toInt - (tle T).toInt + wa.toInt - mo.toInt := by
    have : (tTail T + wa).toInt = (tes T).toInt - (tdo T).toInt - (tle T).toInt + wa.toInt := by rw [v_add (by rw [q1]; omega) (by rw [q1]; omega), q1]
    rw [v_sub (by rw [this]; omega) (by rw [this]; omega), this]
  have s4 : (yTail M t + wy - my).toInt = (tes T).toInt - (tdo T).toInt - (tle T).toInt + wa.toInt - mo.toInt := by
    have : (yTail M t + wy).toInt = (tes T).toInt - (tdo T).toInt - (tle T).toInt + wa.toInt := by rw [l_add (by rw [q2, ← hWe]; omega) (by rw [q2, ← hWe]; omega), q2, ← hWe]
    rw [l_sub (by rw [this, ← m1']; omega) (by rw [this, ← m1']; omega), this, ← m1']
  have key := safe_eq (k := k) (M := M) (t := t) (v := tAfter T pu k) (au := cf1 (tau T)) (r := tReach T + wa + mo) (ta := tTail T + wa - mo) (v' := yNext M t pu) (r' := yReach M t + wy + my) (ta' := yTail M t + wy - my) hk hl v1 (by omega) a3 (by omega) (by rw [s1, s2]) (by rw [s1]; exact ⟨by omega, by omega⟩) (by rw [s3, s4]) a1
  rw [bI_0, bI_0]
  unfold tStays yGood
  rw [hwa, hmo, hwy, hmy]
  by_cases h : gss k (cf1 (tau T)) (tReach T + wa + mo) (tTail T + wa - mo) < tAfter T pu k * tAfter T pu k
  · rw [if_pos h]
    have h1 : ¬ tAfter T pu k * tAfter T pu k ≤ gss k (cf1 (tau T)) (tReach T + wa + mo) (tTail T + wa - mo) := fun q => by
      have q1 := Int32.le_iff_toInt_le.mp q
      have q2 := Int32.lt_iff_toInt_lt.mp h
      omega
    rw [key] at h1
    simpa using h1
  · rw [if_neg h]
    have h1 : tAfter T pu k * tAfter T pu k ≤ gss k (cf1 (tau T)) (tReach T + wa + mo) (tTail T + wa - mo) := Int32.le_iff_toInt_le.mpr (by
      rcases Int.lt_or_le (gss k (cf1 (tau T)) (tReach T + wa + mo) (tTail T + wa - mo)).toInt (tAfter T pu k * tAfter T pu k).toInt with q | q
      · exact absurd (Int32.lt_iff_toInt_lt.mpr q) h
      · exact q)
    rw [key] at h1
    rw [h1]
theorem drv1_z {N : Nat} (hE : pE T M t) (hB : pBd n T) (hn : n ≤ 4200) (hA : aR N T M t) (hN : N ≤ 4300) (hc : xck (m5 M) = N) (hk : kR k M) (hl : lB M) : (tDrv1 T N k = T ∧ yDrv1 M t = M) ∨ (tDrv1 T N k = tInto T ∧ yDrv1 M t = yInto M t) := by
  have c0 : (0 : Int32).toInt = 0 := by decide
  have d0 : (0 : Int64).toInt = 0 := by decide
  have hf := fresh_z hA hN hc
  have b3 := hB.2.2.1
  unfold tDrv1 yDrv1
  rw [← hE.2.2.2.2.2.2.2.1]
  by_cases h1 : bI (tem T) = 0
  · rw [if_pos h1, if_pos h1]
    by_cases h2 : tsp T = 0
    · have h3 : xsp (m2 M) t ≤ 0 := Int64.le_iff_toInt_le.mpr (by rw [← hE.2.2.1, h2, c0, d0]; omega)
      rw [if_pos h2, if_pos h3]
      exact Or.inl ⟨rfl, rfl⟩
    · have h3 : ¬ xsp (m2 M) t ≤ 0 := fun q => h2 (v_eq (by
        have := Int64.le_iff_toInt_le.mp q
        rw [← hE.2.2.1, d0] at this
        rw [c0]
        omega))
      rw [if_neg h2, if_neg h3]
      by_cases h4 : bI (tFresh T N) = 0
      · have h5 : ¬ bI (yOld M t) = 0 := hf.mp h4
        rw [if_pos h4, if_neg h5]
        exact Or.inr ⟨rfl, rfl⟩
      · have h5 : bI (yOld M t) = 0 := by
          by_cases q : bI (yOld M t) = 0
          · exact q
          · exact absurd (hf.mpr q) h4
        rw [if_neg h4, if_pos h5]
        have hh := here_z hE hB hn hA hN hk hl h4
        by_cases h6 : tsp T * tsp T ≤ tHere T k
        · rw [if_pos h6, if_neg (hh.mp h6)]
          exact Or.inl ⟨rfl, rfl⟩
        · have h7 : bI (ySafe M t (xsp (m2 M) t) (yReach M t) (yTail M t)) = 0 := by
            by_cases q : bI (ySafe M t (xsp (m2 M) t) (yReach M t) (yTail M t)) = 0
            · exact q
            · exact absurd (hh.mpr q) h6
          rw [if_neg h6, if_pos h7]
          exact Or.inr ⟨rfl, rfl⟩
  · rw [if_neg h1, if_neg h1]
    exact Or.inl ⟨rfl, rfl⟩
theorem into_E (hE : pE T M t) : pE (tInto T) (yInto M t) t := by
  obtain ⟨e1, e2, e3, e4, e5, e6, e7, e8, e9⟩ := hE
  refine ⟨e1, e2, e3, e4, e5, e6, e7, ?_, ?_⟩
  · show true = va_up (xem (m2 M)) t true t
    rw [va_up_self]
  · show tec T + 1 = upd (xec (m2 M)) t (xec (m2 M) t + 1) t
    rw [pk_us, e9]
theorem wish_z (hE : pE T M t) (hB : pBd n T) : tWish T = yWish M t ∧ (tWish T = 0 ∨ tWish T = 4) := by
  have c0 : (0 : Int32).toInt = 0 := by decide
  have c1 : (1 : Int32).toInt = 1 := by decide
  have b6 := hB.2.2.2.2.2.1
  unfold tWish yWish
  rw [← hE.2.2.2.2.2.1]
  by_cases h : tde T ≤ 0
  · have := Int32.le_iff_toInt_le.mp h
    rw [c0] at this
    have h2 : ¬ tde T = 1 := fun q => by rw [q, c1] at this; omega
    rw [if_pos h, if_neg h2]
    exact ⟨rfl, Or.inl rfl⟩
  · have h1 : ¬ (tde T).toInt ≤ 0 := fun q => h (Int32.le_iff_toInt_le.mpr (by rw [c0]; exact q))
    have h2 : tde T = 1 := v_eq (by rw [c1]; omega)
    rw [if_neg h, if_pos h2]
    exact ⟨rfl, Or.inr rfl⟩
theorem pull_z {N : Nat} {f : Bool} (hE : pE T M t) (hB : pBd n T) (hn : n ≤ 4200) (hA : aR N T M t) (hN : N ≤ 4300) (hc : xck (m5 M) = N) (hk : kR k M) (hg : gB k) (hl : lB M) (hf : f = tFresh T N) : tDrv2 T f k = yPull M t ∧ -12 ≤ (tDrv2 T f k).toInt ∧ (tDrv2 T f k).toInt ≤ 4 := by
  subst hf
  have hfz := fresh_z hA hN hc
  obtain ⟨w1, w2⟩ := wish_z hE hB
  have hw : -12 ≤ (tWish T).toInt ∧ (tWish T).toInt ≤ 4 := by
    rcases w2 with q | q <;> rw [q] <;> decide
  unfold tDrv2 yPull tPull
  rw [← hE.2.2.2.2.2.2.2.1, ← hE.2.2.2.2.2.1, ← w1]
  by_cases h1 : bI (tem T) = 0
  · rw [if_pos h1, if_pos h1]
    by_cases h2 : 0 ≤ tde T
    · rw [if_pos h2, if_pos h2]
      by_cases h4 : bI (tFresh T N) = 0
      · have h5 : ¬ bI (yOld M t) = 0 := hfz.mp h4
        rw [if_pos h4, if_neg h5]
        decide
      · have h5 : bI (yOld M t) = 0 := by
          by_cases q : bI (yOld M t) = 0
          · exact q
          · exact absurd (hfz.mpr q) h4
        rw [if_neg h4, if_pos h5]
        have hs := stays_z hE hB hn hA hN hk hg hl h4 hw
        by_cases h6 : bI (tStays T (tWish T) k) = 0
        · rw [if_pos h6, if_pos (hs.mp h6)]
          decide
        · rw [if_neg h6, if_neg (fun q => h6 (hs.mpr q))]
          exact ⟨rfl, hw⟩
    · rw [if_neg h2, if_neg h2]
      decide
  · rw [if_neg h1, if_neg h1]
    decide
end DRV
