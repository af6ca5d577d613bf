section DRV2
variable {n : Nat} {T : zTr} {M : zMo} {t : Nat} {k : zTk}
theorem mv_z (hE : pE T M t) (hB : pBd n T) (hn : n ≤ 4200) {v : Int32} {v' : Int64} (hv : v.toInt = v'.toInt) (h0 : 0 ≤ v.toInt) (h1 : v.toInt ≤ 6 * ((n : Int) + 1)) : pE (tMove T v) (yMv3 (yMv2 (yMv1 M t v') t (yWay M t v')) t (pPiece (xfr (m2 M) t))) t ∧ pBd (n + 1) (tMove T v) ∧ tsp (tMove T v) = v := by
  obtain ⟨w1, w2⟩ := way_z hE hB hn hv h0 h1
  obtain ⟨e1, e2, e3, e4, e5, e6, e7, e8, e9⟩ := hE
  obtain ⟨b1, b2, b3, b4, b5, b6, b7⟩ := hB
  have c0 : (0 : Int32).toInt = 0 := by decide
  have d0 : (0 : Int64).toInt = 0 := by decide
  have c2 : (2 : Int32).toInt = 2 := by decide
  have d2 : (2 : Int64).toInt = 2 := by decide
  have wb : 0 ≤ (tWay T v).toInt ∧ (tWay T v).toInt ≤ 6 * ((n : Int) + 1) := by rw [w1]; omega
  have we : (tWay T v).toInt = (yWay M t v').toInt := by rw [w1, w2]
  have f1 : (tfr T + tWay T v).toInt = (tfr T).toInt + (tWay T v).toInt := v_add (by omega) (by omega)
  have f2 : (xfr (m2 M) t + yWay M t v').toInt = (tfr T).toInt + (tWay T v).toInt := by
    rw [l_add (by rw [← e2, ← we]; omega) (by rw [← e2, ← we]; omega), ← e2, ← we]
  have hsp : vp_updL (xsp (m2 M)) t v' t = v' := pk_uLs
  have hfr : vp_updL (xfr (m2 M)) t (xfr (m2 M) t + yWay M t v') t = xfr (m2 M) t + yWay M t v' := pk_uLs
  have hm1 : ((n + 1 : Nat) : Int) = (n : Int) + 1 := by omega
  by_cases h : tWay T v = 0
  · have hz : (tWay T v).toInt = 0 := by rw [h, c0]
    have h' : yWay M t v' = 0 := l_eq (by rw [← we, hz, d0])
    have q2 : yMv2 (yMv1 M t v') t (yWay M t v') = yMv1 M t v' := if_pos h'
    have q3 : yMv3 (yMv1 M t v') t (pPiece (xfr (m2 M) t)) = yMv1 M t v' := if_pos (by
      show nI (pPiece (vp_updL (xfr (m2 M)) t (xfr (m2 M) t + yWay M t v') t)) = _
      rw [hfr, pPiece_z, pPiece_z, f2, ← e2, hz, Int.add_zero])
    have q4 : tMove T v = (trp T, tau T, tle T, tfr T, v, tes T, tdo T, tde T, tdr T, tem T, tec T) := if_pos h
    rw [q2, q3, q4]
    refine ⟨⟨e1, ?_, ?_, e4, e5, e6, e7, e8, e9⟩, ⟨b1, ?_, ?_, ?_, ?_, b6, b7⟩, rfl⟩
    · show (tfr T).toInt = (vp_updL (xfr (m2 M)) t (xfr (m2 M) t + yWay M t v') t).toInt
      rw [hfr, f2, hz, Int.add_zero]
    · show v.toInt = (vp_updL (xsp (m2 M)) t v' t).toInt
      rw [hsp, hv]
    · show 0 ≤ (tfr T).toInt ∧ (tfr T).toInt ≤ 32000 + 26000 * ((n + 1 : Nat) : Int)
      omega
    · show 0 ≤ v.toInt ∧ v.toInt ≤ 6 * ((n + 1 : Nat) : Int)
      omega
    · show -(2 * ((n + 1 : Nat) : Int)) ≤ (tes T).toInt ∧ (tes T).toInt ≤ 32000 + 26000 * ((n + 1 : Nat) : Int)
      omega
    · show 0 ≤ (tdo T).toInt ∧ (tdo T).toInt ≤ 2 * ((n + 1 : Nat) : Int)
      omega
  · have hz : ¬ (tWay T v).toInt = 0 := fun q => h (v_eq (by rw [q, c0]))
    have h' : ¬ yWay M t v' = 0 := fun q => hz (by rw [we, q, d0])
    have g1 : (tWay T v + tdr T).toInt = (tWay T v).toInt + (tdr T).toInt := v_add (by omega) (by omega)
    have g2 : (tes T + (tWay T v + tdr T)).toInt = (tes T).toInt + ((tWay T v).toInt + (tdr T).toInt) := by
      rw [v_add (by rw [g1]; omega) (by rw [g1]; omega), g1]
    have g3 : (yWay M t v' + (xdr (m2 M) t).toInt64).toInt = (tWay T v).toInt + (tdr T).toInt := by
      rw [l_add (by rw [← we, Int32.toInt_toInt64, ← e7]; omega) (by rw [← we, Int32.toInt_toInt64, ← e7]; omega), ← we, Int32.toInt_toInt64, ← e7]
    have g4 : (xes (m2 M) t + (yWay M t v' + (xdr (m2 M) t).toInt64)).toInt = (tes T).toInt + ((tWay T v).toInt + (tdr T).toInt) := by
      rw [l_add (by rw [g3, ← e4]; omega) (by rw [g3, ← e4]; omega), g3, ← e4]
    have g5 : (tdo T + 2).toInt = (tdo T).toInt + 2 := by rw [v_add (by rw [c2]; omega) (by rw [c2]; omega), c2]
    have g6 : (xdo (m2 M) t + 2).toInt = (tdo T).toInt + 2 := by rw [l_add (by rw [d2, ← e5]; omega) (by rw [d2, ← e5]; omega), d2, ← e5]
    have hpe : nI (pPiece (xfr (m2 M) t + yWay M t v')) = nI (pPiece (xfr (m2 M) t)) ↔ nI (nPiece (tfr T + tWay T v)) = nI (nPiece (tfr T)) := by
      rw [pPiece_z, pPiece_z, nPiece_z, nPiece_z, f1, f2, e2]
    have q2 : yMv2 (yMv1 M t v') t (yWay M t v') = (m1 M, (xle (m2 M), vp_updL (xfr (m2 M)) t (xfr (m2 M) t + yWay M t v'), vp_updL (xsp (m2 M)) t v', vp_updL (xes (m2 M)) t (xes (m2 M) t + (yWay M t v' + (xdr (m2 M) t).toInt64)), vp_updL (xdo (m2 M)) t (xdo (m2 M) t + 2), xwi (m2 M), xdr (m2 M), xem (m2 M), xec (m2 M)), m3 M, m4 M, m5 M) := if_neg h'
    have q4 : tMove T v = if nI (nPiece (tfr T + tWay T v)) = nI (nPiece (tfr T)) then (trp T, tau T, tle T, tfr T + tWay T v, v, tes T + (tWay T v + tdr T), tdo T + 2, tde T, tdr T, tem T, tec T) else (trp T, tau T, tle T, tfr T + tWay T v, v, tfr T + tWay T v, 0, tde T, tdr T, tem T, tec T) := if_neg h
    rw [q2]
    by_cases hp : nI (nPiece (tfr T + tWay T v)) = nI (nPiece (tfr T))
    · rw [if_pos hp] at q4
      rw [q4]
      have q3 : yMv3 (m1 M, (xle (m2 M), vp_updL (xfr (m2 M)) t (xfr (m2 M) t + yWay M t v'), vp_updL (xsp (m2 M)) t v', vp_updL (xes (m2 M)) t (xes (m2 M) t + (yWay M t v' + (xdr (m2 M) t).toInt64)), vp_updL (xdo (m2 M)) t (xdo (m2 M) t + 2), xwi (m2 M), xdr (m2 M), xem (m2 M), xec (m2 M)), m3 M, m4 M, m5 M) t (pPiece (xfr (m2 M) t)) = (m1 M, (xle (m2 M), vp_updL (xfr (m2 M)) t (xfr (m2 M) t + yWay M t v'), vp_updL (xsp (m2 M)) t v', vp_updL (xes (m2 M)) t (xes (m2 M) t + (yWay M t v' + (xdr (m2 M) t).toInt64)), vp_updL (xdo (m2 M)) t (xdo (m2 M) t + 2), xwi (m2 M), xdr (m2 M), xem (m2 M), xec (m2 M)), m3 M, m4 M, m5 M) := if_pos (by
        show nI (pPiece (vp_updL (xfr (m2 M)) t (xfr (m2 M) t + yWay M t v') t)) = _
        rw [hfr]
        exact hpe.mpr hp)
      rw [q3]
      refine ⟨⟨e1, ?_, ?_, ?_, ?_, e6, e7, e8, e9⟩, ⟨b1, ?_, ?_, ?_, ?_, b6, b7⟩, rfl⟩
      · show (tfr T + tWay T v).toInt = (vp_updL (xfr (m2 M)) t (xfr (m2 M) t + yWay M t v') t).toInt
        rw [hfr, f1, f2]
      · show v.toInt = (vp_updL (xsp (m2 M)) t v' t).toInt
        rw [hsp, hv]
      · show (tes T + (tWay T v + tdr T)).toInt = (vp_updL (xes (m2 M)) t (xes (m2 M) t + (yWay M t v' + (xdr (m2 M) t).toInt64)) t).toInt
        rw [pk_uLs, g2, g4]
      · show (tdo T + 2).toInt = (vp_updL (xdo (m2 M)) t (xdo (m2 M) t + 2) t).toInt
        rw [pk_uLs, g5, g6]
      · show 0 ≤ (tfr T + tWay T v).toInt ∧ (tfr T + tWay T v).toInt ≤ 32000 + 26000 * ((n + 1 : Nat) : Int)
        rw [f1]; omega
      · show 0 ≤ v.toInt ∧ v.toInt ≤ 6 * ((n + 1 : Nat) : Int)
        omega
      · show -(2 * ((n + 1 : Nat) : Int)) ≤ (tes T + (tWay T v + tdr T)).toInt ∧ (tes T + (tWay T v + tdr T)).toInt ≤ 32000 + 26000 * ((n + 1 : Nat) : Int)
        rw [g2]; omega
      · show 0 ≤ (tdo T + 2).toInt ∧ (tdo T + 2).toInt ≤ 2 * ((n + 1 : Nat) : Int)
        rw [g5]; omega
    · rw [if_neg hp] at q4
      rw [q4]
      have q3 : yMv3 (m1 M, (xle (m2 M), vp_updL (xfr (m2 M)) t (xfr (m2 M) t + yWay M t v'), vp_updL (xsp (m2 M)) t v', vp_updL (xes (m2 M)) t (xes (m2 M) t + (yWay M t v' + (xdr (m2 M) t).toInt64)), vp_updL (xdo (m2 M)) t (xdo (m2 M) t + 2), xwi (m2 M), xdr (m2 M), xem (m2 M), xec (m2 M)), m3 M, m4 M, m5 M) t (pPiece (xfr (m2 M) t)) = (m1 M, (xle (m2 M), vp_updL (xfr (m2 M)) t (xfr (m2 M) t + yWay M t v'), vp_updL (xsp (m2 M)) t v', vp_updL (vp_updL (xes (m2 M)) t (xes (m2 M) t + (yWay M t v' + (xdr (m2 M) t).toInt64))) t (vp_updL (xfr (m2 M)) t (xfr (m2 M) t + yWay M t v') t), vp_updL (vp_updL (xdo (m2 M)) t (xdo (m2 M) t + 2)) t 0, xwi (m2 M), xdr (m2 M), xem (m2 M), xec (m2 M)), m3 M, m4 M, m5 M) := if_neg (by
        show ¬ nI (pPiece (vp_updL (xfr (m2 M)) t (xfr (m2 M) t + yWay M t v') t)) = _
        rw [hfr]
        exact fun q => hp (hpe.mp q))
      rw [q3]
      refine ⟨⟨e1, ?_, ?_, ?_, ?_, e6, e7, e8, e9⟩, ⟨b1, ?_, ?_, ?_, ?_, b6, b7⟩, rfl⟩
      · show (tfr T + tWay T v).toInt = (vp_updL (xfr (m2 M)) t (xfr (m2 M) t + yWay M t v') t).toInt
        rw [hfr, f1, f2]
      · show v.toInt = (vp_updL (xsp (m2 M)) t v' t).toInt
        rw [hsp, hv]
      · show (tfr T + tWay T v).toInt = (vp_updL (vp_updL (xes (m2 M)) t (xes (m2 M) t + (yWay M t v' + (xdr (m2 M) t).toInt64))) t (vp_updL (xfr (m2 M)) t (xfr (m2 M) t + yWay M t v') t) t).toInt
        rw [pk_uLs, hfr, f1, f2]
      · show (0 : Int32).toInt = (vp_updL (vp_updL (xdo (m2 M)) t (xdo (m2 M) t + 2)) t 0 t).toInt
        rw [pk_uLs, c0, d0]
      · show 0 ≤ (tfr T + tWay T v).toInt ∧ (tfr T + tWay T v).toInt ≤ 32000 + 26000 * ((n + 1 : Nat) : Int)
        rw [f1]; omega
      · show 0 ≤ v.toInt ∧ v.toInt ≤ 6 * ((n + 1 : Nat) : Int)
        omega
      · show -(2 * ((n + 1 : Nat) : Int)) ≤ (tfr T + tWay T v).toInt ∧ (tfr T + tWay T v).toInt ≤ 32000 + 26000 * ((n + 1 : Nat) : Int)
        rw [f1]; omega
      · show 0 ≤ (0 : Int32).toInt ∧ (0 : Int32).toInt ≤ 2 * ((n + 1 : Nat) : Int)
        rw [c0]; omega
theorem out_z {T2 : zTr} {M2 : zMo} {v : Int32} {v' : Int64} (hE : pE T2 M2 t) (hB : pBd n T2) (hv : v.toInt = v'.toInt) (hs : tsp T2 = v) : pE (tDrv4 T2) (yMv4 M2 t v') t ∧ pBd n (tDrv4 T2) := by
  have c0 : (0 : Int32).toInt = 0 := by decide
  have d0 : (0 : Int64).toInt = 0 := by decide
  unfold tDrv4 yMv4
  by_cases h : tsp T2 = 0
  · have h' : v' = 0 := l_eq (by rw [← hv, ← hs, h, c0, d0])
    rw [if_pos h, if_pos h']
    obtain ⟨e1, e2, e3, e4, e5, e6, e7, e8, e9⟩ := hE
    refine ⟨⟨e1, e2, e3, e4, e5, e6, e7, ?_, e9⟩, hB⟩
    show false = va_up (xem (m2 M2)) t false t
    rw [va_up_self]
  · have h' : ¬ v' = 0 := fun q => h (v_eq (by rw [hs, hv, q, c0, d0]))
    rw [if_neg h, if_neg h']
    exact ⟨hE, hB⟩
theorem drive_z (hE : pE T M t) (hB : pBd n T) (hn : n ≤ 4200) (hA : aR (n + 1) T M t) (hc : xck (m5 M) = n + 1) (hk : kR k M) (hg : gB k) (hl : lB M) : pE (tDrive T (n + 1) k) (yDrive M t) t ∧ pBd (n + 1) (tDrive T (n + 1) k) := by
  have key : ∀ (T1 : zTr) (M1 : zMo), pE T1 M1 t → pBd n T1 → aR (n + 1) T1 M1 t → xck (m5 M1) = n + 1 → kR k M1 → lB M1 → tFresh T1 (n + 1) = tFresh T (n + 1) → pE (tDrv4 (tDrv3 T1 (tDrv2 T1 (tFresh T (n + 1)) k) k)) (yDrv2 M1 t (yNext M1 t (yPull M1 t))) t ∧ pBd (n + 1) (tDrv4 (tDrv3 T1 (tDrv2 T1 (tFresh T (n + 1)) k) k)) := by
    intro T1 M1 hE1 hB1 hA1 hc1 hk1 hl1 hf1
    obtain ⟨p1, p2, p3⟩ := pull_z hE1 hB1 hn hA1 (by omega) hc1 hk1 hg hl1 hf1.symm
    obtain ⟨v1, v2, v3⟩ := after_z hE1 hB1 hn hk1 hg ⟨p2, p3⟩
    rw [← p1]
    obtain ⟨m1', m2', m3'⟩ := mv_z hE1 hB1 hn v1 v2 v3
    exact out_z m1' m2' v1 m3'
  unfold tDrive yDrive
  rcases drv1_z hE hB hn hA (by omega) hc hk hl with ⟨q1, q2⟩ | ⟨q1, q2⟩
  · rw [q1, q2]
    exact key T M hE hB hA hc hk hl rfl
  · rw [q1, q2]
    exact key (tInto T) (yInto M t) (into_E hE) hB hA hc hk hl rfl
end DRV2
