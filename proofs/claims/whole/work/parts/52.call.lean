/-! the calls, class against reference -/
theorem out_in (x lo hi : Int32) : jOut x lo hi = !(mIn x lo hi) := by
  unfold jOut mIn
  by_cases h : x < lo
  · rw [if_pos h, if_pos h]; rfl
  · rw [if_neg h, if_neg h]
    by_cases h2 : x ≤ hi
    · have h3 : ¬ hi < x := fun q => by
        have a := Int32.lt_iff_toInt_lt.mp q
        have b := Int32.le_iff_toInt_le.mp h2
        omega
      rw [if_pos h2, if_neg h3]; rfl
    · have h3 : hi < x := Int32.lt_iff_toInt_lt.mpr (by
        have b : ¬ x.toInt ≤ hi.toInt := fun q => h2 (Int32.le_iff_toInt_le.mpr q)
        omega)
      rw [if_neg h2, if_pos h3]; rfl
theorem in_z {x lo hi : Int32} (h : ¬ bI (mIn x lo hi) = 0) : lo.toInt ≤ x.toInt ∧ x.toInt ≤ hi.toInt := by
  unfold mIn at h
  by_cases h1 : x < lo
  · rw [if_pos h1] at h
    exact absurd (by decide) h
  · rw [if_neg h1] at h
    by_cases h2 : hi < x
    · rw [if_pos h2] at h
      exact absurd (by decide) h
    · have a : ¬ x.toInt < lo.toInt := fun q => h1 (Int32.lt_iff_toInt_lt.mpr q)
      have b : ¬ hi.toInt < x.toInt := fun q => h2 (Int32.lt_iff_toInt_lt.mpr q)
      omega
theorem nat_of {x : Int32} (h : 0 ≤ x.toInt) : ∃ k : Nat, k < 2147483648 ∧ x = nI k ∧ x.toNatClampNeg = k ∧ (k : Int) = x.toInt := by
  obtain ⟨k, hk, e⟩ := nI_of (x := x) (fun q => by
    have := Int32.lt_iff_toInt_lt.mp q
    have e0 : (0 : Int32).toInt = 0 := by decide
    omega)
  refine ⟨k, hk, e, ?_, ?_⟩
  · rw [e, nI_clamp hk]
  · rw [e, nI_int hk]
section REL
variable {S : zMB} {M : zMo}
theorem rel_b (h : Rel S M) : sm S ≤ 4 ∧ xtr (m5 M) ≤ 4 ∧ xme (m5 M) ≤ 64 := ⟨h.1.2.1, by rw [h.1.1]; exact h.1.2.1, by have := WR_me h; omega⟩
theorem rel_mB (h : Rel S M) : mB 48 M := by
  refine ⟨by rw [h.1.1]; exact h.1.2.1, by have := WR_me h; omega, fun j hj => ?_⟩
  exact h.2.1 (qAt (m4 M) j) (List.mem_map.mpr ⟨j, List.mem_range.mpr hj, rfl⟩)
theorem rel_ticks : ∀ (q : Nat) (S : zMB) (M : zMo), Rel S M → sn S + q ≤ 4150 → Rel (sTicks q S) (yTicks q M) ∧ sn (sTicks q S) = sn S + q := by
  intro q
  induction q with
  | zero => intro S M h _; exact ⟨h, rfl⟩
  | succ q ih =>
    intro S M h hn
    obtain ⟨k1, k2, -⟩ := rel_sec h (by omega)
    obtain ⟨r1, r2⟩ := ih (sSec S) (ySec M) k1 (by rw [k2]; omega)
    refine ⟨r1, ?_⟩
    show sn (sTicks q (sSec S)) = _
    rw [r2, k2]
    omega
theorem rel_H (h : Rel S M) (hn : sn S ≤ 4096) : ∀ q, q < 8 → mB 48 (yTicks q M) := fun q hq => rel_mB (rel_ticks q S M h (by omega)).1
theorem no_z (h : Rel S M) (x : Int32) : sNo S x = mNo M x := by
  obtain ⟨⟨g1, g2, -⟩, -⟩ := h
  unfold sNo mNo jOut
  have e0 : (0 : Int32).toInt = 0 := by decide
  have c1 : (1 : Int32).toInt = 1 := by decide
  have em : (nI (sm S)).toInt = (sm S : Int) := nI_int (by omega)
  have e1 : (nI (sm S) - 1).toInt = (sm S : Int) - 1 := by
    rw [v_sub (by rw [em, c1]; omega) (by rw [em, c1]; omega), em, c1]
  rw [g1]
  by_cases h1 : x < 0
  · rw [if_pos h1, if_pos h1]
  · rw [if_neg h1, if_neg h1]
    by_cases h2 : x ≤ nI (sm S) - 1
    · have a := Int32.le_iff_toInt_le.mp h2
      rw [e1] at a
      rw [if_pos h2, if_pos (Int32.lt_iff_toInt_lt.mpr (by rw [em]; omega))]
    · have a : ¬ x.toInt ≤ (nI (sm S) - 1).toInt := fun q => h2 (Int32.le_iff_toInt_le.mpr q)
      rw [e1] at a
      rw [if_neg h2, if_neg (fun q => by
        have b := Int32.lt_iff_toInt_lt.mp q
        rw [em] at b
        omega)]
theorem no_t (h : Rel S M) {x : Int32} (hx : bI (mNo M x) = 0) : ∃ t : Nat, t < sm S ∧ t < 4 ∧ x = nI t ∧ x.toNatClampNeg = t := by
  obtain ⟨⟨g1, g2, -⟩, -⟩ := h
  unfold mNo at hx
  by_cases h1 : x < 0
  · rw [if_pos h1] at hx
    exact absurd hx (by decide)
  · rw [if_neg h1] at hx
    by_cases h2 : x < nI (xtr (m5 M))
    · obtain ⟨t, ht, e⟩ := nI_of h1
      rw [e, g1] at h2
      have h3 := (nI_ltI (by omega) (by omega)).mp h2
      exact ⟨t, h3, by omega, e, by rw [e, nI_clamp (by omega)]⟩
    · rw [if_neg h2] at hx
      exact absurd hx (by decide)
theorem rel_piece (h : Rel S M) (hn : sn S ≤ 4096) (p li gr : Int32) : (xPiece S p li gr).1 = (yPiece M p li gr).1 ∧ Rel (xPiece S p li gr).2 (yPiece M p li gr).2 ∧ sn (xPiece S p li gr).2 ≤ sn S + 8 := by
  unfold xPiece yPiece
  rw [out_in, out_in, out_in]
  by_cases c1 : bI (mIn p 0 7) = 0
  · rw [if_neg (fun q => bI_not.mp q c1), if_pos c1]
    exact ⟨rfl, h, Nat.le_add_right _ _⟩
  · rw [if_pos (bI_not.mpr c1), if_neg c1]
    by_cases c2 : bI (mIn li 1 40) = 0
    · rw [if_neg (fun q => bI_not.mp q c2), if_pos c2]
      exact ⟨rfl, h, Nat.le_add_right _ _⟩
    · rw [if_pos (bI_not.mpr c2), if_neg c2]
      by_cases c3 : bI (mIn gr (-1) 1) = 0
      · rw [if_neg (fun q => bI_not.mp q c3), if_pos c3]
        exact ⟨rfl, h, Nat.le_add_right _ _⟩
      · rw [if_pos (bI_not.mpr c3), if_neg c3]
        refine ⟨rfl, ?_, Nat.le_add_right _ _⟩
        have l1 := in_z c2
        have r1 := in_z c3
        have z1 : (1 : Int32).toInt = 1 := by decide
        have z40 : (40 : Int32).toInt = 40 := by decide
        have zm : (-1 : Int32).toInt = -1 := by decide
        have z8 : (8 : Int32).toInt = 8 := by decide
        rw [z1, z40] at l1
        rw [z1, zm] at r1
        have e8 : (li * 8).toInt = 8 * li.toInt := by
          rw [v_mul (by rw [z8]; omega) (by rw [z8]; omega), z8]
          omega
        generalize p.toNatClampNeg = k
        obtain ⟨⟨g1, g2, g3, g4, g5, g6, g7, g8⟩, w2, w3, w4, w5⟩ := h
        refine ⟨⟨g1, g2, g3, ?_, ?_, ?_, g7, g8⟩, w2, w3, w4, w5⟩
        · intro i hi
          show (upd (kli (sk S)) k (li * 8) i).toInt = 8 * (upd (xli (m1 M)) k li i).toInt ∧ upd (kgr (sk S)) k gr i = upd (xgr (m1 M)) k gr i
          by_cases q : i = k
          · subst q
            rw [pk_us, pk_us, pk_us, pk_us]
            exact ⟨e8, rfl⟩
          · rw [pk_un q, pk_un q, pk_un q, pk_un q]
            exact g4 i hi
        · intro i hi
          show 1 ≤ (upd (xli (m1 M)) k li i).toInt ∧ (upd (xli (m1 M)) k li i).toInt ≤ 40
          by_cases q : i = k
          · subst q
            rw [pk_us]
            exact l1
          · rw [pk_un q]
            exact g5 i hi
        · intro i hi
          show -1 ≤ (upd (kgr (sk S)) k gr i).toInt ∧ (upd (kgr (sk S)) k gr i).toInt ≤ 1
          by_cases q : i = k
          · subst q
            rw [pk_us]
            exact r1
          · rw [pk_un q]
            exact g6 i hi
theorem rel_hold (h : Rel S M) (hn : sn S ≤ 4096) (ho pl : Int32) (z : Bool) : (xHold S ho pl z).1 = (yHold M ho pl z).1 ∧ Rel (xHold S ho pl z).2 (yHold M ho pl z).2 ∧ sn (xHold S ho pl z).2 ≤ sn S + 8 := by
  unfold xHold yHold
  rw [out_in, out_in]
  by_cases c1 : bI (mIn ho 0 3) = 0
  · rw [if_neg (fun q => bI_not.mp q c1), if_pos c1]
    exact ⟨rfl, h, Nat.le_add_right _ _⟩
  · rw [if_pos (bI_not.mpr c1), if_neg c1]
    by_cases c2 : bI (mIn pl 0 4096) = 0
    · rw [if_neg (fun q => bI_not.mp q c2), if_pos c2]
      exact ⟨rfl, h, Nat.le_add_right _ _⟩
    · rw [if_pos (bI_not.mpr c2), if_neg c2]
      refine ⟨rfl, ?_, Nat.le_add_right _ _⟩
      have l1 := in_z c2
      have z0 : (0 : Int32).toInt = 0 := by decide
      have z4 : (4096 : Int32).toInt = 4096 := by decide
      have z8 : (8 : Int32).toInt = 8 := by decide
      have y8 : (8 : Int64).toInt = 8 := by decide
      rw [z0, z4] at l1
      have e8 : (pl * 8).toInt = 8 * pl.toInt := by
        rw [v_mul (by rw [z8]; omega) (by rw [z8]; omega), z8]
        omega
      have e9 : (8 * pl.toInt64).toInt = 8 * pl.toInt := by
        rw [l_mul (by rw [y8, Int32.toInt_toInt64]; omega) (by rw [y8, Int32.toInt_toInt64]; omega), y8, Int32.toInt_toInt64]
      generalize ho.toNatClampNeg = k
      obtain ⟨⟨g1, g2, g3, g4, g5, g6, g7, g8⟩, w2, w3, w4, w5⟩ := h
      refine ⟨⟨g1, g2, g3, g4, g5, g6, ⟨?_, g7.2⟩, g8⟩, w2, w3, w4, w5⟩
      intro i hi
      show (upd (ypl (sy S)) k (pl * 8) i).toInt = (vp_updL (xho (m1 M)) k (8 * pl.toInt64) i).toInt ∧ 0 ≤ (upd (ypl (sy S)) k (pl * 8) i).toInt ∧ (upd (ypl (sy S)) k (pl * 8) i).toInt ≤ 32768 ∧ va_up (ycl (sy S)) k z i = va_up (xhc (m1 M)) k z i
      by_cases q : i = k
      · subst q
        rw [pk_us, pk_uLs, va_up_self, va_up_self, e8, e9]
        exact ⟨rfl, by omega, by omega, rfl⟩
      · rw [pk_un q, pk_uLn q, va_up_ne _ _ q, va_up_ne _ _ q]
        exact g7.1 i hi
theorem rel_dn (h : Rel S M) {o : Nat} {z : Bool} : (yup (sy S) o = z → Rel S (ySetDn M o (!z))) ∧ Rel (sT S, sk S, (ypl (sy S), ycl (sy S), va_up (yup (sy S)) o z), sm S, sn S) (ySetDn M o (!z)) := by
  obtain ⟨⟨g1, g2, g3, g4, g5, g6, g7, g8⟩, w2, w3, w4, w5⟩ := h
  refine ⟨fun e => ⟨⟨g1, g2, g3, g4, g5, g6, ⟨g7.1, ?_⟩, g8⟩, w2, w3, w4, w5⟩, ⟨⟨g1, g2, g3, g4, g5, g6, ⟨g7.1, ?_⟩, g8⟩, w2, w3, w4, w5⟩⟩
  · intro j hj
    show yup (sy S) j = !(va_up (xdn (m1 M)) o (!z) j)
    by_cases q : j = o
    · subst q
      rw [va_up_self, e]
      cases z <;> rfl
    · rw [va_up_ne _ _ q]
      exact g7.2 j hj
  · intro j hj
    show va_up (yup (sy S)) o z j = !(va_up (xdn (m1 M)) o (!z) j)
    by_cases q : j = o
    · subst q
      rw [va_up_self, va_up_self]
      cases z <;> rfl
    · rw [va_up_ne _ _ q, va_up_ne _ _ q]
      exact g7.2 j hj
theorem rel_controller (h : Rel S M) (hn : sn S ≤ 4096) (o : Int32) (z : Bool) : (xCtl S o z).1 = (yCtl M o z).1 ∧ Rel (xCtl S o z).2 (yCtl M o z).2 ∧ sn (xCtl S o z).2 ≤ sn S + 8 := by
  unfold xCtl yCtl
  rw [out_in]
  by_cases c1 : bI (mIn o 0 1) = 0
  · rw [if_neg (fun q => bI_not.mp q c1), if_pos c1]
    exact ⟨rfl, h, Nat.le_add_right _ _⟩
  · rw [if_pos (bI_not.mpr c1), if_neg c1]
    have l1 := in_z c1
    have z0 : (0 : Int32).toInt = 0 := by decide
    have z1 : (1 : Int32).toInt = 1 := by decide
    rw [z0, z1] at l1
    obtain ⟨k, hk, e, e2, e3⟩ := nat_of l1.1
    rw [e2]
    have hup := h.1.2.2.2.2.2.2.1.2 k (by omega)
    obtain ⟨r1, r2⟩ := rel_dn (o := k) (z := z) h
    have hy : yCtl M o z = yCtl M o z := rfl
    clear hy
    by_cases q : bI (yup (sy S) k) = bI z
    · have q1 := bI_inj.mp q
      have q2 : ¬ bI (xdn (m1 M) k) = bI z := fun w => by
        have w1 := bI_inj.mp w
        rw [w1, q1] at hup
        cases z <;> cases hup
      rw [if_pos q, if_neg q2]
      have r := r1 q1
      cases z with
      | false =>
        rw [if_pos (by decide)]
        exact ⟨rfl, r, Nat.le_add_right _ _⟩
      | true =>
        rw [if_neg (by decide)]
        exact ⟨rfl, r, Nat.le_add_right _ _⟩
    · have q1 : ¬ yup (sy S) k = z := fun w => q (by rw [w])
      have q2 : bI (xdn (m1 M) k) = bI z := by
        rw [hup] at q1
        cases hx : xdn (m1 M) k <;> cases z
        · rfl
        · rw [hx] at q1; exact absurd rfl q1
        · rw [hx] at q1; exact absurd rfl q1
        · rfl
      rw [if_neg q, if_pos q2]
      cases z with
      | false =>
        rw [if_pos (by decide)]
        exact ⟨rfl, r2, Nat.le_add_right _ _⟩
      | true =>
        rw [if_neg (by decide)]
        exact ⟨rfl, r2, Nat.le_add_right _ _⟩
theorem relSet {i : Nat} {T2 : zTr} {M2 : zMo} (h : Rel S M) (hi : i < sm S) (c1 : trp T2 = trp (sT S i)) (c2 : tau T2 = tau (sT S i)) (o1 : m1 M2 = m1 M) (o3 : m3 M2 = m3 M) (o4 : m4 M2 = m4 M) (o5 : m5 M2 = m5 M) (o2 : ∀ T t, t ≠ i → pE T M t → pE T M2 t) (z1 : pE T2 M2 i) (z2 : pBd (sn S) T2) : Rel (sSetT S i T2) M2 := by
  obtain ⟨hg, hq, hl, hst, ht⟩ := h
  have hi4 : i < 4 := Nat.lt_of_lt_of_le hi hg.2.1
  have off : ∀ t, t ≠ i → sT (sSetT S i T2) t = sT S t := fun t ht => va_up_ne _ _ ht
  have at' : sT (sSetT S i T2) i = T2 := va_up_self _ _ _
  have oq : zQL M2 = zQL M := by
    unfold zQL
    rw [o4, o5]
  have f1 : ∀ t, trp (sT (sSetT S i T2) t) = trp (sT S t) := fun t => by
    by_cases h : t = i
    · subst h; rw [at']; exact c1
    · rw [off t h]
  have f2 : ∀ t, tau (sT (sSetT S i T2) t) = tau (sT S t) := fun t => by
    by_cases h : t = i
    · subst h; rw [at']; exact c2
    · rw [off t h]
  refine ⟨gst_c hg o1 (by rw [o5]) (by rw [o5]) rfl rfl rfl rfl (fun t h => by rw [off t (by omega)]; exact hg.2.2.2.2.2.2.2 t h), by rw [oq]; exact hq, ?_, ?_, ?_⟩
  · unfold losR at hl ⊢
    rw [o5, hl, s4_eq (f := fun t => clo (trp (sT (sSetT S i T2) t))) (g := fun t => clo (trp (sT S t))) (fun t _ => congrArg clo (f1 t)), s4_eq (f := fun t => clo (tau (sT (sSetT S i T2) t))) (g := fun t => clo (tau (sT S t))) (fun t _ => congrArg clo (f2 t))]
  · unfold staR at hst ⊢
    rw [o5, hst, s4_eq (f := fun t => cnt (trp (sT (sSetT S i T2) t))) (g := fun t => cnt (trp (sT S t))) (fun t _ => congrArg cnt (f1 t)), s4_eq (f := fun t => cnt (tau (sT (sSetT S i T2) t))) (g := fun t => cnt (tau (sT S t))) (fun t _ => congrArg cnt (f2 t))]
  · intro t h4
    by_cases h : t = i
    · subst h
      rw [at']
      exact tI_t (ht t h4) c1 c2 o3 oq z1 z2
    · rw [off t h]
      have k := ht t h4
      exact tI_t k rfl rfl o3 oq (o2 _ _ h k.1) k.2.1
theorem rel_demand (h : Rel S M) (hn : sn S ≤ 4096) (x d : Int32) : (xDemand S x d).1 = (yDemand M x d).1 ∧ Rel (xDemand S x d).2 (yDemand M x d).2 ∧ sn (xDemand S x d).2 ≤ sn S + 8 := by
  unfold xDemand yDemand
  rw [no_z h x, out_in]
  by_cases c1 : bI (mNo M x) = 0
  · obtain ⟨t, ht, ht4, ex, ec⟩ := no_t h c1
    rw [if_pos c1, if_pos c1]
    by_cases c2 : bI (mIn d (-1) 1) = 0
    · rw [if_neg (fun q => bI_not.mp q c2), if_pos c2]
      exact ⟨rfl, h, Nat.le_add_right _ _⟩
    · rw [if_pos (bI_not.mpr c2), if_neg c2, ec]
      refine ⟨rfl, ?_, Nat.le_add_right _ _⟩
      have r1 := in_z c2
      have z1 : (1 : Int32).toInt = 1 := by decide
      have zm : (-1 : Int32).toInt = -1 := by decide
      rw [z1, zm] at r1
      obtain ⟨p1, p2, -⟩ := h.2.2.2.2 t ht4
      refine relSet h ht rfl rfl rfl rfl rfl rfl (fun T j hj q => ?_) ?_ ?_
      · obtain ⟨e1, e2, e3, e4, e5, e6, e7, e8, e9⟩ := q
        refine ⟨e1, e2, e3, e4, e5, ?_, e7, e8, e9⟩
        show tde T = upd (xwi (m2 M)) t d j
        rw [pk_un hj]; exact e6
      · obtain ⟨e1, e2, e3, e4, e5, e6, e7, e8, e9⟩ := p1
        refine ⟨e1, e2, e3, e4, e5, ?_, e7, e8, e9⟩
        show d = upd (xwi (m2 M)) t d t
        rw [pk_us]
      · obtain ⟨b1, b2, b3, b4, b5, b6, b7⟩ := p2
        exact ⟨b1, b2, b3, b4, b5, r1, b7⟩
  · rw [if_neg c1, if_neg c1]
    exact ⟨rfl, h, Nat.le_add_right _ _⟩
theorem rel_drift (h : Rel S M) (hn : sn S ≤ 4096) (x d : Int32) : (xDrift S x d).1 = (yDrift M x d).1 ∧ Rel (xDrift S x d).2 (yDrift M x d).2 ∧ sn (xDrift S x d).2 ≤ sn S + 8 := by
  unfold xDrift yDrift
  rw [no_z h x, out_in]
  by_cases c1 : bI (mNo M x) = 0
  · obtain ⟨t, ht, ht4, ex, ec⟩ := no_t h c1
    rw [if_pos c1, if_pos c1]
    by_cases c2 : bI (mIn d (-2) 2) = 0
    · rw [if_neg (fun q => bI_not.mp q c2), if_pos c2]
      exact ⟨rfl, h, Nat.le_add_right _ _⟩
    · rw [if_pos (bI_not.mpr c2), if_neg c2, ec]
      refine ⟨rfl, ?_, Nat.le_add_right _ _⟩
      have r1 := in_z c2
      have z1 : (2 : Int32).toInt = 2 := by decide
      have zm : (-2 : Int32).toInt = -2 := by decide
      rw [z1, zm] at r1
      obtain ⟨p1, p2, -⟩ := h.2.2.2.2 t ht4
      refine relSet h ht rfl rfl rfl rfl rfl rfl (fun T j hj q => ?_) ?_ ?_
      · obtain ⟨e1, e2, e3, e4, e5, e6, e7, e8, e9⟩ := q
        refine ⟨e1, e2, e3, e4, e5, e6, ?_, e8, e9⟩
        show tdr T = upd (xdr (m2 M)) t d j
        rw [pk_un hj]; exact e7
      · obtain ⟨e1, e2, e3, e4, e5, e6, e7, e8, e9⟩ := p1
        refine ⟨e1, e2, e3, e4, e5, e6, ?_, e8, e9⟩
        show d = upd (xdr (m2 M)) t d t
        rw [pk_us]
      · obtain ⟨b1, b2, b3, b4, b5, b6, b7⟩ := p2
        exact ⟨b1, b2, b3, b4, b5, b6, r1⟩
  · rw [if_neg c1, if_neg c1]
    exact ⟨rfl, h, Nat.le_add_right _ _⟩
theorem rel_tick (h : Rel S M) (hn : sn S ≤ 4096) (n : Int32) : (xTick S n).1 = (yTick M n).1 ∧ Rel (xTick S n).2 (yTick M n).2 ∧ sn (xTick S n).2 ≤ sn S + 8 := by
  unfold xTick yTick
  rw [out_in]
  by_cases c1 : bI (mIn n 1 8) = 0
  · rw [if_neg (fun q => bI_not.mp q c1), if_pos c1]
    exact ⟨rfl, h, Nat.le_add_right _ _⟩
  · rw [if_pos (bI_not.mpr c1), if_neg c1]
    have l1 := in_z c1
    have z1 : (1 : Int32).toInt = 1 := by decide
    have z8 : (8 : Int32).toInt = 8 := by decide
    rw [z1, z8] at l1
    obtain ⟨k, hk, e, e2, e3⟩ := nat_of (x := n) (by omega)
    rw [e2]
    obtain ⟨r1, r2⟩ := rel_ticks k S M h (by omega)
    refine ⟨?_, r1, ?_⟩
    · show nI (sn (sTicks k S)) = nI (xck (m5 (yTicks k M)))
      rw [r1.1.2.2.1]
    · show sn (sTicks k S) ≤ sn S + 8
      rw [r2]
      omega
end REL
