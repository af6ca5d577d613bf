/-! the new object, radio, enter, and what is read -/
theorem pd_0 {z : Bool} {t n : Nat} (hn : n ≤ 4300) : pend n n z t zc0 = [] := by
  have e : ∀ k ∈ ord n, ¬ (decide (nI n < car zc0 k) = true) := fun k _ q => by
    have q1 : nI n < 0 := of_decide_eq_true q
    exact nI_pos (by omega) q1
  unfold pend
  rw [List.filter_eq_nil_iff.mpr e]
  rfl
theorem ch_0 {z : Bool} {n : Nat} : chI z n n zc0 := fun i h1 h2 => ⟨0, rfl, by omega, fun q => absurd q (by omega)⟩
theorem rel_0 : Rel zs0 zo0 := by
  refine ⟨⟨rfl, by decide, rfl, ?_, ?_, ?_, ⟨?_, ?_⟩, fun _ _ => rfl⟩, fun m hm => ?_, by unfold losR; decide +kernel, by unfold staR; decide +kernel, fun t ht => ?_⟩
  · unfold kR; decide +kernel
  · unfold lB; decide +kernel
  · unfold gB; decide +kernel
  · decide +kernel
  · decide +kernel
  · cases hm
  · show tI (0, 0) (0, 0) 0 0 zt0 zo0 t
    refine ⟨?_, by unfold pBd; decide +kernel, ⟨rfl, 0, Nat.le_refl 0, rfl, fun _ => ?_, fun q => absurd q (by decide)⟩, ⟨rfl, 0, Nat.le_refl 0, rfl, fun q => absurd q (by decide)⟩, ?_, ⟨ch_0, (pd_0 (by decide)).symm⟩, ⟨ch_0, (pd_0 (by decide)).symm⟩⟩
    · unfold pE
      rcases i4 ht with q | q | q | q <;> subst q <;> decide +kernel
    · rcases i4 ht with q | q | q | q <;> subst q <;> decide +kernel
    · unfold dlR d5
      rcases i4 ht with q | q | q | q <;> subst q <;> decide +kernel
section REL
variable {S : zMB} {M : zMo}
theorem rel_radio (h : Rel S M) (hn : sn S ≤ 4096) (x u d : Int32) : (xRadio S x u d).1 = (yRadio M x u d).1 ∧ Rel (xRadio S x u d).2 (yRadio M x u d).2 ∧ sn (xRadio S x u d).2 ≤ sn S + 8 := by
  unfold xRadio yRadio
  rw [no_z h x, out_in, out_in]
  by_cases c1 : bI (mNo M x) = 0
  · obtain ⟨t, ht, ht4, ex, ec⟩ := no_t h c1
    rw [if_pos c1, if_pos c1]
    by_cases c2 : bI (mIn u 0 5) = 0
    · rw [if_neg (fun q => bI_not.mp q c2), if_pos c2]
      exact ⟨rfl, h, Nat.le_add_right _ _⟩
    · rw [if_pos (bI_not.mpr c2), if_neg c2]
      by_cases c3 : bI (mIn d 0 5) = 0
      · rw [if_neg (fun q => bI_not.mp q c3), if_pos c3]
        exact ⟨rfl, h, Nat.le_add_right _ _⟩
      · rw [if_pos (bI_not.mpr c3), if_neg c3, ec]
        refine ⟨rfl, ?_, Nat.le_add_right _ _⟩
        have r1 := in_z c2
        have r2 := in_z c3
        have z0 : (0 : Int32).toInt = 0 := by decide
        have z5 : (5 : Int32).toInt = 5 := by decide
        rw [z0, z5] at r1 r2
        obtain ⟨hg, hq, hl, hst, hT⟩ := h
        have off : ∀ j, j ≠ t → sT (sSetT S t (tSetDl (sT S t) u d)) j = sT S j := fun j hj => va_up_ne _ _ hj
        have at' : sT (sSetT S t (tSetDl (sT S t) u d)) t = tSetDl (sT S t) u d := va_up_self _ _ _
        refine ⟨gst_c hg rfl rfl rfl rfl rfl rfl rfl (fun j hj => by rw [off j (by omega)]; exact hg.2.2.2.2.2.2.2 j hj), hq, ?_, ?_, fun j hj4 => ?_⟩
        · unfold losR at hl ⊢
          refine Eq.trans hl ?_
          rw [s4_eq (f := fun j => clo (trp (sT (sSetT S t (tSetDl (sT S t) u d)) j))) (g := fun j => clo (trp (sT S j))) (fun j _ => ?_), s4_eq (f := fun j => clo (tau (sT (sSetT S t (tSetDl (sT S t) u d)) j))) (g := fun j => clo (tau (sT S j))) (fun j _ => ?_)]
          · show clo (tau (sT (sSetT S t (tSetDl (sT S t) u d)) j)) = _
            by_cases q : j = t
            · subst q; rw [at']; rfl
            · rw [off j q]
          · show clo (trp (sT (sSetT S t (tSetDl (sT S t) u d)) j)) = _
            by_cases q : j = t
            · subst q; rw [at']; rfl
            · rw [off j q]
        · unfold staR at hst ⊢
          refine Eq.trans hst ?_
          rw [s4_eq (f := fun j => cnt (trp (sT (sSetT S t (tSetDl (sT S t) u d)) j))) (g := fun j => cnt (trp (sT S j))) (fun j _ => ?_), s4_eq (f := fun j => cnt (tau (sT (sSetT S t (tSetDl (sT S t) u d)) j))) (g := fun j => cnt (tau (sT S j))) (fun j _ => ?_)]
          · show cnt (tau (sT (sSetT S t (tSetDl (sT S t) u d)) j)) = _
            by_cases q : j = t
            · subst q; rw [at']; rfl
            · rw [off j q]
          · show cnt (trp (sT (sSetT S t (tSetDl (sT S t) u d)) j)) = _
            by_cases q : j = t
            · subst q; rw [at']; rfl
            · rw [off j q]
        · obtain ⟨p1, p2, p3, p4, p5, p6, p7⟩ := hT j hj4
          by_cases q : j = t
          · subst q
            rw [at']
            refine ⟨p1, p2, p3, p4, ?_, p6, p7⟩
            show (u = upd (xup (m3 M)) j u j ∧ d5 u) ∧ (d = upd (xbk (m3 M)) j d j ∧ d5 d)
            rw [pk_us, pk_us]
            exact ⟨⟨rfl, r1⟩, ⟨rfl, r2⟩⟩
          · rw [off j q]
            refine ⟨p1, p2, p3, p4, ?_, p6, p7⟩
            show (cdl (trp (sT S j)) = upd (xup (m3 M)) t u j ∧ d5 (cdl (trp (sT S j)))) ∧ (cdl (tau (sT S j)) = upd (xbk (m3 M)) t d j ∧ d5 (cdl (tau (sT S j))))
            rw [pk_un q, pk_un q]
            exact p5
  · rw [if_neg c1, if_neg c1]
    exact ⟨rfl, h, Nat.le_add_right _ _⟩
theorem rear_z {n : Nat} {T : zTr} {M : zMo} {t : Nat} (hE : pE T M t) (hB : pBd n T) (hn : n ≤ 4200) : (tRear T).toInt = (tfr T).toInt - (tle T).toInt ∧ (yRear M t).toInt = (tfr T).toInt - (tle T).toInt := by
  obtain ⟨e1, e2, -⟩ := hE
  obtain ⟨b1, b2, -⟩ := hB
  refine ⟨v_sub (by omega) (by omega), ?_⟩
  show (xfr (m2 M) t - xle (m2 M) t).toInt = _
  rw [l_sub (by rw [← e1, ← e2]; omega) (by rw [← e1, ← e2]; omega), ← e1, ← e2]
theorem ent2_z (h : Rel S M) (hm : sm S < 4) {le fr : Int32} (hl : 20 ≤ le.toInt ∧ le.toInt ≤ 200) (hf : le.toInt ≤ fr.toInt ∧ fr.toInt ≤ 4000) : (xEnt2 S le fr).1 = (yEnt2 M le fr).1 ∧ Rel (xEnt2 S le fr).2 (yEnt2 M le fr).2 ∧ sn (xEnt2 S le fr).2 ≤ sn S + 8 := by
  have g1 := h.1.1
  unfold xEnt2 yEnt2
  rw [g1]
  refine ⟨rfl, ?_, Nat.le_add_right _ _⟩
  have z8 : (8 : Int32).toInt = 8 := by decide
  have y8 : (8 : Int64).toInt = 8 := by decide
  have e1 : (le * 8).toInt = 8 * le.toInt := by
    rw [v_mul (by rw [z8]; omega) (by rw [z8]; omega), z8]
    omega
  have e2 : (8 * le.toInt64).toInt = 8 * le.toInt := by
    rw [l_mul (by rw [y8, Int32.toInt_toInt64]; omega) (by rw [y8, Int32.toInt_toInt64]; omega), y8, Int32.toInt_toInt64]
  have f1 : (fr * 8).toInt = 8 * fr.toInt := by
    rw [v_mul (by rw [z8]; omega) (by rw [z8]; omega), z8]
    omega
  have f2 : (8 * fr.toInt64).toInt = 8 * fr.toInt := by
    rw [l_mul (by rw [y8, Int32.toInt_toInt64]; omega) (by rw [y8, Int32.toInt_toInt64]; omega), y8, Int32.toInt_toInt64]
  obtain ⟨⟨-, g2, g3, g4, g5, g6, g7, g8⟩, hq, hlo, hst, hT⟩ := h
  have e0 := g8 (sm S) (Nat.le_refl _)
  generalize hk : sm S = k at *
  have off : ∀ j, j ≠ k → va_up (sT S) k (tPlace (sT S k) (le * 8) (fr * 8)) j = sT S j := fun j hj => va_up_ne _ _ hj
  have at' : va_up (sT S) k (tPlace (sT S k) (le * 8) (fr * 8)) k = tPlace (sT S k) (le * 8) (fr * 8) := va_up_self _ _ _
  have c1 : ∀ j, trp (va_up (sT S) k (tPlace (sT S k) (le * 8) (fr * 8)) j) = trp (sT S j) := fun j => by
    by_cases q : j = k
    · subst q; rw [at']; rfl
    · rw [off j q]
  have c2 : ∀ j, tau (va_up (sT S) k (tPlace (sT S k) (le * 8) (fr * 8)) j) = tau (sT S j) := fun j => by
    by_cases q : j = k
    · subst q; rw [at']; rfl
    · rw [off j q]
  refine ⟨⟨rfl, ?_, g3, g4, g5, g6, g7, fun j hj => ?_⟩, hq, ?_, ?_, fun j hj4 => ?_⟩
  · show k + 1 ≤ 4
    omega
  · have hj' : k + 1 ≤ j := hj
    show va_up (sT S) k (tPlace (sT S k) (le * 8) (fr * 8)) j = zt0
    rw [off j (by omega)]
    exact g8 j (by omega)
  · unfold losR at hlo ⊢
    refine Eq.trans hlo ?_
    show _ = s4 (fun j => clo (trp (va_up (sT S) k (tPlace (sT S k) (le * 8) (fr * 8)) j))) + s4 (fun j => clo (tau (va_up (sT S) k (tPlace (sT S k) (le * 8) (fr * 8)) j)))
    rw [s4_eq (f := fun j => clo (trp (va_up (sT S) k (tPlace (sT S k) (le * 8) (fr * 8)) j))) (g := fun j => clo (trp (sT S j))) (fun j _ => congrArg clo (c1 j)), s4_eq (f := fun j => clo (tau (va_up (sT S) k (tPlace (sT S k) (le * 8) (fr * 8)) j))) (g := fun j => clo (tau (sT S j))) (fun j _ => congrArg clo (c2 j))]
  · unfold staR at hst ⊢
    refine Eq.trans hst ?_
    show _ = s4 (fun j => cnt (trp (va_up (sT S) k (tPlace (sT S k) (le * 8) (fr * 8)) j))) + s4 (fun j => cnt (tau (va_up (sT S) k (tPlace (sT S k) (le * 8) (fr * 8)) j)))
    rw [s4_eq (f := fun j => cnt (trp (va_up (sT S) k (tPlace (sT S k) (le * 8) (fr * 8)) j))) (g := fun j => cnt (trp (sT S j))) (fun j _ => congrArg cnt (c1 j)), s4_eq (f := fun j => cnt (tau (va_up (sT S) k (tPlace (sT S k) (le * 8) (fr * 8)) j))) (g := fun j => cnt (tau (sT S j))) (fun j _ => congrArg cnt (c2 j))]
  · have w := hT j hj4
    have p1 := w.1
    have p2 := w.2.1
    by_cases q : j = k
    · subst q
      show tI (sn S, sn S) (sn S, sn S) (sn S) (sn S) (va_up (sT S) j (tPlace (sT S j) (le * 8) (fr * 8)) j) _ j
      rw [at']
      refine tI_t w rfl rfl rfl rfl ?_ ?_
      · obtain ⟨u1, u2, u3, u4, u5, u6, u7, u8, u9⟩ := p1
        refine ⟨?_, ?_, u3, ?_, u5, u6, u7, u8, u9⟩
        · show (le * 8).toInt = (vp_updL (xle (m2 M)) j (8 * le.toInt64) j).toInt
          rw [pk_uLs, e1, e2]
        · show (fr * 8).toInt = (vp_updL (xfr (m2 M)) j (8 * fr.toInt64) j).toInt
          rw [pk_uLs, f1, f2]
        · show (fr * 8).toInt = (vp_updL (xes (m2 M)) j (8 * fr.toInt64) j).toInt
          rw [pk_uLs, f1, f2]
      · obtain ⟨b1, b2, b3, b4, b5, b6, b7⟩ := p2
        refine ⟨?_, ?_, b3, ?_, b5, b6, b7⟩
        · show 0 ≤ (le * 8).toInt ∧ (le * 8).toInt ≤ 1600
          rw [e1]; omega
        · show 0 ≤ (fr * 8).toInt ∧ (fr * 8).toInt ≤ 32000 + 26000 * ((sn S : Nat) : Int)
          rw [f1]; omega
        · show -(2 * ((sn S : Nat) : Int)) ≤ (fr * 8).toInt ∧ (fr * 8).toInt ≤ 32000 + 26000 * ((sn S : Nat) : Int)
          rw [f1]; omega
    · show tI (sn S, sn S) (sn S, sn S) (sn S) (sn S) (va_up (sT S) k (tPlace (sT S k) (le * 8) (fr * 8)) j) _ j
      rw [off j q]
      refine tI_t w rfl rfl rfl rfl ?_ p2
      obtain ⟨u1, u2, u3, u4, u5, u6, u7, u8, u9⟩ := p1
      refine ⟨?_, ?_, u3, ?_, u5, u6, u7, u8, u9⟩
      · show (tle (sT S j)).toInt = (vp_updL (xle (m2 M)) k (8 * le.toInt64) j).toInt
        rw [pk_uLn q]; exact u1
      · show (tfr (sT S j)).toInt = (vp_updL (xfr (m2 M)) k (8 * fr.toInt64) j).toInt
        rw [pk_uLn q]; exact u2
      · show (tes (sT S j)).toInt = (vp_updL (xes (m2 M)) k (8 * fr.toInt64) j).toInt
        rw [pk_uLn q]; exact u4
theorem rel_enter (h : Rel S M) (hn : sn S ≤ 4096) (le fr : Int32) : (xEnter S le fr).1 = (yEnter M le fr).1 ∧ Rel (xEnter S le fr).2 (yEnter M le fr).2 ∧ sn (xEnter S le fr).2 ≤ sn S + 8 := by
  unfold xEnter yEnter
  have g1 := h.1.1
  have g2 := h.1.2.1
  rw [out_in, out_in, g1]
  by_cases c1 : bI (mIn le 20 200) = 0
  · rw [if_neg (fun q => bI_not.mp q c1), if_pos c1]
    exact ⟨rfl, h, Nat.le_add_right _ _⟩
  · rw [if_pos (bI_not.mpr c1), if_neg c1]
    by_cases c2 : bI (mIn fr le 4000) = 0
    · rw [if_neg (fun q => bI_not.mp q c2), if_pos c2]
      exact ⟨rfl, h, Nat.le_add_right _ _⟩
    · rw [if_pos (bI_not.mpr c2), if_neg c2]
      have r1 := in_z c1
      have r2 := in_z c2
      have z20 : (20 : Int32).toInt = 20 := by decide
      have z200 : (200 : Int32).toInt = 200 := by decide
      have z4000 : (4000 : Int32).toInt = 4000 := by decide
      rw [z20, z200] at r1
      rw [z4000] at r2
      by_cases c3 : sm S = 4
      · rw [if_neg (show ¬ nI (sm S) < 4 by rw [c3]; decide), if_pos (show nI (sm S) = 4 by rw [c3]; decide)]
        exact ⟨rfl, h, Nat.le_add_right _ _⟩
      · have hlt : nI (sm S) < 4 := (nI_ltI (b := 4) (by omega) (by decide)).mpr (by omega)
        have hne : ¬ nI (sm S) = 4 := fun q => c3 ((nI_eq (b := 4) (by omega) (by decide)).mp q)
        rw [if_pos hlt, if_neg hne]
        by_cases c4 : nI (sm S) ≤ 0
        · rw [if_pos c4, if_pos c4]
          exact ent2_z h (by omega) r1 r2
        · rw [if_neg c4, if_neg c4]
          obtain ⟨p1, p2', -⟩ := h.2.2.2.2 (sm S - 1) (by omega)
          have p2 : pBd (sn S) (sT S (sm S - 1)) := p2'
          obtain ⟨q1, q2⟩ := rear_z p1 p2 (by omega)
          obtain ⟨b1, b2, -⟩ := p2
          have z8 : (8 : Int32).toInt = 8 := by decide
          have y8 : (8 : Int64).toInt = 8 := by decide
          have z64 : (64 : Int32).toInt = 64 := by decide
          have y64 : (64 : Int64).toInt = 64 := by decide
          have f1 : (fr * 8).toInt = 8 * fr.toInt := by
            rw [v_mul (by rw [z8]; omega) (by rw [z8]; omega), z8]
            omega
          have f2 : (8 * fr.toInt64).toInt = 8 * fr.toInt := by
            rw [l_mul (by rw [y8, Int32.toInt_toInt64]; omega) (by rw [y8, Int32.toInt_toInt64]; omega), y8, Int32.toInt_toInt64]
          have s1 : (tRear (sT S (sm S - 1)) - 64).toInt = (tfr (sT S (sm S - 1))).toInt - (tle (sT S (sm S - 1))).toInt - 64 := by
            rw [v_sub (by rw [q1, z64]; omega) (by rw [q1, z64]; omega), q1, z64]
          have s2 : (yRear M (sm S - 1) - 64).toInt = (tfr (sT S (sm S - 1))).toInt - (tle (sT S (sm S - 1))).toInt - 64 := by
            rw [l_sub (by rw [q2, y64]; omega) (by rw [q2, y64]; omega), q2, y64]
          by_cases c5 : fr * 8 ≤ tRear (sT S (sm S - 1)) - 64
          · have a := Int32.le_iff_toInt_le.mp c5
            rw [if_pos c5, if_pos (Int64.le_iff_toInt_le.mpr (by rw [f2, s2, ← f1, ← s1]; exact a))]
            exact ent2_z h (by omega) r1 r2
          · have a : ¬ 8 * fr.toInt64 ≤ yRear M (sm S - 1) - 64 := fun q => c5 (Int32.le_iff_toInt_le.mpr (by
              have := Int64.le_iff_toInt_le.mp q
              rw [f2, s2] at this
              rw [f1, s1]
              exact this))
            rw [if_neg c5, if_neg a]
            exact ⟨rfl, h, Nat.le_add_right _ _⟩
end REL
