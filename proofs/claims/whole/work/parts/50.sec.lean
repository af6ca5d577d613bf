/-! a second: arrivals, driving, the five steps -/
def lz (z : Bool) (t : Nat) (L : List zQ) : Nat := (L.filter (kf z t)).length
theorem lz_cons {z : Bool} {t : Nat} {m : zQ} {L : List zQ} : lz z t (m :: L) = (if kf z t m then 1 else 0) + lz z t L := by
  unfold lz
  rw [List.filter_cons]
  by_cases h : kf z t m = true
  · rw [if_pos h, if_pos h, List.length_cons]; omega
  · rw [if_neg h, if_neg h]; omega
theorem len8 : ∀ (L : List zQ), (∀ m ∈ L, qt m < 4) → L.length = (lz false 0 L + lz true 0 L) + (lz false 1 L + lz true 1 L) + (lz false 2 L + lz true 2 L) + (lz false 3 L + lz true 3 L) := by
  intro L
  induction L with
  | nil => intro _; rfl
  | cons m L ih =>
    intro h
    have hm := h m List.mem_cons_self
    have ih := ih (fun x hx => h x (List.mem_cons_of_mem _ hx))
    have key : (if kf false 0 m then 1 else 0) + (if kf true 0 m then 1 else 0) + (if kf false 1 m then 1 else 0) + (if kf true 1 m then 1 else 0) + (if kf false 2 m then 1 else 0) + (if kf true 2 m then 1 else 0) + (if kf false 3 m then 1 else 0) + (if kf true 3 m then 1 else 0) = 1 := by
      unfold kf
      generalize qz m = z
      generalize qt m = t at hm
      rcases i4 hm with q | q | q | q <;> subst q <;> cases z <;> rfl
    rw [lz_cons, lz_cons, lz_cons, lz_cons, lz_cons, lz_cons, lz_cons, lz_cons, List.length_cons, ih]
    omega
theorem WR_me {a b : Nat → Nat × Nat} {d : Nat → Nat} {N : Nat} {S : zMB} {M : zMo} (h : WR a b d N S M) : xme (m5 M) ≤ 40 := by
  obtain ⟨-, hq, -, -, ht⟩ := h
  have e := len8 (zQL M) hq
  have l : (zQL M).length = xme (m5 M) := qL_len
  have b1 : ∀ t, t < 4 → lz false t (zQL M) ≤ 5 := fun t h => by
    unfold lz
    rw [(ht t h).2.2.2.2.2.1.2]
    exact pd_len
  have b2 : ∀ t, t < 4 → lz true t (zQL M) ≤ 5 := fun t h => by
    unfold lz
    rw [(ht t h).2.2.2.2.2.2.2]
    exact pd_len
  have p0 := b1 0 (by decide)
  have p1 := b1 1 (by decide)
  have p2 := b1 2 (by decide)
  have p3 := b1 3 (by decide)
  have q0 := b2 0 (by decide)
  have q1 := b2 1 (by decide)
  have q2 := b2 2 (by decide)
  have q3 := b2 3 (by decide)
  omega
theorem chR_up {z : Bool} {n t : Nat} {c : zCh} {q : List zQ} (hn : n ≤ 4300) (h : chR z (n, n) t c q) : chR z (n, n + 1) t c q := ⟨ch_next h.1, h.2.trans (pd_next (z := z) h.1 hn).symm⟩
theorem WR_a {a a2 b : Nat → Nat × Nat} {d : Nat → Nat} {n N : Nat} {S : zMB} {M : zMo} (hn : n ≤ 4300) (h : WR a b d N S M) (hh : ∀ t, t < 4 → a2 t = a t ∨ (a t = (n, n) ∧ a2 t = (n, n + 1))) : WR a2 b d N S M := by
  obtain ⟨h1, h2, h3, h4, h5⟩ := h
  refine ⟨h1, h2, h3, h4, fun t ht => ?_⟩
  obtain ⟨p1, p2, p3, p4, p5, p6, p7⟩ := h5 t ht
  refine ⟨p1, p2, p3, p4, p5, ?_, p7⟩
  rcases hh t ht with q | ⟨q1, q2⟩
  · rw [q]; exact p6
  · rw [q1] at p6
    rw [q2]
    exact chR_up hn p6
theorem WR_b {a b b2 : Nat → Nat × Nat} {d : Nat → Nat} {n N : Nat} {S : zMB} {M : zMo} (hn : n ≤ 4300) (h : WR a b d N S M) (hh : ∀ t, t < 4 → b2 t = b t ∨ (b t = (n, n) ∧ b2 t = (n, n + 1))) : WR a b2 d N S M := by
  obtain ⟨h1, h2, h3, h4, h5⟩ := h
  refine ⟨h1, h2, h3, h4, fun t ht => ?_⟩
  obtain ⟨p1, p2, p3, p4, p5, p6, p7⟩ := h5 t ht
  refine ⟨p1, p2, p3, p4, p5, p6, ?_⟩
  rcases hh t ht with q | ⟨q1, q2⟩
  · rw [q]; exact p7
  · rw [q1] at p7
    rw [q2]
    exact chR_up hn p7
theorem chR_dz {z : Bool} {n t : Nat} {c : zCh} {q : List zQ} (hn : n ≤ 4300) (h : chR z (n, n + 1) t c q) : chR z (n + 1, n + 1) t (cRec c (n + 1)) (q.filter (fun m => !mch (n + 1) z m)) := by
  refine ⟨ch_rec h.1, ?_⟩
  rw [kf_drop, if_pos rfl, h.2]
  exact (pd_rec (z := z) h.1 hn).symm
theorem chR_do {z y : Bool} {p : Nat × Nat} {N t : Nat} {c : zCh} {q : List zQ} (hne : ¬ y = z) (h : chR y p t c q) : chR y p t c (q.filter (fun m => !mch N z m)) := by
  refine ⟨h.1, ?_⟩
  rw [kf_drop, if_neg hne]
  exact h.2
theorem rec_0 {N : Nat} (h : 0 < N) (hN : N ≤ 4400) : cRec zc0 N = zc0 := by
  rw [cRec_f]
  generalize ord N = K
  induction K with
  | nil => rfl
  | cons k K ih =>
    have e : cF N zc0 k = zc0 := by
      refine if_neg (fun q => ?_)
      have q' : nI 0 = nI N := q
      have := (nI_eq (by omega) (by omega)).mp q'
      omega
    rw [List.foldl_cons, e]
    exact ih
theorem wV_of {z : Bool} {u : zM3} {t : Nat} {w : zV} (h : vw z u t = v3 w) : wV z u t w.2.2.2 = w := by
  unfold wV
  rw [h]
  rfl
theorem wV_eq {z : Bool} {u v : zM3} {t : Nat} {k : Int32} (h : vw z u t = vw z v t) : wV z u t k = wV z v t k := by
  unfold wV
  rw [h]
theorem arrF {b : Nat → Nat × Nat} {d : Nat → Nat} {n : Nat} {S S2 : zMB} {M : zMo} {C : Nat → zCh} (h : WR (fun _ => (n, n + 1)) b d (n + 1) S M) (hn : n ≤ 4300) (hs : sn S = n + 1) (k1 : sk S2 = sk S) (k2 : sy S2 = sy S) (k3 : sm S2 = sm S) (k4 : sn S2 = sn S) (hC : ∀ t, C t = cRec (trp (sT S t)) (n + 1)) (hT : ∀ t, sT S2 t = tSetR (sT S t) (C t)) : WR (fun _ => (n + 1, n + 1)) b d (n + 1) S2 (yArr M false) := by
  have hme := WR_me h
  obtain ⟨hg, hq, hl, hst, ht⟩ := h
  have hck : xck (m5 M) = n + 1 := hg.2.2.1.trans hs
  obtain ⟨a1, a2, a3, a4, a5, a6, a7⟩ := arr_z (z := false) (M := M) (by omega)
  have a6' : zQL (yArr M false) = (zQL M).filter (fun m => !mch (n + 1) false m) := by rw [← hck]; exact a6
  have a7' : (m3 (yArr M false), xsl (m5 (yArr M false))) = ((zQL M).filter (mch (n + 1) false)).foldl takQ (m3 M, xsl (m5 M)) := by rw [← hck]; exact a7
  clear a6 a7
  generalize yArr M false = M2 at a1 a2 a3 a4 a5 a6' a7' ⊢
  have hL : ∀ m ∈ (zQL M).filter (mch (n + 1) false), qz m = false ∧ qt m < 4 := fun m hm => by
    obtain ⟨q1, q2⟩ := List.mem_filter.mp hm
    refine ⟨?_, hq m q1⟩
    have q3 : (decide (qd m = nI (n + 1)) && (qz m == false)) = true := q2
    simp at q3
    exact q3.2
  obtain ⟨f1, f2, f3, f4, f5⟩ := foldT (z := false) ((zQL M).filter (mch (n + 1) false)) (m3 M, xsl (m5 M)) hL
  rw [← a7'] at f1 f2 f3 f4 f5
  have f1' : ∀ t, vw false (m3 M2) t = v3 (qG false (m3 M) t ((zQL M).filter (mch (n + 1) false))) := f1
  have f3' : ∀ t, vw true (m3 M2) t = vw true (m3 M) t := f3
  have f4' : xup (m3 M2) = xup (m3 M) := f4
  have f5' : xbk (m3 M2) = xbk (m3 M) := f5
  have rA : ∀ t, cdl (C t) = cdl (trp (sT S t)) ∧ clo (C t) = clo (trp (sT S t)) := fun t => by
    rw [hC t]
    exact rec_a.2.2.2.2
  have hR : ∀ t, t < 4 → chR false (n + 1, n + 1) t (C t) ((zQL M).filter (fun m => !mch (n + 1) false m)) := fun t h4 => by
    rw [hC t]
    exact chR_dz hn (ht t h4).2.2.2.2.2.1
  have h0 : ∀ t, sm S ≤ t → C t = zc0 := fun t h => by
    rw [hC t, hg.2.2.2.2.2.2.2 t h]
    exact rec_0 (N := n + 1) (by omega) (by omega)
  have hA : ∀ t, t < 4 → vE (n + 1) false (cV false (C t)) (qG false (m3 M) t ((zQL M).filter (mch (n + 1) false))) ∧ cnt (C t) = cnt (trp (sT S t)) + (qG false (m3 M) t ((zQL M).filter (mch (n + 1) false))).2.2.2 := by
    intro t h4
    obtain ⟨p1, p2, p3, p4, p5, p6, p7⟩ := ht t h4
    rw [hC t]
    exact arrive (A := (m3 M, xsl (m5 M))) hn p6.1 p6.2 ((rR_v 0).mp p3)
  refine ⟨gst_c hg a1 a3 a5 k1 k2 k3 k4 (fun t h => ?_), ?_, ?_, ?_, ?_⟩
  · rw [hT, h0 t h, hg.2.2.2.2.2.2.2 t h]
    rfl
  · intro m hm
    rw [a6'] at hm
    exact hq m (List.mem_filter.mp hm).1
  · unfold losR at hl ⊢
    rw [a4, hl]
    have e1 : s4 (fun t => clo (trp (sT S2 t))) = s4 (fun t => clo (trp (sT S t))) := s4_eq (fun t _ => by
      show clo (trp (sT S2 t)) = _
      rw [hT]
      exact (rA t).2)
    have e2 : s4 (fun t => clo (tau (sT S2 t))) = s4 (fun t => clo (tau (sT S t))) := s4_eq (fun t _ => by
      show clo (tau (sT S2 t)) = _
      rw [hT]
      rfl)
    rw [e1, e2]
  · unfold staR at hst ⊢
    have e1 := s4_add (f := fun t => cnt (trp (sT S2 t))) (g := fun t => cnt (trp (sT S t))) (k := fun t => (qG false (m3 M) t ((zQL M).filter (mch (n + 1) false))).2.2.2) (fun t h4 => by
      show cnt (trp (sT S2 t)) = _
      rw [hT]
      exact (hA t h4).2)
    have e2 : s4 (fun t => cnt (tau (sT S2 t))) = s4 (fun t => cnt (tau (sT S t))) := s4_eq (fun t _ => by
      show cnt (tau (sT S2 t)) = _
      rw [hT]
      rfl)
    have f2' : xsl (m5 M2) = xsl (m5 M) + ((qG false (m3 M) 0 ((zQL M).filter (mch (n + 1) false))).2.2.2 + (qG false (m3 M) 1 ((zQL M).filter (mch (n + 1) false))).2.2.2 + (qG false (m3 M) 2 ((zQL M).filter (mch (n + 1) false))).2.2.2 + (qG false (m3 M) 3 ((zQL M).filter (mch (n + 1) false))).2.2.2) := f2
    rw [f2', e1, e2, hst]
    grind
  · intro t h4
    obtain ⟨p1, p2, p3, p4, p5, p6, p7⟩ := ht t h4
    obtain ⟨v1, v2⟩ := hA t h4
    rw [hT]
    have r5 := rA t
    have c6 := hR t h4
    generalize C t = C at v1 v2 r5 c6 ⊢
    refine ⟨pE_c (T := tSetR (sT S t) C) a2 p1, p2, ?_, ?_, ?_, ?_, ?_⟩
    · refine (rR_v (T := tSetR (sT S t) C) (qG false (m3 M) t ((zQL M).filter (mch (n + 1) false))).2.2.2).mpr ?_
      rw [wV_of (f1' t)]
      exact v1
    · refine (aR_v (T := tSetR (sT S t) C) 0).mpr ?_
      rw [wV_eq (f3' t)]
      exact (aR_v (T := tSetR (sT S t) C) 0).mp p4
    · show (cdl C = xup (m3 M2) t ∧ d5 (cdl C)) ∧ (cdl (tau (sT S t)) = xbk (m3 M2) t ∧ d5 (cdl (tau (sT S t))))
      rw [f4', f5', r5.1]
      exact p5
    · rw [a6']
      exact c6
    · rw [a6']
      exact chR_do (by decide) p7
theorem arrT {a : Nat → Nat × Nat} {d : Nat → Nat} {n : Nat} {S S2 : zMB} {M : zMo} {C : Nat → zCh} (h : WR a (fun _ => (n, n + 1)) d (n + 1) S M) (hn : n ≤ 4300) (hs : sn S = n + 1) (k1 : sk S2 = sk S) (k2 : sy S2 = sy S) (k3 : sm S2 = sm S) (k4 : sn S2 = sn S) (hC : ∀ t, C t = cRec (tau (sT S t)) (n + 1)) (hT : ∀ t, sT S2 t = tSetA (sT S t) (C t)) : WR a (fun _ => (n + 1, n + 1)) d (n + 1) S2 (yArr M true) := by
  have hme := WR_me h
  obtain ⟨hg, hq, hl, hst, ht⟩ := h
  have hck : xck (m5 M) = n + 1 := hg.2.2.1.trans hs
  obtain ⟨a1, a2, a3, a4, a5, a6, a7⟩ := arr_z (z := true) (M := M) (by omega)
  have a6' : zQL (yArr M true) = (zQL M).filter (fun m => !mch (n + 1) true m) := by rw [← hck]; exact a6
  have a7' : (m3 (yArr M true), xsl (m5 (yArr M true))) = ((zQL M).filter (mch (n + 1) true)).foldl takQ (m3 M, xsl (m5 M)) := by rw [← hck]; exact a7
  clear a6 a7
  generalize yArr M true = M2 at a1 a2 a3 a4 a5 a6' a7' ⊢
  have hL : ∀ m ∈ (zQL M).filter (mch (n + 1) true), qz m = true ∧ qt m < 4 := fun m hm => by
    obtain ⟨q1, q2⟩ := List.mem_filter.mp hm
    refine ⟨?_, hq m q1⟩
    have q3 : (decide (qd m = nI (n + 1)) && (qz m == true)) = true := q2
    simp at q3
    exact q3.2
  obtain ⟨f1, f2, f3, f4, f5⟩ := foldT (z := true) ((zQL M).filter (mch (n + 1) true)) (m3 M, xsl (m5 M)) hL
  rw [← a7'] at f1 f2 f3 f4 f5
  have f1' : ∀ t, vw true (m3 M2) t = v3 (qG true (m3 M) t ((zQL M).filter (mch (n + 1) true))) := f1
  have f3' : ∀ t, vw false (m3 M2) t = vw false (m3 M) t := f3
  have f4' : xup (m3 M2) = xup (m3 M) := f4
  have f5' : xbk (m3 M2) = xbk (m3 M) := f5
  have rA : ∀ t, cdl (C t) = cdl (tau (sT S t)) ∧ clo (C t) = clo (tau (sT S t)) := fun t => by
    rw [hC t]
    exact rec_a.2.2.2.2
  have hR : ∀ t, t < 4 → chR true (n + 1, n + 1) t (C t) ((zQL M).filter (fun m => !mch (n + 1) true m)) := fun t h4 => by
    rw [hC t]
    exact chR_dz hn (ht t h4).2.2.2.2.2.2
  have h0 : ∀ t, sm S ≤ t → C t = zc0 := fun t h => by
    rw [hC t, hg.2.2.2.2.2.2.2 t h]
    exact rec_0 (N := n + 1) (by omega) (by omega)
  have hA : ∀ t, t < 4 → vE (n + 1) true (cV true (C t)) (qG true (m3 M) t ((zQL M).filter (mch (n + 1) true))) ∧ cnt (C t) = cnt (tau (sT S t)) + (qG true (m3 M) t ((zQL M).filter (mch (n + 1) true))).2.2.2 := by
    intro t h4
    obtain ⟨p1, p2, p3, p4, p5, p6, p7⟩ := ht t h4
    rw [hC t]
    exact arrive (A := (m3 M, xsl (m5 M))) hn p7.1 p7.2 ((aR_v 0).mp p4)
  refine ⟨gst_c hg a1 a3 a5 k1 k2 k3 k4 (fun t h => ?_), ?_, ?_, ?_, ?_⟩
  · rw [hT, h0 t h, hg.2.2.2.2.2.2.2 t h]
    rfl
  · intro m hm
    rw [a6'] at hm
    exact hq m (List.mem_filter.mp hm).1
  · unfold losR at hl ⊢
    rw [a4, hl]
    have e1 : s4 (fun t => clo (tau (sT S2 t))) = s4 (fun t => clo (tau (sT S t))) := s4_eq (fun t _ => by
      show clo (tau (sT S2 t)) = _
      rw [hT]
      exact (rA t).2)
    have e2 : s4 (fun t => clo (trp (sT S2 t))) = s4 (fun t => clo (trp (sT S t))) := s4_eq (fun t _ => by
      show clo (trp (sT S2 t)) = _
      rw [hT]
      rfl)
    rw [e1, e2]
  · unfold staR at hst ⊢
    have e1 := s4_add (f := fun t => cnt (tau (sT S2 t))) (g := fun t => cnt (tau (sT S t))) (k := fun t => (qG true (m3 M) t ((zQL M).filter (mch (n + 1) true))).2.2.2) (fun t h4 => by
      show cnt (tau (sT S2 t)) = _
      rw [hT]
      exact (hA t h4).2)
    have e2 : s4 (fun t => cnt (trp (sT S2 t))) = s4 (fun t => cnt (trp (sT S t))) := s4_eq (fun t _ => by
      show cnt (trp (sT S2 t)) = _
      rw [hT]
      rfl)
    have f2' : xsl (m5 M2) = xsl (m5 M) + ((qG true (m3 M) 0 ((zQL M).filter (mch (n + 1) true))).2.2.2 + (qG true (m3 M) 1 ((zQL M).filter (mch (n + 1) true))).2.2.2 + (qG true (m3 M) 2 ((zQL M).filter (mch (n + 1) true))).2.2.2 + (qG true (m3 M) 3 ((zQL M).filter (mch (n + 1) true))).2.2.2) := f2
    rw [f2', e1, e2, hst]
    grind
  · intro t h4
    obtain ⟨p1, p2, p3, p4, p5, p6, p7⟩ := ht t h4
    obtain ⟨v1, v2⟩ := hA t h4
    rw [hT]
    have r5 := rA t
    have c6 := hR t h4
    generalize C t = C at v1 v2 r5 c6 ⊢
    refine ⟨pE_c (T := tSetA (sT S t) C) a2 p1, p2, ?_, ?_, ?_, ?_, ?_⟩
    · refine (rR_v (T := tSetA (sT S t) C) 0).mpr ?_
      rw [wV_eq (f3' t)]
      exact (rR_v (T := tSetA (sT S t) C) 0).mp p3
    · refine (aR_v (T := tSetA (sT S t) C) (qG true (m3 M) t ((zQL M).filter (mch (n + 1) true))).2.2.2).mpr ?_
      rw [wV_of (f1' t)]
      exact v1
    · show (cdl (trp (sT S t)) = xup (m3 M2) t ∧ d5 (cdl (trp (sT S t)))) ∧ (cdl C = xbk (m3 M2) t ∧ d5 (cdl C))
      rw [f4', f5', r5.1]
      exact p5
    · rw [a6']
      exact chR_do (by decide) p6
    · rw [a6']
      exact c6
