/-! the relation of class and reference; sending -/
def zQL (M : zMo) : List zQ := qL (m4 M) (xme (m5 M))
def gst (S : zMB) (M : zMo) : Prop := xtr (m5 M) = sm S ∧ sm S ≤ 4 ∧ xck (m5 M) = sn S ∧ kR (sk S) M ∧ lB M ∧ gB (sk S) ∧ yR (sy S) M ∧ ∀ t, sm S ≤ t → sT S t = zt0
def chR (z : Bool) (p : Nat × Nat) (t : Nat) (c : zCh) (q : List zQ) : Prop := chI z p.1 p.2 c ∧ q.filter (kf z t) = pend p.1 p.2 z t c
def d5 (x : Int32) : Prop := 0 ≤ x.toInt ∧ x.toInt ≤ 5
def dlR (T : zTr) (M : zMo) (t : Nat) : Prop := (cdl (trp T) = xup (m3 M) t ∧ d5 (cdl (trp T))) ∧ (cdl (tau T) = xbk (m3 M) t ∧ d5 (cdl (tau T)))
def s4 (f : Nat → Int32) : Int32 := f 0 + f 1 + f 2 + f 3
def losR (S : zMB) (M : zMo) : Prop := xlo (m5 M) = s4 (fun t => clo (trp (sT S t))) + s4 (fun t => clo (tau (sT S t)))
def staR (S : zMB) (M : zMo) : Prop := xsl (m5 M) = s4 (fun t => cnt (trp (sT S t))) + s4 (fun t => cnt (tau (sT S t)))
def tI (a b : Nat × Nat) (d N : Nat) (T : zTr) (M : zMo) (t : Nat) : Prop := pE T M t ∧ pBd d T ∧ rR N T M t ∧ aR N T M t ∧ dlR T M t ∧ chR false a t (trp T) (zQL M) ∧ chR true b t (tau T) (zQL M)
def WR (a b : Nat → Nat × Nat) (d : Nat → Nat) (N : Nat) (S : zMB) (M : zMo) : Prop := gst S M ∧ (∀ m ∈ zQL M, qt m < 4) ∧ losR S M ∧ staR S M ∧ ∀ t, t < 4 → tI (a t) (b t) (d t) N (sT S t) M t
theorem s4_up {f g : Nat → Int32} {i : Nat} {e : Int32} (hi : i < 4) (h1 : ∀ t, t ≠ i → f t = g t) (h2 : f i = g i + e) : s4 f = s4 g + e := by
  unfold s4
  rcases i4 hi with q | q | q | q
  · subst q
    rw [h2, h1 1 (by decide), h1 2 (by decide), h1 3 (by decide)]
    grind
  · subst q
    rw [h2, h1 0 (by decide), h1 2 (by decide), h1 3 (by decide)]
    grind
  · subst q
    rw [h2, h1 0 (by decide), h1 1 (by decide), h1 3 (by decide)]
    grind
  · subst q
    rw [h2, h1 0 (by decide), h1 1 (by decide), h1 2 (by decide)]
    grind
theorem s4_eq {f g : Nat → Int32} (h : ∀ t, t < 4 → f t = g t) : s4 f = s4 g := by
  unfold s4
  rw [h 0 (by decide), h 1 (by decide), h 2 (by decide), h 3 (by decide)]
theorem s4_add {f g k : Nat → Int32} (h : ∀ t, t < 4 → f t = g t + k t) : s4 f = s4 g + (k 0 + k 1 + k 2 + k 3) := by
  unfold s4
  rw [h 0 (by decide), h 1 (by decide), h 2 (by decide), h 3 (by decide)]
  grind
theorem pE_c {T : zTr} {M M2 : zMo} {t : Nat} (h : m2 M2 = m2 M) (q : pE T M t) : pE T M2 t := by
  unfold pE at q ⊢
  rw [h]
  exact q
theorem rR_c {N : Nat} {T : zTr} {M M2 : zMo} {t : Nat} (h : m3 M2 = m3 M) (q : rR N T M t) : rR N T M2 t := by
  unfold rR at q ⊢
  rw [h]
  exact q
theorem aR_c {N : Nat} {T : zTr} {M M2 : zMo} {t : Nat} (h : m3 M2 = m3 M) (q : aR N T M t) : aR N T M2 t := by
  unfold aR at q ⊢
  rw [h]
  exact q
theorem dlR_c {T : zTr} {M M2 : zMo} {t : Nat} (h : m3 M2 = m3 M) (q : dlR T M t) : dlR T M2 t := by
  unfold dlR at q ⊢
  rw [h]
  exact q
theorem kR_c {k : zTk} {M M2 : zMo} (h : m1 M2 = m1 M) (q : kR k M) : kR k M2 := by
  unfold kR at q ⊢
  rw [h]
  exact q
theorem lB_c {M M2 : zMo} (h : m1 M2 = m1 M) (q : lB M) : lB M2 := by
  unfold lB at q ⊢
  rw [h]
  exact q
theorem yR_c {y : zWy} {M M2 : zMo} (h : m1 M2 = m1 M) (q : yR y M) : yR y M2 := by
  unfold yR at q ⊢
  rw [h]
  exact q
theorem ySend_a {M : zMo} {z : Bool} {t : Nat} {dl : Int32} {f1 f2 : Int64} : m1 (ySend M z t dl f1 f2) = m1 M ∧ m2 (ySend M z t dl f1 f2) = m2 M ∧ m3 (ySend M z t dl f1 f2) = m3 M ∧ xtr (m5 (ySend M z t dl f1 f2)) = xtr (m5 M) ∧ xck (m5 (ySend M z t dl f1 f2)) = xck (m5 M) ∧ xsl (m5 (ySend M z t dl f1 f2)) = xsl (m5 M) ∧ xlo (m5 (ySend M z t dl f1 f2)) = xlo (m5 M) + (if dl = 0 then 1 else 0) ∧ zQL (ySend M z t dl f1 f2) = zQL M ++ (if dl = 0 then [] else [(z, t, nI (xck (m5 M)), nI (xck (m5 M)) + dl - 1, f1, f2)]) := by
  by_cases h : dl = 0
  · have e : ySend M z t dl f1 f2 = _ := if_pos h
    rw [if_pos h, if_pos h, List.append_nil, e]
    exact ⟨rfl, rfl, rfl, rfl, rfl, rfl, rfl, rfl⟩
  · have hq := q_send (M := M) (z := z) (t := t) (f1 := f1) (f2 := f2) h
    have e : ySend M z t dl f1 f2 = _ := if_neg h
    rw [if_neg h, if_neg h, Int32.add_zero]
    refine ⟨?_, ?_, ?_, ?_, ?_, ?_, ?_, hq⟩ <;> rw [e]
theorem cSend_a {c : zCh} {n : Nat} {x y : Int32} : csp (cSend c n x y) = csp c ∧ cf1 (cSend c n x y) = cf1 c ∧ cf2 (cSend c n x y) = cf2 c ∧ cdl (cSend c n x y) = cdl c ∧ cnt (cSend c n x y) = cnt c ∧ clo (cSend c n x y) = clo c + (if cdl c = 0 then 1 else 0) := by
  by_cases h : cdl c = 0
  · have e : cSend c n x y = _ := if_pos h
    rw [if_pos h, e]
    exact ⟨rfl, rfl, rfl, rfl, rfl, rfl⟩
  · have e : cSend c n x y = _ := if_neg h
    rw [if_neg h, Int32.add_zero, e]
    exact ⟨rfl, rfl, rfl, rfl, rfl, rfl⟩
theorem pd_s {z : Bool} {n : Nat} {c : zCh} {x y : Int32} {w : Bool} {t : Nat} (h : chI z n n c) (hn : n ≤ 4300) (hd : d5 (cdl c)) : pend n (n + 1) w t (cSend c (n + 1) x y) = pend n n w t c ++ (if cdl c = 0 then [] else [(w, t, nI (n + 1), nI (n + 1) + cdl c - 1, x.toInt64, y.toInt64)]) := by
  by_cases h0 : cdl c = 0
  · rw [if_pos h0, List.append_nil]
    exact pd_send0 h hn h0
  · rw [if_neg h0]
    exact pd_send h hn hd h0
theorem kf_if_at {z : Bool} {t : Nat} {p : Prop} [Decidable p] {m : zQ} (h : kf z t m = true) : (if p then [] else [m] : List zQ).filter (kf z t) = if p then [] else [m] := by
  by_cases hp : p
  · rw [if_pos hp]; rfl
  · rw [if_neg hp, List.filter_cons, if_pos h, List.filter_nil]
theorem kf_if_ne {z : Bool} {t : Nat} {p : Prop} [Decidable p] {m : zQ} (h : kf z t m = false) : (if p then [] else [m] : List zQ).filter (kf z t) = [] := by
  by_cases hp : p
  · rw [if_pos hp]; rfl
  · rw [if_neg hp, List.filter_cons, if_neg (by rw [h]; exact Bool.false_ne_true), List.filter_nil]
theorem chR_ne {z y : Bool} {p : Nat × Nat} {t i : Nat} {c : zCh} {q : List zQ} {P : Prop} [Decidable P] {s d : Int32} {f g : Int64} (hne : ¬ (y = z ∧ i = t)) (h : chR z p t c q) : chR z p t c (q ++ (if P then [] else [(y, i, s, d, f, g)])) := by
  refine ⟨h.1, ?_⟩
  have hk : kf z t (y, i, s, d, f, g) = false := by
    show ((y == z) && decide (i = t)) = false
    by_cases h1 : y = z
    · have h2 : ¬ i = t := fun q => hne ⟨h1, q⟩
      simp [h2]
    · simp [h1]
  rw [List.filter_append, kf_if_ne hk, List.append_nil]
  exact h.2
theorem chR_at {z : Bool} {n t : Nat} {c : zCh} {q : List zQ} {x y : Int32} (hn : n ≤ 4300) (hd : d5 (cdl c)) (hx : vB z x.toInt) (hy : vB z y.toInt) (h : chR z (n, n) t c q) : chR z (n, n + 1) t (cSend c (n + 1) x y) (q ++ (if cdl c = 0 then [] else [(z, t, nI (n + 1), nI (n + 1) + cdl c - 1, x.toInt64, y.toInt64)])) := by
  refine ⟨ch_send h.1 hn hd hx hy, ?_⟩
  have hk : kf z t (z, t, nI (n + 1), nI (n + 1) + cdl c - 1, x.toInt64, y.toInt64) = true := by
    show ((z == z) && decide (t = t)) = true
    simp
  rw [List.filter_append, kf_if_at hk]
  refine Eq.trans ?_ (pd_s (z := z) h.1 hn hd).symm
  rw [h.2]
theorem q4_app {q : List zQ} {P : Prop} [Decidable P] {z : Bool} {i : Nat} {s d : Int32} {f g : Int64} (hi : i < 4) (h : ∀ m ∈ q, qt m < 4) : ∀ m ∈ q ++ (if P then [] else [(z, i, s, d, f, g)]), qt m < 4 := by
  intro m hm
  rcases List.mem_append.mp hm with hm | hm
  · exact h m hm
  · by_cases hp : P
    · rw [if_pos hp] at hm; cases hm
    · rw [if_neg hp] at hm
      rw [List.mem_singleton.mp hm]
      exact hi
theorem gst_c {S S2 : zMB} {M M2 : zMo} (h : gst S M) (e1 : m1 M2 = m1 M) (e2 : xtr (m5 M2) = xtr (m5 M)) (e3 : xck (m5 M2) = xck (m5 M)) (k1 : sk S2 = sk S) (k2 : sy S2 = sy S) (k3 : sm S2 = sm S) (k4 : sn S2 = sn S) (k5 : ∀ t, sm S ≤ t → sT S2 t = zt0) : gst S2 M2 := by
  obtain ⟨h1, h2, h3, h4, h5, h6, h7, h8⟩ := h
  unfold gst
  rw [e2, e3, k1, k2, k3, k4]
  exact ⟨h1, h2, h3, kR_c e1 h4, lB_c e1 h5, h6, yR_c e1 h7, k5⟩
theorem sendF {a b : Nat → Nat × Nat} {d : Nat → Nat} {n : Nat} {S : zMB} {M : zMo} {i : Nat} {x y : Int32} (h : WR a b d (n + 1) S M) (hn : n ≤ 4300) (hs : sn S = n + 1) (hi : i < sm S) (ha : a i = (n, n)) (hx : mBd x.toInt) (hy : mBd y.toInt) : WR (va_up a i (n, n + 1)) b d (n + 1) (sSetT S i (tSetR (sT S i) (cSend (trp (sT S i)) (n + 1) x y))) (ySend M false i (xup (m3 M) i) x.toInt64 y.toInt64) := by
  obtain ⟨hg, hq, hl, hst, ht⟩ := h
  have hi4 : i < 4 := Nat.lt_of_lt_of_le hi hg.2.1
  obtain ⟨s1, s2, s3, s4', s5, s6, s7, s8⟩ := ySend_a (M := M) (z := false) (t := i) (dl := xup (m3 M) i) (f1 := x.toInt64) (f2 := y.toInt64)
  obtain ⟨c1, c2, c3, c4, c5, c6⟩ := cSend_a (c := trp (sT S i)) (n := n + 1) (x := x) (y := y)
  have hti := ht i hi4
  have hdi := hti.2.2.2.2.1.1
  have hck : xck (m5 M) = n + 1 := hg.2.2.1.trans hs
  generalize hM2 : ySend M false i (xup (m3 M) i) x.toInt64 y.toInt64 = M2 at s1 s2 s3 s4' s5 s6 s7 s8
  generalize hC : cSend (trp (sT S i)) (n + 1) x y = C at c1 c2 c3 c4 c5 c6
  have off : ∀ t, t ≠ i → sT (sSetT S i (tSetR (sT S i) C)) t = sT S t := fun t ht => va_up_ne _ _ ht
  have at' : sT (sSetT S i (tSetR (sT S i) C)) i = tSetR (sT S i) C := va_up_self _ _ _
  refine ⟨gst_c hg s1 s4' s5 rfl rfl rfl rfl (fun t h => by rw [off t (by omega)]; exact hg.2.2.2.2.2.2.2 t h), ?_, ?_, ?_, ?_⟩
  · rw [s8]
    exact q4_app hi4 hq
  · have e1 : s4 (fun t => clo (trp (sT (sSetT S i (tSetR (sT S i) C)) t))) = s4 (fun t => clo (trp (sT S t))) + (if xup (m3 M) i = 0 then 1 else 0) := by
      refine s4_up hi4 (fun t h => ?_) ?_
      · show clo (trp (sT (sSetT S i (tSetR (sT S i) C)) t)) = _
        rw [off t h]
      · show clo (trp (sT (sSetT S i (tSetR (sT S i) C)) i)) = _
        rw [at', ← hdi.1]
        exact c6
    have e2 : s4 (fun t => clo (tau (sT (sSetT S i (tSetR (sT S i) C)) t))) = s4 (fun t => clo (tau (sT S t))) := by
      refine s4_eq (fun t _ => ?_)
      show clo (tau (sT (sSetT S i (tSetR (sT S i) C)) t)) = _
      by_cases h : t = i
      · subst h; rw [at']; rfl
      · rw [off t h]
    unfold losR at hl ⊢
    rw [s7, e1, e2, hl]
    grind
  · have e1 : s4 (fun t => cnt (trp (sT (sSetT S i (tSetR (sT S i) C)) t))) = s4 (fun t => cnt (trp (sT S t))) := by
      refine s4_eq (fun t _ => ?_)
      show cnt (trp (sT (sSetT S i (tSetR (sT S i) C)) t)) = _
      by_cases h : t = i
      · subst h; rw [at']; exact c5
      · rw [off t h]
    have e2 : s4 (fun t => cnt (tau (sT (sSetT S i (tSetR (sT S i) C)) t))) = s4 (fun t => cnt (tau (sT S t))) := by
      refine s4_eq (fun t _ => ?_)
      show cnt (tau (sT (sSetT S i (tSetR (sT S i) C)) t)) = _
      by_cases h : t = i
      · subst h; rw [at']; rfl
      · rw [off t h]
    unfold staR at hst ⊢
    rw [s6, e1, e2, hst]
  · intro t ht4
    by_cases h : t = i
    · subst h
      rw [at', va_up_self]
      obtain ⟨p1, p2, p3, p4, p5, p6, p7⟩ := hti
      refine ⟨pE_c (T := tSetR (sT S t) C) s2 p1, p2, ?_, aR_c (T := tSetR (sT S t) C) s3 p4, ?_, ?_, ?_⟩
      · refine rR_c s3 ?_
        show csp C = _ ∧ ∃ s : Nat, s ≤ n + 1 ∧ csp C = nI s ∧ (s = 0 → xsr (m3 M) t = -1 ∧ xst (m3 M) t = -1) ∧ (0 < s → (cf1 C).toInt = (xsr (m3 M) t).toInt ∧ (cf2 C).toInt = (xst (m3 M) t).toInt ∧ mBd (cf1 C).toInt ∧ mBd (cf2 C).toInt)
        rw [c1, c2, c3]
        exact p3
      · refine dlR_c s3 ?_
        show (cdl C = xup (m3 M) t ∧ d5 (cdl C)) ∧ _
        rw [c4]
        exact p5
      · rw [s8, ← hC, hck, ← hdi.1]
        rw [ha] at p6
        exact chR_at hn hdi.2 hx hy p6
      · rw [s8]
        exact chR_ne (fun q => by cases q.1) p7
    · rw [off t h, va_up_ne _ _ h]
      obtain ⟨p1, p2, p3, p4, p5, p6, p7⟩ := ht t ht4
      refine ⟨pE_c s2 p1, p2, rR_c s3 p3, aR_c s3 p4, dlR_c s3 p5, ?_, ?_⟩
      · rw [s8]
        exact chR_ne (fun q => h q.2.symm) p6
      · rw [s8]
        exact chR_ne (fun q => by cases q.1) p7
theorem sendT {a b : Nat → Nat × Nat} {d : Nat → Nat} {n : Nat} {S : zMB} {M : zMo} {i : Nat} {x y : Int32} (h : WR a b d (n + 1) S M) (hn : n ≤ 4300) (hs : sn S = n + 1) (hi : i < sm S) (hb : b i = (n, n)) (hx : vB true x.toInt) (hy : vB true y.toInt) : WR a (va_up b i (n, n + 1)) d (n + 1) (sSetT S i (tSetA (sT S i) (cSend (tau (sT S i)) (n + 1) x y))) (ySend M true i (xbk (m3 M) i) x.toInt64 y.toInt64) := by
  obtain ⟨hg, hq, hl, hst, ht⟩ := h
  have hi4 : i < 4 := Nat.lt_of_lt_of_le hi hg.2.1
  obtain ⟨s1, s2, s3, s4', s5, s6, s7, s8⟩ := ySend_a (M := M) (z := true) (t := i) (dl := xbk (m3 M) i) (f1 := x.toInt64) (f2 := y.toInt64)
  obtain ⟨c1, c2, c3, c4, c5, c6⟩ := cSend_a (c := tau (sT S i)) (n := n + 1) (x := x) (y := y)
  have hti := ht i hi4
  have hdi := hti.2.2.2.2.1.2
  have hck : xck (m5 M) = n + 1 := hg.2.2.1.trans hs
  generalize hM2 : ySend M true i (xbk (m3 M) i) x.toInt64 y.toInt64 = M2 at s1 s2 s3 s4' s5 s6 s7 s8
  generalize hC : cSend (tau (sT S i)) (n + 1) x y = C at c1 c2 c3 c4 c5 c6
  have off : ∀ t, t ≠ i → sT (sSetT S i (tSetA (sT S i) C)) t = sT S t := fun t ht => va_up_ne _ _ ht
  have at' : sT (sSetT S i (tSetA (sT S i) C)) i = tSetA (sT S i) C := va_up_self _ _ _
  refine ⟨gst_c hg s1 s4' s5 rfl rfl rfl rfl (fun t h => by rw [off t (by omega)]; exact hg.2.2.2.2.2.2.2 t h), ?_, ?_, ?_, ?_⟩
  · rw [s8]
    exact q4_app hi4 hq
  · have e1 : s4 (fun t => clo (tau (sT (sSetT S i (tSetA (sT S i) C)) t))) = s4 (fun t => clo (tau (sT S t))) + (if xbk (m3 M) i = 0 then 1 else 0) := by
      refine s4_up hi4 (fun t h => ?_) ?_
      · show clo (tau (sT (sSetT S i (tSetA (sT S i) C)) t)) = _
        rw [off t h]
      · show clo (tau (sT (sSetT S i (tSetA (sT S i) C)) i)) = _
        rw [at', ← hdi.1]
        exact c6
    have e2 : s4 (fun t => clo (trp (sT (sSetT S i (tSetA (sT S i) C)) t))) = s4 (fun t => clo (trp (sT S t))) := by
      refine s4_eq (fun t _ => ?_)
      show clo (trp (sT (sSetT S i (tSetA (sT S i) C)) t)) = _
      by_cases h : t = i
      · subst h; rw [at']; rfl
      · rw [off t h]
    unfold losR at hl ⊢
    rw [s7, e1, e2, hl]
    grind
  · have e1 : s4 (fun t => cnt (tau (sT (sSetT S i (tSetA (sT S i) C)) t))) = s4 (fun t => cnt (tau (sT S t))) := by
      refine s4_eq (fun t _ => ?_)
      show cnt (tau (sT (sSetT S i (tSetA (sT S i) C)) t)) = _
      by_cases h : t = i
      · subst h; rw [at']; exact c5
      · rw [off t h]
    have e2 : s4 (fun t => cnt (trp (sT (sSetT S i (tSetA (sT S i) C)) t))) = s4 (fun t => cnt (trp (sT S t))) := by
      refine s4_eq (fun t _ => ?_)
      show cnt (trp (sT (sSetT S i (tSetA (sT S i) C)) t)) = _
      by_cases h : t = i
      · subst h; rw [at']; rfl
      · rw [off t h]
    unfold staR at hst ⊢
    rw [s6, e1, e2, hst]
  · intro t ht4
    by_cases h : t = i
    · subst h
      rw [at', va_up_self]
      obtain ⟨p1, p2, p3, p4, p5, p6, p7⟩ := hti
      refine ⟨pE_c (T := tSetA (sT S t) C) s2 p1, p2, rR_c (T := tSetA (sT S t) C) s3 p3, ?_, ?_, ?_, ?_⟩
      · refine aR_c s3 ?_
        show csp C = _ ∧ ∃ s : Nat, s ≤ n + 1 ∧ csp C = nI s ∧ (0 < s → (cf1 C).toInt = (xau (m3 M) t).toInt ∧ -20000 ≤ (cf1 C).toInt ∧ (cf1 C).toInt ≤ 32768)
        rw [c1, c2]
        exact p4
      · refine dlR_c s3 ?_
        show _ ∧ (cdl C = xbk (m3 M) t ∧ d5 (cdl C))
        rw [c4]
        exact p5
      · rw [s8]
        exact chR_ne (fun q => by cases q.1) p6
      · rw [s8, ← hC, hck, ← hdi.1]
        rw [hb] at p7
        exact chR_at hn hdi.2 hx hy p7
    · rw [off t h, va_up_ne _ _ h]
      obtain ⟨p1, p2, p3, p4, p5, p6, p7⟩ := ht t ht4
      refine ⟨pE_c s2 p1, p2, rR_c s3 p3, aR_c s3 p4, dlR_c s3 p5, ?_, ?_⟩
      · rw [s8]
        exact chR_ne (fun q => by cases q.1) p6
      · rw [s8]
        exact chR_ne (fun q => h q.2.symm) p7
