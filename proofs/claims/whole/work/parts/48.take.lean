/-! messages taken: the reference's fold, train by train -/
def vw (z : Bool) (u : zM3) (t : Nat) : Int32 × Int64 × Int64 := match z with
  | true => (xas u t, xau u t, 0)
  | false => (xrs u t, xsr u t, xst u t)
def wV (z : Bool) (u : zM3) (t : Nat) (k : Int32) : zV := ((vw z u t).1, (vw z u t).2.1, (vw z u t).2.2, k)
def v3 (v : zV) : Int32 × Int64 × Int64 := (v.1, v.2.1, v.2.2.1)
theorem tak_at {z : Bool} {A : zM3 × Int32} {m : zQ} (h : qz m = z) : wV z (takQ A m).1 (qt m) (takQ A m).2 = fR z (wV z A.1 (qt m) A.2) m := by
  unfold takQ
  cases z with
  | false =>
    have h' : bI (qz m) = 0 := by rw [h]; decide
    rw [if_pos h']
    by_cases h2 : xrs A.1 (qt m) < qs m
    · rw [if_pos h2]
      refine Eq.trans ?_ (if_pos h2).symm
      show (upd (xrs A.1) (qt m) (qs m) (qt m), vp_updL (xsr A.1) (qt m) (qf m) (qt m), vp_updL (xst A.1) (qt m) (qg m) (qt m), A.2) = (qs m, qf m, qg m, A.2)
      rw [pk_us, pk_uLs, pk_uLs]
    · rw [if_neg h2]
      exact (if_neg h2).symm
  | true =>
    have h' : ¬ bI (qz m) = 0 := by rw [h]; decide
    rw [if_neg h']
    by_cases h2 : xas A.1 (qt m) < qs m
    · rw [if_pos h2]
      refine Eq.trans ?_ (if_pos h2).symm
      show (upd (xas A.1) (qt m) (qs m) (qt m), vp_updL (xau A.1) (qt m) (qf m) (qt m), (0 : Int64), A.2) = (qs m, qf m, 0, A.2)
      rw [pk_us, pk_uLs]
    · rw [if_neg h2]
      exact (if_neg h2).symm
theorem tak_ne {z : Bool} {A : zM3 × Int32} {m : zQ} {t : Nat} (h : qz m = z) (ht : t ≠ qt m) : vw z (takQ A m).1 t = vw z A.1 t := by
  unfold takQ
  cases z with
  | false =>
    have h' : bI (qz m) = 0 := by rw [h]; decide
    rw [if_pos h']
    by_cases h2 : xrs A.1 (qt m) < qs m
    · rw [if_pos h2]
      show (upd (xrs A.1) (qt m) (qs m) t, vp_updL (xsr A.1) (qt m) (qf m) t, vp_updL (xst A.1) (qt m) (qg m) t) = _
      rw [pk_un ht, pk_uLn ht, pk_uLn ht]
      rfl
    · rw [if_neg h2]
  | true =>
    have h' : ¬ bI (qz m) = 0 := by rw [h]; decide
    rw [if_neg h']
    by_cases h2 : xas A.1 (qt m) < qs m
    · rw [if_pos h2]
      show (upd (xas A.1) (qt m) (qs m) t, vp_updL (xau A.1) (qt m) (qf m) t, (0 : Int64)) = _
      rw [pk_un ht, pk_uLn ht]
      rfl
    · rw [if_neg h2]
theorem tak_ot {z : Bool} {A : zM3 × Int32} {m : zQ} (h : qz m = z) : (∀ t, vw (!z) (takQ A m).1 t = vw (!z) A.1 t) ∧ xup (takQ A m).1 = xup A.1 ∧ xbk (takQ A m).1 = xbk A.1 := by
  unfold takQ
  cases z with
  | false =>
    have h' : bI (qz m) = 0 := by rw [h]; decide
    rw [if_pos h']
    by_cases h2 : xrs A.1 (qt m) < qs m
    · rw [if_pos h2]; exact ⟨fun _ => rfl, rfl, rfl⟩
    · rw [if_neg h2]; exact ⟨fun _ => rfl, rfl, rfl⟩
  | true =>
    have h' : ¬ bI (qz m) = 0 := by rw [h]; decide
    rw [if_neg h']
    by_cases h2 : xas A.1 (qt m) < qs m
    · rw [if_pos h2]; exact ⟨fun _ => rfl, rfl, rfl⟩
    · rw [if_neg h2]; exact ⟨fun _ => rfl, rfl, rfl⟩
def sh (d : Int32) (v : zV) : zV := (v.1, v.2.1, v.2.2.1, v.2.2.2 + d)
theorem fR_sh {z : Bool} {d : Int32} {v : zV} {m : zQ} : fR z (sh d v) m = sh d (fR z v m) := by
  unfold fR
  by_cases h : v.1 < qs m
  · have h' : (sh d v).1 < qs m := h
    rw [if_pos h, if_pos h']
    rfl
  · have h' : ¬ (sh d v).1 < qs m := h
    rw [if_neg h, if_neg h']
    show (v.1, v.2.1, v.2.2.1, v.2.2.2 + d + 1) = (v.1, v.2.1, v.2.2.1, v.2.2.2 + 1 + d)
    rw [Int32.add_assoc, Int32.add_comm d 1, ← Int32.add_assoc]
theorem fRL_sh {z : Bool} {d : Int32} : ∀ (L : List zQ) (v : zV), L.foldl (fR z) (sh d v) = sh d (L.foldl (fR z) v) := by
  intro L
  induction L with
  | nil => intro v; rfl
  | cons m L ih =>
    intro v
    rw [List.foldl_cons, List.foldl_cons, fR_sh, ih]
def qG (z : Bool) (u : zM3) (t : Nat) (L : List zQ) : zV := (L.filter (fun m => decide (qt m = t))).foldl (fR z) (wV z u t 0)
theorem qG_ne {z : Bool} {A : zM3 × Int32} {m : zQ} {L : List zQ} {t : Nat} (h : qz m = z) (ht : t ≠ qt m) : qG z A.1 t (m :: L) = qG z (takQ A m).1 t L := by
  unfold qG
  have e : decide (qt m = t) = false := decide_eq_false (fun q => ht q.symm)
  have e2 : wV z (takQ A m).1 t 0 = wV z A.1 t 0 := by
    unfold wV
    rw [tak_ne h ht]
  rw [List.filter_cons, if_neg (by rw [e]; exact Bool.false_ne_true), e2]
theorem qG_at {z : Bool} {A : zM3 × Int32} {m : zQ} {L : List zQ} (h : qz m = z) : ∃ d : Int32, qG z A.1 (qt m) (m :: L) = sh d (qG z (takQ A m).1 (qt m) L) ∧ (takQ A m).2 = A.2 + d := by
  have e1 : wV z A.1 (qt m) A.2 = sh A.2 (wV z A.1 (qt m) 0) := by
    show ((vw z A.1 (qt m)).1, (vw z A.1 (qt m)).2.1, (vw z A.1 (qt m)).2.2, A.2) = ((vw z A.1 (qt m)).1, (vw z A.1 (qt m)).2.1, (vw z A.1 (qt m)).2.2, 0 + A.2)
    rw [Int32.zero_add]
  have e2 := tak_at (z := z) (A := A) (m := m) h
  rw [e1, fR_sh] at e2
  generalize hr : fR z (wV z A.1 (qt m) 0) m = r at e2
  have f1 : (vw z (takQ A m).1 (qt m)).1 = r.1 := congrArg (fun v : zV => v.1) e2
  have f2 : (vw z (takQ A m).1 (qt m)).2.1 = r.2.1 := congrArg (fun v : zV => v.2.1) e2
  have f3 : (vw z (takQ A m).1 (qt m)).2.2 = r.2.2.1 := congrArg (fun v : zV => v.2.2.1) e2
  have f4 : (takQ A m).2 = r.2.2.2 + A.2 := congrArg (fun v : zV => v.2.2.2) e2
  refine ⟨r.2.2.2, ?_, by rw [f4, Int32.add_comm]⟩
  unfold qG
  rw [List.filter_cons, if_pos (decide_eq_true rfl), List.foldl_cons, hr, ← fRL_sh]
  congr 1
  show r = ((vw z (takQ A m).1 (qt m)).1, (vw z (takQ A m).1 (qt m)).2.1, (vw z (takQ A m).1 (qt m)).2.2, 0 + r.2.2.2)
  rw [f1, f2, f3, Int32.zero_add]
theorem s4_1 {a d g0 g1 g2 g3 : Int32} : a + d + (g0 + g1 + g2 + g3) = a + (g0 + d + g1 + g2 + g3) := by grind
theorem s4_2 {a d g0 g1 g2 g3 : Int32} : a + d + (g0 + g1 + g2 + g3) = a + (g0 + (g1 + d) + g2 + g3) := by grind
theorem s4_3 {a d g0 g1 g2 g3 : Int32} : a + d + (g0 + g1 + g2 + g3) = a + (g0 + g1 + (g2 + d) + g3) := by grind
theorem s4_4 {a d g0 g1 g2 g3 : Int32} : a + d + (g0 + g1 + g2 + g3) = a + (g0 + g1 + g2 + (g3 + d)) := by grind
theorem foldT {z : Bool} : ∀ (L : List zQ) (A : zM3 × Int32), (∀ m ∈ L, qz m = z ∧ qt m < 4) → (∀ t, vw z (L.foldl takQ A).1 t = v3 (qG z A.1 t L)) ∧ (L.foldl takQ A).2 = A.2 + ((qG z A.1 0 L).2.2.2 + (qG z A.1 1 L).2.2.2 + (qG z A.1 2 L).2.2.2 + (qG z A.1 3 L).2.2.2) ∧ (∀ t, vw (!z) (L.foldl takQ A).1 t = vw (!z) A.1 t) ∧ xup (L.foldl takQ A).1 = xup A.1 ∧ xbk (L.foldl takQ A).1 = xbk A.1 := by
  intro L
  induction L with
  | nil =>
    intro A _
    refine ⟨fun t => rfl, ?_, fun _ => rfl, rfl, rfl⟩
    show A.2 = A.2 + (0 + 0 + 0 + 0)
    grind
  | cons m L ih =>
    intro A hL
    obtain ⟨hm, hm4⟩ := hL m (List.mem_cons_self)
    obtain ⟨a1, a2, a3, a4, a5⟩ := ih (takQ A m) (fun q hq => hL q (List.mem_cons_of_mem _ hq))
    obtain ⟨o1, o2, o3⟩ := tak_ot (z := z) (A := A) hm
    obtain ⟨d, e1, e2⟩ := qG_at (z := z) (A := A) (L := L) hm
    rw [List.foldl_cons]
    refine ⟨fun t => ?_, ?_, fun t => (a3 t).trans (o1 t), a4.trans o2, a5.trans o3⟩
    · rw [a1 t]
      by_cases ht : t = qt m
      · subst ht
        rw [e1]
        rfl
      · rw [qG_ne hm ht]
    · rw [a2, e2]
      have e1' := congrArg (fun v : zV => v.2.2.2) e1
      have e1'' : (qG z A.1 (qt m) (m :: L)).2.2.2 = (qG z (takQ A m).1 (qt m) L).2.2.2 + d := e1'
      rcases i4 hm4 with q | q | q | q
      · rw [qG_ne (t := 1) hm (by omega), qG_ne (t := 2) hm (by omega), qG_ne (t := 3) hm (by omega)]
        rw [q] at e1''
        rw [e1'']
        exact s4_1
      · rw [qG_ne (t := 0) hm (by omega), qG_ne (t := 2) hm (by omega), qG_ne (t := 3) hm (by omega)]
        rw [q] at e1''
        rw [e1'']
        exact s4_2
      · rw [qG_ne (t := 0) hm (by omega), qG_ne (t := 1) hm (by omega), qG_ne (t := 3) hm (by omega)]
        rw [q] at e1''
        rw [e1'']
        exact s4_3
      · rw [qG_ne (t := 0) hm (by omega), qG_ne (t := 1) hm (by omega), qG_ne (t := 2) hm (by omega)]
        rw [q] at e1''
        rw [e1'']
        exact s4_4
-- class and reference take the same
def vE (N : Nat) (z : Bool) (v w : zV) : Prop := v.1 = w.1 ∧ ∃ s : Nat, s ≤ N ∧ v.1 = nI s ∧ (s = 0 → z = false → w.2.1 = -1 ∧ w.2.2.1 = -1) ∧ (0 < s → v.2.1 = w.2.1 ∧ v.2.2.1 = w.2.2.1 ∧ vB z v.2.1.toInt ∧ vB z v.2.2.1.toInt)
def mG (N : Nat) (z : Bool) (m : zQ) : Prop := ∃ s : Nat, s ≤ N ∧ qs m = nI s ∧ vB z (qf m).toInt ∧ vB z (qg m).toInt
theorem vB_0 : vB true (0 : Int64).toInt := by
  show -20000 ≤ (0 : Int64).toInt ∧ (0 : Int64).toInt ≤ 32768
  decide
theorem vE_step {N : Nat} {z : Bool} {v w : zV} {d : Int32} {m : zQ} (hN : N ≤ 4400) (h : vE N z v w) (hc : v.2.2.2 = d + w.2.2.2) (hm : mG N z m) : vE N z (fR z v m) (fR z w m) ∧ (fR z v m).2.2.2 = d + (fR z w m).2.2.2 := by
  obtain ⟨e1, s, hs, e2, h0, h1⟩ := h
  obtain ⟨s', hs', e3, b1, b2⟩ := hm
  unfold fR
  by_cases q : v.1 < qs m
  · have q' : w.1 < qs m := by rw [← e1]; exact q
    rw [if_pos q, if_pos q']
    rw [e2, e3] at q
    have q2 := (nI_ltI (by omega) (by omega)).mp q
    refine ⟨⟨rfl, s', hs', e3, fun x => absurd x (by omega), fun _ => ⟨rfl, rfl, b1, ?_⟩⟩, hc⟩
    cases z with
    | false => exact b2
    | true => exact vB_0
  · have q' : ¬ w.1 < qs m := by rw [← e1]; exact q
    rw [if_neg q, if_neg q']
    refine ⟨⟨e1, s, hs, e2, h0, h1⟩, ?_⟩
    show v.2.2.2 + 1 = d + (w.2.2.2 + 1)
    rw [hc, Int32.add_assoc]
theorem vE_fold {N : Nat} {z : Bool} {d : Int32} (hN : N ≤ 4400) : ∀ (L : List zQ) (v w : zV), (∀ m ∈ L, mG N z m) → vE N z v w → v.2.2.2 = d + w.2.2.2 → vE N z (L.foldl (fR z) v) (L.foldl (fR z) w) ∧ (L.foldl (fR z) v).2.2.2 = d + (L.foldl (fR z) w).2.2.2 := by
  intro L
  induction L with
  | nil => intro v w _ h hc; exact ⟨h, hc⟩
  | cons m L ih =>
    intro v w hL h hc
    obtain ⟨q1, q2⟩ := vE_step hN h hc (hL m List.mem_cons_self)
    exact ih _ _ (fun x hx => hL x (List.mem_cons_of_mem _ hx)) q1 q2
theorem to64 {x : Int32} {y : Int64} : x.toInt = y.toInt ↔ x.toInt64 = y := by
  constructor
  · intro h
    exact l_eq (by rw [Int32.toInt_toInt64]; exact h)
  · intro h
    rw [← h, Int32.toInt_toInt64]
theorem rR_v {N : Nat} {T : zTr} {M : zMo} {t : Nat} (k : Int32) : rR N T M t ↔ vE N false (cV false (trp T)) (wV false (m3 M) t k) := by
  constructor
  · rintro ⟨e1, s, hs, e2, h0, h1⟩
    refine ⟨e1, s, hs, e2, fun q _ => h0 q, fun q => ?_⟩
    obtain ⟨a1, a2, a3, a4⟩ := h1 q
    refine ⟨to64.mp a1, to64.mp a2, ?_, ?_⟩
    · show mBd (cf1 (trp T)).toInt64.toInt
      rw [Int32.toInt_toInt64]; exact a3
    · show mBd (cf2 (trp T)).toInt64.toInt
      rw [Int32.toInt_toInt64]; exact a4
  · rintro ⟨e1, s, hs, e2, h0, h1⟩
    refine ⟨e1, s, hs, e2, fun q => h0 q rfl, fun q => ?_⟩
    obtain ⟨a1, a2, a3, a4⟩ := h1 q
    refine ⟨to64.mpr a1, to64.mpr a2, ?_, ?_⟩
    · have a3' : mBd (cf1 (trp T)).toInt64.toInt := a3
      rw [Int32.toInt_toInt64] at a3'; exact a3'
    · have a4' : mBd (cf2 (trp T)).toInt64.toInt := a4
      rw [Int32.toInt_toInt64] at a4'; exact a4'
theorem aR_v {N : Nat} {T : zTr} {M : zMo} {t : Nat} (k : Int32) : aR N T M t ↔ vE N true (cV true (tau T)) (wV true (m3 M) t k) := by
  constructor
  · rintro ⟨e1, s, hs, e2, h1⟩
    refine ⟨e1, s, hs, e2, fun q w => (by cases w), fun q => ?_⟩
    obtain ⟨a1, a2, a3⟩ := h1 q
    refine ⟨to64.mp a1, rfl, ?_, vB_0⟩
    show -20000 ≤ (cf1 (tau T)).toInt64.toInt ∧ (cf1 (tau T)).toInt64.toInt ≤ 32768
    rw [Int32.toInt_toInt64]; exact ⟨a2, a3⟩
  · rintro ⟨e1, s, hs, e2, h0, h1⟩
    refine ⟨e1, s, hs, e2, fun q => ?_⟩
    obtain ⟨a1, -, a3, -⟩ := h1 q
    have a3' : -20000 ≤ (cf1 (tau T)).toInt64.toInt ∧ (cf1 (tau T)).toInt64.toInt ≤ 32768 := a3
    rw [Int32.toInt_toInt64] at a3'
    exact ⟨to64.mpr a1, a3'.1, a3'.2⟩
def kf (z : Bool) (t : Nat) (m : zQ) : Bool := (qz m == z) && decide (qt m = t)
theorem kf_mch {N : Nat} {z : Bool} {t : Nat} (L : List zQ) : (L.filter (mch N z)).filter (fun m => decide (qt m = t)) = (L.filter (kf z t)).filter (due N) := by
  rw [List.filter_filter, List.filter_filter]
  apply List.filter_congr
  intro m _
  unfold mch kf due
  cases decide (qt m = t) <;> cases decide (qd m = nI N) <;> cases (qz m == z) <;> rfl
theorem kf_drop {N : Nat} {z y : Bool} {t : Nat} (L : List zQ) : (L.filter (fun m => !mch N z m)).filter (kf y t) = if y = z then (L.filter (kf y t)).filter (fun m => !due N m) else L.filter (kf y t) := by
  by_cases h : y = z
  · subst h
    rw [if_pos rfl, List.filter_filter, List.filter_filter]
    apply List.filter_congr
    intro m _
    unfold mch kf due
    cases decide (qt m = t) <;> cases decide (qd m = nI N) <;> cases (qz m == y) <;> rfl
  · rw [if_neg h, List.filter_filter]
    apply List.filter_congr
    intro m _
    unfold mch kf
    cases y <;> cases z
    · exact absurd rfl h
    · cases qz m <;> cases decide (qt m = t) <;> cases decide (qd m = nI N) <;> rfl
    · cases qz m <;> cases decide (qt m = t) <;> cases decide (qd m = nI N) <;> rfl
    · exact absurd rfl h
theorem cV_c {z : Bool} {c : zCh} : (cV z c).2.2.2 = cnt c := rfl
theorem wV_c {z : Bool} {u : zM3} {t : Nat} {k : Int32} : (wV z u t k).2.2.2 = k := rfl
theorem arrive {z : Bool} {n t : Nat} {c : zCh} {L : List zQ} {A : zM3 × Int32} (hn : n ≤ 4300) (hc : chI z n (n + 1) c) (hq : L.filter (kf z t) = pend n (n + 1) z t c) (hv : vE (n + 1) z (cV z c) (wV z A.1 t 0)) : vE (n + 1) z (cV z (cRec c (n + 1))) (qG z A.1 t (L.filter (mch (n + 1) z))) ∧ cnt (cRec c (n + 1)) = cnt c + (qG z A.1 t (L.filter (mch (n + 1) z))).2.2.2 := by
  have e : qG z A.1 t (L.filter (mch (n + 1) z)) = ((pend n (n + 1) z t c).filter (due (n + 1))).foldl (fR z) (wV z A.1 t 0) := by
    unfold qG
    rw [kf_mch, hq]
  have e2 := rec_V (z := z) (t := t) (c := c) hn
  have hd : (cV z c).2.2.2 = cnt c + (wV z A.1 t 0).2.2.2 := by
    rw [cV_c, wV_c, Int32.add_zero]
  obtain ⟨q1, q2⟩ := vE_fold (N := n + 1) (z := z) (d := cnt c) (by omega) ((pend n (n + 1) z t c).filter (due (n + 1))) (cV z c) (wV z A.1 t 0) (fun m hm => pd_good hc ⟨by omega, by omega⟩ (List.mem_filter.mp hm).1) hv hd
  rw [← e, ← e2] at q1 q2
  rw [cV_c] at q2
  exact ⟨q1, q2⟩
