/-! channels: what is on its way -/
def ord (n : Nat) : List Nat := [(n + 1) % 5, (n + 2) % 5, (n + 3) % 5, (n + 4) % 5, (n + 5) % 5]
def cMsg (z : Bool) (t : Nat) (c : zCh) (k : Nat) : zQ := (z, t, cst c k, car c k, (cfi c k).toInt64, (cse c k).toInt64)
def pend (thr n : Nat) (z : Bool) (t : Nat) (c : zCh) : List zQ := ((ord n).filter (fun k => decide (nI thr < car c k))).map (cMsg z t c)
def vB (z : Bool) (x : Int) : Prop := match z with
  | true => -20000 ≤ x ∧ x ≤ 32768
  | false => mBd x
def slI (z : Bool) (thr : Nat) (c : zCh) (k j : Nat) : Prop := ∃ A : Nat, car c k = nI A ∧ A ≤ j - 1 ∧ (thr < A → cst c k = nI (j - 5) ∧ vB z (cfi c k).toInt ∧ vB z (cse c k).toInt)
def chI (z : Bool) (thr n : Nat) (c : zCh) : Prop := ∀ i, 1 ≤ i → i ≤ 5 → slI z thr c ((n + i) % 5) (n + i)
def tl4 (n : Nat) : List Nat := [(n + 2) % 5, (n + 3) % 5, (n + 4) % 5, (n + 5) % 5]
theorem ord_next (n : Nat) : ord (n + 1) = tl4 n ++ [(n + 1) % 5] := by
  have e : (n + 1 + 5) % 5 = (n + 1) % 5 := by omega
  show [(n + 1 + 1) % 5, (n + 1 + 2) % 5, (n + 1 + 3) % 5, (n + 1 + 4) % 5, (n + 1 + 5) % 5] = _
  rw [e, show n + 1 + 1 = n + 2 by omega, show n + 1 + 2 = n + 3 by omega, show n + 1 + 3 = n + 4 by omega, show n + 1 + 4 = n + 5 by omega]
  rfl
theorem ord_here (n : Nat) : ord n = (n + 1) % 5 :: tl4 n := rfl
theorem ord_ne {n k : Nat} (h : k ∈ tl4 n) : k ≠ (n + 1) % 5 := by
  unfold tl4 at h
  simp only [List.mem_cons, List.not_mem_nil, or_false] at h
  omega
theorem ord_mem {n k : Nat} (h : k ∈ ord n) : ∃ i, 1 ≤ i ∧ i ≤ 5 ∧ k = (n + i) % 5 := by
  unfold ord at h
  simp only [List.mem_cons, List.not_mem_nil, or_false] at h
  rcases h with h | h | h | h | h
  · exact ⟨1, by omega, by omega, h⟩
  · exact ⟨2, by omega, by omega, h⟩
  · exact ⟨3, by omega, by omega, h⟩
  · exact ⟨4, by omega, by omega, h⟩
  · exact ⟨5, by omega, by omega, h⟩
theorem ch_next {z : Bool} {n : Nat} {c : zCh} (h : chI z n n c) : chI z n (n + 1) c := by
  intro i h1 h2
  by_cases hi : i = 5
  · subst hi
    rw [show (n + 1 + 5) % 5 = (n + 1) % 5 by omega]
    obtain ⟨A, e, a, -⟩ := h 1 (by omega) (by omega)
    exact ⟨A, e, by omega, fun q => absurd q (by omega)⟩
  · have := h (i + 1) (by omega) (by omega)
    rw [show n + (i + 1) = n + 1 + i by omega] at this
    exact this
theorem pd_first {z : Bool} {n : Nat} {c : zCh} (h : chI z n n c) (hn : n ≤ 4300) : decide (nI n < car c ((n + 1) % 5)) = false := by
  obtain ⟨A, e, a, -⟩ := h 1 (by omega) (by omega)
  rw [e]
  exact decide_eq_false (fun q => absurd ((nI_ltI (by omega) (by omega)).mp q) (by omega))
theorem pd_next {z : Bool} {n : Nat} {c : zCh} {y : Bool} {t : Nat} (h : chI z n n c) (hn : n ≤ 4300) : pend n (n + 1) y t c = pend n n y t c := by
  have hf := pd_first h hn
  unfold pend
  have e1 : (ord (n + 1)).filter (fun k => decide (nI n < car c k)) = (tl4 n).filter (fun k => decide (nI n < car c k)) := by
    rw [ord_next, List.filter_append, List.filter_cons, if_neg (by rw [hf]; exact Bool.false_ne_true), List.filter_nil, List.append_nil]
  have e2 : (ord n).filter (fun k => decide (nI n < car c k)) = (tl4 n).filter (fun k => decide (nI n < car c k)) := by
    rw [ord_here, List.filter_cons, if_neg (by rw [hf]; exact Bool.false_ne_true)]
  rw [e1, e2]
theorem ch_send {z : Bool} {n : Nat} {c : zCh} {x y : Int32} (h : chI z n n c) (hn : n ≤ 4300) (hd : 0 ≤ (cdl c).toInt ∧ (cdl c).toInt ≤ 5) (hx : vB z x.toInt) (hy : vB z y.toInt) : chI z n (n + 1) (cSend c (n + 1) x y) := by
  unfold cSend
  by_cases h0 : cdl c = 0
  · rw [if_pos h0]
    exact ch_next h
  · rw [if_neg h0]
    intro i h1 h2
    by_cases hi : i = 5
    · subst hi
      rw [show (n + 1 + 5) % 5 = (n + 1) % 5 by omega]
      obtain ⟨d, hdd, ed⟩ := nI_of (x := cdl c) (fun q => by
        have := Int32.lt_iff_toInt_lt.mp q
        have e0 : (0 : Int32).toInt = 0 := by decide
        omega)
      have hd2 := hd.2
      rw [ed, nI_int hdd] at hd2
      have hd3 : d ≠ 0 := fun q => h0 (by rw [ed, q]; rfl)
      refine ⟨n + d, ?_, by omega, fun _ => ⟨?_, ?_, ?_⟩⟩
      · show upd (car c) ((n + 1) % 5) (nI (n + 1) + cdl c - 1) ((n + 1) % 5) = _
        rw [pk_us, ed, nI_add]
        apply v_eq
        have c1 : (1 : Int32).toInt = 1 := by decide
        rw [v_sub (by rw [nI_int (by omega), c1]; omega) (by rw [nI_int (by omega), c1]; omega), nI_int (by omega), nI_int (by omega), c1]
        omega
      · show upd (cst c) ((n + 1) % 5) (nI (n + 1)) ((n + 1) % 5) = _
        rw [pk_us]
        congr 1
      · show vB z (upd (cfi c) ((n + 1) % 5) x ((n + 1) % 5)).toInt
        rw [pk_us]
        exact hx
      · show vB z (upd (cse c) ((n + 1) % 5) y ((n + 1) % 5)).toInt
        rw [pk_us]
        exact hy
    · have hne : (n + 1 + i) % 5 ≠ (n + 1) % 5 := by omega
      obtain ⟨A, e, a, b⟩ := h (i + 1) (by omega) (by omega)
      rw [show n + (i + 1) = n + 1 + i by omega] at e a b
      refine ⟨A, ?_, a, fun q => ?_⟩
      · show upd (car c) ((n + 1) % 5) (nI (n + 1) + cdl c - 1) ((n + 1 + i) % 5) = _
        rw [pk_un hne]
        exact e
      · obtain ⟨b1, b2, b3⟩ := b q
        refine ⟨?_, ?_, ?_⟩
        · show upd (cst c) ((n + 1) % 5) (nI (n + 1)) ((n + 1 + i) % 5) = _
          rw [pk_un hne]
          exact b1
        · show vB z (upd (cfi c) ((n + 1) % 5) x ((n + 1 + i) % 5)).toInt
          rw [pk_un hne]
          exact b2
        · show vB z (upd (cse c) ((n + 1) % 5) y ((n + 1 + i) % 5)).toInt
          rw [pk_un hne]
          exact b3
theorem pd_send0 {z : Bool} {n : Nat} {c : zCh} {x y : Int32} {w : Bool} {t : Nat} (h : chI z n n c) (hn : n ≤ 4300) (h0 : cdl c = 0) : pend n (n + 1) w t (cSend c (n + 1) x y) = pend n n w t c := by
  unfold cSend
  rw [if_pos h0]
  exact pd_next (c := c) h hn
theorem pd_send {z : Bool} {n : Nat} {c : zCh} {x y : Int32} {w : Bool} {t : Nat} (h : chI z n n c) (hn : n ≤ 4300) (hd : 0 ≤ (cdl c).toInt ∧ (cdl c).toInt ≤ 5) (h0 : ¬ cdl c = 0) : pend n (n + 1) w t (cSend c (n + 1) x y) = pend n n w t c ++ [(w, t, nI (n + 1), nI (n + 1) + cdl c - 1, x.toInt64, y.toInt64)] := by
  have hf := pd_first h hn
  have e : cSend c (n + 1) x y = _ := if_neg h0
  rw [e]
  unfold pend
  have ha : nI n < nI (n + 1) + cdl c - 1 := by
    have c0 : (0 : Int32).toInt = 0 := by decide
    have c1 : (1 : Int32).toInt = 1 := by decide
    have hp : (cdl c).toInt ≠ 0 := fun q => h0 (v_eq (by rw [q, c0]))
    have e1 : (nI (n + 1) + cdl c).toInt = (n : Int) + 1 + (cdl c).toInt := by
      rw [v_add (by rw [nI_int (by omega)]; omega) (by rw [nI_int (by omega)]; omega), nI_int (by omega)]
      omega
    rw [Int32.lt_iff_toInt_lt, v_sub (by rw [e1, c1]; omega) (by rw [e1, c1]; omega), e1, c1, nI_int (by omega)]
    omega
  have e2 : (ord n).filter (fun k => decide (nI n < car c k)) = (tl4 n).filter (fun k => decide (nI n < car c k)) := by
    rw [ord_here, List.filter_cons, if_neg (by rw [hf]; exact Bool.false_ne_true)]
  rw [e2, ord_next, List.filter_append, List.map_append]
  congr 1
  · show _ = List.map _ (List.filter _ _)
    have e1 : ∀ k ∈ tl4 n, decide (nI n < upd (car c) ((n + 1) % 5) (nI (n + 1) + cdl c - 1) k) = decide (nI n < car c k) := by
      intro k hk
      rw [pk_un (ord_ne hk)]
    have e2 := List.filter_congr e1
    refine Eq.trans (congrArg _ e2) ?_
    apply List.map_congr_left
    intro k hk
    have hk := (List.mem_filter.mp hk).1
    show (w, t, upd (cst c) ((n + 1) % 5) (nI (n + 1)) k, upd (car c) ((n + 1) % 5) (nI (n + 1) + cdl c - 1) k, (upd (cfi c) ((n + 1) % 5) x k).toInt64, (upd (cse c) ((n + 1) % 5) y k).toInt64) = _
    rw [pk_un (ord_ne hk), pk_un (ord_ne hk), pk_un (ord_ne hk), pk_un (ord_ne hk)]
    rfl
  · have hd : decide (nI n < upd (car c) ((n + 1) % 5) (nI (n + 1) + cdl c - 1) ((n + 1) % 5)) = true := by
      rw [pk_us]
      exact decide_eq_true ha
    rw [List.filter_cons, List.filter_nil]
    refine Eq.trans (congrArg _ (if_pos hd)) ?_
    show [(w, t, upd (cst c) ((n + 1) % 5) (nI (n + 1)) ((n + 1) % 5), upd (car c) ((n + 1) % 5) (nI (n + 1) + cdl c - 1) ((n + 1) % 5), (upd (cfi c) ((n + 1) % 5) x ((n + 1) % 5)).toInt64, (upd (cse c) ((n + 1) % 5) y ((n + 1) % 5)).toInt64)] = _
    rw [pk_us, pk_us, pk_us, pk_us]
-- what a channel has taken
abbrev zV : Type := Int32 × Int64 × Int64 × Int32
def fR (z : Bool) (v : zV) (m : zQ) : zV := if v.1 < qs m then (qs m, qf m, if z then 0 else qg m, v.2.2.2) else (v.1, v.2.1, v.2.2.1, v.2.2.2 + 1)
def cV (z : Bool) (c : zCh) : zV := (csp c, (cf1 c).toInt64, if z then 0 else (cf2 c).toInt64, cnt c)
theorem cTake_a {c : zCh} {k : Nat} : cst (cTake c k) = cst c ∧ car (cTake c k) = car c ∧ cfi (cTake c k) = cfi c ∧ cse (cTake c k) = cse c ∧ cdl (cTake c k) = cdl c ∧ clo (cTake c k) = clo c := by
  unfold cTake
  by_cases h : csp c < cst c k
  · rw [if_pos h]; exact ⟨rfl, rfl, rfl, rfl, rfl, rfl⟩
  · rw [if_neg h]; exact ⟨rfl, rfl, rfl, rfl, rfl, rfl⟩
theorem cTake_v {z : Bool} {t : Nat} {c : zCh} {k : Nat} : cV z (cTake c k) = fR z (cV z c) (cMsg z t c k) := by
  unfold cTake fR
  by_cases h : csp c < cst c k
  · rw [if_pos h]
    exact (if_pos h).symm
  · rw [if_neg h]
    exact (if_neg h).symm
def cF (N : Nat) (c : zCh) (k : Nat) : zCh := if car c k = nI N then cTake c k else c
theorem cRecL_f {N : Nat} : ∀ (j i : Nat) (c : zCh), cRecL N j i c = ((List.range' i j).map (fun q => (N + q) % 5)).foldl (cF N) c := by
  intro j
  induction j with
  | zero => intro i c; rfl
  | succ j ih =>
    intro i c
    rw [List.range'_succ, List.map_cons, List.foldl_cons, ← ih]
    rfl
theorem cRec_f {c : zCh} {N : Nat} : cRec c N = (ord N).foldl (cF N) c := cRecL_f 5 1 c
theorem recL_z {z : Bool} {t N : Nat} : ∀ (K : List Nat) (c : zCh), (cst (K.foldl (cF N) c) = cst c ∧ car (K.foldl (cF N) c) = car c ∧ cfi (K.foldl (cF N) c) = cfi c ∧ cse (K.foldl (cF N) c) = cse c ∧ cdl (K.foldl (cF N) c) = cdl c ∧ clo (K.foldl (cF N) c) = clo c) ∧ cV z (K.foldl (cF N) c) = ((K.filter (fun k => decide (car c k = nI N))).map (cMsg z t c)).foldl (fR z) (cV z c) := by
  intro K
  induction K with
  | nil => intro c; exact ⟨⟨rfl, rfl, rfl, rfl, rfl, rfl⟩, rfl⟩
  | cons k K ih =>
    intro c
    show (cst (K.foldl (cF N) (cF N c k)) = cst c ∧ car (K.foldl (cF N) (cF N c k)) = car c ∧ cfi (K.foldl (cF N) (cF N c k)) = cfi c ∧ cse (K.foldl (cF N) (cF N c k)) = cse c ∧ cdl (K.foldl (cF N) (cF N c k)) = cdl c ∧ clo (K.foldl (cF N) (cF N c k)) = clo c) ∧ cV z (K.foldl (cF N) (cF N c k)) = _
    by_cases h : car c k = nI N
    · have e : cF N c k = cTake c k := if_pos h
      rw [e, List.filter_cons, if_pos (decide_eq_true h)]
      obtain ⟨⟨a1, a2, a3, a4, a5, a6⟩, b⟩ := ih (cTake c k)
      obtain ⟨t1, t2, t3, t4, t5, t6⟩ := cTake_a (c := c) (k := k)
      refine ⟨⟨a1.trans t1, a2.trans t2, a3.trans t3, a4.trans t4, a5.trans t5, a6.trans t6⟩, ?_⟩
      rw [b, List.map_cons, List.foldl_cons, ← cTake_v (t := t)]
      have em : cMsg z t (cTake c k) = cMsg z t c := by
        funext j
        show (z, t, cst (cTake c k) j, car (cTake c k) j, (cfi (cTake c k) j).toInt64, (cse (cTake c k) j).toInt64) = _
        rw [t1, t2, t3, t4]
        rfl
      rw [em, t2]
    · have e : cF N c k = c := if_neg h
      rw [e, List.filter_cons, if_neg (by rw [decide_eq_false h]; exact Bool.false_ne_true)]
      exact ih c
theorem rec_a {c : zCh} {N : Nat} : cst (cRec c N) = cst c ∧ car (cRec c N) = car c ∧ cfi (cRec c N) = cfi c ∧ cse (cRec c N) = cse c ∧ cdl (cRec c N) = cdl c ∧ clo (cRec c N) = clo c := by
  rw [cRec_f]
  exact (recL_z (z := true) (t := 0) _ c).1
def due (N : Nat) (m : zQ) : Bool := decide (qd m = nI N)
theorem rec_V {z : Bool} {t : Nat} {c : zCh} {n : Nat} (hn : n ≤ 4300) : cV z (cRec c (n + 1)) = ((pend n (n + 1) z t c).filter (due (n + 1))).foldl (fR z) (cV z c) := by
  have hh : ∀ k ∈ ord (n + 1), decide (car c k = nI (n + 1)) = (decide (car c k = nI (n + 1)) && decide (nI n < car c k)) := by
    intro k _
    by_cases h : car c k = nI (n + 1)
    · rw [h]
      have : nI n < nI (n + 1) := (nI_ltI (by omega) (by omega)).mpr (by omega)
      simp [this]
    · simp [h]
  have e : (pend n (n + 1) z t c).filter (due (n + 1)) = ((ord (n + 1)).filter (fun k => decide (car c k = nI (n + 1)))).map (cMsg z t c) := by
    unfold pend
    rw [List.filter_map, List.filter_filter]
    exact congrArg (fun l => List.map (cMsg z t c) l) (List.filter_congr hh).symm
  rw [cRec_f, (recL_z (z := z) (t := t) _ c).2, e]
theorem ch_rec {z : Bool} {n : Nat} {c : zCh} (h : chI z n (n + 1) c) : chI z (n + 1) (n + 1) (cRec c (n + 1)) := by
  obtain ⟨a1, a2, a3, a4, -, -⟩ := rec_a (c := c) (N := n + 1)
  intro i h1 h2
  obtain ⟨A, e, a, b⟩ := h i h1 h2
  refine ⟨A, by rw [a2]; exact e, a, fun q => ?_⟩
  rw [a1, a3, a4]
  exact b (by omega)
theorem pd_rec {z : Bool} {n : Nat} {c : zCh} {w : Bool} {t : Nat} (h : chI z n (n + 1) c) (hn : n ≤ 4300) : pend (n + 1) (n + 1) w t (cRec c (n + 1)) = (pend n (n + 1) w t c).filter (fun m => !due (n + 1) m) := by
  obtain ⟨a1, a2, a3, a4, -, -⟩ := rec_a (c := c) (N := n + 1)
  have em : cMsg w t (cRec c (n + 1)) = cMsg w t c := by
    funext j
    show (w, t, cst (cRec c (n + 1)) j, car (cRec c (n + 1)) j, (cfi (cRec c (n + 1)) j).toInt64, (cse (cRec c (n + 1)) j).toInt64) = _
    rw [a1, a2, a3, a4]
    rfl
  unfold pend
  rw [em, a2, List.filter_map, List.filter_filter]
  have hh : ∀ k ∈ ord (n + 1), decide (nI (n + 1) < car c k) = (!(decide (car c k = nI (n + 1))) && decide (nI n < car c k)) := by
   intro k hk
   obtain ⟨i, h1, h2, e⟩ := ord_mem hk
   obtain ⟨A, eA, a, -⟩ := h i h1 h2
   rw [← e] at eA
   rw [eA]
   have q1 : nI (n + 1) < nI A ↔ n + 1 < A := nI_ltI (by omega) (by omega)
   have q2 : nI n < nI A ↔ n < A := nI_ltI (by omega) (by omega)
   have q3 : nI A = nI (n + 1) ↔ A = n + 1 := nI_eq (by omega) (by omega)
   have hP : nI (n + 1) < nI A ↔ (¬ nI A = nI (n + 1) ∧ nI n < nI A) := by
     rw [q1, q2, q3]
     omega
   rw [Bool.eq_iff_iff, decide_eq_true_eq, Bool.and_eq_true, Bool.not_eq_true', decide_eq_false_iff_not, decide_eq_true_eq]
   exact hP
  exact congrArg (fun l => List.map (cMsg w t c) l) (List.filter_congr hh)
theorem pd_len {thr n : Nat} {z : Bool} {t : Nat} {c : zCh} : (pend thr n z t c).length ≤ 5 := by
  unfold pend
  rw [List.length_map]
  exact Nat.le_trans (List.length_filter_le _ _) (Nat.le_refl 5)
theorem pd_kind {thr n : Nat} {z : Bool} {t : Nat} {c : zCh} {m : zQ} (h : m ∈ pend thr n z t c) : qz m = z ∧ qt m = t := by
  unfold pend at h
  obtain ⟨k, -, rfl⟩ := List.mem_map.mp h
  exact ⟨rfl, rfl⟩
theorem pd_good {thr n : Nat} {z : Bool} {t : Nat} {c : zCh} {m : zQ} (hc : chI z thr n c) (hn : thr ≤ 4300 ∧ n ≤ 4400) (h : m ∈ pend thr n z t c) : ∃ s : Nat, s ≤ n ∧ qs m = nI s ∧ vB z (qf m).toInt ∧ vB z (qg m).toInt := by
  unfold pend at h
  obtain ⟨k, hk, rfl⟩ := List.mem_map.mp h
  obtain ⟨hk1, hk2⟩ := List.mem_filter.mp hk
  obtain ⟨i, h1, h2, e⟩ := ord_mem hk1
  obtain ⟨A, eA, a, b⟩ := hc i h1 h2
  rw [← e] at eA b
  have hk2 := of_decide_eq_true hk2
  rw [eA] at hk2
  obtain ⟨b1, b2, b3⟩ := b ((nI_ltI (by omega) (by omega)).mp hk2)
  refine ⟨n + i - 5, by omega, b1, ?_, ?_⟩
  · show vB z (cfi c k).toInt64.toInt
    rw [Int32.toInt_toInt64]
    exact b2
  · show vB z (cse c k).toInt64.toInt
    rw [Int32.toInt_toInt64]
    exact b3
theorem ord_perm (n : Nat) : (ord n).Perm [0, 1, 2, 3, 4] := by
  have h : n % 5 = 0 ∨ n % 5 = 1 ∨ n % 5 = 2 ∨ n % 5 = 3 ∨ n % 5 = 4 := by omega
  rcases h with h | h | h | h | h
  · have e : ord n = [1, 2, 3, 4, 0] := by
      unfold ord
      rw [show (n + 1) % 5 = 1 by omega, show (n + 2) % 5 = 2 by omega, show (n + 3) % 5 = 3 by omega, show (n + 4) % 5 = 4 by omega, show (n + 5) % 5 = 0 by omega]
    rw [e]; decide
  · have e : ord n = [2, 3, 4, 0, 1] := by
      unfold ord
      rw [show (n + 1) % 5 = 2 by omega, show (n + 2) % 5 = 3 by omega, show (n + 3) % 5 = 4 by omega, show (n + 4) % 5 = 0 by omega, show (n + 5) % 5 = 1 by omega]
    rw [e]; decide
  · have e : ord n = [3, 4, 0, 1, 2] := by
      unfold ord
      rw [show (n + 1) % 5 = 3 by omega, show (n + 2) % 5 = 4 by omega, show (n + 3) % 5 = 0 by omega, show (n + 4) % 5 = 1 by omega, show (n + 5) % 5 = 2 by omega]
    rw [e]; decide
  · have e : ord n = [4, 0, 1, 2, 3] := by
      unfold ord
      rw [show (n + 1) % 5 = 4 by omega, show (n + 2) % 5 = 0 by omega, show (n + 3) % 5 = 1 by omega, show (n + 4) % 5 = 2 by omega, show (n + 5) % 5 = 3 by omega]
    rw [e]; decide
  · have e : ord n = [0, 1, 2, 3, 4] := by
      unfold ord
      rw [show (n + 1) % 5 = 0 by omega, show (n + 2) % 5 = 1 by omega, show (n + 3) % 5 = 2 by omega, show (n + 4) % 5 = 3 by omega, show (n + 5) % 5 = 4 by omega]
    rw [e]
theorem cOtwL_z {c : zCh} {n : Nat} : ∀ (j i q : Nat), cOtwL c n j i (nI q) = nI (q + ((List.range' i j).filter (fun k => decide (nI n < car c k))).length) := by
  intro j
  induction j with
  | zero => intro i q; rfl
  | succ j ih =>
    intro i q
    show cOtwL c n j (i + 1) (if car c i ≤ nI n then nI q else nI q + 1) = _
    rw [List.range'_succ, List.filter_cons]
    by_cases h : car c i ≤ nI n
    · have h2 : ¬ nI n < car c i := by
        rw [Int32.lt_iff_toInt_lt]
        have := Int32.le_iff_toInt_le.mp h
        omega
      rw [if_pos h, ih, if_neg (by rw [decide_eq_false h2]; exact Bool.false_ne_true)]
    · have h2 : nI n < car c i := by
        rw [Int32.lt_iff_toInt_lt]
        have : ¬ (car c i).toInt ≤ (nI n).toInt := fun q => h (Int32.le_iff_toInt_le.mpr q)
        omega
      rw [if_neg h, if_pos (decide_eq_true h2), show nI q + 1 = nI (q + 1) from nI_add q 1, ih, List.length_cons]
      congr 1
      omega
theorem cOtw_z {c : zCh} {n : Nat} {z : Bool} {t : Nat} : cOtw c n = nI (pend n n z t c).length := by
  unfold cOtw
  have h := cOtwL_z (c := c) (n := n) 5 0 0
  rw [Nat.zero_add] at h
  refine Eq.trans h ?_
  congr 1
  unfold pend
  rw [List.length_map]
  exact ((ord_perm n).filter _).length_eq.symm
