/-! a second: the five steps, and the relation after it -/
theorem bI_not {b : Bool} : bI (!b) = 0 ↔ ¬ bI b = 0 := by cases b <;> decide
theorem loop2 {F : zMB → Nat → zMB} {G : zMo → Nat → zMo} {P : Nat → zMB → zMo → Prop} {m : Nat} (h : ∀ i S M, i < m → P i S M → P (i + 1) (F S i) (G M i)) : ∀ (j i : Nat) (S : zMB) (M : zMo), i + j = m → P i S M → P m (sL F j i S) (yL G j i M) := by
  intro j
  induction j with
  | zero =>
    intro i S M e q
    have e' : i = m := by omega
    subst e'
    exact q
  | succ j ih =>
    intro i S M e q
    exact ih (i + 1) (F S i) (G M i) (by omega) (h i S M (by omega) q)
theorem sL_loc {F : zMB → Nat → zMB} {g : Nat → zTr → zTr} (hF : ∀ S i, F S i = sSetT S i (g (sn S) (sT S i))) : ∀ (j i : Nat) (S : zMB), sk (sL F j i S) = sk S ∧ sy (sL F j i S) = sy S ∧ sm (sL F j i S) = sm S ∧ sn (sL F j i S) = sn S ∧ ∀ t, sT (sL F j i S) t = if i ≤ t ∧ t < i + j then g (sn S) (sT S t) else sT S t := by
  intro j
  induction j with
  | zero => intro i S; exact ⟨rfl, rfl, rfl, rfl, fun t => by rw [if_neg (by omega)]; rfl⟩
  | succ j ih =>
    intro i S
    obtain ⟨a1, a2, a3, a4, a5⟩ := ih (i + 1) (F S i)
    have e := hF S i
    have b1 : sk (F S i) = sk S := by rw [e]; rfl
    have b2 : sy (F S i) = sy S := by rw [e]; rfl
    have b3 : sm (F S i) = sm S := by rw [e]; rfl
    have b4 : sn (F S i) = sn S := by rw [e]; rfl
    refine ⟨a1.trans b1, a2.trans b2, a3.trans b3, a4.trans b4, fun t => ?_⟩
    refine (a5 t).trans ?_
    rw [b4]
    by_cases h : t = i
    · subst h
      rw [if_neg (by omega), if_pos (by omega), e]
      exact va_up_self _ _ _
    · have et : sT (F S i) t = sT S t := by rw [e]; exact va_up_ne _ _ h
      rw [et]
      by_cases h2 : i + 1 ≤ t ∧ t < i + 1 + j
      · rw [if_pos h2, if_pos (by omega)]
      · rw [if_neg h2, if_neg (by omega)]
theorem up_if {α : Type} {A B : α} {i : Nat} : va_up (fun t : Nat => if t < i then A else B) i A = fun t => if t < i + 1 then A else B := by
  funext t
  by_cases h : t = i
  · subst h
    rw [va_up_self, if_pos (by omega)]
  · rw [va_up_ne _ _ h]
    by_cases h2 : t < i
    · rw [if_pos h2, if_pos (by omega)]
    · rw [if_neg h2, if_neg (by omega)]
-- reports
theorem ph1 {n : Nat} {S : zMB} {M : zMo} (h : WR (fun _ => (n, n)) (fun _ => (n, n)) (fun _ => n) (n + 1) S M) (hs : sn S = n + 1) (hn : n ≤ 4150) : WR (fun _ => (n, n + 1)) (fun _ => (n, n)) (fun _ => n) (n + 1) (sL sF1 (sm S) 0 S) (yL yF1 (sm S) 0 M) ∧ sn (sL sF1 (sm S) 0 S) = n + 1 ∧ sm (sL sF1 (sm S) 0 S) = sm S := by
  have step : ∀ i S1 M1, i < sm S → (WR (fun t => if t < i then (n, n + 1) else (n, n)) (fun _ => (n, n)) (fun _ => n) (n + 1) S1 M1 ∧ sn S1 = n + 1 ∧ sm S1 = sm S) → (WR (fun t => if t < i + 1 then (n, n + 1) else (n, n)) (fun _ => (n, n)) (fun _ => n) (n + 1) (sF1 S1 i) (yF1 M1 i) ∧ sn (sF1 S1 i) = n + 1 ∧ sm (sF1 S1 i) = sm S) := by
    rintro i S1 M1 hi ⟨hw, h1, h2⟩
    refine ⟨?_, h1, h2⟩
    have hi4 : i < 4 := by have := hw.1.2.1; omega
    obtain ⟨p1, p2', -⟩ := hw.2.2.2.2 i hi4
    have p2 : pBd n (sT S1 i) := p2'
    obtain ⟨r1, r2⟩ := reach_z p1 p2 (by omega)
    obtain ⟨t1, t2⟩ := tail_z p1 p2 (by omega)
    have x1 : (tReach (sT S1 i)).toInt64 = yReach M1 i := to64.mp (r1.trans r2.symm)
    have x2 : (tTail (sT S1 i)).toInt64 = yTail M1 i := to64.mp (t1.trans t2.symm)
    obtain ⟨b1, b2, b3, b4, b5, b6, b7⟩ := p2
    have hx : mBd (tReach (sT S1 i)).toInt := by rw [r1]; unfold mBd; omega
    have hy : mBd (tTail (sT S1 i)).toInt := by rw [t1]; unfold mBd; omega
    have hw2 := sendF (x := tReach (sT S1 i)) (y := tTail (sT S1 i)) hw (by omega) h1 (by omega) (if_neg (Nat.lt_irrefl i)) hx hy
    rw [up_if, x1, x2] at hw2
    have e : sF1 S1 i = sSetT S1 i (tSetR (sT S1 i) (cSend (trp (sT S1 i)) (n + 1) (tReach (sT S1 i)) (tTail (sT S1 i)))) := by
      unfold sF1 tSendR
      rw [h1]
      rfl
    rw [e]
    exact hw2
  have h0 : WR (fun t => if t < 0 then (n, n + 1) else (n, n)) (fun _ => (n, n)) (fun _ => n) (n + 1) S M := WR_a (n := n) (by omega) h (fun t _ => Or.inl (if_neg (by omega)))
  obtain ⟨q1, q2, q3⟩ := loop2 (F := sF1) (G := yF1) (P := fun i S1 M1 => WR (fun t => if t < i then (n, n + 1) else (n, n)) (fun _ => (n, n)) (fun _ => n) (n + 1) S1 M1 ∧ sn S1 = n + 1 ∧ sm S1 = sm S) step (sm S) 0 S M (by omega) ⟨h0, hs, rfl⟩
  refine ⟨WR_a (n := n) (by omega) q1 (fun t _ => ?_), q2, q3⟩
  by_cases ht : t < sm S
  · exact Or.inl (if_pos ht).symm
  · exact Or.inr ⟨if_neg ht, rfl⟩
-- their arrival
theorem ph2 {b : Nat → Nat × Nat} {d : Nat → Nat} {n : Nat} {S : zMB} {M : zMo} (h : WR (fun _ => (n, n + 1)) b d (n + 1) S M) (hs : sn S = n + 1) (hn : n ≤ 4150) : WR (fun _ => (n + 1, n + 1)) b d (n + 1) (sL sF2 (sm S) 0 S) (yArr M false) ∧ sn (sL sF2 (sm S) 0 S) = n + 1 ∧ sm (sL sF2 (sm S) 0 S) = sm S := by
  obtain ⟨a1, a2, a3, a4, a5⟩ := sL_loc (F := sF2) (g := fun N T => tSetR T (cRec (trp T) N)) (fun _ _ => rfl) (sm S) 0 S
  rw [hs] at a5
  refine ⟨arrF (C := fun t => cRec (trp (sT S t)) (n + 1)) h (by omega) hs a1 a2 a3 a4 (fun _ => rfl) (fun t => ?_), a4.trans hs, a3⟩
  refine (a5 t).trans ?_
  by_cases ht : t < sm S
  · rw [if_pos (by omega)]
  · rw [if_neg (by omega)]
    have e0 := h.1.2.2.2.2.2.2.2 t (by omega)
    have e := rec_0 (N := n + 1) (by omega) (by omega)
    have e1 : cRec (trp (sT S t)) (n + 1) = zc0 := by
      rw [e0]
      exact e
    rw [e1, e0]
    rfl
-- authorities
theorem up_zone {y : zWy} {M : zMo} {i : Nat} {r : Int32} (hy : yR y M) (er : r.toInt = (xsr (m3 M) i).toInt) : bI (jUp y r) = 0 ↔ ¬ bI (xdn (m1 M) (yZone M i)) = 0 := by
  unfold jUp yZone
  have c1 : (16384 : Int32).toInt = 16384 := by decide
  have d1 : (16384 : Int64).toInt = 16384 := by decide
  by_cases h : 16384 ≤ r
  · have h2 := Int32.le_iff_toInt_le.mp h
    rw [c1] at h2
    have h3 : 16384 ≤ xsr (m3 M) i := Int64.le_iff_toInt_le.mpr (by rw [d1, ← er]; exact h2)
    rw [if_pos h, if_pos h3, hy.2 1 (by decide)]
    exact bI_not
  · have h3 : ¬ 16384 ≤ xsr (m3 M) i := fun q => h (Int32.le_iff_toInt_le.mpr (by
      have := Int64.le_iff_toInt_le.mp q
      rw [d1] at this
      rw [c1, er]
      exact this))
    rw [if_neg h, if_neg h3, hy.2 0 (by decide)]
    exact bI_not
theorem conW {a b : Nat → Nat × Nat} {d : Nat → Nat} {n : Nat} {S : zMB} {M : zMo} {i : Nat} (h : WR a b d (n + 1) S M) (hn : n ≤ 4200) (hs : sn S = n + 1) (hi : i < sm S) (hb : b i = (n, n)) : WR a (va_up b i (n, n + 1)) d (n + 1) (sAuth S i) (yCon1 M i) := by
  have hg := h.1
  have hi4 : i < 4 := by have := hg.2.1; omega
  have hr : ∀ o, o < 4 → rR (n + 1) (sT S o) M o := fun o ho => (h.2.2.2.2 o ho).2.2.1
  have stay : WR a (va_up b i (n, n + 1)) d (n + 1) S M := WR_b (n := n) (by omega) h (fun t _ => by
    by_cases q : t = i
    · subst q; exact Or.inr ⟨hb, va_up_self _ _ _⟩
    · exact Or.inl (va_up_ne _ _ q))
  obtain ⟨e1, s, hs', e2, h0, h1⟩ := hr i hi4
  unfold sAuth yCon1
  by_cases hz : s = 0
  · have ht := (taken_z e2 (by omega)).mpr hz
    have hx : xrs (m3 M) i = 0 := by rw [← e1, e2]; exact (as_0 (by omega)).mpr hz
    rw [if_pos ht, if_pos hx]
    exact stay
  · have ht : ¬ bI (cTaken (trp (sT S i))) = 0 := fun q => hz ((taken_z e2 (by omega)).mp q)
    have hx : ¬ xrs (m3 M) i = 0 := fun q => hz ((as_0 (by omega)).mp (by rw [← e2, e1]; exact q))
    rw [if_neg ht, if_neg hx]
    obtain ⟨q1, q2, q3, q4⟩ := h1 (by omega)
    have hup := up_zone (i := i) hg.2.2.2.2.2.2.1 q1
    by_cases hu : bI (jUp (sy S) (cf1 (trp (sT S i)))) = 0
    · rw [if_pos hu, if_neg (hup.mp hu)]
      exact stay
    · have hu2 : bI (xdn (m1 M) (yZone M i)) = 0 := by
        by_cases w : bI (xdn (m1 M) (yZone M i)) = 0
        · exact w
        · exact absurd (hup.mpr w) hu
      rw [if_neg hu, if_pos hu2, hs]
      obtain ⟨w1, w2, w3⟩ := auth_z (n := n + 1) hi4 (by omega) hg.2.2.2.2.2.2.1 hr q1
      have w := to64.mp w1
      have k := sendT (x := mn (endFor (sy S) (cf1 (trp (sT S i)))) (sBehind S i)) (y := 0) h (by omega) hs hi hb ⟨w2, w3⟩ (by show -20000 ≤ (0 : Int32).toInt ∧ (0 : Int32).toInt ≤ 32768; decide)
      rw [w] at k
      exact k
theorem sAuth_s {S : zMB} {i : Nat} : sn (sAuth S i) = sn S ∧ sm (sAuth S i) = sm S := by
  unfold sAuth
  split
  · exact ⟨rfl, rfl⟩
  · split
    · exact ⟨rfl, rfl⟩
    · exact ⟨rfl, rfl⟩
theorem ph3 {a : Nat → Nat × Nat} {d : Nat → Nat} {n : Nat} {S : zMB} {M : zMo} (h : WR a (fun _ => (n, n)) d (n + 1) S M) (hs : sn S = n + 1) (hn : n ≤ 4150) : WR a (fun _ => (n, n + 1)) d (n + 1) (sL sAuth (sm S) 0 S) (yControl M) ∧ sn (sL sAuth (sm S) 0 S) = n + 1 ∧ sm (sL sAuth (sm S) 0 S) = sm S := by
  have step : ∀ i S1 M1, i < sm S → (WR a (fun t => if t < i then (n, n + 1) else (n, n)) d (n + 1) S1 M1 ∧ sn S1 = n + 1 ∧ sm S1 = sm S) → (WR a (fun t => if t < i + 1 then (n, n + 1) else (n, n)) d (n + 1) (sAuth S1 i) (yCon1 M1 i) ∧ sn (sAuth S1 i) = n + 1 ∧ sm (sAuth S1 i) = sm S) := by
    rintro i S1 M1 hi ⟨hw, h1, h2⟩
    refine ⟨?_, sAuth_s.1.trans h1, sAuth_s.2.trans h2⟩
    have hw2 := conW (i := i) hw (by omega) h1 (by omega) (if_neg (Nat.lt_irrefl i))
    rw [up_if] at hw2
    exact hw2
  have h0 : WR a (fun t => if t < 0 then (n, n + 1) else (n, n)) d (n + 1) S M := WR_b (n := n) (by omega) h (fun t _ => Or.inl (if_neg (by omega)))
  have e : yControl M = yL yCon1 (sm S) 0 M := by
    unfold yControl
    rw [yConL_eq, h.1.1]
  rw [e]
  obtain ⟨q1, q2, q3⟩ := loop2 (F := sAuth) (G := yCon1) (P := fun i S1 M1 => WR a (fun t => if t < i then (n, n + 1) else (n, n)) d (n + 1) S1 M1 ∧ sn S1 = n + 1 ∧ sm S1 = sm S) step (sm S) 0 S M (by omega) ⟨h0, hs, rfl⟩
  refine ⟨WR_b (n := n) (by omega) q1 (fun t _ => ?_), q2, q3⟩
  by_cases ht : t < sm S
  · exact Or.inl (if_pos ht).symm
  · exact Or.inr ⟨if_neg ht, rfl⟩
-- their arrival
theorem ph4 {a : Nat → Nat × Nat} {d : Nat → Nat} {n : Nat} {S : zMB} {M : zMo} (h : WR a (fun _ => (n, n + 1)) d (n + 1) S M) (hs : sn S = n + 1) (hn : n ≤ 4150) : WR a (fun _ => (n + 1, n + 1)) d (n + 1) (sL sF4 (sm S) 0 S) (yArr M true) ∧ sn (sL sF4 (sm S) 0 S) = n + 1 ∧ sm (sL sF4 (sm S) 0 S) = sm S := by
  obtain ⟨a1, a2, a3, a4, a5⟩ := sL_loc (F := sF4) (g := fun N T => tSetA T (cRec (tau T) N)) (fun _ _ => rfl) (sm S) 0 S
  rw [hs] at a5
  refine ⟨arrT (C := fun t => cRec (tau (sT S t)) (n + 1)) h (by omega) hs a1 a2 a3 a4 (fun _ => rfl) (fun t => ?_), a4.trans hs, a3⟩
  refine (a5 t).trans ?_
  by_cases ht : t < sm S
  · rw [if_pos (by omega)]
  · rw [if_neg (by omega)]
    have e0 := h.1.2.2.2.2.2.2.2 t (by omega)
    have e := rec_0 (N := n + 1) (by omega) (by omega)
    have e1 : cRec (tau (sT S t)) (n + 1) = zc0 := by
      rw [e0]
      exact e
    rw [e1, e0]
    rfl
-- driving
theorem tDrv1_c {T : zTr} {N : Nat} {k : zTk} : trp (tDrv1 T N k) = trp T ∧ tau (tDrv1 T N k) = tau T := by
  unfold tDrv1
  split
  · split
    · exact ⟨rfl, rfl⟩
    · split
      · exact ⟨rfl, rfl⟩
      · split
        · exact ⟨rfl, rfl⟩
        · exact ⟨rfl, rfl⟩
  · exact ⟨rfl, rfl⟩
theorem tMove_c {T : zTr} {v : Int32} : trp (tMove T v) = trp T ∧ tau (tMove T v) = tau T := by
  unfold tMove
  split
  · exact ⟨rfl, rfl⟩
  · split
    · exact ⟨rfl, rfl⟩
    · exact ⟨rfl, rfl⟩
theorem tDrv4_c {T : zTr} : trp (tDrv4 T) = trp T ∧ tau (tDrv4 T) = tau T := by
  unfold tDrv4
  split
  · exact ⟨rfl, rfl⟩
  · exact ⟨rfl, rfl⟩
theorem tDrive_c {T : zTr} {N : Nat} {k : zTk} : trp (tDrive T N k) = trp T ∧ tau (tDrive T N k) = tau T := by
  unfold tDrive tDrv3
  rw [tDrv4_c.1, tDrv4_c.2, tMove_c.1, tMove_c.2]
  exact tDrv1_c
def oE (M M2 : zMo) (i : Nat) : Prop := m1 M2 = m1 M ∧ m3 M2 = m3 M ∧ ∀ T t, t ≠ i → pE T M t → pE T M2 t
theorem oE_r {M : zMo} {i : Nat} : oE M M i := ⟨rfl, rfl, fun _ _ _ h => h⟩
theorem oE_t {M M2 M3 : zMo} {i : Nat} (h : oE M M2 i) (k : oE M2 M3 i) : oE M M3 i := ⟨k.1.trans h.1, k.2.1.trans h.2.1, fun T t ht q => k.2.2 T t ht (h.2.2 T t ht q)⟩
theorem oE_into {M : zMo} {i : Nat} : oE M (yInto M i) i := by
  refine ⟨rfl, rfl, fun T t ht q => ?_⟩
  obtain ⟨e1, e2, e3, e4, e5, e6, e7, e8, e9⟩ := q
  refine ⟨e1, e2, e3, e4, e5, e6, e7, ?_, ?_⟩
  · show tem T = va_up (xem (m2 M)) i true t
    rw [va_up_ne _ _ ht]; exact e8
  · show tec T = upd (xec (m2 M)) i (xec (m2 M) i + 1) t
    rw [pk_un ht]; exact e9
theorem oE_1 {M : zMo} {i : Nat} {v : Int64} : oE M (yMv1 M i v) i := by
  refine ⟨rfl, rfl, fun T t ht q => ?_⟩
  obtain ⟨e1, e2, e3, e4, e5, e6, e7, e8, e9⟩ := q
  refine ⟨e1, ?_, ?_, e4, e5, e6, e7, e8, e9⟩
  · show (tfr T).toInt = (vp_updL (xfr (m2 M)) i (xfr (m2 M) i + yWay M i v) t).toInt
    rw [pk_uLn ht]; exact e2
  · show (tsp T).toInt = (vp_updL (xsp (m2 M)) i v t).toInt
    rw [pk_uLn ht]; exact e3
theorem oE_2 {M : zMo} {i : Nat} {w : Int64} : oE M (yMv2 M i w) i := by
  unfold yMv2
  split
  · exact oE_r
  · refine ⟨rfl, rfl, fun T t ht q => ?_⟩
    obtain ⟨e1, e2, e3, e4, e5, e6, e7, e8, e9⟩ := q
    refine ⟨e1, e2, e3, ?_, ?_, e6, e7, e8, e9⟩
    · show (tes T).toInt = (vp_updL (xes (m2 M)) i (xes (m2 M) i + (w + (xdr (m2 M) i).toInt64)) t).toInt
      rw [pk_uLn ht]; exact e4
    · show (tdo T).toInt = (vp_updL (xdo (m2 M)) i (xdo (m2 M) i + 2) t).toInt
      rw [pk_uLn ht]; exact e5
theorem oE_3 {M : zMo} {i pb : Nat} : oE M (yMv3 M i pb) i := by
  unfold yMv3
  split
  · exact oE_r
  · refine ⟨rfl, rfl, fun T t ht q => ?_⟩
    obtain ⟨e1, e2, e3, e4, e5, e6, e7, e8, e9⟩ := q
    refine ⟨e1, e2, e3, ?_, ?_, e6, e7, e8, e9⟩
    · show (tes T).toInt = (vp_updL (xes (m2 M)) i (xfr (m2 M) i) t).toInt
      rw [pk_uLn ht]; exact e4
    · show (tdo T).toInt = (vp_updL (xdo (m2 M)) i 0 t).toInt
      rw [pk_uLn ht]; exact e5
theorem oE_4 {M : zMo} {i : Nat} {v : Int64} : oE M (yMv4 M i v) i := by
  unfold yMv4
  split
  · refine ⟨rfl, rfl, fun T t ht q => ?_⟩
    obtain ⟨e1, e2, e3, e4, e5, e6, e7, e8, e9⟩ := q
    refine ⟨e1, e2, e3, e4, e5, e6, e7, ?_, e9⟩
    show tem T = va_up (xem (m2 M)) i false t
    rw [va_up_ne _ _ ht]; exact e8
  · exact oE_r
theorem oE_d1 {M : zMo} {i : Nat} : oE M (yDrv1 M i) i := by
  unfold yDrv1
  split
  · split
    · exact oE_r
    · split
      · split
        · exact oE_into
        · exact oE_r
      · exact oE_into
  · exact oE_r
theorem oE_dr {M : zMo} {i : Nat} : oE M (yDrive M i) i := by
  unfold yDrive yDrv2
  exact oE_t (oE_t (oE_t (oE_t oE_d1 oE_1) oE_2) oE_3) oE_4
theorem tI_t {a b : Nat × Nat} {d d2 N : Nat} {T T2 : zTr} {M M2 : zMo} {t : Nat} (h : tI a b d N T M t) (e1 : trp T2 = trp T) (e2 : tau T2 = tau T) (e3 : m3 M2 = m3 M) (e4 : zQL M2 = zQL M) (p1 : pE T2 M2 t) (p2 : pBd d2 T2) : tI a b d2 N T2 M2 t := by
  obtain ⟨-, -, q3, q4, q5, q6, q7⟩ := h
  refine ⟨p1, p2, rR_c e3 ?_, aR_c e3 ?_, dlR_c e3 ?_, ?_, ?_⟩
  · unfold rR at q3 ⊢
    rw [e1]; exact q3
  · unfold aR at q4 ⊢
    rw [e2]; exact q4
  · unfold dlR at q5 ⊢
    rw [e1, e2]; exact q5
  · rw [e1, e4]; exact q6
  · rw [e2, e4]; exact q7
theorem drvW {a b : Nat → Nat × Nat} {d : Nat → Nat} {n : Nat} {S : zMB} {M : zMo} {i : Nat} (h : WR a b d (n + 1) S M) (hn : n ≤ 4200) (hs : sn S = n + 1) (hi : i < sm S) (hd : d i = n) : WR a b (va_up d i (n + 1)) (n + 1) (sF5 S i) (yDrive M i) := by
  obtain ⟨hg, hq, hl, hst, ht⟩ := h
  have hi4 : i < 4 := Nat.lt_of_lt_of_le hi hg.2.1
  have hck : xck (m5 M) = n + 1 := hg.2.2.1.trans hs
  have hti := ht i hi4
  rw [hd] at hti
  obtain ⟨z1, z2⟩ := drive_z (k := sk S) hti.1 hti.2.1 (by omega) hti.2.2.2.1 hck hg.2.2.2.1 hg.2.2.2.2.2.1 hg.2.2.2.2.1
  obtain ⟨c1, c2⟩ := tDrive_c (T := sT S i) (N := n + 1) (k := sk S)
  obtain ⟨o1, o3, o2⟩ := oE_dr (M := M) (i := i)
  obtain ⟨o5, o4⟩ := yDrive_m (M := M) (t := i)
  unfold sF5
  rw [hs]
  generalize tDrive (sT S i) (n + 1) (sk S) = T2 at z1 z2 c1 c2 ⊢
  generalize yDrive M i = M2 at z1 o1 o2 o3 o4 o5 ⊢
  have off : ∀ t, t ≠ i → sT (sSetT S i T2) t = sT S t := fun t ht => va_up_ne _ _ ht
  have at' : sT (sSetT S i T2) i = T2 := va_up_self _ _ _
  have oq : zQL M2 = zQL M := by
    unfold zQL
    rw [o4, o5]
  have f1 : ∀ t, trp (sT (sSetT S i T2) t) = trp (sT S t) := fun t => by
    by_cases h : t = i
    · subst h; rw [at']; exact c1
    · rw [off t h]
  have f2 : ∀ t, tau (sT (sSetT S i T2) t) = tau (sT S t) := fun t => by
    by_cases h : t = i
    · subst h; rw [at']; exact c2
    · rw [off t h]
  refine ⟨gst_c hg o1 (by rw [o5]) (by rw [o5]) rfl rfl rfl rfl (fun t h => by rw [off t (by omega)]; exact hg.2.2.2.2.2.2.2 t h), by rw [oq]; exact hq, ?_, ?_, ?_⟩
  · unfold losR at hl ⊢
    rw [o5, hl, s4_eq (f := fun t => clo (trp (sT (sSetT S i T2) t))) (g := fun t => clo (trp (sT S t))) (fun t _ => congrArg clo (f1 t)), s4_eq (f := fun t => clo (tau (sT (sSetT S i T2) t))) (g := fun t => clo (tau (sT S t))) (fun t _ => congrArg clo (f2 t))]
  · unfold staR at hst ⊢
    rw [o5, hst, s4_eq (f := fun t => cnt (trp (sT (sSetT S i T2) t))) (g := fun t => cnt (trp (sT S t))) (fun t _ => congrArg cnt (f1 t)), s4_eq (f := fun t => cnt (tau (sT (sSetT S i T2) t))) (g := fun t => cnt (tau (sT S t))) (fun t _ => congrArg cnt (f2 t))]
  · intro t h4
    by_cases h : t = i
    · subst h
      rw [at', va_up_self]
      exact tI_t hti c1 c2 o3 oq z1 z2
    · rw [off t h, va_up_ne _ _ h]
      have k := ht t h4
      exact tI_t k rfl rfl o3 oq (o2 _ _ h k.1) k.2.1
theorem pBd_m {n k : Nat} {T : zTr} (h : pBd n T) (hk : n ≤ k) : pBd k T := by
  unfold pBd at h ⊢
  omega
theorem ph5 {a b : Nat → Nat × Nat} {n : Nat} {S : zMB} {M : zMo} (h : WR a b (fun _ => n) (n + 1) S M) (hs : sn S = n + 1) (hn : n ≤ 4150) : WR a b (fun _ => n + 1) (n + 1) (sL sF5 (sm S) 0 S) (yL yDrive (sm S) 0 M) ∧ sn (sL sF5 (sm S) 0 S) = n + 1 ∧ sm (sL sF5 (sm S) 0 S) = sm S := by
  have step : ∀ i S1 M1, i < sm S → (WR a b (fun t => if t < i then n + 1 else n) (n + 1) S1 M1 ∧ sn S1 = n + 1 ∧ sm S1 = sm S) → (WR a b (fun t => if t < i + 1 then n + 1 else n) (n + 1) (sF5 S1 i) (yDrive M1 i) ∧ sn (sF5 S1 i) = n + 1 ∧ sm (sF5 S1 i) = sm S) := by
    rintro i S1 M1 hi ⟨hw, h1, h2⟩
    refine ⟨?_, h1, h2⟩
    have hw2 := drvW (i := i) hw (by omega) h1 (by omega) (if_neg (Nat.lt_irrefl i))
    rw [up_if] at hw2
    exact hw2
  have h0 : WR a b (fun t => if t < 0 then n + 1 else n) (n + 1) S M := by
    have e : (fun t : Nat => if t < 0 then n + 1 else n) = fun _ => n := by
      funext t
      exact if_neg (by omega)
    rw [e]
    exact h
  obtain ⟨q1, q2, q3⟩ := loop2 (F := sF5) (G := yDrive) (P := fun i S1 M1 => WR a b (fun t => if t < i then n + 1 else n) (n + 1) S1 M1 ∧ sn S1 = n + 1 ∧ sm S1 = sm S) step (sm S) 0 S M (by omega) ⟨h0, hs, rfl⟩
  refine ⟨?_, q2, q3⟩
  obtain ⟨w1, w2, w3, w4, w5⟩ := q1
  refine ⟨w1, w2, w3, w4, fun t h4 => ?_⟩
  obtain ⟨p1, p2, p3⟩ := w5 t h4
  refine ⟨p1, pBd_m p2 ?_, p3⟩
  show (if t < sm S then n + 1 else n) ≤ n + 1
  split <;> omega
-- the relation
def Rel (S : zMB) (M : zMo) : Prop := WR (fun _ => (sn S, sn S)) (fun _ => (sn S, sn S)) (fun _ => sn S) (sn S) S M
theorem rR_m {n k : Nat} {T : zTr} {M : zMo} {t : Nat} (h : rR n T M t) (hk : n ≤ k) : rR k T M t := by
  obtain ⟨e1, s, hs, r⟩ := h
  exact ⟨e1, s, Nat.le_trans hs hk, r⟩
theorem aR_m {n k : Nat} {T : zTr} {M : zMo} {t : Nat} (h : aR n T M t) (hk : n ≤ k) : aR k T M t := by
  obtain ⟨e1, s, hs, r⟩ := h
  exact ⟨e1, s, Nat.le_trans hs hk, r⟩
theorem ph0 {S : zMB} {M : zMo} (h : Rel S M) : WR (fun _ => (sn S, sn S)) (fun _ => (sn S, sn S)) (fun _ => sn S) (sn S + 1) (sClk S) (yClk M) := by
  obtain ⟨⟨g1, g2, g3, g4, g5, g6, g7, g8⟩, w2, w3, w4, w5⟩ := h
  refine ⟨⟨g1, g2, ?_, g4, g5, g6, g7, g8⟩, w2, w3, w4, fun t h4 => ?_⟩
  · show xck (m5 M) + 1 = sn S + 1
    rw [g3]
  · obtain ⟨p1, p2, p3, p4, p5, p6, p7⟩ := w5 t h4
    exact ⟨p1, p2, rR_m p3 (by omega), aR_m p4 (by omega), p5, p6, p7⟩
theorem rel_sec {S : zMB} {M : zMo} (h : Rel S M) (hn : sn S ≤ 4150) : Rel (sSec S) (ySec M) ∧ sn (sSec S) = sn S + 1 ∧ sm (sSec S) = sm S := by
  have hm : xtr (m5 M) = sm S := h.1.1
  unfold sSec ySec
  rw [hm]
  generalize hn0 : sn S = n at hn
  have w0 := ph0 h
  rw [hn0] at w0
  have s0 : sn (sClk S) = n + 1 := by show sn S + 1 = n + 1; rw [hn0]
  have m0 : sm (sClk S) = sm S := rfl
  obtain ⟨w1, s1, m1'⟩ := ph1 w0 s0 hn
  rw [m0] at w1 s1 m1'
  generalize sL sF1 (sm S) 0 (sClk S) = S1 at w1 s1 m1' ⊢
  generalize yL yF1 (sm S) 0 (yClk M) = M1 at w1 ⊢
  obtain ⟨w2, s2, m2'⟩ := ph2 w1 s1 hn
  rw [m1'] at w2 s2 m2'
  generalize sL sF2 (sm S) 0 S1 = S2 at w2 s2 m2' ⊢
  generalize yArr M1 false = M2 at w2 ⊢
  obtain ⟨w3, s3, m3'⟩ := ph3 w2 s2 hn
  rw [m2'] at w3 s3 m3'
  generalize sL sAuth (sm S) 0 S2 = S3 at w3 s3 m3' ⊢
  generalize yControl M2 = M3 at w3 ⊢
  obtain ⟨w4, s4', m4'⟩ := ph4 w3 s3 hn
  rw [m3'] at w4 s4' m4'
  generalize sL sF4 (sm S) 0 S3 = S4 at w4 s4' m4' ⊢
  generalize yArr M3 true = M4 at w4 ⊢
  obtain ⟨w5, s5, m5'⟩ := ph5 w4 s4' hn
  rw [m4'] at w5 s5 m5'
  generalize sL sF5 (sm S) 0 S4 = S5 at w5 s5 m5' ⊢
  generalize yL yDrive (sm S) 0 M4 = M5 at w5 ⊢
  refine ⟨?_, s5, m5'⟩
  unfold Rel
  rw [s5]
  exact w5
