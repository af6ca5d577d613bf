/-! What the system's objects are, as values; the cells that hold them; what its methods do, as functions of the values. Numbers are Int32 as the machine has them; indices, the clock and the number of trains are Nat. -/
abbrev mn (x y : Int32) : Int32 := if y < x then y else x
abbrev mx (x y : Int32) : Int32 := if x < y then y else x
def bI (b : Bool) : Int32 := if b then 1 else 0
theorem bI_nar (b : Bool) : vp_nar .boolean (bI b) = bI b := by cases b <;> decide +kernel
theorem bI_ret (b : Bool) : narrow .boolean (.int (bI b)) = .int (bI b) := by cases b <;> decide +kernel
theorem bI_fit (b : Bool) : fits .boolean (.int (bI b)) = true := by cases b <;> decide +kernel
theorem bI_0 {b : Bool} : bI b = 0 ↔ b = false := by cases b <;> decide +kernel
theorem bI_upd (f : Nat → Bool) (k : Nat) (b : Bool) : upd (fun j => bI (f j)) k (bI b) = fun j => bI (va_up f k b j) := by
  funext j
  unfold upd va_up
  by_cases h : j = k
  · rw [if_pos h, if_pos h]
  · rw [if_neg h, if_neg h]
-- array kinds: int, boolean, the trains
abbrev zty (g : Nat → ClassId) : List (ClassId × FieldType) := [(g 0, .int), (g 1, .boolean), (g 2, .object "MovingBlock$Train"), (g 3, .long)]
-- a channel: stamps, arrivals, firsts, seconds; delay, stamp, first, second, lost, notTaken
abbrev zCh : Type := (Nat → Int32) × (Nat → Int32) × (Nat → Int32) × (Nat → Int32) × Int32 × Int32 × Int32 × Int32 × Int32 × Int32
abbrev cst (c : zCh) : Nat → Int32 := c.1
abbrev car (c : zCh) : Nat → Int32 := c.2.1
abbrev cfi (c : zCh) : Nat → Int32 := c.2.2.1
abbrev cse (c : zCh) : Nat → Int32 := c.2.2.2.1
abbrev cdl (c : zCh) : Int32 := c.2.2.2.2.1
abbrev csp (c : zCh) : Int32 := c.2.2.2.2.2.1
abbrev cf1 (c : zCh) : Int32 := c.2.2.2.2.2.2.1
abbrev cf2 (c : zCh) : Int32 := c.2.2.2.2.2.2.2.1
abbrev clo (c : zCh) : Int32 := c.2.2.2.2.2.2.2.2.1
abbrev cnt (c : zCh) : Int32 := c.2.2.2.2.2.2.2.2.2
def fCh (a : Nat → Nat) (c : zCh) : List Value := [.ref (a 1), .ref (a 2), .ref (a 3), .ref (a 4), .int (cdl c), .int (csp c), .int (cf1 c), .int (cf2 c), .int (clo c), .int (cnt c)]
def wCh (g : Nat → ClassId) (a : Nat → Nat) (c : zCh) : va_W := [(a 0, .inr (iCh, fCh a c)), (a 1, .inl (g 0, 5, .inl (cst c))), (a 2, .inl (g 0, 5, .inl (car c))), (a 3, .inl (g 0, 5, .inl (cfi c))), (a 4, .inl (g 0, 5, .inl (cse c)))]
-- a train: reports, authorities; length, front, speed, estimate, doubt, demand, drift, emergency, emergencies
abbrev zTr : Type := zCh × zCh × Int32 × Int32 × Int32 × Int32 × Int32 × Int32 × Int32 × Bool × Int32
abbrev trp (t : zTr) : zCh := t.1
abbrev tau (t : zTr) : zCh := t.2.1
abbrev tle (t : zTr) : Int32 := t.2.2.1
abbrev tfr (t : zTr) : Int32 := t.2.2.2.1
abbrev tsp (t : zTr) : Int32 := t.2.2.2.2.1
abbrev tes (t : zTr) : Int32 := t.2.2.2.2.2.1
abbrev tdo (t : zTr) : Int32 := t.2.2.2.2.2.2.1
abbrev tde (t : zTr) : Int32 := t.2.2.2.2.2.2.2.1
abbrev tdr (t : zTr) : Int32 := t.2.2.2.2.2.2.2.2.1
abbrev tem (t : zTr) : Bool := t.2.2.2.2.2.2.2.2.2.1
abbrev tec (t : zTr) : Int32 := t.2.2.2.2.2.2.2.2.2.2
def fTr (a : Nat → Nat → Nat) (t : zTr) : List Value := [.ref (a 1 0), .ref (a 2 0), .int (tle t), .int (tfr t), .int (tsp t), .int (tes t), .int (tdo t), .int (tde t), .int (tdr t), .int (bI (tem t)), .int (tec t)]
def wTr (g : Nat → ClassId) (a : Nat → Nat → Nat) (t : zTr) : va_W := [(a 0 0, .inr (iTr, fTr a t))] ++ wCh g (a 1) (trp t) ++ wCh g (a 2) (tau t)
-- the track: limits, grades
abbrev zTk : Type := (Nat → Int32) × (Nat → Int32)
abbrev kli (k : zTk) : Nat → Int32 := k.1
abbrev kgr (k : zTk) : Nat → Int32 := k.2
def wTk (g : Nat → ClassId) (b : Nat → Nat) (k : zTk) : va_W := [(b 0, .inr (iTk, [.ref (b 1), .ref (b 2)])), (b 1, .inl (g 0, 8, .inl (kli k))), (b 2, .inl (g 0, 8, .inl (kgr k)))]
-- the wayside: places, closed, up
abbrev zWy : Type := (Nat → Int32) × (Nat → Bool) × (Nat → Bool)
abbrev ypl (y : zWy) : Nat → Int32 := y.1
abbrev ycl (y : zWy) : Nat → Bool := y.2.1
abbrev yup (y : zWy) : Nat → Bool := y.2.2
def wWy (g : Nat → ClassId) (d : Nat → Nat) (y : zWy) : va_W := [(d 0, .inr (iWy, [.ref (d 1), .ref (d 2), .ref (d 3)])), (d 1, .inl (g 0, 4, .inl (ypl y))), (d 2, .inl (g 1, 4, .inl (fun j => bI (ycl y j)))), (d 3, .inl (g 1, 2, .inl (fun j => bI (yup y j))))]
-- Track
def jPiece (x : Int32) : Int32 := if 0 ≤ x then (if 32768 ≤ x then 7 else x / 4096) else 0
def nPiece (x : Int32) : Nat := (jPiece x).toNatClampNeg
def jWay (i : Nat) (r : Int32) : Int32 := if nI i ≤ nI (nPiece r) then 0 else nI i * 4096 - r
def gssL (k : zTk) (r : Int32) : Nat → Nat → Int32 → Int32
  | 0, _, q => q
  | j + 1, i, q => gssL k r j (i + 1) (mn q (kli k i * kli k i + 12 * jWay i r))
def gss (k : zTk) (au r t : Int32) : Int32 := gssL k r (8 - nPiece t) (nPiece t) (12 * (au - r))
-- Wayside
def jUp (y : zWy) (r : Int32) : Bool := if 16384 ≤ r then yup y 1 else yup y 0
def endL (y : zWy) (r : Int32) : Nat → Nat → Int32 → Int32
  | 0, _, q => q
  | j + 1, i, q => endL y r j (i + 1) (if bI (ycl y i) = 0 then q else if ypl y i < r then q else mn q (ypl y i))
def end0 (y : zWy) (r : Int32) : Int32 := if 16384 ≤ r then 32768 else if bI (yup y 1) = 0 then 16384 else 32768
def endFor (y : zWy) (r : Int32) : Int32 := endL y r 4 0 (end0 y r)
-- Channel
def cTaken (c : zCh) : Bool := if csp c ≤ 0 then false else true
def cSend (c : zCh) (n : Nat) (x y : Int32) : zCh := if cdl c = 0 then (cst c, car c, cfi c, cse c, cdl c, csp c, cf1 c, cf2 c, clo c + 1, cnt c) else (upd (cst c) (n % 5) (nI n), upd (car c) (n % 5) (nI n + cdl c - 1), upd (cfi c) (n % 5) x, upd (cse c) (n % 5) y, cdl c, csp c, cf1 c, cf2 c, clo c, cnt c)
def cTake (c : zCh) (k : Nat) : zCh := if csp c < cst c k then (cst c, car c, cfi c, cse c, cdl c, cst c k, cfi c k, cse c k, clo c, cnt c) else (cst c, car c, cfi c, cse c, cdl c, csp c, cf1 c, cf2 c, clo c, cnt c + 1)
def cRecL (n : Nat) : Nat → Nat → zCh → zCh
  | 0, _, c => c
  | j + 1, i, c => cRecL n j (i + 1) (if car c ((n + i) % 5) = nI n then cTake c ((n + i) % 5) else c)
def cRec (c : zCh) (n : Nat) : zCh := cRecL n 5 1 c
def cOtwL (c : zCh) (n : Nat) : Nat → Nat → Int32 → Int32
  | 0, _, q => q
  | j + 1, i, q => cOtwL c n j (i + 1) (if car c i ≤ nI n then q else q + 1)
def cOtw (c : zCh) (n : Nat) : Int32 := cOtwL c n 5 0 0
-- Train
def tRear (t : zTr) : Int32 := tfr t - tle t
def tReach (t : zTr) : Int32 := tes t + tdo t
def tTail (t : zTr) : Int32 := tes t - tdo t - tle t
def tOtw (t : zTr) (n : Nat) : Int32 := cOtw (trp t) n + cOtw (tau t) n
def tFresh (t : zTr) (n : Nat) : Bool := if bI (cTaken (tau t)) = 0 then false else if 5 < nI n - csp (tau t) then false else true
def tHere (t : zTr) (k : zTk) : Int32 := if bI (cTaken (tau t)) = 0 then (-1) else gss k (cf1 (tau t)) (tReach t) (tTail t)
def tAfter (t : zTr) (pu : Int32) (k : zTk) : Int32 := mx 0 (tsp t + pu - 2 * kgr k (nPiece (tfr t)))
def tWay (t : zTr) (v : Int32) : Int32 := (tsp t + v) / 2
def tMore (w : Int32) : Int32 := if w = 0 then 0 else 2
def tStays (t : zTr) (pu : Int32) (k : zTk) : Bool := if gss k (cf1 (tau t)) (tReach t + tWay t (tAfter t pu k) + tMore (tWay t (tAfter t pu k))) (tTail t + tWay t (tAfter t pu k) - tMore (tWay t (tAfter t pu k))) < tAfter t pu k * tAfter t pu k then false else true
def tWish (t : zTr) : Int32 := if tde t ≤ 0 then 0 else 4
def tPull (t : zTr) (f : Bool) (k : zTk) : Int32 := if 0 ≤ tde t then (if bI f = 0 then (-8) else if bI (tStays t (tWish t) k) = 0 then (-8) else tWish t) else (-8)
def tMove (t : zTr) (v : Int32) : zTr := if tWay t v = 0 then (trp t, tau t, tle t, tfr t, v, tes t, tdo t, tde t, tdr t, tem t, tec t) else if nI (nPiece (tfr t + tWay t v)) = nI (nPiece (tfr t)) then (trp t, tau t, tle t, tfr t + tWay t v, v, tes t + (tWay t v + tdr t), tdo t + 2, tde t, tdr t, tem t, tec t) else (trp t, tau t, tle t, tfr t + tWay t v, v, tfr t + tWay t v, 0, tde t, tdr t, tem t, tec t)
def tInto (t : zTr) : zTr := (trp t, tau t, tle t, tfr t, tsp t, tes t, tdo t, tde t, tdr t, true, tec t + 1)
def tOut (t : zTr) : zTr := (trp t, tau t, tle t, tfr t, tsp t, tes t, tdo t, tde t, tdr t, false, tec t)
def tDrv1 (t : zTr) (n : Nat) (k : zTk) : zTr := if bI (tem t) = 0 then (if tsp t = 0 then t else if bI (tFresh t n) = 0 then tInto t else if tsp t * tsp t ≤ tHere t k then t else tInto t) else t
def tDrv2 (t : zTr) (f : Bool) (k : zTk) : Int32 := if bI (tem t) = 0 then tPull t f k else (-12)
def tDrv3 (t : zTr) (pu : Int32) (k : zTk) : zTr := tMove t (tAfter t pu k)
def tDrv4 (t : zTr) : zTr := if tsp t = 0 then tOut t else t
def tDrive (t : zTr) (n : Nat) (k : zTk) : zTr := tDrv4 (tDrv3 (tDrv1 t n k) (tDrv2 (tDrv1 t n k) (tFresh t n) k) k)
def tBestL (q : Int32) : Nat → Int32
  | 0 => if q < nI (2 * 0) * nI (2 * 0) then (-1) else nI (2 * 0)
  | j + 1 => if q < nI (2 * (j + 1)) * nI (2 * (j + 1)) then tBestL q j else nI (2 * (j + 1))
def tBest (t : zTr) (k : zTk) : Int32 := tBestL (tHere t k) 160
def tPlace (t : zTr) (le fr : Int32) : zTr := (trp t, tau t, le, fr, tsp t, fr, tdo t, tde t, tdr t, tem t, tec t)
def tSendR (t : zTr) (n : Nat) : zTr := (cSend (trp t) n (tReach t) (tTail t), tau t, tle t, tfr t, tsp t, tes t, tdo t, tde t, tdr t, tem t, tec t)
-- MovingBlock's own
def jOut (x lo hi : Int32) : Bool := if x < lo then true else if x ≤ hi then false else true
-- what is new
def zc0 : zCh := (fun _ => 0, fun _ => 0, fun _ => 0, fun _ => 0, 1, 0, 0, 0, 0, 0)
def zk0 : zTk := (upd (upd (upd (upd (upd (upd (upd (upd (fun _ => 0) 0 320) 1 320) 2 320) 3 320) 4 320) 5 320) 6 320) 7 320, fun _ => 0)
def zy0 : zWy := (upd (upd (upd (upd (fun _ => 0) 0 32768) 1 32768) 2 32768) 3 32768, fun _ => false, va_up (va_up (fun _ => false) 0 true) 1 true)
def zt0 : zTr := (zc0, zc0, 0, 0, 0, 0, 0, 0, 0, false, 0)
section MKZ
variable {p : Program} {l : Launch} {e : Env} {R : Room} {s : State} {m : MethodId} {args : Array Value} {below : List Frame} {meth : Method} {c : Code} {H : Heap} {locs : List Loc} {cells slots : Nat} {Q : State → Prop}
variable {cc : ByteArray} {pc : Nat} {ls : Array Slot} {rest : List Value} {D : va_G} {cl : List vw_C} {A : Nat → Prop} {a : Nat} {tys : List (ClassId × FieldType)} {ws : va_W} {H0 : Heap}
theorem mk_zast (hexec : p.tables.exec = Jvm.exec) (hb : c.code = cc) (hK : va_K D cl tys s) (hP : va_P D cl ws H) (hD : va_D A ws) (hS : va_S A H0 H locs) (q0 t0 : Nat) {cA : ClassId} {n : Nat} {f : Nat → Bool} (ha : ws[q0]? = some (a, .inl (cA, n, .inl (fun j => bI (f j))))) (ht : tys[t0]? = some (cA, .boolean)) {i : Int32} {z : Bool} {k : Nat} (hi : i = nI k) (hk : k < n ∧ n < 2 ^ 31) (hdg : decode cc pc = .ok (.bastore, 1))
    (kk : ∀ (H1 : Heap) (locs1 : List Loc), va_P D cl (ws.set q0 (a, .inl (cA, n, .inl (fun j => bI (va_up f k z j))))) H1 → va_D A (ws.set q0 (a, .inl (cA, n, .inl (fun j => bI (va_up f k z j))))) → va_S A H0 H1 locs1 → W p l e R s m args below meth c H1 locs1 cells slots Q (F0 m (pc + 1) ls rest)) : W p l e R s m args below meth c H locs cells slots Q (F0 m pc ls (.int (bI z) :: .int i :: .ref a :: rest)) := by
  subst hi
  refine va_zast hexec hb hK hP hD hS q0 t0 ha ht (vp_in_nI hk.1 hk.2) hdg ?_
  rw [nI_clamp (Nat.lt_trans hk.1 hk.2), bI_nar, bI_upd]
  exact kk
end MKZ
theorem jPiece_lt (x : Int32) : nPiece x < 8 ∧ jPiece x = nI (nPiece x) := by
  have key : ∃ k : Nat, k < 8 ∧ jPiece x = nI k := by
    unfold jPiece
    by_cases h0 : 0 ≤ x
    · rw [if_pos h0]
      by_cases h1 : (32768 : Int32) ≤ x
      · rw [if_pos h1]; exact ⟨7, by decide, rfl⟩
      · rw [if_neg h1]
        obtain ⟨j, hj, rfl⟩ := nI_of (x := x) (by
          intro h
          have a1 := Int32.lt_iff_toInt_lt.mp h
          have a2 := Int32.le_iff_toInt_le.mp h0
          omega)
        have h2 : j < 32768 := by
          rcases Nat.lt_or_ge j 32768 with q | q
          · exact q
          · exact absurd (nI_le q hj : nI 32768 ≤ nI j) h1
        refine ⟨j / 4096, by omega, ?_⟩
        exact pk_div (d := 4096) hj (by decide) (by decide)
    · rw [if_neg h0]; exact ⟨0, by decide, rfl⟩
  obtain ⟨k, hk, e⟩ := key
  unfold nPiece
  rw [e, nI_clamp (by omega)]
  exact ⟨hk, rfl⟩
theorem mk_m2 (a : Nat) : nI (a + 2) + (-2) = nI a := by
  rw [← nI_add a 2]
  show nI a + 2 + (-2) = nI a
  rw [Int32.add_assoc]
  exact Int32.add_zero _
