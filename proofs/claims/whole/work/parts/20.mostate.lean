/-! The reference: its cells and what its methods do, as functions. Longs are Int64 as the machine has them. -/
abbrev zM1 : Type := (Nat → Int32) × (Nat → Int32) × (Nat → Int64) × (Nat → Bool) × (Nat → Bool)
abbrev xli (u : zM1) : Nat → Int32 := u.1
abbrev xgr (u : zM1) : Nat → Int32 := u.2.1
abbrev xho (u : zM1) : Nat → Int64 := u.2.2.1
abbrev xhc (u : zM1) : Nat → Bool := u.2.2.2.1
abbrev xdn (u : zM1) : Nat → Bool := u.2.2.2.2
abbrev zM2 : Type := (Nat → Int64) × (Nat → Int64) × (Nat → Int64) × (Nat → Int64) × (Nat → Int64) × (Nat → Int32) × (Nat → Int32) × (Nat → Bool) × (Nat → Int32)
abbrev xle (u : zM2) : Nat → Int64 := u.1
abbrev xfr (u : zM2) : Nat → Int64 := u.2.1
abbrev xsp (u : zM2) : Nat → Int64 := u.2.2.1
abbrev xes (u : zM2) : Nat → Int64 := u.2.2.2.1
abbrev xdo (u : zM2) : Nat → Int64 := u.2.2.2.2.1
abbrev xwi (u : zM2) : Nat → Int32 := u.2.2.2.2.2.1
abbrev xdr (u : zM2) : Nat → Int32 := u.2.2.2.2.2.2.1
abbrev xem (u : zM2) : Nat → Bool := u.2.2.2.2.2.2.2.1
abbrev xec (u : zM2) : Nat → Int32 := u.2.2.2.2.2.2.2.2
abbrev zM3 : Type := (Nat → Int64) × (Nat → Int32) × (Nat → Int64) × (Nat → Int64) × (Nat → Int32) × (Nat → Int32) × (Nat → Int32)
abbrev xau (u : zM3) : Nat → Int64 := u.1
abbrev xas (u : zM3) : Nat → Int32 := u.2.1
abbrev xsr (u : zM3) : Nat → Int64 := u.2.2.1
abbrev xst (u : zM3) : Nat → Int64 := u.2.2.2.1
abbrev xrs (u : zM3) : Nat → Int32 := u.2.2.2.2.1
abbrev xup (u : zM3) : Nat → Int32 := u.2.2.2.2.2.1
abbrev xbk (u : zM3) : Nat → Int32 := u.2.2.2.2.2.2
abbrev zM4 : Type := (Nat → Bool) × (Nat → Nat) × (Nat → Int32) × (Nat → Int32) × (Nat → Int64) × (Nat → Int64)
abbrev xma (u : zM4) : Nat → Bool := u.1
abbrev xmt (u : zM4) : Nat → Nat := u.2.1
abbrev xms (u : zM4) : Nat → Int32 := u.2.2.1
abbrev xmd (u : zM4) : Nat → Int32 := u.2.2.2.1
abbrev xmf (u : zM4) : Nat → Int64 := u.2.2.2.2.1
abbrev xmg (u : zM4) : Nat → Int64 := u.2.2.2.2.2
abbrev zM5 : Type := Nat × Nat × Int32 × Int32 × Nat
abbrev xtr (u : zM5) : Nat := u.1
abbrev xme (u : zM5) : Nat := u.2.1
abbrev xlo (u : zM5) : Int32 := u.2.2.1
abbrev xsl (u : zM5) : Int32 := u.2.2.2.1
abbrev xck (u : zM5) : Nat := u.2.2.2.2
abbrev zMo : Type := zM1 × zM2 × zM3 × zM4 × zM5
abbrev m1 (M : zMo) : zM1 := M.1
abbrev m2 (M : zMo) : zM2 := M.2.1
abbrev m3 (M : zMo) : zM3 := M.2.2.1
abbrev m4 (M : zMo) : zM4 := M.2.2.2.1
abbrev m5 (M : zMo) : zM5 := M.2.2.2.2
def fMo (a : Nat → Nat) (u : zM5) : List Value := [.ref (a 1), .ref (a 2), .ref (a 3), .ref (a 4), .ref (a 5), .int (nI (xtr u)), .ref (a 6), .ref (a 7), .ref (a 8), .ref (a 9), .ref (a 10), .ref (a 11), .ref (a 12), .ref (a 13), .ref (a 14), .ref (a 15), .ref (a 16), .ref (a 17), .ref (a 18), .ref (a 19), .ref (a 20), .ref (a 21), .ref (a 22), .ref (a 23), .ref (a 24), .ref (a 25), .ref (a 26), .ref (a 27), .int (nI (xme u)), .int (xlo u), .int (xsl u), .int (nI (xck u))]
def wM1 (g : Nat → ClassId) (a : Nat → Nat) (u : zM1) : va_W := [(a 1, .inl (g 0, 8, .inl (xli u))), (a 2, .inl (g 0, 8, .inl (xgr u))), (a 3, .inl (g 3, 4, .inr (.inl (xho u)))), (a 4, .inl (g 1, 4, .inl (fun j => bI (xhc u j)))), (a 5, .inl (g 1, 2, .inl (fun j => bI (xdn u j))))]
def wM2 (g : Nat → ClassId) (a : Nat → Nat) (u : zM2) : va_W := [(a 6, .inl (g 3, 4, .inr (.inl (xle u)))), (a 7, .inl (g 3, 4, .inr (.inl (xfr u)))), (a 8, .inl (g 3, 4, .inr (.inl (xsp u)))), (a 9, .inl (g 3, 4, .inr (.inl (xes u)))), (a 10, .inl (g 3, 4, .inr (.inl (xdo u)))), (a 16, .inl (g 0, 4, .inl (xwi u))), (a 17, .inl (g 0, 4, .inl (xdr u))), (a 20, .inl (g 1, 4, .inl (fun j => bI (xem u j)))), (a 21, .inl (g 0, 4, .inl (xec u)))]
def wM3 (g : Nat → ClassId) (a : Nat → Nat) (u : zM3) : va_W := [(a 11, .inl (g 3, 4, .inr (.inl (xau u)))), (a 12, .inl (g 0, 4, .inl (xas u))), (a 13, .inl (g 3, 4, .inr (.inl (xsr u)))), (a 14, .inl (g 3, 4, .inr (.inl (xst u)))), (a 15, .inl (g 0, 4, .inl (xrs u))), (a 18, .inl (g 0, 4, .inl (xup u))), (a 19, .inl (g 0, 4, .inl (xbk u)))]
def wM4 (g : Nat → ClassId) (a : Nat → Nat) (u : zM4) : va_W := [(a 22, .inl (g 1, 64, .inl (fun j => bI (xma u j)))), (a 23, .inl (g 0, 64, .inl (fun j => nI (xmt u j)))), (a 24, .inl (g 0, 64, .inl (xms u))), (a 25, .inl (g 0, 64, .inl (xmd u))), (a 26, .inl (g 3, 64, .inr (.inl (xmf u)))), (a 27, .inl (g 3, 64, .inr (.inl (xmg u))))]
def wMo (g : Nat → ClassId) (a : Nat → Nat) (M : zMo) : va_W := [(a 0, .inr (iMo, fMo a (m5 M)))] ++ wM1 g a (m1 M) ++ wM2 g a (m2 M) ++ wM3 g a (m3 M) ++ wM4 g a (m4 M)
section MOW
variable {g : Nat → ClassId} {a : Nat → Nat} {M M2 : zMo}
theorem mo_cutAll : (List.range 28).map (fun k => (wMo g a M)[k]?) = (wMo g a M).map some := rfl
theorem mo_ndAll : va_nd (List.range 28) = true := by decide +kernel
theorem fst_Mo : (wMo g a M2).map Prod.fst = (wMo g a M).map Prod.fst := rfl
theorem mo_putAll : mk_put (wMo g a M) (List.range 28) (wMo g a M2) = wMo g a M2 := by
  have h := mk_put_mid (wMo g a M) (wMo g a M2) [] [] rfl
  rw [List.nil_append, List.append_nil, List.nil_append, List.append_nil] at h
  exact h
end MOW
-- what the methods do
def mIn (x lo hi : Int32) : Bool := if x < lo then false else if hi < x then false else true
def mNo (M : zMo) (x : Int32) : Bool := if x < 0 then true else if x < nI (xtr (m5 M)) then false else true
def yPiece (M : zMo) (p li gr : Int32) : Int32 × zMo := if bI (mIn p 0 7) = 0 then (REF, M) else if bI (mIn li 1 40) = 0 then (REF, M) else if bI (mIn gr (-1) 1) = 0 then (REF, M) else (1, ((upd (xli (m1 M)) p.toNatClampNeg li, upd (xgr (m1 M)) p.toNatClampNeg gr, xho (m1 M), xhc (m1 M), xdn (m1 M)), m2 M, m3 M, m4 M, m5 M))
def yHold (M : zMo) (h pl : Int32) (z : Bool) : Int32 × zMo := if bI (mIn h 0 3) = 0 then (REF, M) else if bI (mIn pl 0 4096) = 0 then (REF, M) else (1, ((xli (m1 M), xgr (m1 M), vp_updL (xho (m1 M)) h.toNatClampNeg (8 * pl.toInt64), va_up (xhc (m1 M)) h.toNatClampNeg z, xdn (m1 M)), m2 M, m3 M, m4 M, m5 M))
def ySetDn (M : zMo) (k : Nat) (z : Bool) : zMo := ((xli (m1 M), xgr (m1 M), xho (m1 M), xhc (m1 M), va_up (xdn (m1 M)) k z), m2 M, m3 M, m4 M, m5 M)
def yCtl (M : zMo) (o : Int32) (z : Bool) : Int32 × zMo := if bI (mIn o 0 1) = 0 then (REF, M) else if bI (xdn (m1 M) o.toNatClampNeg) = bI z then (if bI z = 0 then (1, ySetDn M o.toNatClampNeg true) else (1, ySetDn M o.toNatClampNeg false)) else (if bI z = 0 then (0, ySetDn M o.toNatClampNeg true) else (0, ySetDn M o.toNatClampNeg false))
abbrev yRear (M : zMo) (t : Nat) : Int64 := xfr (m2 M) t - xle (m2 M) t
def yEnt2 (M : zMo) (le fr : Int32) : Int32 × zMo := (nI (xtr (m5 M)), (m1 M, (vp_updL (xle (m2 M)) (xtr (m5 M)) (8 * le.toInt64), vp_updL (xfr (m2 M)) (xtr (m5 M)) (8 * fr.toInt64), xsp (m2 M), vp_updL (xes (m2 M)) (xtr (m5 M)) (8 * fr.toInt64), xdo (m2 M), xwi (m2 M), xdr (m2 M), xem (m2 M), xec (m2 M)), m3 M, m4 M, (xtr (m5 M) + 1, xme (m5 M), xlo (m5 M), xsl (m5 M), xck (m5 M))))
def yEnter (M : zMo) (le fr : Int32) : Int32 × zMo := if bI (mIn le 20 200) = 0 then (REF, M) else if bI (mIn fr le 4000) = 0 then (REF, M) else if nI (xtr (m5 M)) = 4 then (REF, M) else if nI (xtr (m5 M)) ≤ 0 then yEnt2 M le fr else if 8 * fr.toInt64 ≤ yRear M (xtr (m5 M) - 1) - 64 then yEnt2 M le fr else (REF, M)
def yDemand (M : zMo) (x de : Int32) : Int32 × zMo := if bI (mNo M x) = 0 then (if bI (mIn de (-1) 1) = 0 then (REF, M) else (1, (m1 M, (xle (m2 M), xfr (m2 M), xsp (m2 M), xes (m2 M), xdo (m2 M), upd (xwi (m2 M)) x.toNatClampNeg de, xdr (m2 M), xem (m2 M), xec (m2 M)), m3 M, m4 M, m5 M))) else (REF, M)
def yDrift (M : zMo) (x dr : Int32) : Int32 × zMo := if bI (mNo M x) = 0 then (if bI (mIn dr (-2) 2) = 0 then (REF, M) else (1, (m1 M, (xle (m2 M), xfr (m2 M), xsp (m2 M), xes (m2 M), xdo (m2 M), xwi (m2 M), upd (xdr (m2 M)) x.toNatClampNeg dr, xem (m2 M), xec (m2 M)), m3 M, m4 M, m5 M))) else (REF, M)
def yRadio (M : zMo) (x u d : Int32) : Int32 × zMo := if bI (mNo M x) = 0 then (if bI (mIn u 0 5) = 0 then (REF, M) else if bI (mIn d 0 5) = 0 then (REF, M) else (1, (m1 M, m2 M, (xau (m3 M), xas (m3 M), xsr (m3 M), xst (m3 M), xrs (m3 M), upd (xup (m3 M)) x.toNatClampNeg u, upd (xbk (m3 M)) x.toNatClampNeg d), m4 M, m5 M))) else (REF, M)
def ySend (M : zMo) (z : Bool) (t : Nat) (dl : Int32) (f s : Int64) : zMo := if dl = 0 then (m1 M, m2 M, m3 M, m4 M, (xtr (m5 M), xme (m5 M), xlo (m5 M) + 1, xsl (m5 M), xck (m5 M))) else (m1 M, m2 M, m3 M, (va_up (xma (m4 M)) (xme (m5 M)) z, va_up (xmt (m4 M)) (xme (m5 M)) t, upd (xms (m4 M)) (xme (m5 M)) (nI (xck (m5 M))), upd (xmd (m4 M)) (xme (m5 M)) (nI (xck (m5 M)) + dl - 1), vp_updL (xmf (m4 M)) (xme (m5 M)) f, vp_updL (xmg (m4 M)) (xme (m5 M)) s), (xtr (m5 M), xme (m5 M) + 1, xlo (m5 M), xsl (m5 M), xck (m5 M)))
def yShift (u : zM4) (k : Nat) : zM4 := (va_up (xma u) k (xma u (k + 1)), va_up (xmt u) k (xmt u (k + 1)), upd (xms u) k (xms u (k + 1)), upd (xmd u) k (xmd u (k + 1)), vp_updL (xmf u) k (xmf u (k + 1)), vp_updL (xmg u) k (xmg u (k + 1)))
def yShL : Nat → Nat → zM4 → zM4
  | 0, _, u => u
  | j + 1, i, u => yShL j (i + 1) (yShift u i)
def yDrop (M : zMo) (k : Nat) : zMo := (m1 M, m2 M, m3 M, yShL (xme (m5 M) - 1 - k) k (m4 M), (xtr (m5 M), xme (m5 M) - 1, xlo (m5 M), xsl (m5 M), xck (m5 M)))
def yStale (M : zMo) : zMo := (m1 M, m2 M, m3 M, m4 M, (xtr (m5 M), xme (m5 M), xlo (m5 M), xsl (m5 M) + 1, xck (m5 M)))
def yTakA (M : zMo) (k : Nat) : zMo := (m1 M, m2 M, (vp_updL (xau (m3 M)) (xmt (m4 M) k) (xmf (m4 M) k), upd (xas (m3 M)) (xmt (m4 M) k) (xms (m4 M) k), xsr (m3 M), xst (m3 M), xrs (m3 M), xup (m3 M), xbk (m3 M)), m4 M, m5 M)
def yTakR (M : zMo) (k : Nat) : zMo := (m1 M, m2 M, (xau (m3 M), xas (m3 M), vp_updL (xsr (m3 M)) (xmt (m4 M) k) (xmf (m4 M) k), vp_updL (xst (m3 M)) (xmt (m4 M) k) (xmg (m4 M) k), upd (xrs (m3 M)) (xmt (m4 M) k) (xms (m4 M) k), xup (m3 M), xbk (m3 M)), m4 M, m5 M)
def yTake (M : zMo) (k : Nat) : zMo := if bI (xma (m4 M) k) = 0 then (if xrs (m3 M) (xmt (m4 M) k) < xms (m4 M) k then yTakR M k else yStale M) else (if xas (m3 M) (xmt (m4 M) k) < xms (m4 M) k then yTakA M k else yStale M)
def yArrL (z : Bool) : Nat → Nat → zMo → zMo
  | 0, _, M => M
  | j + 1, i, M => if nI (xme (m5 M)) ≤ nI i then M else if xmd (m4 M) i = nI (xck (m5 M)) then (if bI (xma (m4 M) i) = bI z then yArrL z j i (yDrop (yTake M i) i) else yArrL z j (i + 1) M) else yArrL z j (i + 1) M
def yArr (M : zMo) (z : Bool) : zMo := yArrL z (xme (m5 M) + 1) 0 M
def wkL1 (M : zMo) (r : Int64) : Nat → Nat → Int64 → Int64
  | 0, _, q => q
  | j + 1, i, q => wkL1 M r j (i + 1) (if bI (xhc (m1 M) i) = 0 then q else if xho (m1 M) i < r then q else if q ≤ xho (m1 M) i then q else xho (m1 M) i)
def wkTo (M : zMo) (i : Nat) : Int64 := if xrs (m3 M) i = 0 then 0 else xst (m3 M) i - 64
def wkL2 (M : zMo) : Nat → Nat → Int64 → Int64
  | 0, _, q => q
  | j + 1, i, q => wkL2 M j (i + 1) (if q ≤ wkTo M i then q else wkTo M i)
def wkMid (M : zMo) (r q : Int64) : Int64 := if 16384 ≤ r then q else if bI (xdn (m1 M) 1) = 0 then q else if q ≤ 16384 then q else 16384
def yWorked (M : zMo) (t : Nat) : Int64 := wkL2 M t 0 (wkMid M (xsr (m3 M) t) (wkL1 M (xsr (m3 M) t) 4 0 32768))
def yZone (M : zMo) (i : Nat) : Nat := if 16384 ≤ xsr (m3 M) i then 1 else 0
def yCon1 (M : zMo) (i : Nat) : zMo := if xrs (m3 M) i = 0 then M else if bI (xdn (m1 M) (yZone M i)) = 0 then ySend M true i (xbk (m3 M) i) (yWorked M i) 0 else M
def yConL : Nat → Nat → zMo → zMo
  | 0, _, M => M
  | j + 1, i, M => yConL j (i + 1) (yCon1 M i)
def yControl (M : zMo) : zMo := yConL (xtr (m5 M)) 0 M
def lPiece (x : Int64) : Int32 := if 0 ≤ x then (if x < 32768 then (x / 4096).toInt32 else 7) else 0
def pPiece (x : Int64) : Nat := (lPiece x).toNatClampNeg
abbrev yLim (M : zMo) (i : Nat) : Int64 := 8 * (xli (m1 M) i).toInt64
def safL (M : zMo) (v r : Int64) : Nat → Nat → Bool
  | 0, _ => true
  | j + 1, i => if nI i ≤ nI (pPiece r) then (if v ≤ yLim M i then safL M v r j (i + 1) else false) else (if v * v ≤ yLim M i * yLim M i + 12 * (4096 * (nI i).toInt64 - r) then safL M v r j (i + 1) else false)
def ySafe (M : zMo) (t : Nat) (v r ta : Int64) : Bool := if xas (m3 M) t = 0 then false else if v * v ≤ 12 * (xau (m3 M) t - r) then safL M v r (8 - pPiece ta) (pPiece ta) else false
abbrev yReach (M : zMo) (t : Nat) : Int64 := xes (m2 M) t + xdo (m2 M) t
abbrev yTail (M : zMo) (t : Nat) : Int64 := xes (m2 M) t - xdo (m2 M) t - xle (m2 M) t
def yOld (M : zMo) (t : Nat) : Bool := if xas (m3 M) t = 0 then true else if nI (xck (m5 M)) - xas (m3 M) t ≤ 5 then false else true
abbrev yNx0 (M : zMo) (t : Nat) (pu : Int32) : Int64 := xsp (m2 M) t + pu.toInt64 - (2 * xgr (m1 M) (pPiece (xfr (m2 M) t))).toInt64
def yNext (M : zMo) (t : Nat) (pu : Int32) : Int64 := if 0 ≤ yNx0 M t pu then yNx0 M t pu else 0
def yWish (M : zMo) (t : Nat) : Int32 := if xwi (m2 M) t = 1 then 4 else 0
abbrev yWay (M : zMo) (t : Nat) (v : Int64) : Int64 := (xsp (m2 M) t + v) / 2
def yMore (w : Int64) : Int64 := if w = 0 then 0 else 2
def yGood (M : zMo) (t : Nat) (pu : Int32) : Bool := ySafe M t (yNext M t pu) (yReach M t + yWay M t (yNext M t pu) + yMore (yWay M t (yNext M t pu))) (yTail M t + yWay M t (yNext M t pu) - yMore (yWay M t (yNext M t pu)))
def yPull (M : zMo) (t : Nat) : Int32 := if bI (xem (m2 M) t) = 0 then (if 0 ≤ xwi (m2 M) t then (if bI (yOld M t) = 0 then (if bI (yGood M t (yWish M t)) = 0 then (-8) else yWish M t) else (-8)) else (-8)) else (-12)
def yInto (M : zMo) (t : Nat) : zMo := (m1 M, (xle (m2 M), xfr (m2 M), xsp (m2 M), xes (m2 M), xdo (m2 M), xwi (m2 M), xdr (m2 M), va_up (xem (m2 M)) t true, upd (xec (m2 M)) t (xec (m2 M) t + 1)), m3 M, m4 M, m5 M)
def yDrv1 (M : zMo) (t : Nat) : zMo := if bI (xem (m2 M) t) = 0 then (if xsp (m2 M) t ≤ 0 then M else if bI (yOld M t) = 0 then (if bI (ySafe M t (xsp (m2 M) t) (yReach M t) (yTail M t)) = 0 then yInto M t else M) else yInto M t) else M
def yMv1 (M : zMo) (t : Nat) (v : Int64) : zMo := (m1 M, (xle (m2 M), vp_updL (xfr (m2 M)) t (xfr (m2 M) t + yWay M t v), vp_updL (xsp (m2 M)) t v, xes (m2 M), xdo (m2 M), xwi (m2 M), xdr (m2 M), xem (m2 M), xec (m2 M)), m3 M, m4 M, m5 M)
def yMv2 (M : zMo) (t : Nat) (w : Int64) : zMo := if w = 0 then M else (m1 M, (xle (m2 M), xfr (m2 M), xsp (m2 M), vp_updL (xes (m2 M)) t (xes (m2 M) t + (w + (xdr (m2 M) t).toInt64)), vp_updL (xdo (m2 M)) t (xdo (m2 M) t + 2), xwi (m2 M), xdr (m2 M), xem (m2 M), xec (m2 M)), m3 M, m4 M, m5 M)
def yMv3 (M : zMo) (t : Nat) (pb : Nat) : zMo := if nI (pPiece (xfr (m2 M) t)) = nI pb then M else (m1 M, (xle (m2 M), xfr (m2 M), xsp (m2 M), vp_updL (xes (m2 M)) t (xfr (m2 M) t), vp_updL (xdo (m2 M)) t 0, xwi (m2 M), xdr (m2 M), xem (m2 M), xec (m2 M)), m3 M, m4 M, m5 M)
def yMv4 (M : zMo) (t : Nat) (v : Int64) : zMo := if v = 0 then (m1 M, (xle (m2 M), xfr (m2 M), xsp (m2 M), xes (m2 M), xdo (m2 M), xwi (m2 M), xdr (m2 M), va_up (xem (m2 M)) t false, xec (m2 M)), m3 M, m4 M, m5 M) else M
def yDrv2 (M : zMo) (t : Nat) (v : Int64) : zMo := yMv4 (yMv3 (yMv2 (yMv1 M t v) t (yWay M t v)) t (pPiece (xfr (m2 M) t))) t v
def yDrive (M : zMo) (t : Nat) : zMo := yDrv2 (yDrv1 M t) t (yNext (yDrv1 M t) t (yPull (yDrv1 M t) t))
def yL (F : zMo → Nat → zMo) : Nat → Nat → zMo → zMo
  | 0, _, M => M
  | j + 1, i, M => yL F j (i + 1) (F M i)
def yF1 (M : zMo) (i : Nat) : zMo := ySend M false i (xup (m3 M) i) (yReach M i) (yTail M i)
def yClk (M : zMo) : zMo := (m1 M, m2 M, m3 M, m4 M, (xtr (m5 M), xme (m5 M), xlo (m5 M), xsl (m5 M), xck (m5 M) + 1))
def ySec (M : zMo) : zMo := yL yDrive (xtr (m5 M)) 0 (yArr (yControl (yArr (yL yF1 (xtr (m5 M)) 0 (yClk M)) false)) true)
def yTicks : Nat → zMo → zMo
  | 0, M => M
  | j + 1, M => yTicks j (ySec M)
def yTick (M : zMo) (n : Int32) : Int32 × zMo := if bI (mIn n 1 8) = 0 then (REF, M) else (nI (xck (m5 (yTicks n.toNatClampNeg M))), yTicks n.toNatClampNeg M)
def yMeasure (M : zMo) (x w : Int32) : Int32 := if bI (mNo M x) = 0 then (if w = 0 then (xfr (m2 M) x.toNatClampNeg).toInt32 else if w = 1 then (xsp (m2 M) x.toNatClampNeg).toInt32 else if w = 2 then (xes (m2 M) x.toNatClampNeg).toInt32 else if w = 3 then (xdo (m2 M) x.toNatClampNeg).toInt32 else if w = 4 then (if xas (m3 M) x.toNatClampNeg = 0 then (-1) else (xau (m3 M) x.toNatClampNeg).toInt32) else if w = 5 then (xsr (m3 M) x.toNatClampNeg).toInt32 else if w = 6 then (xst (m3 M) x.toNatClampNeg).toInt32 else if w = 7 then (yRear M x.toNatClampNeg).toInt32 else REF) else REF
def yCntL (M : zMo) (x : Int32) : Nat → Nat → Int32 → Int32
  | 0, _, q => q
  | j + 1, i, q => yCntL M x j (i + 1) (if nI (xmt (m4 M) i) = x then q + 1 else q)
def yState (M : zMo) (x w : Int32) : Int32 := if bI (mNo M x) = 0 then (if w = 0 then (if bI (xem (m2 M) x.toNatClampNeg) = 0 then 0 else 1) else if w = 1 then xrs (m3 M) x.toNatClampNeg else if w = 2 then xas (m3 M) x.toNatClampNeg else if w = 3 then xec (m2 M) x.toNatClampNeg else if w = 4 then yCntL M x (xme (m5 M)) 0 0 else if w = 5 then nI (pPiece (xfr (m2 M) x.toNatClampNeg)) else REF) else REF
def yBestL (M : zMo) (t : Nat) : Nat → Int32
  | 0 => if bI (ySafe M t (nI (2 * 0)).toInt64 (yReach M t) (yTail M t)) = 0 then (-1) else nI (2 * 0)
  | j + 1 => if bI (ySafe M t (nI (2 * (j + 1))).toInt64 (yReach M t) (yTail M t)) = 0 then yBestL M t j else nI (2 * (j + 1))
def yPermitted (M : zMo) (x : Int32) : Int32 := if bI (mNo M x) = 0 then yBestL M x.toNatClampNeg 160 else REF
def yBeyL (M : zMo) : Nat → Nat → Int32 → Int32
  | 0, _, q => q
  | j + 1, i, q => yBeyL M j (i + 1) (if xfr (m2 M) i ≤ yRear M (i - 1) then q else q + 1)
def yCount (M : zMo) (w : Int32) : Int32 := if w = 0 then nI (xck (m5 M)) else if w = 1 then nI (xtr (m5 M)) else if w = 2 then yBeyL M (xtr (m5 M) - 1) 1 0 else if w = 3 then nI (xme (m5 M)) else if w = 4 then xlo (m5 M) else if w = 5 then xsl (m5 M) else REF
-- the new object
def kL4 (x : Int64) : Nat → Int64 := vp_updL (vp_updL (vp_updL (vp_updL (fun _ => 0) 0 x) 1 x) 2 x) 3 x
def kI4 (x : Int32) : Nat → Int32 := upd (upd (upd (upd (fun _ => 0) 0 x) 1 x) 2 x) 3 x
def zo0 : zMo := ((upd (upd (upd (upd (upd (upd (upd (upd (fun _ => 0) 0 40) 1 40) 2 40) 3 40) 4 40) 5 40) 6 40) 7 40, fun _ => 0, kL4 32768, fun _ => false, fun _ => false), (fun _ => 0, fun _ => 0, fun _ => 0, fun _ => 0, fun _ => 0, fun _ => 0, fun _ => 0, fun _ => false, fun _ => 0), (kL4 (-1), fun _ => 0, kL4 (-1), kL4 (-1), fun _ => 0, kI4 1, kI4 1), (fun _ => false, fun _ => 0, fun _ => 0, fun _ => 0, fun _ => 0, fun _ => 0), (0, 0, 0, 0, 0))
