/-! rows for longs -/
/-- a read with a long answer -/
def mk_Rl (l : Launch) (y : MethodName) (ws : List Cond) (rm : Room) (D : va_G) (cl : List vw_C) (tys : List (ClassId × FieldType)) (av : List Value) (w : va_W) (v : Int64) : Prop := ∀ sz : Nat, Met l y ws rm (va_Pc av (mk_pre D cl tys w sz)) (va_Ql (fun (r : Int64) (_ : Unit) => r = v) (fun _ _ => True) (fun q => sz ≤ q)) 0 0 (fun q => sz ≤ q)
section MKL
variable {p : Program} {l : Launch} {e : Env} {R : Room} {s : State} {m : MethodId} {args : Array Value} {below : List Frame} {meth : Method} {c : Code} {H : Heap} {locs : List Loc} {cells slots : Nat} {Q : State → Prop}
variable {y : MethodName} {bytes cc : ByteArray} {maxL nL n index : Nat} {ret : Option FieldType} {ws : List Cond} {rm : Room} {Ts : List Cond} {own : String} {b : Nat} {As rest st0 : List Value} {pc : Nat} {ls : Array Slot}
variable {D : va_G} {cl : List vw_C} {tys : List (ClassId × FieldType)} {W0 w w2 : va_W} {A Ad : Nat → Prop} {H0 : Heap} {v : Int64} {ci : Nat} {q0 : vw_C} {fs : List Value}
theorem mk_rlV (S : CallFix p m c cc nL s args Ts own) (hM : mk_Rl l y ws rm D cl tys (.ref b :: As) w v) (cw : CallW R s args own q0.1 index y bytes maxL ret ws rm 0 0 n) (hK : va_K D cl tys s) (hP : va_P D cl W0 H) (hD : va_D Ad W0) (hS : va_S A H0 H locs) (hA : ∀ q, H0.size ≤ q → A q) (isC : List Nat) (hC : isC.map (fun i => W0[i]?) = w.map some) (hnd : va_nd isC = true) (hc : cl[ci]? = some q0) (he : w[0]? = some (b, .inr (ci, fs))) (hn : As.length = n) (hsize : ls.size = nL) (hst : st0 = As.reverse ++ .ref b :: rest) (hW : (rest.map fun v => v.category).sum ≤ 8) (hdg : decode cc pc = .ok (.invokevirtual index, 3)) (hf : cells ≤ R.cells ∧ slots ≤ R.slots)
    (kk : ∀ (H1 : Heap) (locs1 : List Loc), va_P D cl W0 H1 → va_S A H0 H1 locs1 → W p l e R s m args below meth c H1 locs1 cells slots Q (F0 m (pc + 3) ls (.long v :: rest))) : W p l e R s m args below meth c H locs cells slots Q (F0 m pc ls st0) := by
  have hPc : va_P D cl w H := mk_selP hP hC
  have hDc : va_D (fun _ => True) w := (hD.sub isC hnd hC).weaken (fun _ _ _ _ => trivial)
  refine va_calll (va_runV (As := As) (rest := rest) S (hM H.size) cw ⟨mk_blind, va_recv hK hPc hc he, fun U hU hW => ⟨rfl, by rw [hU], by rw [hU]; exact hPc, va_K.moved hW.alike hK, hDc⟩⟩ rfl hn hsize hst (lv_room hW) hdg hf) hS (fun q h1 h2 => absurd h2 (Nat.not_le.mpr h1)) (fun q h => hA q (Nat.le_trans hS.1 h)) (fun r u t H1 locs1 ht hvm hw hB hz1 hk1 hS1 => ?_)
  subst hw
  exact kk H1 locs1 (hP.kept (fun k x hx => hk1 x.1 (hP k x hx).lt (Nat.not_le.mpr (hP k x hx).lt))) hS1
end MKL
section MKLA
variable {p : Program} {l : Launch} {e : Env} {R : Room} {s : State} {m : MethodId} {args : Array Value} {below : List Frame} {meth : Method} {c : Code} {H : Heap} {locs : List Loc} {cells slots : Nat} {Q : State → Prop}
variable {cc : ByteArray} {pc : Nat} {ls : Array Slot} {rest : List Value} {D : va_G} {cl : List vw_C} {A : Nat → Prop} {a : Nat} {tys : List (ClassId × FieldType)} {ws : va_W} {H0 : Heap}
theorem mk_lald (hexec : p.tables.exec = Jvm.exec) (hb : c.code = cc) (hK : va_K D cl tys s) (hP : va_P D cl ws H) (q0 t0 : Nat) {cA : ClassId} {n : Nat} {f : Nat → Int64} (ha : ws[q0]? = some (a, .inl (cA, n, .inr (.inl f)))) (ht : tys[t0]? = some (cA, .long)) {i : Int32} {k : Nat} (hi : i = nI k) (hk : k < n ∧ n < 2 ^ 31) (hdg : decode cc pc = .ok (.laload, 1))
    (kk : W p l e R s m args below meth c H locs cells slots Q (F0 m (pc + 1) ls (.long (f k) :: rest))) : W p l e R s m args below meth c H locs cells slots Q (F0 m pc ls (.int i :: .ref a :: rest)) := by
  subst hi
  refine va_lald hexec hb hK hP q0 t0 ha ht (vp_in_nI hk.1 hk.2) hdg ?_
  rw [nI_clamp (Nat.lt_trans hk.1 hk.2)]
  exact kk
theorem mk_last (hexec : p.tables.exec = Jvm.exec) (hb : c.code = cc) (hK : va_K D cl tys s) (hP : va_P D cl ws H) (hD : va_D A ws) (hS : va_S A H0 H locs) (q0 t0 : Nat) {cA : ClassId} {n : Nat} {f : Nat → Int64} (ha : ws[q0]? = some (a, .inl (cA, n, .inr (.inl f)))) (ht : tys[t0]? = some (cA, .long)) {i : Int32} {x : Int64} {k : Nat} (hi : i = nI k) (hk : k < n ∧ n < 2 ^ 31) (hdg : decode cc pc = .ok (.lastore, 1))
    (kk : ∀ (H1 : Heap) (locs1 : List Loc), va_P D cl (ws.set q0 (a, .inl (cA, n, .inr (.inl (vp_updL f k x))))) H1 → va_D A (ws.set q0 (a, .inl (cA, n, .inr (.inl (vp_updL f k x))))) → va_S A H0 H1 locs1 → W p l e R s m args below meth c H1 locs1 cells slots Q (F0 m (pc + 1) ls rest)) : W p l e R s m args below meth c H locs cells slots Q (F0 m pc ls (.long x :: .int i :: .ref a :: rest)) := by
  subst hi
  refine va_last hexec hb hK hP hD hS q0 t0 ha ht (vp_in_nI hk.1 hk.2) hdg ?_
  rw [nI_clamp (Nat.lt_trans hk.1 hk.2)]
  exact kk
theorem nI_upd (f : Nat → Nat) (k t : Nat) : upd (fun j => nI (f j)) k (nI t) = fun j => nI (va_up f k t j) := by
  funext j
  unfold upd va_up
  by_cases h : j = k
  · rw [if_pos h, if_pos h]
  · rw [if_neg h, if_neg h]
theorem mk_nast (hexec : p.tables.exec = Jvm.exec) (hb : c.code = cc) (hK : va_K D cl tys s) (hP : va_P D cl ws H) (hD : va_D A ws) (hS : va_S A H0 H locs) (q0 t0 : Nat) {cA : ClassId} {n : Nat} {f : Nat → Nat} (ha : ws[q0]? = some (a, .inl (cA, n, .inl (fun j => nI (f j))))) (ht : tys[t0]? = some (cA, .int)) {i : Int32} {z : Nat} {k : Nat} (hi : i = nI k) (hk : k < n ∧ n < 2 ^ 31) (hdg : decode cc pc = .ok (.iastore, 1))
    (kk : ∀ (H1 : Heap) (locs1 : List Loc), va_P D cl (ws.set q0 (a, .inl (cA, n, .inl (fun j => nI (va_up f k z j))))) H1 → va_D A (ws.set q0 (a, .inl (cA, n, .inl (fun j => nI (va_up f k z j))))) → va_S A H0 H1 locs1 → W p l e R s m args below meth c H1 locs1 cells slots Q (F0 m (pc + 1) ls rest)) : W p l e R s m args below meth c H locs cells slots Q (F0 m pc ls (.int (nI z) :: .int i :: .ref a :: rest)) := by
  subst hi
  refine va_iast hexec hb hK hP hD hS q0 t0 ha ht (vp_in_nI hk.1 hk.2) hdg ?_
  rw [nI_clamp (Nat.lt_trans hk.1 hk.2), nI_upd]
  exact kk
theorem mk_lif_lt (hexec : p.tables.exec = Jvm.exec) (hb : c.code = cc) {x y : Int64} {off : Int} {tgt : Nat} (h0 : decode cc pc = .ok (.lcmp, 1)) (hdg : decode cc (pc + 1) = .ok (.ifCond .lt off, 3)) (ht : ((pc + 1 : Nat) : Int) + off = (tgt : Int)) (kt : x < y → W p l e R s m args below meth c H locs cells slots Q (F0 m tgt ls rest)) (kf : ¬ x < y → W p l e R s m args below meth c H locs cells slots Q (F0 m (pc + 1 + 3) ls rest)) : W p l e R s m args below meth c H locs cells slots Q (F0 m pc ls (.long y :: .long x :: rest)) :=
  W.lcmp hexec hb h0 (lv_if_lt hexec hb hdg ht (fun h => kt ((lg_cmp_lt x y).mp h)) (fun h => kf (fun z => h ((lg_cmp_lt x y).mpr z))))
theorem mk_lif_ge (hexec : p.tables.exec = Jvm.exec) (hb : c.code = cc) {x y : Int64} {off : Int} {tgt : Nat} (h0 : decode cc pc = .ok (.lcmp, 1)) (hdg : decode cc (pc + 1) = .ok (.ifCond .ge off, 3)) (ht : ((pc + 1 : Nat) : Int) + off = (tgt : Int)) (kt : y ≤ x → W p l e R s m args below meth c H locs cells slots Q (F0 m tgt ls rest)) (kf : ¬ y ≤ x → W p l e R s m args below meth c H locs cells slots Q (F0 m (pc + 1 + 3) ls rest)) : W p l e R s m args below meth c H locs cells slots Q (F0 m pc ls (.long y :: .long x :: rest)) :=
  W.lcmp hexec hb h0 (lv_if_ge hexec hb hdg ht (fun h => kt ((lg_cmp_ge x y).mp h)) (fun h => kf (fun z => h ((lg_cmp_ge x y).mpr z))))
theorem mk_lif_gt (hexec : p.tables.exec = Jvm.exec) (hb : c.code = cc) {x y : Int64} {off : Int} {tgt : Nat} (h0 : decode cc pc = .ok (.lcmp, 1)) (hdg : decode cc (pc + 1) = .ok (.ifCond .gt off, 3)) (ht : ((pc + 1 : Nat) : Int) + off = (tgt : Int)) (kt : y < x → W p l e R s m args below meth c H locs cells slots Q (F0 m tgt ls rest)) (kf : ¬ y < x → W p l e R s m args below meth c H locs cells slots Q (F0 m (pc + 1 + 3) ls rest)) : W p l e R s m args below meth c H locs cells slots Q (F0 m pc ls (.long y :: .long x :: rest)) :=
  W.lcmp hexec hb h0 (lv_if_gt hexec hb hdg ht (fun h => kt ((lg_cmp_gt x y).mp h)) (fun h => kf (fun z => h ((lg_cmp_gt x y).mpr z))))
theorem mk_lif_le (hexec : p.tables.exec = Jvm.exec) (hb : c.code = cc) {x y : Int64} {off : Int} {tgt : Nat} (h0 : decode cc pc = .ok (.lcmp, 1)) (hdg : decode cc (pc + 1) = .ok (.ifCond .le off, 3)) (ht : ((pc + 1 : Nat) : Int) + off = (tgt : Int)) (kt : x ≤ y → W p l e R s m args below meth c H locs cells slots Q (F0 m tgt ls rest)) (kf : ¬ x ≤ y → W p l e R s m args below meth c H locs cells slots Q (F0 m (pc + 1 + 3) ls rest)) : W p l e R s m args below meth c H locs cells slots Q (F0 m pc ls (.long y :: .long x :: rest)) :=
  W.lcmp hexec hb h0 (lv_if_le hexec hb hdg ht (fun h => kt ((lg_cmp_le x y).mp h)) (fun h => kf (fun z => h ((lg_cmp_le x y).mpr z))))
theorem mk_lif_eq (hexec : p.tables.exec = Jvm.exec) (hb : c.code = cc) {x y : Int64} {off : Int} {tgt : Nat} (h0 : decode cc pc = .ok (.lcmp, 1)) (hdg : decode cc (pc + 1) = .ok (.ifCond .eq off, 3)) (ht : ((pc + 1 : Nat) : Int) + off = (tgt : Int)) (kt : x = y → W p l e R s m args below meth c H locs cells slots Q (F0 m tgt ls rest)) (kf : ¬ x = y → W p l e R s m args below meth c H locs cells slots Q (F0 m (pc + 1 + 3) ls rest)) : W p l e R s m args below meth c H locs cells slots Q (F0 m pc ls (.long y :: .long x :: rest)) :=
  W.lcmp hexec hb h0 (lv_if_eq hexec hb hdg ht (fun h => kt ((lg_cmp_eq x y).mp h)) (fun h => kf (fun z => h ((lg_cmp_eq x y).mpr z))))
theorem mk_lif_ne (hexec : p.tables.exec = Jvm.exec) (hb : c.code = cc) {x y : Int64} {off : Int} {tgt : Nat} (h0 : decode cc pc = .ok (.lcmp, 1)) (hdg : decode cc (pc + 1) = .ok (.ifCond .ne off, 3)) (ht : ((pc + 1 : Nat) : Int) + off = (tgt : Int)) (kt : ¬ x = y → W p l e R s m args below meth c H locs cells slots Q (F0 m tgt ls rest)) (kf : x = y → W p l e R s m args below meth c H locs cells slots Q (F0 m (pc + 1 + 3) ls rest)) : W p l e R s m args below meth c H locs cells slots Q (F0 m pc ls (.long y :: .long x :: rest)) :=
  W.lcmp hexec hb h0 (lv_if_ne hexec hb hdg ht (fun h => kt (fun z => h ((lg_cmp_eq x y).mpr z))) (fun h => kf ((lg_cmp_eq x y).mp h)))
end MKLA
theorem lPiece_lt (x : Int64) : pPiece x < 8 ∧ lPiece x = nI (pPiece x) := by
  have key : ∃ k : Nat, k < 8 ∧ lPiece x = nI k := by
    unfold lPiece
    by_cases h0 : 0 ≤ x
    · rw [if_pos h0]
      by_cases h1 : x < (32768 : Int64)
      · rw [if_pos h1]
        obtain ⟨j, hj, rfl⟩ := pk_lOf (x := x) (by
          intro h
          have a1 := Int64.lt_iff_toInt_lt.mp h
          have a2 := Int64.le_iff_toInt_le.mp h0
          omega)
        have h2 : j < 32768 := (pk_lLT hj (by decide)).mp h1
        refine ⟨j / 4096, by omega, ?_⟩
        have e : lN j / 4096 = lN (j / 4096) := pk_lDiv (b := 4096) hj (by decide) (by decide)
        rw [e, lN_i]
      · rw [if_neg h1]; exact ⟨7, by decide, rfl⟩
    · rw [if_neg h0]; exact ⟨0, by decide, rfl⟩
  obtain ⟨k, hk, e⟩ := key
  unfold pPiece
  rw [e, nI_clamp (by omega)]
  exact ⟨hk, rfl⟩
theorem mIn_0 {x lo hi : Int32} (h : ¬ bI (mIn x lo hi) = 0) : ¬ x < lo ∧ ¬ hi < x := by
  have h2 : mIn x lo hi = true := by
    cases hz : mIn x lo hi with
    | true => rfl
    | false => exact absurd (bI_0.mpr hz) h
  unfold mIn at h2
  by_cases h1 : x < lo
  · rw [if_pos h1] at h2; cases h2
  · rw [if_neg h1] at h2
    by_cases h3 : hi < x
    · rw [if_pos h3] at h2; cases h2
    · exact ⟨h1, h3⟩
theorem mIn_ix {x hi : Int32} (h : ¬ bI (mIn x 0 hi) = 0) : x = nI x.toNatClampNeg := (nIx (mIn_0 h).1).1
theorem mIn_lt {n : Nat} {x hi : Int32} (h : ¬ bI (mIn x 0 hi) = 0) (hn : 0 < n ∧ n < 2 ^ 31) (he : hi = nI (n - 1)) : x.toNatClampNeg < n := by
  obtain ⟨h1, h2⟩ := mIn_0 h
  obtain ⟨e, hj⟩ := nIx h1
  rw [e, he, nI_ltI (by omega) hj] at h2
  omega
theorem mNo_0 {M : zMo} {x : Int32} (h : bI (mNo M x) = 0) : ¬ x < 0 ∧ x < nI (xtr (m5 M)) := by
  have h := bI_0.mp h
  unfold mNo at h
  by_cases h1 : x < 0
  · rw [if_pos h1] at h; cases h
  · rw [if_neg h1] at h
    by_cases h2 : x < nI (xtr (m5 M))
    · exact ⟨h1, h2⟩
    · rw [if_neg h2] at h; cases h
theorem mNo_ix {M : zMo} {x : Int32} (h : bI (mNo M x) = 0) : x = nI x.toNatClampNeg := (nIx (mNo_0 h).1).1
theorem mNo_m {M : zMo} {x : Int32} (hm : xtr (m5 M) ≤ 4) (h : bI (mNo M x) = 0) : x.toNatClampNeg < xtr (m5 M) := by
  obtain ⟨h1, h2⟩ := mNo_0 h
  obtain ⟨e, hj⟩ := nIx h1
  rw [e, nI_ltI hj (by omega)] at h2
  exact h2
theorem mNo_lt {M : zMo} {x : Int32} (hm : xtr (m5 M) ≤ 4) (h : bI (mNo M x) = 0) : x.toNatClampNeg < 4 := Nat.lt_of_lt_of_le (mNo_m hm h) hm
theorem mtick_ix {n : Int32} (h : ¬ bI (mIn n 1 8) = 0) : n = nI n.toNatClampNeg ∧ n.toNatClampNeg ≤ 8 := by
  obtain ⟨h1, h2⟩ := mIn_0 h
  obtain ⟨e, hj⟩ := nIx (x := n) (by
    intro h0
    apply h1
    have a1 := Int32.lt_iff_toInt_lt.mp h0
    apply Int32.lt_iff_toInt_lt.mpr
    have a2 : (0 : Int32).toInt = 0 := by decide
    have a3 : (1 : Int32).toInt = 1 := by decide
    omega)
  refine ⟨e, ?_⟩
  have h3 : ¬ nI 8 < nI n.toNatClampNeg := by rw [← e]; exact h2
  rw [nI_ltI (by decide) hj] at h3
  omega
