/-! My own rows over the kit: contracts of reads and writes, calls of them, worlds put back in place. -/
def mk_pre (D : va_G) (cl : List vw_C) (tys : List (ClassId × FieldType)) (w : va_W) (sz : Nat) (U : State) : Prop := U.heap.size = sz ∧ va_P D cl w U.heap ∧ va_K D cl tys U ∧ va_D (fun _ => True) w
theorem mk_blind {D : va_G} {cl : List vw_C} {tys : List (ClassId × FieldType)} {w : va_W} {sz : Nat} {av : List Value} : FrameBlind (va_Pc av (mk_pre D cl tys w sz)) := fun a U g mk q => by
  obtain ⟨q0, q1, qP, qK, qD⟩ := q
  exact ⟨q0, q1, qP, va_K.moved (u := U) (U := U.calling g mk a) (Vm.Alike.refl U.vm) qK, qD⟩
/-- a read: the answer is v, no cell changes -/
def mk_Rd (l : Launch) (y : MethodName) (ws : List Cond) (rm : Room) (D : va_G) (cl : List vw_C) (tys : List (ClassId × FieldType)) (av : List Value) (w : va_W) (v : Int32) : Prop := ∀ sz : Nat, Met l y ws rm (va_Pc av (mk_pre D cl tys w sz)) (va_Qi (fun (r : Int32) (_ : Unit) => r = v) (fun _ _ => True) (fun q => sz ≤ q)) 0 0 (fun q => sz ≤ q)
/-- a write: the world w becomes w2 -/
def mk_Wv (l : Launch) (y : MethodName) (ws : List Cond) (rm : Room) (D : va_G) (cl : List vw_C) (tys : List (ClassId × FieldType)) (av : List Value) (w w2 : va_W) : Prop := ∀ sz : Nat, Met l y ws rm (va_Pc av (mk_pre D cl tys w sz)) (va_Qv (fun (_ : Unit) => True) (fun _ t => va_P D cl w2 t.heap) (va_A w sz)) 0 0 (va_A w sz)
/-- a write with an answer -/
def mk_Wi (l : Launch) (y : MethodName) (ws : List Cond) (rm : Room) (D : va_G) (cl : List vw_C) (tys : List (ClassId × FieldType)) (av : List Value) (w w2 : va_W) (v : Int32) : Prop := ∀ sz : Nat, Met l y ws rm (va_Pc av (mk_pre D cl tys w sz)) (va_Qi (fun (r : Int32) (_ : Unit) => r = v) (fun _ t => va_P D cl w2 t.heap) (va_A w sz)) 0 0 (va_A w sz)
theorem mk_at {ws w : va_W} {is : List Nat} (hC : is.map (fun i => ws[i]?) = w.map some) {k : Nat} {q : Nat × va_E} (hk : w[k]? = some q) : ∃ i, is[k]? = some i ∧ ws[i]? = some q := by
  have h1 : (is.map (fun i => ws[i]?))[k]? = some (some q) := by rw [hC, List.getElem?_map, hk]; rfl
  rw [List.getElem?_map] at h1
  cases hi : is[k]? with
  | none => rw [hi] at h1; cases h1
  | some i => rw [hi] at h1; exact ⟨i, rfl, Option.some.inj h1⟩
theorem mk_selP {D : va_G} {cl : List vw_C} {ws w : va_W} {H : Heap} {is : List Nat} (hP : va_P D cl ws H) (hC : is.map (fun i => ws[i]?) = w.map some) : va_P D cl w H := by
  intro k q hk
  obtain ⟨i, -, h⟩ := mk_at hC hk
  exact hP i q h
def mk_put : va_W → List Nat → va_W → va_W
  | W, i :: is, x :: xs => mk_put (W.set i x) is xs
  | W, [], _ => W
  | W, _ :: _, [] => W
theorem mk_put_get : ∀ (is : List Nat) (xs W : va_W) (k : Nat) (q : Nat × va_E), xs.length = is.length → (mk_put W is xs)[k]? = some q → (∃ j : Nat, xs[j]? = some q) ∨ (W[k]? = some q ∧ k ∉ is) := by
  intro is
  induction is with
  | nil =>
    intro xs W k q _ h
    refine Or.inr ⟨?_, by simp⟩
    simpa [mk_put] using h
  | cons i is ih =>
    intro xs W k q hl h
    cases xs with
    | nil => simp at hl
    | cons x xs =>
      have hl' : xs.length = is.length := by simpa using hl
      rcases ih xs (W.set i x) k q hl' (by simpa [mk_put] using h) with ⟨j, hj⟩ | ⟨h1, h2⟩
      · exact Or.inl ⟨j + 1, by simpa using hj⟩
      · by_cases hki : k = i
        · subst hki
          rw [List.getElem?_set_self'] at h1
          cases hw : W[k]? with
          | none => rw [hw] at h1; cases h1
          | some z => rw [hw] at h1; exact Or.inl ⟨0, by simpa using h1⟩
        · rw [List.getElem?_set_ne (fun z => hki z.symm)] at h1
          exact Or.inr ⟨h1, by simp [hki, h2]⟩
theorem mk_put_fst : ∀ (is : List Nat) (xs W : va_W), is.map (fun i => (W.map Prod.fst)[i]?) = xs.map (fun x => some x.1) → (mk_put W is xs).map Prod.fst = W.map Prod.fst := by
  intro is
  induction is with
  | nil => intro xs W _; simp [mk_put]
  | cons i is ih =>
    intro xs W h
    cases xs with
    | nil => simp at h
    | cons x xs =>
      simp only [List.map_cons, List.cons.injEq] at h
      obtain ⟨h1, h2⟩ := h
      have e : (W.set i x).map Prod.fst = W.map Prod.fst := by
        rw [List.map_set]
        apply List.ext_getElem?
        intro j
        by_cases hj : j = i
        · subst hj
          rw [List.getElem?_set_self', h1]; rfl
        · rw [List.getElem?_set_ne (fun z => hj z.symm)]
      show (mk_put (W.set i x) is xs).map Prod.fst = W.map Prod.fst
      rw [ih xs (W.set i x) (by rw [e]; exact h2), e]
theorem mk_Daddr {A : Nat → Prop} {W0 W1 : va_W} (h : va_D A W0) (he : W1.map Prod.fst = W0.map Prod.fst) : va_D A W1 := by
  have key : ∀ (i : Nat) (x : Nat × va_E), W1[i]? = some x → ∃ z : Nat × va_E, W0[i]? = some z ∧ z.1 = x.1 := by
    intro i x hx
    have h1 : (W1.map Prod.fst)[i]? = some x.1 := by rw [List.getElem?_map, hx]; rfl
    rw [he, List.getElem?_map] at h1
    cases hz : W0[i]? with
    | none => rw [hz] at h1; cases h1
    | some z => rw [hz] at h1; exact ⟨z, rfl, Option.some.inj h1⟩
  refine ⟨fun i j x y hx hy hxy => ?_, fun k x hx => ?_⟩
  · obtain ⟨x', h1, e1⟩ := key i x hx
    obtain ⟨y', h2, e2⟩ := key j y hy
    exact h.1 i j x' y' h1 h2 (by rw [e1, e2, hxy])
  · obtain ⟨x', h1, e1⟩ := key k x hx
    rw [← e1]
    exact h.2 k x' h1
theorem mk_back {D : va_G} {cl : List vw_C} {A0 : Nat → Prop} {ws wc w1 : va_W} {H H1 : Heap} {is : List Nat} (hP : va_P D cl ws H) (hD : va_D A0 ws) (hC : is.map (fun i => ws[i]?) = wc.map some) (hl : w1.map Prod.fst = wc.map Prod.fst) (hk : ∀ q : Nat, q < H.size → ¬ va_A wc H.size q → H1[q]? = H[q]?) (hP1 : va_P D cl w1 H1) : va_P D cl (mk_put ws is w1) H1 ∧ va_D A0 (mk_put ws is w1) := by
  have hlw : w1.length = wc.length := by simpa using congrArg List.length hl
  have hlc : is.length = wc.length := by simpa using congrArg List.length hC
  constructor
  · intro k q hq
    rcases mk_put_get is w1 ws k q (by omega) hq with ⟨j, hj⟩ | ⟨h1, h2⟩
    · exact hP1 j q hj
    · have hlt := (hP k q h1).lt
      refine (hP k q h1).kept (hk q.1 hlt (fun h => ?_))
      rcases h with ⟨k2, e, h⟩ | h
      · obtain ⟨i, h3, h4⟩ := mk_at hC h
        have := hD.1 k i q (q.1, e) h1 h4 rfl
        subst this
        exact h2 (List.mem_of_getElem? h3)
      · omega
  · refine mk_Daddr hD (mk_put_fst is w1 ws ?_)
    have e1 : w1.map (fun x => some x.1) = (w1.map Prod.fst).map some := by rw [List.map_map]; rfl
    rw [e1, hl, List.map_map]
    have e2 : is.map (fun i => (ws.map Prod.fst)[i]?) = (is.map (fun i => ws[i]?)).map (Option.map Prod.fst) := by
      rw [List.map_map]
      apply List.map_congr_left
      intro i _
      simp [List.getElem?_map]
    rw [e2, hC, List.map_map]
    rfl
section MK
variable {p : Program} {l : Launch} {e : Env} {R : Room} {s : State} {m : MethodId} {args : Array Value} {below : List Frame} {meth : Method} {c : Code} {H : Heap} {locs : List Loc} {cells slots : Nat} {Q : State → Prop}
variable {y : MethodName} {bytes cc : ByteArray} {maxL nL n index : Nat} {ret : Option FieldType} {ws : List Cond} {rm : Room} {Ts : List Cond} {own : String} {b : Nat} {As rest st0 : List Value} {pc : Nat} {ls : Array Slot}
variable {D : va_G} {cl : List vw_C} {tys : List (ClassId × FieldType)} {W0 w w2 : va_W} {A Ad : Nat → Prop} {H0 : Heap} {v : Int32} {ci : Nat} {q0 : vw_C} {fs : List Value}
theorem mk_rdV (S : CallFix p m c cc nL s args Ts own) (hM : mk_Rd l y ws rm D cl tys (.ref b :: As) w v) (cw : CallW R s args own q0.1 index y bytes maxL ret ws rm 0 0 n) (hK : va_K D cl tys s) (hP : va_P D cl W0 H) (hD : va_D Ad W0) (hS : va_S A H0 H locs) (hA : ∀ q, H0.size ≤ q → A q) (isC : List Nat) (hC : isC.map (fun i => W0[i]?) = w.map some) (hnd : va_nd isC = true) (hc : cl[ci]? = some q0) (he : w[0]? = some (b, .inr (ci, fs))) (hn : As.length = n) (hsize : ls.size = nL) (hst : st0 = As.reverse ++ .ref b :: rest) (hW : (rest.map fun v => v.category).sum ≤ 8) (hdg : decode cc pc = .ok (.invokevirtual index, 3)) (hf : cells ≤ R.cells ∧ slots ≤ R.slots)
    (kk : ∀ (H1 : Heap) (locs1 : List Loc), va_P D cl W0 H1 → va_S A H0 H1 locs1 → W p l e R s m args below meth c H1 locs1 cells slots Q (F0 m (pc + 3) ls (.int v :: rest))) : W p l e R s m args below meth c H locs cells slots Q (F0 m pc ls st0) := by
  have hPc : va_P D cl w H := mk_selP hP hC
  have hDc : va_D (fun _ => True) w := (hD.sub isC hnd hC).weaken (fun _ _ _ _ => trivial)
  refine va_calli (va_runV (As := As) (rest := rest) S (hM H.size) cw ⟨mk_blind, va_recv hK hPc hc he, fun U hU hW => ⟨rfl, by rw [hU], by rw [hU]; exact hPc, va_K.moved hW.alike hK, hDc⟩⟩ rfl hn hsize hst (lv_room hW) hdg hf) hS (fun q h1 h2 => absurd h2 (Nat.not_le.mpr h1)) (fun q h => hA q (Nat.le_trans hS.1 h)) (fun r u t H1 locs1 ht hvm hw hB hz1 hk1 hS1 => ?_)
  subst hw
  exact kk H1 locs1 (hP.kept (fun k x hx => hk1 x.1 (hP k x hx).lt (Nat.not_le.mpr (hP k x hx).lt))) hS1
theorem mk_rdS (S : CallFix p m c cc nL s args Ts own) (hM : mk_Rd l y ws rm D cl tys As w v) (cw : CallB R s args own index y bytes maxL ret ws rm 0 0 n ∧ (Cond.static y).before args s = true) (hK : va_K D cl tys s) (hP : va_P D cl W0 H) (hD : va_D Ad W0) (hS : va_S A H0 H locs) (hA : ∀ q, H0.size ≤ q → A q) (isC : List Nat) (hC : isC.map (fun i => W0[i]?) = w.map some) (hnd : va_nd isC = true) (hn : As.length = n) (hsize : ls.size = nL) (hst : st0 = As.reverse ++ rest) (hW : (rest.map fun v => v.category).sum ≤ 8) (hdg : decode cc pc = .ok (.invokestatic index, 3)) (hf : cells ≤ R.cells ∧ slots ≤ R.slots)
    (kk : ∀ (H1 : Heap) (locs1 : List Loc), va_P D cl W0 H1 → va_S A H0 H1 locs1 → W p l e R s m args below meth c H1 locs1 cells slots Q (F0 m (pc + 3) ls (.int v :: rest))) : W p l e R s m args below meth c H locs cells slots Q (F0 m pc ls st0) := by
  have hPc : va_P D cl w H := mk_selP hP hC
  have hDc : va_D (fun _ => True) w := (hD.sub isC hnd hC).weaken (fun _ _ _ _ => trivial)
  refine va_calli (va_runS (As := As) (rest := rest) S (hM H.size) cw ⟨mk_blind, fun U hU hW => ⟨rfl, by rw [hU], by rw [hU]; exact hPc, va_K.moved hW.alike hK, hDc⟩⟩ rfl hn hsize hst (lv_room hW) hdg hf) hS (fun q h1 h2 => absurd h2 (Nat.not_le.mpr h1)) (fun q h => hA q (Nat.le_trans hS.1 h)) (fun r u t H1 locs1 ht hvm hw hB hz1 hk1 hS1 => ?_)
  subst hw
  exact kk H1 locs1 (hP.kept (fun k x hx => hk1 x.1 (hP k x hx).lt (Nat.not_le.mpr (hP k x hx).lt))) hS1
theorem mk_wrV (S : CallFix p m c cc nL s args Ts own) (hM : mk_Wv l y ws rm D cl tys (.ref b :: As) w w2) (cw : CallW R s args own q0.1 index y bytes maxL ret ws rm 0 0 n) (hK : va_K D cl tys s) (hP : va_P D cl W0 H) (hD : va_D A W0) (hS : va_S A H0 H locs) (hA : ∀ q, H0.size ≤ q → A q) (isC : List Nat) (hC : isC.map (fun i => W0[i]?) = w.map some) (hnd : va_nd isC = true) (hl2 : w2.map Prod.fst = w.map Prod.fst) (hc : cl[ci]? = some q0) (he : w[0]? = some (b, .inr (ci, fs))) (hn : As.length = n) (hsize : ls.size = nL) (hst : st0 = As.reverse ++ .ref b :: rest) (hW : (rest.map fun v => v.category).sum ≤ 8) (hdg : decode cc pc = .ok (.invokevirtual index, 3)) (hf : cells ≤ R.cells ∧ slots ≤ R.slots)
    (kk : ∀ (H1 : Heap) (locs1 : List Loc), va_P D cl (mk_put W0 isC w2) H1 → va_D A (mk_put W0 isC w2) → va_S A H0 H1 locs1 → W p l e R s m args below meth c H1 locs1 cells slots Q (F0 m (pc + 3) ls rest)) : W p l e R s m args below meth c H locs cells slots Q (F0 m pc ls st0) := by
  have hPc : va_P D cl w H := mk_selP hP hC
  have hDc : va_D (fun _ => True) w := (hD.sub isC hnd hC).weaken (fun _ _ _ _ => trivial)
  have hFc := va_free (wc := w) hD hS hA isC hC
  refine va_callv (va_runV (As := As) (rest := rest) S (hM H.size) cw ⟨mk_blind, va_recv hK hPc hc he, fun U hU hW => ⟨rfl, by rw [hU], by rw [hU]; exact hPc, va_K.moved hW.alike hK, hDc⟩⟩ rfl hn hsize hst (lv_room hW) hdg hf) hS (fun q _ h => hFc q h) hFc (fun u t H1 locs1 ht hvm hw hB hz1 hk1 hS1 => ?_)
  rw [ht] at hB
  obtain ⟨h1, h2⟩ := mk_back hP hD hC hl2 hk1 hB
  exact kk H1 locs1 h1 h2 hS1
theorem mk_wrVi (S : CallFix p m c cc nL s args Ts own) (hM : mk_Wi l y ws rm D cl tys (.ref b :: As) w w2 v) (cw : CallW R s args own q0.1 index y bytes maxL ret ws rm 0 0 n) (hK : va_K D cl tys s) (hP : va_P D cl W0 H) (hD : va_D A W0) (hS : va_S A H0 H locs) (hA : ∀ q, H0.size ≤ q → A q) (isC : List Nat) (hC : isC.map (fun i => W0[i]?) = w.map some) (hnd : va_nd isC = true) (hl2 : w2.map Prod.fst = w.map Prod.fst) (hc : cl[ci]? = some q0) (he : w[0]? = some (b, .inr (ci, fs))) (hn : As.length = n) (hsize : ls.size = nL) (hst : st0 = As.reverse ++ .ref b :: rest) (hW : (rest.map fun v => v.category).sum ≤ 8) (hdg : decode cc pc = .ok (.invokevirtual index, 3)) (hf : cells ≤ R.cells ∧ slots ≤ R.slots)
    (kk : ∀ (H1 : Heap) (locs1 : List Loc), va_P D cl (mk_put W0 isC w2) H1 → va_D A (mk_put W0 isC w2) → va_S A H0 H1 locs1 → W p l e R s m args below meth c H1 locs1 cells slots Q (F0 m (pc + 3) ls (.int v :: rest))) : W p l e R s m args below meth c H locs cells slots Q (F0 m pc ls st0) := by
  have hPc : va_P D cl w H := mk_selP hP hC
  have hDc : va_D (fun _ => True) w := (hD.sub isC hnd hC).weaken (fun _ _ _ _ => trivial)
  have hFc := va_free (wc := w) hD hS hA isC hC
  refine va_calli (va_runV (As := As) (rest := rest) S (hM H.size) cw ⟨mk_blind, va_recv hK hPc hc he, fun U hU hW => ⟨rfl, by rw [hU], by rw [hU]; exact hPc, va_K.moved hW.alike hK, hDc⟩⟩ rfl hn hsize hst (lv_room hW) hdg hf) hS (fun q _ h => hFc q h) hFc (fun r u t H1 locs1 ht hvm hw hB hz1 hk1 hS1 => ?_)
  subst hw
  rw [ht] at hB
  obtain ⟨h1, h2⟩ := mk_back hP hD hC hl2 hk1 hB
  exact kk H1 locs1 h1 h2 hS1
end MK
section MKA
variable {p : Program} {l : Launch} {e : Env} {R : Room} {s : State} {m : MethodId} {args : Array Value} {below : List Frame} {meth : Method} {c : Code} {H : Heap} {locs : List Loc} {cells slots : Nat} {Q : State → Prop}
variable {cc : ByteArray} {pc : Nat} {ls : Array Slot} {rest : List Value} {D : va_G} {cl : List vw_C} {A : Nat → Prop} {a : Nat} {tys : List (ClassId × FieldType)} {ws : va_W} {H0 : Heap}
theorem mk_iald (hexec : p.tables.exec = Jvm.exec) (hb : c.code = cc) (hK : va_K D cl tys s) (hP : va_P D cl ws H) (q0 t0 : Nat) {cA : ClassId} {n : Nat} {f : Nat → Int32} (ha : ws[q0]? = some (a, .inl (cA, n, .inl f))) (ht : tys[t0]? = some (cA, .int)) {i : Int32} {k : Nat} (hi : i = nI k) (hk : k < n ∧ n < 2 ^ 31) (hdg : decode cc pc = .ok (.iaload, 1))
    (kk : W p l e R s m args below meth c H locs cells slots Q (F0 m (pc + 1) ls (.int (f k) :: rest))) : W p l e R s m args below meth c H locs cells slots Q (F0 m pc ls (.int i :: .ref a :: rest)) := by
  subst hi
  refine va_iald hexec hb hK hP q0 t0 ha ht (vp_in_nI hk.1 hk.2) hdg ?_
  rw [nI_clamp (Nat.lt_trans hk.1 hk.2)]
  exact kk
theorem mk_zald (hexec : p.tables.exec = Jvm.exec) (hb : c.code = cc) (hK : va_K D cl tys s) (hP : va_P D cl ws H) (q0 t0 : Nat) {cA : ClassId} {n : Nat} {f : Nat → Int32} (ha : ws[q0]? = some (a, .inl (cA, n, .inl f))) (ht : tys[t0]? = some (cA, .boolean)) {i : Int32} {k : Nat} (hi : i = nI k) (hk : k < n ∧ n < 2 ^ 31) (hdg : decode cc pc = .ok (.baload, 1))
    (kk : W p l e R s m args below meth c H locs cells slots Q (F0 m (pc + 1) ls (.int (f k) :: rest))) : W p l e R s m args below meth c H locs cells slots Q (F0 m pc ls (.int i :: .ref a :: rest)) := by
  subst hi
  refine va_zald hexec hb hK hP q0 t0 ha ht (vp_in_nI hk.1 hk.2) hdg ?_
  rw [nI_clamp (Nat.lt_trans hk.1 hk.2)]
  exact kk
theorem mk_aald (hexec : p.tables.exec = Jvm.exec) (hb : c.code = cc) (hK : va_K D cl tys s) (hP : va_P D cl ws H) (q0 t0 : Nat) {cA : ClassId} {C : String} {n : Nat} {f : Nat → Option Nat} (ha : ws[q0]? = some (a, .inl (cA, n, .inr (.inr (.inr (.inr f)))))) (ht : tys[t0]? = some (cA, .object C)) {i : Int32} {k : Nat} (hi : i = nI k) (hk : k < n ∧ n < 2 ^ 31) {x : Nat} (hf : f k = some x) (hdg : decode cc pc = .ok (.aaload, 1))
    (kk : W p l e R s m args below meth c H locs cells slots Q (F0 m (pc + 1) ls (.ref x :: rest))) : W p l e R s m args below meth c H locs cells slots Q (F0 m pc ls (.int i :: .ref a :: rest)) := by
  subst hi
  refine va_aldq (C := C) hexec hb hK hP q0 t0 ha ht (vp_in_nI hk.1 hk.2) hdg ?_
  rw [nI_clamp (Nat.lt_trans hk.1 hk.2), hf]
  exact kk
theorem mk_iast (hexec : p.tables.exec = Jvm.exec) (hb : c.code = cc) (hK : va_K D cl tys s) (hP : va_P D cl ws H) (hD : va_D A ws) (hS : va_S A H0 H locs) (q0 t0 : Nat) {cA : ClassId} {n : Nat} {f : Nat → Int32} (ha : ws[q0]? = some (a, .inl (cA, n, .inl f))) (ht : tys[t0]? = some (cA, .int)) {i : Int32} {x : Int32} {k : Nat} (hi : i = nI k) (hk : k < n ∧ n < 2 ^ 31) (hdg : decode cc pc = .ok (.iastore, 1))
    (kk : ∀ (H1 : Heap) (locs1 : List Loc), va_P D cl (ws.set q0 (a, .inl (cA, n, .inl (upd f k x)))) H1 → va_D A (ws.set q0 (a, .inl (cA, n, .inl (upd f k x)))) → va_S A H0 H1 locs1 → W p l e R s m args below meth c H1 locs1 cells slots Q (F0 m (pc + 1) ls rest)) : W p l e R s m args below meth c H locs cells slots Q (F0 m pc ls (.int x :: .int i :: .ref a :: rest)) := by
  subst hi
  refine va_iast hexec hb hK hP hD hS q0 t0 ha ht (vp_in_nI hk.1 hk.2) hdg ?_
  rw [nI_clamp (Nat.lt_trans hk.1 hk.2)]
  exact kk
theorem mk_tabN {x : Int32} (n : Nat) (hn : n < 2 ^ 31) (h : ∀ k : Nat, k < n → x ≠ nI k) : x.toInt < 0 ∨ (n : Int) - 1 < x.toInt := by
  rcases pk_ix x hn with h1 | h1 | ⟨j, hj, e⟩
  · left
    have := Int32.lt_iff_toInt_lt.mp h1
    simpa using this
  · right
    have := Int32.le_iff_toInt_le.mp h1
    rw [nI_toInt hn] at this
    omega
  · exact absurd e (h j hj)
theorem mk_tab6 {x : Int32} (h0 : ¬ x = 0) (h1 : ¬ x = 1) (h2 : ¬ x = 2) (h3 : ¬ x = 3) (h4 : ¬ x = 4) (h5 : ¬ x = 5) : x.toInt < 0 ∨ 5 < x.toInt :=
  mk_tabN 6 (by decide) (fun k hk => by
    rcases (show k = 0 ∨ k = 1 ∨ k = 2 ∨ k = 3 ∨ k = 4 ∨ k = 5 by omega) with rfl | rfl | rfl | rfl | rfl | rfl <;> assumption)
theorem mk_tab8 {x : Int32} (h0 : ¬ x = 0) (h1 : ¬ x = 1) (h2 : ¬ x = 2) (h3 : ¬ x = 3) (h4 : ¬ x = 4) (h5 : ¬ x = 5) (h6 : ¬ x = 6) (h7 : ¬ x = 7) : x.toInt < 0 ∨ 7 < x.toInt :=
  mk_tabN 8 (by decide) (fun k hk => by
    rcases (show k = 0 ∨ k = 1 ∨ k = 2 ∨ k = 3 ∨ k = 4 ∨ k = 5 ∨ k = 6 ∨ k = 7 by omega) with rfl | rfl | rfl | rfl | rfl | rfl | rfl | rfl <;> assumption)
end MKA
theorem mk_eqP {D : va_G} {cl : List vw_C} {w1 w2 : va_W} {H : Heap} (e : w1 = w2) (h : va_P D cl w1 H) : va_P D cl w2 H := e ▸ h
theorem mk_eqD {A : Nat → Prop} {w1 w2 : va_W} (e : w1 = w2) (h : va_D A w1) : va_D A w2 := e ▸ h
/-- a constructor: the new cell w0 becomes the world Wf a, at addresses a -/
def mk_Cv {α : Type} (l : Launch) (y : MethodName) (ws : List Cond) (rm : Room) (D : va_G) (cl : List vw_C) (tys : List (ClassId × FieldType)) (q : Nat) (w0 : va_W) (Wf : α → va_W) (ok : α → Prop) (mc ms : Nat) : Prop := ∀ sz : Nat, Met l y ws rm (va_Pc [.ref q] (mk_pre D cl tys w0 sz)) (va_Qv (fun (a : α) => ok a) (fun a t => va_P D cl (Wf a) t.heap ∧ va_D (va_A w0 sz) (Wf a)) (va_A w0 sz)) mc ms (va_A w0 sz)
section MKC
variable {p : Program} {l : Launch} {e : Env} {R : Room} {s : State} {m : MethodId} {args : Array Value} {below : List Frame} {meth : Method} {c : Code} {H : Heap} {locs : List Loc} {cells slots : Nat} {Q : State → Prop}
variable {y : MethodName} {bytes cc : ByteArray} {maxL nL n index mc ms : Nat} {ws : List Cond} {rm : Room} {Ts : List Cond} {own : String} {b : Nat} {rest st0 : List Value} {pc : Nat} {ls : Array Slot}
variable {D : va_G} {cl : List vw_C} {tys : List (ClassId × FieldType)} {Wr w0 : va_W} {A : Nat → Prop} {H0 : Heap}
theorem mk_init {α : Type} {Wf : α → va_W} {ok : α → Prop} (S : CallFix p m c cc nL s args Ts own) (hM : mk_Cv l y ws rm D cl tys b w0 Wf ok mc ms) (cw : CallB R s args own index y bytes maxL none ws rm mc ms n ∧ y.name = "<init>" ∧ (Cond.instanceMethod y).before args s = true) (hK : va_K D cl tys s) (hP : va_P D cl (Wr ++ w0) H) (hD : va_D A (Wr ++ w0)) (hS : va_S A H0 H locs) (hA : ∀ q, H0.size ≤ q → A q) (hn : 0 = n) (hsize : ls.size = nL) (hst : st0 = .ref b :: rest) (hW : (rest.map fun v => v.category).sum ≤ 8) (hdg : decode cc pc = .ok (.invokespecial index, 3)) (hf : cells + mc ≤ R.cells ∧ slots + ms ≤ R.slots)
    (kk : ∀ (a : α) (H1 : Heap) (locs1 : List Loc), ok a → va_P D cl (Wr ++ Wf a) H1 → va_D A (Wr ++ Wf a) → va_S A H0 H1 locs1 → W p l e R s m args below meth c H1 locs1 (cells + mc) (slots + ms) Q (F0 m (pc + 3) ls rest)) : W p l e R s m args below meth c H locs cells slots Q (F0 m pc ls st0) := by
  have atR : ∀ (k : Nat) (x : Nat × va_E), w0[k]? = some x → (Wr ++ w0)[Wr.length + k]? = some x := fun k x hx => by rw [List.getElem?_append_right (by omega), Nat.add_sub_cancel_left]; exact hx
  have atL : ∀ (k : Nat) (x : Nat × va_E), Wr[k]? = some x → (Wr ++ w0)[k]? = some x := fun k x hx => by rw [List.getElem?_append_left (List.getElem?_eq_some_iff.mp hx).1]; exact hx
  have hPc : va_P D cl w0 H := fun k x hx => hP _ x (atR k x hx)
  have hDc : va_D (fun _ => True) w0 := ⟨fun i j x y hx hy hxy => by have := hD.1 _ _ x y (atR i x hx) (atR j y hy) hxy; omega, fun _ _ _ => trivial⟩
  have hFc : ∀ q, va_A w0 H.size q → A q := by
    intro q h
    rcases h with ⟨k, e, h⟩ | h
    · exact hD.2 _ _ (atR k _ h)
    · exact hA q (Nat.le_trans hS.1 h)
  have apart : ∀ (k : Nat) (x : Nat × va_E), Wr[k]? = some x → x.1 < H.size ∧ ¬ va_A w0 H.size x.1 := by
    intro k x hx
    have hl := (hP k x (atL k x hx)).lt
    refine ⟨hl, fun h => ?_⟩
    rcases h with ⟨k2, e, h⟩ | h
    · have h1 := hD.1 _ _ x (x.1, e) (atL k x hx) (atR k2 _ h) rfl
      have h2 := (List.getElem?_eq_some_iff.mp hx).1
      omega
    · omega
  refine va_callv (va_runI (As := []) (rest := rest) S (hM H.size) cw ⟨mk_blind, fun U hU hW => ⟨rfl, by rw [hU], by rw [hU]; exact hPc, va_K.moved hW.alike hK, hDc⟩⟩ rfl hn hsize hst (lv_room hW) hdg hf) hS (fun q _ h => hFc q h) hFc (fun a t H1 locs1 ht hvm hw hB hz1 hk1 hS1 => ?_)
  obtain ⟨hP1, hD1⟩ := hB
  rw [ht] at hP1
  refine kk a H1 locs1 hw (va_P.app (fun k x hx => ?_) hP1) (va_D.app ⟨fun i j x y hx hy hxy => hD.1 i j x y (atL i x hx) (atL j y hy) hxy, fun k x hx => hD.2 k x (atL k x hx)⟩ (hD1.weaken (fun k x _ h => hFc x.1 h)) (fun i j x y hx hy hxy => ?_)) hS1
  · obtain ⟨g1, g2⟩ := apart k x hx
    exact (hP k x (atL k x hx)).kept (hk1 x.1 g1 g2)
  · exact (apart i x hx).2 (by rw [hxy]; exact hD1.2 j y hy)
theorem mk_newa {ws : va_W} (hexec : p.tables.exec = Jvm.exec) (hb : c.code = cc) {atype : ArrayType} (harr : (Cond.arrayClass (newarray.typeOf atype)).before args s = true) {ty : FieldType} (hty : newarray.typeOf atype = ty) (hK : va_K D cl tys s) (hP : va_P D cl ws H) (hD : va_D A ws) (hS : va_S A H0 H locs) (hA : ∀ q, H0.size ≤ q → A q) (t0 : Nat) {cI : ClassId} (ht : tys[t0]? = some (cI, ty)) (hob : ∀ C, ty ≠ .object C)
    {n : Int32} {N' : Nat} {a0 : vp_A} (ha : ∀ cA : ClassId, vp_cell cA a0 = arrV cA N' (fun _ => defaultValue ty)) (hn : ¬ n < 0) (hN : n.toNatClampNeg = N') (hbytes : N' * componentBytes ty ≤ 536870912) (hcells : cells + 1 ≤ R.cells) (hslots : slots + N' ≤ R.slots) (hdg : decode cc pc = .ok (.newarray atype, 2))
    (kk : ∀ (q : Nat) (H1 : Heap), va_P D cl (ws ++ [(q, .inl (cI, a0))]) H1 → va_D A (ws ++ [(q, .inl (cI, a0))]) → va_S A H0 H1 locs →
      W p l e R s m args below meth c H1 locs (cells + 1) (slots + N') Q (F0 m (pc + 2) ls (.ref q :: rest))) : W p l e R s m args below meth c H locs cells slots Q (F0 m pc ls (.int n :: rest)) := by
  refine va_newa hexec hb harr hty hK hP hD hS hA ha hn hN hbytes hcells hslots hdg (fun q cA H1 hK1 hP1 hD1 hS1 => ?_)
  have h1 := (hK1.2 tys.length (cA, ty) (by rw [List.getElem?_append_right (Nat.le_refl _), Nat.sub_self]; rfl)).2
  have h2 := (hK.2 t0 _ ht).2
  have e : cA = cI := by
    cases ty with
    | object C => exact absurd rfl (hob C)
    | _ => exact Option.some.inj (Eq.trans (Eq.symm h1) h2)
  subst e
  exact kk q H1 hP1 hD1 hS1
theorem mk_newq {ws : va_W} {C : String} (hexec : p.tables.exec = Jvm.exec) (hb : c.code = cc) (hown : s.vm.findClass own = some m.cls) (hclink : (Cond.classLink own index C).before args s = true) (hover : va_AO C s) (hK : va_K D cl tys s) (hP : va_P D cl ws H) (hD : va_D A ws) (hS : va_S A H0 H locs) (hA : ∀ q, H0.size ≤ q → A q) (t0 : Nat) {cI : ClassId} (ht : tys[t0]? = some (cI, .object C))
    {n : Int32} {N' : Nat} (hn : ¬ n < 0) (hN : n.toNatClampNeg = N') (hbytes : N' * 4 ≤ 536870912) (hcells : cells + 1 ≤ R.cells) (hslots : slots + N' ≤ R.slots) (hdg : decode cc pc = .ok (.anewarray index, 3))
    (kk : ∀ (q : Nat) (H1 : Heap), va_P D cl (ws ++ [(q, .inl (cI, N', .inr (.inr (.inr (.inr (fun _ => none))))))]) H1 → va_D A (ws ++ [(q, .inl (cI, N', .inr (.inr (.inr (.inr (fun _ => none))))))]) → va_S A H0 H1 locs →
      W p l e R s m args below meth c H1 locs (cells + 1) (slots + N') Q (F0 m (pc + 3) ls (.ref q :: rest))) : W p l e R s m args below meth c H locs cells slots Q (F0 m pc ls (.int n :: rest)) := by
  refine va_newq hexec hb hown hclink hover hK hP hD hS hA hn hN hbytes hcells hslots hdg (fun q cA H1 hK1 hP1 hD1 hS1 => ?_)
  have h1 := (hK1.2 tys.length (cA, .object C) (by rw [List.getElem?_append_right (Nat.le_refl _), Nat.sub_self]; rfl)).2
  have h2 := (hK.2 t0 _ ht).2
  obtain ⟨k1, m1, -, -, -, e1⟩ := h1
  obtain ⟨k2, m2, -, -, -, e2⟩ := h2
  have e : cA = cI := Option.some.inj (e1.symm.trans e2)
  subst e
  exact kk q H1 hP1 hD1 hS1
end MKC
