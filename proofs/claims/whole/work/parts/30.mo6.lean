set_option maxHeartbeats 4000000 in
set_option maxRecDepth 100000 in
theorem lq_t1 {p : Program} {l : Launch} {e : Env} {s : State} {m : MethodId} {args : Array Value} {below : List Frame} {meth : Method} {cd : Code} {Q : State → Prop} {D : va_G} {g : Nat → ClassId} {A : Nat → Prop} {a : Nat → Nat} {x1 x2 : Int32} (hx : p.tables.exec = Jvm.exec) (hb : cd.code = cMo_tick) (hml : cd.maxLocals = 4) (hown : s.vm.findClass RMo = some m.cls) (hts : ∀ w ∈ wsMo_tick, w.before args s = true) (hK : va_K D vwCl (zty g) s) (hA : ∀ q : Nat, s.heap.size ≤ q → A q) : ∀ (j i : Nat) (M : zMo) (H : Heap) (locs : List Loc) (ls : Array Slot), i + j = xtr (m5 M) → xtr (m5 M) ≤ 4 → xme (m5 M) + j ≤ 64 → va_P D vwCl (wMo g a M) H → va_D A (wMo g a M) → va_S A s.heap H locs → lv_has ls 4 [(3, .int (nI i)), (0, .ref (a 0)), (1, .int x1), (2, .int x2)] → (∀ (H : Heap) (locs : List Loc) (ls : Array Slot), va_P D vwCl (wMo g a (yL yF1 j i M)) H → va_D A (wMo g a (yL yF1 j i M)) → va_S A s.heap H locs → lv_has ls 4 [(0, .ref (a 0)), (1, .int x1), (2, .int x2)] → W p l e ({ frames := 4, cells := 0, slots := 0, locals := 107 }) s m args below meth cd H locs 0 0 Q (F0 m 68 ls [])) → W p l e ({ frames := 4, cells := 0, slots := 0, locals := 107 }) s m args below meth cd H locs 0 0 Q (F0 m 32 ls []) := by
  have htB : ∀ w ∈ BIG, w.before args s = true := fun w h => hts w (List.mem_cons_of_mem _ h)
  intro j
  induction j with
  | zero =>
    intro i M H locs ls hi hm hme hP hD hS hl kk
    refine lv_iload_n hx hb dMo_tick_32 rfl (lv_at hl 0 rfl) ?_
    refine lv_aload_n hx hb dMo_tick_33 rfl (lv_at hl 1 rfl) ?_
    refine va_get (D := D) (ci := iMo) (v := .int (nI (xtr (m5 M)))) (C := RMo) (T := TMo) (N := 32) hx hb htB inBMo hown hK hP 0 rfl rfl 5 (by decide) (htB _ b_375) (fun _ h9 => h9) rfl dMo_tick_34 ?_
    refine lv_icmp_ge (tgt := 68) hx hb dMo_tick_37 (by decide) (fun _ => ?_) (fun c_1 => absurd (nI_le (a := xtr (m5 M)) (b := i) (by omega) (by omega)) c_1)
    exact kk H locs ls hP hD hS (lv_sub hl [1, 2, 3] rfl)
  | succ j ih =>
    intro i M H locs ls hi hm hme hP hD hS hl kk
    refine lv_iload_n hx hb dMo_tick_32 rfl (lv_at hl 0 rfl) ?_
    refine lv_aload_n hx hb dMo_tick_33 rfl (lv_at hl 1 rfl) ?_
    refine va_get (D := D) (ci := iMo) (v := .int (nI (xtr (m5 M)))) (C := RMo) (T := TMo) (N := 32) hx hb htB inBMo hown hK hP 0 rfl rfl 5 (by decide) (htB _ b_375) (fun _ h9 => h9) rfl dMo_tick_34 ?_
    refine lv_icmp_ge (tgt := 68) hx hb dMo_tick_37 (by decide) (fun c_1 => absurd c_1 (nI_ge (a := i) (b := xtr (m5 M)) (by omega) (by omega))) (fun _ => ?_)
    refine lv_aload_n hx hb dMo_tick_40 rfl (lv_at hl 1 rfl) ?_
    refine lv_iconst (v := 0) hx hb dMo_tick_41 (by decide) ?_
    refine lv_iload_n hx hb dMo_tick_42 rfl (lv_at hl 0 rfl) ?_
    refine lv_aload_n hx hb dMo_tick_43 rfl (lv_at hl 1 rfl) ?_
    refine va_get (D := D) (ci := iMo) (v := .ref (a 18)) (C := RMo) (T := TMo) (N := 32) hx hb htB inBMo hown hK hP 0 rfl rfl 18 (by decide) (htB _ b_388) (fun _ h9 => h9) rfl dMo_tick_44 ?_
    refine lv_iload_n hx hb dMo_tick_47 rfl (lv_at hl 0 rfl) ?_
    refine mk_iald (k := i) hx hb hK hP 20 0 rfl rfl rfl ⟨(by omega), by decide⟩ dMo_tick_48 ?_
    refine lv_aload_n hx hb dMo_tick_49 rfl (lv_at hl 1 rfl) ?_
    refine lv_iload_n hx hb dMo_tick_50 rfl (lv_at hl 0 rfl) ?_
    refine mk_rlV (As := [.int (nI i)]) (rest := [.int ((xup (m3 M)) i), .int (nI i), .int 0, .ref (a 0)]) (w := (wMo g a M)) (q0 := (RMo, TMo, 32)) (ci := iMo) ⟨hx, hb, hml, hown, hts⟩ (k_reach l D g a M i (by omega) ) (cwV 1 hts (gd_V b_514 b_516 bp_10 b_6 b_517) rfl rfl rfl (by decide +kernel) ⟨Nat.le_of_ble_eq_true rfl, Nat.le_of_ble_eq_true rfl⟩) hK hP hD hS hA (List.range 28) mo_cutAll mo_ndAll rfl rfl rfl hl.1 rfl (Nat.le_of_ble_eq_true rfl) dMo_tick_51 ⟨Nat.zero_le _, Nat.zero_le _⟩ (fun H locs hP hS => ?_)
    refine lv_aload_n hx hb dMo_tick_54 rfl (lv_at hl 1 rfl) ?_
    refine lv_iload_n hx hb dMo_tick_55 rfl (lv_at hl 0 rfl) ?_
    refine mk_rlV (As := [.int (nI i)]) (rest := [.long (yReach M i), .int ((xup (m3 M)) i), .int (nI i), .int 0, .ref (a 0)]) (w := (wMo g a M)) (q0 := (RMo, TMo, 32)) (ci := iMo) ⟨hx, hb, hml, hown, hts⟩ (k_tail l D g a M i (by omega) ) (cwV 1 hts (gd_V b_518 b_520 bp_11 b_6 b_521) rfl rfl rfl (by decide +kernel) ⟨Nat.le_of_ble_eq_true rfl, Nat.le_of_ble_eq_true rfl⟩) hK hP hD hS hA (List.range 28) mo_cutAll mo_ndAll rfl rfl rfl hl.1 rfl (Nat.le_of_ble_eq_true rfl) dMo_tick_56 ⟨Nat.zero_le _, Nat.zero_le _⟩ (fun H locs hP hS => ?_)
    refine mk_wrV (As := [.int 0, .int (nI i), .int ((xup (m3 M)) i), .long (yReach M i), .long (yTail M i)]) (rest := []) (w := (wMo g a M)) (q0 := (RMo, TMo, 32)) (ci := iMo) (w2 := (wMo g a (ySend M false i ((xup (m3 M)) i) (yReach M i) (yTail M i)))) ⟨hx, hb, hml, hown, hts⟩ (k_send l D g a M false i ((xup (m3 M)) i) (yReach M i) (yTail M i) (by omega)) (cwV 5 hts (gd_V b_522 b_524 bp_12 b_6 b_525) rfl rfl rfl (by decide +kernel) ⟨Nat.le_of_ble_eq_true rfl, Nat.le_of_ble_eq_true rfl⟩) hK hP hD hS hA (List.range 28) mo_cutAll mo_ndAll fst_Mo rfl rfl rfl hl.1 rfl (Nat.le_of_ble_eq_true rfl) dMo_tick_59 ⟨Nat.zero_le _, Nat.zero_le _⟩ (fun H locs hP hD hS => ?_)
    rw [mo_putAll] at hP hD
    have hP : va_P D vwCl (wMo g a (ySend M false i ((xup (m3 M)) i) (yReach M i) (yTail M i))) H := hP
    have hD : va_D A (wMo g a (ySend M false i ((xup (m3 M)) i) (yReach M i) (yTail M i))) := hD
    refine lv_iinc (v := nI (i + 1)) (lv' := [(3, .int (nI (i + 1))), (0, .ref (a 0)), (1, .int x1), (2, .int x2)]) hx hb dMo_tick_62 hl (k := 0) rfl (nI_1 _) (by decide) rfl (fun ls hl => ?_)
    refine lv_goto (tgt := 32) hx hb dMo_tick_65 (by decide) ?_
    have hE : yL yF1 (j + 1) i M = yL yF1 j (i + 1) (ySend M false i ((xup (m3 M)) i) (yReach M i) (yTail M i)) := (by first | rfl | (simp only [yL, yF1] <;> rfl))
    rw [hE] at kk
    exact ih (i + 1) (ySend M false i ((xup (m3 M)) i) (yReach M i) (yTail M i)) H locs ls (by rw [ySend_tr]; omega) (by rw [ySend_tr]; exact hm) (by have e0 := ySend_me (M := M) (z := false) (t := i) (dl := xup (m3 M) i) (f1 := yReach M i) (f2 := yTail M i); omega) hP hD hS (lv_sub hl [0, 1, 2, 3] rfl) kk
set_option maxHeartbeats 4000000 in
set_option maxRecDepth 100000 in
theorem lq_t2 {p : Program} {l : Launch} {e : Env} {s : State} {m : MethodId} {args : Array Value} {below : List Frame} {meth : Method} {cd : Code} {Q : State → Prop} {D : va_G} {g : Nat → ClassId} {A : Nat → Prop} {a : Nat → Nat} {x1 x2 : Int32} (hx : p.tables.exec = Jvm.exec) (hb : cd.code = cMo_tick) (hml : cd.maxLocals = 4) (hown : s.vm.findClass RMo = some m.cls) (hts : ∀ w ∈ wsMo_tick, w.before args s = true) (hK : va_K D vwCl (zty g) s) (hA : ∀ q : Nat, s.heap.size ≤ q → A q) : ∀ (j i : Nat) (M : zMo) (H : Heap) (locs : List Loc) (ls : Array Slot), i + j = xtr (m5 M) → xtr (m5 M) ≤ 4 → va_P D vwCl (wMo g a M) H → va_D A (wMo g a M) → va_S A s.heap H locs → lv_has ls 4 [(3, .int (nI i)), (0, .ref (a 0)), (1, .int x1), (2, .int x2)] → (∀ (H : Heap) (locs : List Loc) (ls : Array Slot), va_P D vwCl (wMo g a (yL yDrive j i M)) H → va_D A (wMo g a (yL yDrive j i M)) → va_S A s.heap H locs → lv_has ls 4 [(0, .ref (a 0)), (1, .int x1), (2, .int x2)] → W p l e ({ frames := 4, cells := 0, slots := 0, locals := 107 }) s m args below meth cd H locs 0 0 Q (F0 m 103 ls [])) → W p l e ({ frames := 4, cells := 0, slots := 0, locals := 107 }) s m args below meth cd H locs 0 0 Q (F0 m 84 ls []) := by
  have htB : ∀ w ∈ BIG, w.before args s = true := fun w h => hts w (List.mem_cons_of_mem _ h)
  intro j
  induction j with
  | zero =>
    intro i M H locs ls hi hm hP hD hS hl kk
    refine lv_iload_n hx hb dMo_tick_84 rfl (lv_at hl 0 rfl) ?_
    refine lv_aload_n hx hb dMo_tick_85 rfl (lv_at hl 1 rfl) ?_
    refine va_get (D := D) (ci := iMo) (v := .int (nI (xtr (m5 M)))) (C := RMo) (T := TMo) (N := 32) hx hb htB inBMo hown hK hP 0 rfl rfl 5 (by decide) (htB _ b_375) (fun _ h9 => h9) rfl dMo_tick_86 ?_
    refine lv_icmp_ge (tgt := 103) hx hb dMo_tick_89 (by decide) (fun _ => ?_) (fun c_1 => absurd (nI_le (a := xtr (m5 M)) (b := i) (by omega) (by omega)) c_1)
    exact kk H locs ls hP hD hS (lv_sub hl [1, 2, 3] rfl)
  | succ j ih =>
    intro i M H locs ls hi hm hP hD hS hl kk
    refine lv_iload_n hx hb dMo_tick_84 rfl (lv_at hl 0 rfl) ?_
    refine lv_aload_n hx hb dMo_tick_85 rfl (lv_at hl 1 rfl) ?_
    refine va_get (D := D) (ci := iMo) (v := .int (nI (xtr (m5 M)))) (C := RMo) (T := TMo) (N := 32) hx hb htB inBMo hown hK hP 0 rfl rfl 5 (by decide) (htB _ b_375) (fun _ h9 => h9) rfl dMo_tick_86 ?_
    refine lv_icmp_ge (tgt := 103) hx hb dMo_tick_89 (by decide) (fun c_1 => absurd c_1 (nI_ge (a := i) (b := xtr (m5 M)) (by omega) (by omega))) (fun _ => ?_)
    refine lv_aload_n hx hb dMo_tick_92 rfl (lv_at hl 1 rfl) ?_
    refine lv_iload_n hx hb dMo_tick_93 rfl (lv_at hl 0 rfl) ?_
    refine mk_wrV (As := [.int (nI i)]) (rest := []) (w := (wMo g a M)) (q0 := (RMo, TMo, 32)) (ci := iMo) (w2 := (wMo g a (yDrive M i))) ⟨hx, hb, hml, hown, hts⟩ (k_drive l D g a M i (by omega)) (cwV 1 hts (gd_V b_547 b_549 bp_18 b_6 b_550) rfl rfl rfl (by decide +kernel) ⟨Nat.le_of_ble_eq_true rfl, Nat.le_of_ble_eq_true rfl⟩) hK hP hD hS hA (List.range 28) mo_cutAll mo_ndAll fst_Mo rfl rfl rfl hl.1 rfl (Nat.le_of_ble_eq_true rfl) dMo_tick_94 ⟨Nat.zero_le _, Nat.zero_le _⟩ (fun H locs hP hD hS => ?_)
    rw [mo_putAll] at hP hD
    have hP : va_P D vwCl (wMo g a (yDrive M i)) H := hP
    have hD : va_D A (wMo g a (yDrive M i)) := hD
    refine lv_iinc (v := nI (i + 1)) (lv' := [(3, .int (nI (i + 1))), (0, .ref (a 0)), (1, .int x1), (2, .int x2)]) hx hb dMo_tick_97 hl (k := 0) rfl (nI_1 _) (by decide) rfl (fun ls hl => ?_)
    refine lv_goto (tgt := 84) hx hb dMo_tick_100 (by decide) ?_
    have hE : yL yDrive (j + 1) i M = yL yDrive j (i + 1) (yDrive M i) := (by first | rfl | (simp only [yL] <;> rfl))
    rw [hE] at kk
    exact ih (i + 1) (yDrive M i) H locs ls (by rw [yDrive_m.1]; omega) (by rw [yDrive_m.1]; exact hm) hP hD hS (lv_sub hl [0, 1, 2, 3] rfl) kk
set_option maxHeartbeats 4000000 in
set_option maxRecDepth 100000 in
theorem lq_tick {p : Program} {l : Launch} {e : Env} {s : State} {m : MethodId} {args : Array Value} {below : List Frame} {meth : Method} {cd : Code} {Q : State → Prop} {D : va_G} {g : Nat → ClassId} {A : Nat → Prop} {a : Nat → Nat} {r : Nat} (hr : r ≤ 8) (hx : p.tables.exec = Jvm.exec) (hb : cd.code = cMo_tick) (hml : cd.maxLocals = 4) (hown : s.vm.findClass RMo = some m.cls) (hts : ∀ w ∈ wsMo_tick, w.before args s = true) (hK : va_K D vwCl (zty g) s) (hA : ∀ q : Nat, s.heap.size ≤ q → A q) : ∀ (j i : Nat) (M : zMo) (H : Heap) (locs : List Loc) (ls : Array Slot), i + j = r → (∀ q, q < j → mB 48 (yTicks q M)) → va_P D vwCl (wMo g a M) H → va_D A (wMo g a M) → va_S A s.heap H locs → lv_has ls 4 [(2, .int (nI i)), (0, .ref (a 0)), (1, .int (nI r))] → (∀ (H : Heap) (locs : List Loc) (ls : Array Slot), va_P D vwCl (wMo g a (yTicks j M)) H → va_D A (wMo g a (yTicks j M)) → va_S A s.heap H locs → lv_has ls 4 [(0, .ref (a 0))] → W p l e ({ frames := 4, cells := 0, slots := 0, locals := 107 }) s m args below meth cd H locs 0 0 Q (F0 m 109 ls [])) → W p l e ({ frames := 4, cells := 0, slots := 0, locals := 107 }) s m args below meth cd H locs 0 0 Q (F0 m 15 ls []) := by
  have htB : ∀ w ∈ BIG, w.before args s = true := fun w h => hts w (List.mem_cons_of_mem _ h)
  intro j
  induction j with
  | zero =>
    intro i M H locs ls hi hH hP hD hS hl kk
    refine lv_iload_n hx hb dMo_tick_15 rfl (lv_at hl 0 rfl) ?_
    refine lv_iload_n hx hb dMo_tick_16 rfl (lv_at hl 2 rfl) ?_
    refine lv_icmp_ge (tgt := 109) hx hb dMo_tick_17 (by decide) (fun _ => ?_) (fun c_1 => absurd (nI_le (a := r) (b := i) (by omega) (by omega)) c_1)
    exact kk H locs ls hP hD hS (lv_sub hl [1] rfl)
  | succ j ih =>
    intro i M H locs ls hi hH hP hD hS hl kk
    refine lv_iload_n hx hb dMo_tick_15 rfl (lv_at hl 0 rfl) ?_
    refine lv_iload_n hx hb dMo_tick_16 rfl (lv_at hl 2 rfl) ?_
    refine lv_icmp_ge (tgt := 109) hx hb dMo_tick_17 (by decide) (fun c_1 => absurd c_1 (nI_ge (a := i) (b := r) (by omega) (by omega))) (fun _ => ?_)
    refine lv_aload_n hx hb dMo_tick_20 rfl (lv_at hl 1 rfl) ?_
    refine lv_dup hx hb dMo_tick_21 rfl ?_
    refine va_get (D := D) (ci := iMo) (v := .int (nI (xck (m5 M)))) (C := RMo) (T := TMo) (N := 32) hx hb htB inBMo hown hK hP 0 rfl rfl 31 (by decide) (htB _ b_401) (fun _ h9 => h9) rfl dMo_tick_22 ?_
    refine lv_iconst (v := 1) hx hb dMo_tick_25 (by decide) ?_
    refine lv_iadd hx hb dMo_tick_26 ?_
    refine lv_topi (fun z_2 e_2 => ?_)
    have e_2 : z_2 = nI ((xck (m5 M)) + 1) := e_2.trans (nI_add (xck (m5 M)) 1)
    subst e_2
    refine va_put (D := D) (ci := iMo) (v := .int (nI ((xck (m5 M)) + 1))) (ty := .int) (C := RMo) (T := TMo) (N := 32) hx hb htB inBMo tyMo tyMo_ok nmMo hown hK hP hD hS 0 rfl rfl 31 (by decide) (htB _ b_401) (fun _ h9 => h9) rfl (by decide +kernel) rfl rfl (Nat.le_of_ble_eq_true rfl) dMo_tick_27 (fun H locs hP hD hS => ?_)
    have hP : va_P D vwCl (wMo g a ((m1 M), (m2 M), (m3 M), (m4 M), ((xtr (m5 M)), (xme (m5 M)), (xlo (m5 M)), (xsl (m5 M)), ((xck (m5 M)) + 1)))) H := hP
    have hD : va_D A (wMo g a ((m1 M), (m2 M), (m3 M), (m4 M), ((xtr (m5 M)), (xme (m5 M)), (xlo (m5 M)), (xsl (m5 M)), ((xck (m5 M)) + 1)))) := hD
    refine lv_iconst (v := 0) hx hb dMo_tick_30 (by decide) ?_
    refine lv_istore_n (lv' := [(3, .int 0), (2, .int (nI i)), (0, .ref (a 0)), (1, .int (nI r))]) hx hb dMo_tick_31 rfl hl (by decide) rfl (fun ls hl => ?_)
    have hP : va_P D vwCl (wMo g a (yClk M)) H := hP
    have hD : va_D A (wMo g a (yClk M)) := hD
    have hB0 : mB 48 M := hH 0 (by omega)
    have hB1 : mB 52 (yL yF1 (xtr (m5 M)) 0 (yClk M)) := mB_1 hB0
    have hB2 : mB 52 (yArr (yL yF1 (xtr (m5 M)) 0 (yClk M)) false) := mB_arr hB1
    have hB3 : mB 56 (yControl (yArr (yL yF1 (xtr (m5 M)) 0 (yClk M)) false)) := mB_con hB2
    have hB4 : mB 56 (yArr (yControl (yArr (yL yF1 (xtr (m5 M)) 0 (yClk M)) false)) true) := mB_arr hB3
    refine lq_t1 (a := a) (x1 := nI r) (x2 := nI i) hx hb hml hown hts hK hA (xtr (m5 M)) 0 (yClk M) _ _ ls (by exact Nat.zero_add _) hB0.1 (by have e0 := hB0.2.1; have e1 := hB0.1; show xme (m5 M) + xtr (m5 M) ≤ 64; omega) hP hD hS (lv_sub hl [0, 2, 3, 1] rfl) (fun H locs ls hP hD hS hl => ?_)
    refine lv_aload_n hx hb dMo_tick_68 rfl (lv_at hl 0 rfl) ?_
    refine lv_iconst (v := 0) hx hb dMo_tick_69 (by decide) ?_
    refine mk_wrV (As := [.int 0]) (rest := []) (w := (wMo g a (yL yF1 (xtr (m5 M)) 0 (yClk M)))) (q0 := (RMo, TMo, 32)) (ci := iMo) (w2 := (wMo g a (yArr (yL yF1 (xtr (m5 M)) 0 (yClk M)) false))) ⟨hx, hb, hml, hown, hts⟩ (k_arrive l D g a (yL yF1 (xtr (m5 M)) 0 (yClk M)) false (Nat.le_trans hB1.2.1 (by decide)) hB1.2.2) (cwV 1 hts (gd_V b_526 b_528 bp_13 b_6 b_529) rfl rfl rfl (by decide +kernel) ⟨Nat.le_of_ble_eq_true rfl, Nat.le_of_ble_eq_true rfl⟩) hK hP hD hS hA (List.range 28) mo_cutAll mo_ndAll fst_Mo rfl rfl rfl hl.1 rfl (Nat.le_of_ble_eq_true rfl) dMo_tick_70 ⟨Nat.zero_le _, Nat.zero_le _⟩ (fun H locs hP hD hS => ?_)
    rw [mo_putAll] at hP hD
    have hP : va_P D vwCl (wMo g a (yArr (yL yF1 (xtr (m5 M)) 0 (yClk M)) false)) H := hP
    have hD : va_D A (wMo g a (yArr (yL yF1 (xtr (m5 M)) 0 (yClk M)) false)) := hD
    refine lv_aload_n hx hb dMo_tick_73 rfl (lv_at hl 0 rfl) ?_
    refine mk_wrV (As := []) (rest := []) (w := (wMo g a (yArr (yL yF1 (xtr (m5 M)) 0 (yClk M)) false))) (q0 := (RMo, TMo, 32)) (ci := iMo) (w2 := (wMo g a (yControl (yArr (yL yF1 (xtr (m5 M)) 0 (yClk M)) false)))) ⟨hx, hb, hml, hown, hts⟩ (k_control l D g a (yArr (yL yF1 (xtr (m5 M)) 0 (yClk M)) false) hB2.1 (Nat.le_trans (Nat.add_le_add_right hB2.2.1 4) (by decide))) (cwV 0 hts (gd_V b_538 b_540 bp_16 b_6 b_541) rfl rfl rfl (by decide +kernel) ⟨Nat.le_of_ble_eq_true rfl, Nat.le_of_ble_eq_true rfl⟩) hK hP hD hS hA (List.range 28) mo_cutAll mo_ndAll fst_Mo rfl rfl rfl hl.1 rfl (Nat.le_of_ble_eq_true rfl) dMo_tick_74 ⟨Nat.zero_le _, Nat.zero_le _⟩ (fun H locs hP hD hS => ?_)
    rw [mo_putAll] at hP hD
    have hP : va_P D vwCl (wMo g a (yControl (yArr (yL yF1 (xtr (m5 M)) 0 (yClk M)) false))) H := hP
    have hD : va_D A (wMo g a (yControl (yArr (yL yF1 (xtr (m5 M)) 0 (yClk M)) false))) := hD
    refine lv_aload_n hx hb dMo_tick_77 rfl (lv_at hl 0 rfl) ?_
    refine lv_iconst (v := 1) hx hb dMo_tick_78 (by decide) ?_
    refine mk_wrV (As := [.int 1]) (rest := []) (w := (wMo g a (yControl (yArr (yL yF1 (xtr (m5 M)) 0 (yClk M)) false)))) (q0 := (RMo, TMo, 32)) (ci := iMo) (w2 := (wMo g a (yArr (yControl (yArr (yL yF1 (xtr (m5 M)) 0 (yClk M)) false)) true))) ⟨hx, hb, hml, hown, hts⟩ (k_arrive l D g a (yControl (yArr (yL yF1 (xtr (m5 M)) 0 (yClk M)) false)) true (Nat.le_trans hB3.2.1 (by decide)) hB3.2.2) (cwV 1 hts (gd_V b_526 b_528 bp_13 b_6 b_529) rfl rfl rfl (by decide +kernel) ⟨Nat.le_of_ble_eq_true rfl, Nat.le_of_ble_eq_true rfl⟩) hK hP hD hS hA (List.range 28) mo_cutAll mo_ndAll fst_Mo rfl rfl rfl hl.1 rfl (Nat.le_of_ble_eq_true rfl) dMo_tick_79 ⟨Nat.zero_le _, Nat.zero_le _⟩ (fun H locs hP hD hS => ?_)
    rw [mo_putAll] at hP hD
    have hP : va_P D vwCl (wMo g a (yArr (yControl (yArr (yL yF1 (xtr (m5 M)) 0 (yClk M)) false)) true)) H := hP
    have hD : va_D A (wMo g a (yArr (yControl (yArr (yL yF1 (xtr (m5 M)) 0 (yClk M)) false)) true)) := hD
    refine lv_iconst (v := 0) hx hb dMo_tick_82 (by decide) ?_
    refine lv_istore_n (lv' := [(3, .int 0), (0, .ref (a 0)), (1, .int (nI r)), (2, .int (nI i))]) hx hb dMo_tick_83 rfl hl (by decide) rfl (fun ls hl => ?_)
    have hT : xtr (m5 (yArr (yControl (yArr (yL yF1 (xtr (m5 M)) 0 (yClk M)) false)) true)) = xtr (m5 M) := (tr_arr hB3).trans (tr_con.trans ((tr_arr hB1).trans tr_1))
    refine lq_t2 (a := a) (x1 := nI r) (x2 := nI i) hx hb hml hown hts hK hA (xtr (m5 M)) 0 (yArr (yControl (yArr (yL yF1 (xtr (m5 M)) 0 (yClk M)) false)) true) _ _ ls (by rw [hT]; exact Nat.zero_add _) hB4.1 hP hD hS (lv_sub hl [0, 1, 2, 3] rfl) (fun H locs ls hP hD hS hl => ?_)
    have hP : va_P D vwCl (wMo g a (ySec M)) H := hP
    have hD : va_D A (wMo g a (ySec M)) := hD
    refine lv_iinc (v := nI (i + 1)) (lv' := [(2, .int (nI (i + 1))), (0, .ref (a 0)), (1, .int (nI r))]) hx hb dMo_tick_103 hl (k := 2) rfl (nI_1 _) (by decide) rfl (fun ls hl => ?_)
    refine lv_goto (tgt := 15) hx hb dMo_tick_106 (by decide) ?_
    have hE : yTicks (j + 1) M = yTicks j (ySec M) := (by first | rfl | (simp only [yTicks] <;> rfl))
    rw [hE] at kk
    exact ih (i + 1) (ySec M) H locs ls (by omega) (fun q hq => hH (q + 1) (by omega)) hP hD hS (lv_sub hl [0, 1, 2] rfl) kk
set_option maxHeartbeats 4000000 in
set_option maxRecDepth 100000 in
/-- tick -/
theorem k_tick (l : Launch) (D : va_G) (g : Nat → ClassId) (a : Nat → Nat) (M : zMo) (n : Int32) (hH : ∀ q, q < 8 → mB 48 (yTicks q M)) : mk_Wi l yMo_tick wsMo_tick ({ frames := 4, cells := 0, slots := 0, locals := 107 }) D vwCl (zty g) [.ref (a 0), .int n] (wMo g a M) (wMo g a (yTick M n).2) ((yTick M n).1) := by
  intro sz
  refine Met.ofW (cc := cMo_tick) (maxL := 4) (ret := (some .int)) (by decide) rfl ?_
  intro p e s m args below meth cd s₁ B hml hv
  obtain ⟨rfl, hsz, hP, hK, hD0⟩ := hv
  have hx := B.exec
  have hb := B.bytes
  have hr := B.returns
  have hts := atoms_spec (ws := wsMo_tick) B.pre
  have htB := fun (w : Cond) (h : w ∈ BIG) => hts w (List.mem_cons_of_mem _ h)
  have hown : s.vm.findClass RMo = some m.cls := findClass_of_methodNamed B.named
  have hlocks := B.notSynchronized
  subst hsz
  have hD := hD0.self (sz := s.heap.size)
  generalize hAe : va_A (wMo g a M) s.heap.size = A at hD ⊢
  have hA : ∀ q : Nat, s.heap.size ≤ q → A q := fun q h => by rw [← hAe]; exact Or.inr h
  have hS : va_S A s.heap s.heap [] := va_S.rf
  have hl := lv_entry ([.ref (a 0), .int n]) (n := 4) (Nat.le_of_ble_eq_true rfl)
  rw [lg_entry_eq]
  generalize (lg_sl ([.ref (a 0), .int n]) ++ List.replicate (4 - (lg_sl ([.ref (a 0), .int n])).length) Slot.unset).toArray = ls at hl ⊢
  have hl : lv_has ls 4 [(0, .ref (a 0)), (1, .int n)] := hl
  have hP : va_P D vwCl (wMo g a M) s.heap := hP
  refine lv_iload_n hx hb dMo_tick_0 rfl (lv_at hl 1 rfl) ?_
  refine lv_iconst (v := 1) hx hb dMo_tick_1 (by decide) ?_
  refine lv_bipush (v := 8) hx hb dMo_tick_2 (by decide) ?_
  refine mk_rdS (As := [.int n, .int 1, .int 8]) (rest := []) (w := []) ⟨hx, hb, hml, hown, hts⟩ (k_in l D g n 1 8) (va_cwS 3 hts (gd_S b_472 b_473 b_6 b_474) rfl rfl rfl (by decide +kernel) ⟨Nat.le_of_ble_eq_true rfl, Nat.le_of_ble_eq_true rfl⟩) hK hP hD hS hA [] rfl rfl rfl hl.1 rfl (Nat.le_of_ble_eq_true rfl) dMo_tick_4 ⟨Nat.zero_le _, Nat.zero_le _⟩ (fun H locs hP hS => ?_)
  refine lv_if_ne (tgt := 13) hx hb dMo_tick_7 (by decide) (fun c_1 => ?_) (fun c_1 => ?_)
  · refine lv_iconst (v := 0) hx hb dMo_tick_13 (by decide) ?_
    refine lv_istore_n (lv' := [(2, .int 0), (0, .ref (a 0)), (1, .int n)]) hx hb dMo_tick_14 rfl hl (by decide) rfl (fun ls hl => ?_)
    have hE0 : n = nI n.toNatClampNeg ∧ n.toNatClampNeg ≤ 8 := mtick_ix c_1
    have hl : lv_has ls 4 [(2, .int (nI 0)), (0, .ref (a 0)), (1, .int (nI n.toNatClampNeg))] := by rw [← hE0.1]; exact lv_sub hl [0, 1, 2] rfl
    refine lq_tick (a := a) (r := n.toNatClampNeg) hE0.2 hx hb hml hown hts hK hA n.toNatClampNeg 0 M _ _ ls (by omega) (fun q hq => hH q (by omega)) hP hD hS hl (fun H locs ls hP hD hS hl => ?_)
    refine lv_aload_n hx hb dMo_tick_109 rfl (lv_at hl 0 rfl) ?_
    refine va_get (D := D) (ci := iMo) (v := .int (nI (xck (m5 (yTicks n.toNatClampNeg M))))) (C := RMo) (T := TMo) (N := 32) hx hb htB inBMo hown hK hP 0 rfl rfl 31 (by decide) (htB _ b_401) (fun _ h9 => h9) rfl dMo_tick_110 ?_
    have hE : wMo g a (yTick M n).2 = wMo g a (yTicks n.toNatClampNeg M) := (by first | (simp only [yTick, if_neg c_1] <;> rfl) | exact ((if_neg c_1).trans (rfl)).symm)
    exact W.iret (v := nI (xck (m5 (yTicks n.toNatClampNeg M)))) hx hb hr (fun t9 ht hW => ⟨⟨nI (xck (m5 (yTicks n.toNatClampNeg M))), (), rfl, (by first | (simp only [yTick, if_neg c_1] <;> rfl) | exact ((if_neg c_1).trans (rfl)).symm), mk_end ht hE hP⟩, hS.F ht⟩) hS.2.2 dMo_tick_113
  · refine lv_ldc (v := (-1000000)) hx hb hown (htB _ b_475) dMo_tick_10 ?_
    have hE : wMo g a (yTick M n).2 = wMo g a M := (by first | (simp only [yTick, if_pos c_1] <;> rfl) | exact ((if_pos c_1).trans (rfl)).symm)
    exact W.iret (v := (-1000000)) hx hb hr (fun t9 ht hW => ⟨⟨(-1000000), (), rfl, (by first | (simp only [yTick, if_pos c_1] <;> rfl) | exact ((if_pos c_1).trans (rfl)).symm), mk_end ht hE hP⟩, hS.F ht⟩) hS.2.2 dMo_tick_12
