set_option maxHeartbeats 8000000 in
set_option maxRecDepth 100000 in
theorem c_Ch_init (l : Launch) (D : va_G) (g : Nat → ClassId) (q : Nat) : mk_Cv l yCh_init wsCh_init ({ frames := 1, cells := 4, slots := 20, locals := 12 }) D vwCl (zty g) q ([(q, .inr (iCh, [.null, .null, .null, .null, .int 0, .int 0, .int 0, .int 0, .int 0, .int 0]))]) (fun a : Nat → Nat => wCh g a zc0) (fun a => a 0 = q) 4 20 := by
  intro sz
  refine Met.ofW (cc := cCh_init) (maxL := 1) (ret := none) (by decide) rfl ?_
  intro p e s m args below meth cd s₁ B hml hv
  obtain ⟨rfl, hsz, hP, hK, hD0⟩ := hv
  have hx := B.exec
  have hb := B.bytes
  have hr := B.returns
  have hts := atoms_spec (ws := wsCh_init) B.pre
  have htB := fun (w : Cond) (h : w ∈ BIG) => hts w (List.mem_cons_of_mem _ h)
  have hown : s.vm.findClass RCh = some m.cls := findClass_of_methodNamed B.named
  have hlocks := B.notSynchronized
  have hin : meth.name = "<init>" := (name_of_methodNamed B.named B.method).1
  subst hsz
  have hD := hD0.self (sz := s.heap.size)
  generalize hAe : va_A ([(q, .inr (iCh, [.null, .null, .null, .null, .int 0, .int 0, .int 0, .int 0, .int 0, .int 0]))]) s.heap.size = A at hD ⊢
  have hA : ∀ q : Nat, s.heap.size ≤ q → A q := fun q h => by rw [← hAe]; exact Or.inr h
  have hS : va_S A s.heap s.heap [] := va_S.rf
  have hl := lv_entry ([.ref q]) (n := 1) (Nat.le_of_ble_eq_true rfl)
  rw [lg_entry_eq]
  generalize (lg_sl ([.ref q]) ++ List.replicate (1 - (lg_sl ([.ref q])).length) Slot.unset).toArray = ls at hl ⊢
  have hl : lv_has ls 1 [(0, .ref q)] := hl
  have hP : va_P D vwCl ([(q, .inr (iCh, [.null, .null, .null, .null, .int 0, .int 0, .int 0, .int 0, .int 0, .int 0]))]) s.heap := hP
  refine lv_aload_n hx hb dCh_init_0 rfl (lv_at hl 0 rfl) ?_
  refine W.objInit hx hb hown (htB _ b_66) (htB _ b_14) (htB _ b_15) rfl (by rw [hml]; exact hl.1) rfl dCh_init_1 (Nat.le_of_ble_eq_true rfl) (Nat.le_of_ble_eq_true rfl) ?_
  refine W.eq (g2 := F0 m 4 ls []) rfl ?_
  refine lv_aload_n hx hb dCh_init_4 rfl (lv_at hl 0 rfl) ?_
  refine lv_iconst (v := 5) hx hb dCh_init_5 (by decide) ?_
  refine mk_newa (atype := .int) (ty := .int) (a0 := (5, .inl (fun _ => 0))) hx hb (htB _ b_32) rfl hK hP hD hS hA 0 rfl (fun C h => by cases h) (fun _ => rfl) (by decide) (by decide) (by decide) (Nat.le_of_ble_eq_true rfl) (Nat.le_of_ble_eq_true rfl) dCh_init_6 (fun q6 H hP hD hS => ?_)
  have hP : va_P D vwCl ([(q, .inr (iCh, [.null, .null, .null, .null, .int 0, .int 0, .int 0, .int 0, .int 0, .int 0])), (q6, .inl (g 0, 5, .inl (fun _ => 0)))]) H := hP
  have hD : va_D A ([(q, .inr (iCh, [.null, .null, .null, .null, .int 0, .int 0, .int 0, .int 0, .int 0, .int 0])), (q6, .inl (g 0, 5, .inl (fun _ => 0)))]) := hD
  refine W.widen (k := 1) (n := 5) (by omega) (by omega) ?_
  refine va_putF (D := D) (ci := iCh) (v := .ref q6) (ty := (.array .int)) (C := RCh) (T := TCh) (N := 10) hx hb htB inBCh tyCh tyCh_ok nmCh hown hK hP hD hS 0 rfl rfl 0 (by decide) (htB _ b_67) (fun _ h9 => h9) rfl hin rfl (by decide +kernel) rfl rfl (Nat.le_of_ble_eq_true rfl) dCh_init_8 (fun H locs hP hD hS => ?_)
  have hP : va_P D vwCl ([(q, .inr (iCh, [.ref q6, .null, .null, .null, .int 0, .int 0, .int 0, .int 0, .int 0, .int 0])), (q6, .inl (g 0, 5, .inl (fun _ => 0)))]) H := hP
  have hD : va_D A ([(q, .inr (iCh, [.ref q6, .null, .null, .null, .int 0, .int 0, .int 0, .int 0, .int 0, .int 0])), (q6, .inl (g 0, 5, .inl (fun _ => 0)))]) := hD
  refine lv_aload_n hx hb dCh_init_11 rfl (lv_at hl 0 rfl) ?_
  refine lv_iconst (v := 5) hx hb dCh_init_12 (by decide) ?_
  refine mk_newa (atype := .int) (ty := .int) (a0 := (5, .inl (fun _ => 0))) hx hb (htB _ b_32) rfl hK hP hD hS hA 0 rfl (fun C h => by cases h) (fun _ => rfl) (by decide) (by decide) (by decide) (Nat.le_of_ble_eq_true rfl) (Nat.le_of_ble_eq_true rfl) dCh_init_13 (fun q13 H hP hD hS => ?_)
  have hP : va_P D vwCl ([(q, .inr (iCh, [.ref q6, .null, .null, .null, .int 0, .int 0, .int 0, .int 0, .int 0, .int 0])), (q6, .inl (g 0, 5, .inl (fun _ => 0))), (q13, .inl (g 0, 5, .inl (fun _ => 0)))]) H := hP
  have hD : va_D A ([(q, .inr (iCh, [.ref q6, .null, .null, .null, .int 0, .int 0, .int 0, .int 0, .int 0, .int 0])), (q6, .inl (g 0, 5, .inl (fun _ => 0))), (q13, .inl (g 0, 5, .inl (fun _ => 0)))]) := hD
  refine W.widen (k := 2) (n := 10) (by omega) (by omega) ?_
  refine va_putF (D := D) (ci := iCh) (v := .ref q13) (ty := (.array .int)) (C := RCh) (T := TCh) (N := 10) hx hb htB inBCh tyCh tyCh_ok nmCh hown hK hP hD hS 0 rfl rfl 1 (by decide) (htB _ b_68) (fun _ h9 => h9) rfl hin rfl (by decide +kernel) rfl rfl (Nat.le_of_ble_eq_true rfl) dCh_init_15 (fun H locs hP hD hS => ?_)
  have hP : va_P D vwCl ([(q, .inr (iCh, [.ref q6, .ref q13, .null, .null, .int 0, .int 0, .int 0, .int 0, .int 0, .int 0])), (q6, .inl (g 0, 5, .inl (fun _ => 0))), (q13, .inl (g 0, 5, .inl (fun _ => 0)))]) H := hP
  have hD : va_D A ([(q, .inr (iCh, [.ref q6, .ref q13, .null, .null, .int 0, .int 0, .int 0, .int 0, .int 0, .int 0])), (q6, .inl (g 0, 5, .inl (fun _ => 0))), (q13, .inl (g 0, 5, .inl (fun _ => 0)))]) := hD
  refine lv_aload_n hx hb dCh_init_18 rfl (lv_at hl 0 rfl) ?_
  refine lv_iconst (v := 5) hx hb dCh_init_19 (by decide) ?_
  refine mk_newa (atype := .int) (ty := .int) (a0 := (5, .inl (fun _ => 0))) hx hb (htB _ b_32) rfl hK hP hD hS hA 0 rfl (fun C h => by cases h) (fun _ => rfl) (by decide) (by decide) (by decide) (Nat.le_of_ble_eq_true rfl) (Nat.le_of_ble_eq_true rfl) dCh_init_20 (fun q20 H hP hD hS => ?_)
  have hP : va_P D vwCl ([(q, .inr (iCh, [.ref q6, .ref q13, .null, .null, .int 0, .int 0, .int 0, .int 0, .int 0, .int 0])), (q6, .inl (g 0, 5, .inl (fun _ => 0))), (q13, .inl (g 0, 5, .inl (fun _ => 0))), (q20, .inl (g 0, 5, .inl (fun _ => 0)))]) H := hP
  have hD : va_D A ([(q, .inr (iCh, [.ref q6, .ref q13, .null, .null, .int 0, .int 0, .int 0, .int 0, .int 0, .int 0])), (q6, .inl (g 0, 5, .inl (fun _ => 0))), (q13, .inl (g 0, 5, .inl (fun _ => 0))), (q20, .inl (g 0, 5, .inl (fun _ => 0)))]) := hD
  refine W.widen (k := 3) (n := 15) (by omega) (by omega) ?_
  refine va_putF (D := D) (ci := iCh) (v := .ref q20) (ty := (.array .int)) (C := RCh) (T := TCh) (N := 10) hx hb htB inBCh tyCh tyCh_ok nmCh hown hK hP hD hS 0 rfl rfl 2 (by decide) (htB _ b_69) (fun _ h9 => h9) rfl hin rfl (by decide +kernel) rfl rfl (Nat.le_of_ble_eq_true rfl) dCh_init_22 (fun H locs hP hD hS => ?_)
  have hP : va_P D vwCl ([(q, .inr (iCh, [.ref q6, .ref q13, .ref q20, .null, .int 0, .int 0, .int 0, .int 0, .int 0, .int 0])), (q6, .inl (g 0, 5, .inl (fun _ => 0))), (q13, .inl (g 0, 5, .inl (fun _ => 0))), (q20, .inl (g 0, 5, .inl (fun _ => 0)))]) H := hP
  have hD : va_D A ([(q, .inr (iCh, [.ref q6, .ref q13, .ref q20, .null, .int 0, .int 0, .int 0, .int 0, .int 0, .int 0])), (q6, .inl (g 0, 5, .inl (fun _ => 0))), (q13, .inl (g 0, 5, .inl (fun _ => 0))), (q20, .inl (g 0, 5, .inl (fun _ => 0)))]) := hD
  refine lv_aload_n hx hb dCh_init_25 rfl (lv_at hl 0 rfl) ?_
  refine lv_iconst (v := 5) hx hb dCh_init_26 (by decide) ?_
  refine mk_newa (atype := .int) (ty := .int) (a0 := (5, .inl (fun _ => 0))) hx hb (htB _ b_32) rfl hK hP hD hS hA 0 rfl (fun C h => by cases h) (fun _ => rfl) (by decide) (by decide) (by decide) (Nat.le_of_ble_eq_true rfl) (Nat.le_of_ble_eq_true rfl) dCh_init_27 (fun q27 H hP hD hS => ?_)
  have hP : va_P D vwCl ([(q, .inr (iCh, [.ref q6, .ref q13, .ref q20, .null, .int 0, .int 0, .int 0, .int 0, .int 0, .int 0])), (q6, .inl (g 0, 5, .inl (fun _ => 0))), (q13, .inl (g 0, 5, .inl (fun _ => 0))), (q20, .inl (g 0, 5, .inl (fun _ => 0))), (q27, .inl (g 0, 5, .inl (fun _ => 0)))]) H := hP
  have hD : va_D A ([(q, .inr (iCh, [.ref q6, .ref q13, .ref q20, .null, .int 0, .int 0, .int 0, .int 0, .int 0, .int 0])), (q6, .inl (g 0, 5, .inl (fun _ => 0))), (q13, .inl (g 0, 5, .inl (fun _ => 0))), (q20, .inl (g 0, 5, .inl (fun _ => 0))), (q27, .inl (g 0, 5, .inl (fun _ => 0)))]) := hD
  refine W.widen (k := 4) (n := 20) (by omega) (by omega) ?_
  refine va_putF (D := D) (ci := iCh) (v := .ref q27) (ty := (.array .int)) (C := RCh) (T := TCh) (N := 10) hx hb htB inBCh tyCh tyCh_ok nmCh hown hK hP hD hS 0 rfl rfl 3 (by decide) (htB _ b_70) (fun _ h9 => h9) rfl hin rfl (by decide +kernel) rfl rfl (Nat.le_of_ble_eq_true rfl) dCh_init_29 (fun H locs hP hD hS => ?_)
  have hP : va_P D vwCl ([(q, .inr (iCh, [.ref q6, .ref q13, .ref q20, .ref q27, .int 0, .int 0, .int 0, .int 0, .int 0, .int 0])), (q6, .inl (g 0, 5, .inl (fun _ => 0))), (q13, .inl (g 0, 5, .inl (fun _ => 0))), (q20, .inl (g 0, 5, .inl (fun _ => 0))), (q27, .inl (g 0, 5, .inl (fun _ => 0)))]) H := hP
  have hD : va_D A ([(q, .inr (iCh, [.ref q6, .ref q13, .ref q20, .ref q27, .int 0, .int 0, .int 0, .int 0, .int 0, .int 0])), (q6, .inl (g 0, 5, .inl (fun _ => 0))), (q13, .inl (g 0, 5, .inl (fun _ => 0))), (q20, .inl (g 0, 5, .inl (fun _ => 0))), (q27, .inl (g 0, 5, .inl (fun _ => 0)))]) := hD
  refine lv_aload_n hx hb dCh_init_32 rfl (lv_at hl 0 rfl) ?_
  refine lv_iconst (v := 1) hx hb dCh_init_33 (by decide) ?_
  refine va_put (D := D) (ci := iCh) (v := .int 1) (ty := (.int)) (C := RCh) (T := TCh) (N := 10) hx hb htB inBCh tyCh tyCh_ok nmCh hown hK hP hD hS 0 rfl rfl 4 (by decide) (htB _ b_71) (fun _ h9 => h9) rfl (by decide +kernel) rfl rfl (Nat.le_of_ble_eq_true rfl) dCh_init_34 (fun H locs hP hD hS => ?_)
  have hP : va_P D vwCl ([(q, .inr (iCh, [.ref q6, .ref q13, .ref q20, .ref q27, .int 1, .int 0, .int 0, .int 0, .int 0, .int 0])), (q6, .inl (g 0, 5, .inl (fun _ => 0))), (q13, .inl (g 0, 5, .inl (fun _ => 0))), (q20, .inl (g 0, 5, .inl (fun _ => 0))), (q27, .inl (g 0, 5, .inl (fun _ => 0)))]) H := hP
  have hD : va_D A ([(q, .inr (iCh, [.ref q6, .ref q13, .ref q20, .ref q27, .int 1, .int 0, .int 0, .int 0, .int 0, .int 0])), (q6, .inl (g 0, 5, .inl (fun _ => 0))), (q13, .inl (g 0, 5, .inl (fun _ => 0))), (q20, .inl (g 0, 5, .inl (fun _ => 0))), (q27, .inl (g 0, 5, .inl (fun _ => 0)))]) := hD
  exact W.vret hx hb hr (fun t9 ht hW => ⟨⟨(fun k => if k = 0 then q else if k = 1 then q6 else if k = 2 then q13 else if k = 3 then q20 else q27), rfl, rfl, mk_end ht rfl hP, hD⟩, hS.F ht⟩) hS.2.2 dCh_init_37
set_option maxHeartbeats 8000000 in
set_option maxRecDepth 100000 in
theorem c_Tk_init (l : Launch) (D : va_G) (g : Nat → ClassId) (q : Nat) : mk_Cv l yTk_init wsTk_init ({ frames := 1, cells := 2, slots := 16, locals := 12 }) D vwCl (zty g) q ([(q, .inr (iTk, [.null, .null]))]) (fun a : Nat → Nat => wTk g a zk0) (fun a => a 0 = q) 2 16 := by
  intro sz
  refine Met.ofW (cc := cTk_init) (maxL := 2) (ret := none) (by decide) rfl ?_
  intro p e s m args below meth cd s₁ B hml hv
  obtain ⟨rfl, hsz, hP, hK, hD0⟩ := hv
  have hx := B.exec
  have hb := B.bytes
  have hr := B.returns
  have hts := atoms_spec (ws := wsTk_init) B.pre
  have htB := fun (w : Cond) (h : w ∈ BIG) => hts w (List.mem_cons_of_mem _ h)
  have hown : s.vm.findClass RTk = some m.cls := findClass_of_methodNamed B.named
  have hlocks := B.notSynchronized
  have hin : meth.name = "<init>" := (name_of_methodNamed B.named B.method).1
  subst hsz
  have hD := hD0.self (sz := s.heap.size)
  generalize hAe : va_A ([(q, .inr (iTk, [.null, .null]))]) s.heap.size = A at hD ⊢
  have hA : ∀ q : Nat, s.heap.size ≤ q → A q := fun q h => by rw [← hAe]; exact Or.inr h
  have hS : va_S A s.heap s.heap [] := va_S.rf
  have hl := lv_entry ([.ref q]) (n := 2) (Nat.le_of_ble_eq_true rfl)
  rw [lg_entry_eq]
  generalize (lg_sl ([.ref q]) ++ List.replicate (2 - (lg_sl ([.ref q])).length) Slot.unset).toArray = ls at hl ⊢
  have hl : lv_has ls 2 [(0, .ref q)] := hl
  have hP : va_P D vwCl ([(q, .inr (iTk, [.null, .null]))]) s.heap := hP
  refine lv_aload_n hx hb dTk_init_0 rfl (lv_at hl 0 rfl) ?_
  refine W.objInit hx hb hown (htB _ b_21) (htB _ b_14) (htB _ b_15) rfl (by rw [hml]; exact hl.1) rfl dTk_init_1 (Nat.le_of_ble_eq_true rfl) (Nat.le_of_ble_eq_true rfl) ?_
  refine W.eq (g2 := F0 m 4 ls []) rfl ?_
  refine lv_aload_n hx hb dTk_init_4 rfl (lv_at hl 0 rfl) ?_
  refine lv_bipush (v := 8) hx hb dTk_init_5 (by decide) ?_
  refine mk_newa (atype := .int) (ty := .int) (a0 := (8, .inl (fun _ => 0))) hx hb (htB _ b_32) rfl hK hP hD hS hA 0 rfl (fun C h => by cases h) (fun _ => rfl) (by decide) (by decide) (by decide) (Nat.le_of_ble_eq_true rfl) (Nat.le_of_ble_eq_true rfl) dTk_init_7 (fun q7 H hP hD hS => ?_)
  have hP : va_P D vwCl ([(q, .inr (iTk, [.null, .null])), (q7, .inl (g 0, 8, .inl (fun _ => 0)))]) H := hP
  have hD : va_D A ([(q, .inr (iTk, [.null, .null])), (q7, .inl (g 0, 8, .inl (fun _ => 0)))]) := hD
  refine W.widen (k := 1) (n := 8) (by omega) (by omega) ?_
  refine va_putF (D := D) (ci := iTk) (v := .ref q7) (ty := (.array .int)) (C := RTk) (T := TTk) (N := 2) hx hb htB inBTk tyTk tyTk_ok nmTk hown hK hP hD hS 0 rfl rfl 0 (by decide) (htB _ b_22) (fun _ h9 => h9) rfl hin rfl (by decide +kernel) rfl rfl (Nat.le_of_ble_eq_true rfl) dTk_init_9 (fun H locs hP hD hS => ?_)
  have hP : va_P D vwCl ([(q, .inr (iTk, [.ref q7, .null])), (q7, .inl (g 0, 8, .inl (fun _ => 0)))]) H := hP
  have hD : va_D A ([(q, .inr (iTk, [.ref q7, .null])), (q7, .inl (g 0, 8, .inl (fun _ => 0)))]) := hD
  refine lv_aload_n hx hb dTk_init_12 rfl (lv_at hl 0 rfl) ?_
  refine lv_bipush (v := 8) hx hb dTk_init_13 (by decide) ?_
  refine mk_newa (atype := .int) (ty := .int) (a0 := (8, .inl (fun _ => 0))) hx hb (htB _ b_32) rfl hK hP hD hS hA 0 rfl (fun C h => by cases h) (fun _ => rfl) (by decide) (by decide) (by decide) (Nat.le_of_ble_eq_true rfl) (Nat.le_of_ble_eq_true rfl) dTk_init_15 (fun q15 H hP hD hS => ?_)
  have hP : va_P D vwCl ([(q, .inr (iTk, [.ref q7, .null])), (q7, .inl (g 0, 8, .inl (fun _ => 0))), (q15, .inl (g 0, 8, .inl (fun _ => 0)))]) H := hP
  have hD : va_D A ([(q, .inr (iTk, [.ref q7, .null])), (q7, .inl (g 0, 8, .inl (fun _ => 0))), (q15, .inl (g 0, 8, .inl (fun _ => 0)))]) := hD
  refine W.widen (k := 2) (n := 16) (by omega) (by omega) ?_
  refine va_putF (D := D) (ci := iTk) (v := .ref q15) (ty := (.array .int)) (C := RTk) (T := TTk) (N := 2) hx hb htB inBTk tyTk tyTk_ok nmTk hown hK hP hD hS 0 rfl rfl 1 (by decide) (htB _ b_24) (fun _ h9 => h9) rfl hin rfl (by decide +kernel) rfl rfl (Nat.le_of_ble_eq_true rfl) dTk_init_17 (fun H locs hP hD hS => ?_)
  have hP : va_P D vwCl ([(q, .inr (iTk, [.ref q7, .ref q15])), (q7, .inl (g 0, 8, .inl (fun _ => 0))), (q15, .inl (g 0, 8, .inl (fun _ => 0)))]) H := hP
  have hD : va_D A ([(q, .inr (iTk, [.ref q7, .ref q15])), (q7, .inl (g 0, 8, .inl (fun _ => 0))), (q15, .inl (g 0, 8, .inl (fun _ => 0)))]) := hD
  refine lv_iconst (v := 0) hx hb dTk_init_20 (by decide) ?_
  refine lv_istore_n (lv' := [(1, .int 0), (0, .ref q)]) hx hb dTk_init_21 rfl hl (by decide) rfl (fun ls hl => ?_)
  refine lv_iload_n hx hb dTk_init_22 rfl (lv_at hl 0 rfl) ?_
  refine lv_bipush (v := 8) hx hb dTk_init_23 (by decide) ?_
  refine lv_icmp_ge (tgt := 43) hx hb dTk_init_25 (by decide) (fun c_1 => absurd c_1 (by decide)) (fun _ => ?_)
  refine lv_aload_n hx hb dTk_init_28 rfl (lv_at hl 1 rfl) ?_
  refine va_get (D := D) (ci := iTk) (v := .ref q7) (C := RTk) (T := TTk) (N := 2) hx hb htB inBTk hown hK hP 0 rfl rfl 0 (by decide) (htB _ b_22) (fun _ h9 => h9) rfl dTk_init_29 ?_
  refine lv_iload_n hx hb dTk_init_32 rfl (lv_at hl 0 rfl) ?_
  refine lv_sipush (v := 320) hx hb dTk_init_33 (by decide) ?_
  refine mk_iast (k := 0) hx hb hK hP hD hS 1 0 rfl rfl rfl (by decide) dTk_init_36 (fun H locs hP hD hS => ?_)
  have hP : va_P D vwCl ([(q, .inr (iTk, [.ref q7, .ref q15])), (q7, .inl (g 0, 8, .inl (upd (fun _ => 0) 0 320))), (q15, .inl (g 0, 8, .inl (fun _ => 0)))]) H := hP
  have hD : va_D A ([(q, .inr (iTk, [.ref q7, .ref q15])), (q7, .inl (g 0, 8, .inl (upd (fun _ => 0) 0 320))), (q15, .inl (g 0, 8, .inl (fun _ => 0)))]) := hD
  refine lv_iinc (v := 1) (lv' := [(1, .int 1), (0, .ref q)]) hx hb dTk_init_37 hl (k := 0) rfl (by decide) (by decide) rfl (fun ls hl => ?_)
  refine lv_goto (tgt := 22) hx hb dTk_init_40 (by decide) ?_
  refine lv_iload_n hx hb dTk_init_22 rfl (lv_at hl 0 rfl) ?_
  refine lv_bipush (v := 8) hx hb dTk_init_23 (by decide) ?_
  refine lv_icmp_ge (tgt := 43) hx hb dTk_init_25 (by decide) (fun c_2 => absurd c_2 (by decide)) (fun _ => ?_)
  refine lv_aload_n hx hb dTk_init_28 rfl (lv_at hl 1 rfl) ?_
  refine va_get (D := D) (ci := iTk) (v := .ref q7) (C := RTk) (T := TTk) (N := 2) hx hb htB inBTk hown hK hP 0 rfl rfl 0 (by decide) (htB _ b_22) (fun _ h9 => h9) rfl dTk_init_29 ?_
  refine lv_iload_n hx hb dTk_init_32 rfl (lv_at hl 0 rfl) ?_
  refine lv_sipush (v := 320) hx hb dTk_init_33 (by decide) ?_
  refine mk_iast (k := 1) hx hb hK hP hD hS 1 0 rfl rfl rfl (by decide) dTk_init_36 (fun H locs hP hD hS => ?_)
  have hP : va_P D vwCl ([(q, .inr (iTk, [.ref q7, .ref q15])), (q7, .inl (g 0, 8, .inl (upd (upd (fun _ => 0) 0 320) 1 320))), (q15, .inl (g 0, 8, .inl (fun _ => 0)))]) H := hP
  have hD : va_D A ([(q, .inr (iTk, [.ref q7, .ref q15])), (q7, .inl (g 0, 8, .inl (upd (upd (fun _ => 0) 0 320) 1 320))), (q15, .inl (g 0, 8, .inl (fun _ => 0)))]) := hD
  refine lv_iinc (v := 2) (lv' := [(1, .int 2), (0, .ref q)]) hx hb dTk_init_37 hl (k := 0) rfl (by decide) (by decide) rfl (fun ls hl => ?_)
  refine lv_goto (tgt := 22) hx hb dTk_init_40 (by decide) ?_
  refine lv_iload_n hx hb dTk_init_22 rfl (lv_at hl 0 rfl) ?_
  refine lv_bipush (v := 8) hx hb dTk_init_23 (by decide) ?_
  refine lv_icmp_ge (tgt := 43) hx hb dTk_init_25 (by decide) (fun c_3 => absurd c_3 (by decide)) (fun _ => ?_)
  refine lv_aload_n hx hb dTk_init_28 rfl (lv_at hl 1 rfl) ?_
  refine va_get (D := D) (ci := iTk) (v := .ref q7) (C := RTk) (T := TTk) (N := 2) hx hb htB inBTk hown hK hP 0 rfl rfl 0 (by decide) (htB _ b_22) (fun _ h9 => h9) rfl dTk_init_29 ?_
  refine lv_iload_n hx hb dTk_init_32 rfl (lv_at hl 0 rfl) ?_
  refine lv_sipush (v := 320) hx hb dTk_init_33 (by decide) ?_
  refine mk_iast (k := 2) hx hb hK hP hD hS 1 0 rfl rfl rfl (by decide) dTk_init_36 (fun H locs hP hD hS => ?_)
  have hP : va_P D vwCl ([(q, .inr (iTk, [.ref q7, .ref q15])), (q7, .inl (g 0, 8, .inl (upd (upd (upd (fun _ => 0) 0 320) 1 320) 2 320))), (q15, .inl (g 0, 8, .inl (fun _ => 0)))]) H := hP
  have hD : va_D A ([(q, .inr (iTk, [.ref q7, .ref q15])), (q7, .inl (g 0, 8, .inl (upd (upd (upd (fun _ => 0) 0 320) 1 320) 2 320))), (q15, .inl (g 0, 8, .inl (fun _ => 0)))]) := hD
  refine lv_iinc (v := 3) (lv' := [(1, .int 3), (0, .ref q)]) hx hb dTk_init_37 hl (k := 0) rfl (by decide) (by decide) rfl (fun ls hl => ?_)
  refine lv_goto (tgt := 22) hx hb dTk_init_40 (by decide) ?_
  refine lv_iload_n hx hb dTk_init_22 rfl (lv_at hl 0 rfl) ?_
  refine lv_bipush (v := 8) hx hb dTk_init_23 (by decide) ?_
  refine lv_icmp_ge (tgt := 43) hx hb dTk_init_25 (by decide) (fun c_4 => absurd c_4 (by decide)) (fun _ => ?_)
  refine lv_aload_n hx hb dTk_init_28 rfl (lv_at hl 1 rfl) ?_
  refine va_get (D := D) (ci := iTk) (v := .ref q7) (C := RTk) (T := TTk) (N := 2) hx hb htB inBTk hown hK hP 0 rfl rfl 0 (by decide) (htB _ b_22) (fun _ h9 => h9) rfl dTk_init_29 ?_
  refine lv_iload_n hx hb dTk_init_32 rfl (lv_at hl 0 rfl) ?_
  refine lv_sipush (v := 320) hx hb dTk_init_33 (by decide) ?_
  refine mk_iast (k := 3) hx hb hK hP hD hS 1 0 rfl rfl rfl (by decide) dTk_init_36 (fun H locs hP hD hS => ?_)
  have hP : va_P D vwCl ([(q, .inr (iTk, [.ref q7, .ref q15])), (q7, .inl (g 0, 8, .inl (upd (upd (upd (upd (fun _ => 0) 0 320) 1 320) 2 320) 3 320))), (q15, .inl (g 0, 8, .inl (fun _ => 0)))]) H := hP
  have hD : va_D A ([(q, .inr (iTk, [.ref q7, .ref q15])), (q7, .inl (g 0, 8, .inl (upd (upd (upd (upd (fun _ => 0) 0 320) 1 320) 2 320) 3 320))), (q15, .inl (g 0, 8, .inl (fun _ => 0)))]) := hD
  refine lv_iinc (v := 4) (lv' := [(1, .int 4), (0, .ref q)]) hx hb dTk_init_37 hl (k := 0) rfl (by decide) (by decide) rfl (fun ls hl => ?_)
  refine lv_goto (tgt := 22) hx hb dTk_init_40 (by decide) ?_
  refine lv_iload_n hx hb dTk_init_22 rfl (lv_at hl 0 rfl) ?_
  refine lv_bipush (v := 8) hx hb dTk_init_23 (by decide) ?_
  refine lv_icmp_ge (tgt := 43) hx hb dTk_init_25 (by decide) (fun c_5 => absurd c_5 (by decide)) (fun _ => ?_)
  refine lv_aload_n hx hb dTk_init_28 rfl (lv_at hl 1 rfl) ?_
  refine va_get (D := D) (ci := iTk) (v := .ref q7) (C := RTk) (T := TTk) (N := 2) hx hb htB inBTk hown hK hP 0 rfl rfl 0 (by decide) (htB _ b_22) (fun _ h9 => h9) rfl dTk_init_29 ?_
  refine lv_iload_n hx hb dTk_init_32 rfl (lv_at hl 0 rfl) ?_
  refine lv_sipush (v := 320) hx hb dTk_init_33 (by decide) ?_
  refine mk_iast (k := 4) hx hb hK hP hD hS 1 0 rfl rfl rfl (by decide) dTk_init_36 (fun H locs hP hD hS => ?_)
  have hP : va_P D vwCl ([(q, .inr (iTk, [.ref q7, .ref q15])), (q7, .inl (g 0, 8, .inl (upd (upd (upd (upd (upd (fun _ => 0) 0 320) 1 320) 2 320) 3 320) 4 320))), (q15, .inl (g 0, 8, .inl (fun _ => 0)))]) H := hP
  have hD : va_D A ([(q, .inr (iTk, [.ref q7, .ref q15])), (q7, .inl (g 0, 8, .inl (upd (upd (upd (upd (upd (fun _ => 0) 0 320) 1 320) 2 320) 3 320) 4 320))), (q15, .inl (g 0, 8, .inl (fun _ => 0)))]) := hD
  refine lv_iinc (v := 5) (lv' := [(1, .int 5), (0, .ref q)]) hx hb dTk_init_37 hl (k := 0) rfl (by decide) (by decide) rfl (fun ls hl => ?_)
  refine lv_goto (tgt := 22) hx hb dTk_init_40 (by decide) ?_
  refine lv_iload_n hx hb dTk_init_22 rfl (lv_at hl 0 rfl) ?_
  refine lv_bipush (v := 8) hx hb dTk_init_23 (by decide) ?_
  refine lv_icmp_ge (tgt := 43) hx hb dTk_init_25 (by decide) (fun c_6 => absurd c_6 (by decide)) (fun _ => ?_)
  refine lv_aload_n hx hb dTk_init_28 rfl (lv_at hl 1 rfl) ?_
  refine va_get (D := D) (ci := iTk) (v := .ref q7) (C := RTk) (T := TTk) (N := 2) hx hb htB inBTk hown hK hP 0 rfl rfl 0 (by decide) (htB _ b_22) (fun _ h9 => h9) rfl dTk_init_29 ?_
  refine lv_iload_n hx hb dTk_init_32 rfl (lv_at hl 0 rfl) ?_
  refine lv_sipush (v := 320) hx hb dTk_init_33 (by decide) ?_
  refine mk_iast (k := 5) hx hb hK hP hD hS 1 0 rfl rfl rfl (by decide) dTk_init_36 (fun H locs hP hD hS => ?_)
  have hP : va_P D vwCl ([(q, .inr (iTk, [.ref q7, .ref q15])), (q7, .inl (g 0, 8, .inl (upd (upd (upd (upd (upd (upd (fun _ => 0) 0 320) 1 320) 2 320) 3 320) 4 320) 5 320))), (q15, .inl (g 0, 8, .inl (fun _ => 0)))]) H := hP
  have hD : va_D A ([(q, .inr (iTk, [.ref q7, .ref q15])), (q7, .inl (g 0, 8, .inl (upd (upd (upd (upd (upd (upd (fun _ => 0) 0 320) 1 320) 2 320) 3 320) 4 320) 5 320))), (q15, .inl (g 0, 8, .inl (fun _ => 0)))]) := hD
  refine lv_iinc (v := 6) (lv' := [(1, .int 6), (0, .ref q)]) hx hb dTk_init_37 hl (k := 0) rfl (by decide) (by decide) rfl (fun ls hl => ?_)
  refine lv_goto (tgt := 22) hx hb dTk_init_40 (by decide) ?_
  refine lv_iload_n hx hb dTk_init_22 rfl (lv_at hl 0 rfl) ?_
  refine lv_bipush (v := 8) hx hb dTk_init_23 (by decide) ?_
  refine lv_icmp_ge (tgt := 43) hx hb dTk_init_25 (by decide) (fun c_7 => absurd c_7 (by decide)) (fun _ => ?_)
  refine lv_aload_n hx hb dTk_init_28 rfl (lv_at hl 1 rfl) ?_
  refine va_get (D := D) (ci := iTk) (v := .ref q7) (C := RTk) (T := TTk) (N := 2) hx hb htB inBTk hown hK hP 0 rfl rfl 0 (by decide) (htB _ b_22) (fun _ h9 => h9) rfl dTk_init_29 ?_
  refine lv_iload_n hx hb dTk_init_32 rfl (lv_at hl 0 rfl) ?_
  refine lv_sipush (v := 320) hx hb dTk_init_33 (by decide) ?_
  refine mk_iast (k := 6) hx hb hK hP hD hS 1 0 rfl rfl rfl (by decide) dTk_init_36 (fun H locs hP hD hS => ?_)
  have hP : va_P D vwCl ([(q, .inr (iTk, [.ref q7, .ref q15])), (q7, .inl (g 0, 8, .inl (upd (upd (upd (upd (upd (upd (upd (fun _ => 0) 0 320) 1 320) 2 320) 3 320) 4 320) 5 320) 6 320))), (q15, .inl (g 0, 8, .inl (fun _ => 0)))]) H := hP
  have hD : va_D A ([(q, .inr (iTk, [.ref q7, .ref q15])), (q7, .inl (g 0, 8, .inl (upd (upd (upd (upd (upd (upd (upd (fun _ => 0) 0 320) 1 320) 2 320) 3 320) 4 320) 5 320) 6 320))), (q15, .inl (g 0, 8, .inl (fun _ => 0)))]) := hD
  refine lv_iinc (v := 7) (lv' := [(1, .int 7), (0, .ref q)]) hx hb dTk_init_37 hl (k := 0) rfl (by decide) (by decide) rfl (fun ls hl => ?_)
  refine lv_goto (tgt := 22) hx hb dTk_init_40 (by decide) ?_
  refine lv_iload_n hx hb dTk_init_22 rfl (lv_at hl 0 rfl) ?_
  refine lv_bipush (v := 8) hx hb dTk_init_23 (by decide) ?_
  refine lv_icmp_ge (tgt := 43) hx hb dTk_init_25 (by decide) (fun c_8 => absurd c_8 (by decide)) (fun _ => ?_)
  refine lv_aload_n hx hb dTk_init_28 rfl (lv_at hl 1 rfl) ?_
  refine va_get (D := D) (ci := iTk) (v := .ref q7) (C := RTk) (T := TTk) (N := 2) hx hb htB inBTk hown hK hP 0 rfl rfl 0 (by decide) (htB _ b_22) (fun _ h9 => h9) rfl dTk_init_29 ?_
  refine lv_iload_n hx hb dTk_init_32 rfl (lv_at hl 0 rfl) ?_
  refine lv_sipush (v := 320) hx hb dTk_init_33 (by decide) ?_
  refine mk_iast (k := 7) hx hb hK hP hD hS 1 0 rfl rfl rfl (by decide) dTk_init_36 (fun H locs hP hD hS => ?_)
  have hP : va_P D vwCl ([(q, .inr (iTk, [.ref q7, .ref q15])), (q7, .inl (g 0, 8, .inl (upd (upd (upd (upd (upd (upd (upd (upd (fun _ => 0) 0 320) 1 320) 2 320) 3 320) 4 320) 5 320) 6 320) 7 320))), (q15, .inl (g 0, 8, .inl (fun _ => 0)))]) H := hP
  have hD : va_D A ([(q, .inr (iTk, [.ref q7, .ref q15])), (q7, .inl (g 0, 8, .inl (upd (upd (upd (upd (upd (upd (upd (upd (fun _ => 0) 0 320) 1 320) 2 320) 3 320) 4 320) 5 320) 6 320) 7 320))), (q15, .inl (g 0, 8, .inl (fun _ => 0)))]) := hD
  refine lv_iinc (v := 8) (lv' := [(1, .int 8), (0, .ref q)]) hx hb dTk_init_37 hl (k := 0) rfl (by decide) (by decide) rfl (fun ls hl => ?_)
  refine lv_goto (tgt := 22) hx hb dTk_init_40 (by decide) ?_
  refine lv_iload_n hx hb dTk_init_22 rfl (lv_at hl 0 rfl) ?_
  refine lv_bipush (v := 8) hx hb dTk_init_23 (by decide) ?_
  refine lv_icmp_ge (tgt := 43) hx hb dTk_init_25 (by decide) (fun _ => ?_) (fun c_9 => absurd (by decide) c_9)
  exact W.vret hx hb hr (fun t9 ht hW => ⟨⟨(fun k => if k = 0 then q else if k = 1 then q7 else q15), rfl, rfl, mk_end ht rfl hP, hD⟩, hS.F ht⟩) hS.2.2 dTk_init_43
set_option maxHeartbeats 8000000 in
set_option maxRecDepth 100000 in
theorem c_Wy_init (l : Launch) (D : va_G) (g : Nat → ClassId) (q : Nat) : mk_Cv l yWy_init wsWy_init ({ frames := 1, cells := 3, slots := 10, locals := 12 }) D vwCl (zty g) q ([(q, .inr (iWy, [.null, .null, .null]))]) (fun a : Nat → Nat => wWy g a zy0) (fun a => a 0 = q) 3 10 := by
  intro sz
  refine Met.ofW (cc := cWy_init) (maxL := 2) (ret := none) (by decide) rfl ?_
  intro p e s m args below meth cd s₁ B hml hv
  obtain ⟨rfl, hsz, hP, hK, hD0⟩ := hv
  have hx := B.exec
  have hb := B.bytes
  have hr := B.returns
  have hts := atoms_spec (ws := wsWy_init) B.pre
  have htB := fun (w : Cond) (h : w ∈ BIG) => hts w (List.mem_cons_of_mem _ h)
  have hown : s.vm.findClass RWy = some m.cls := findClass_of_methodNamed B.named
  have hlocks := B.notSynchronized
  have hin : meth.name = "<init>" := (name_of_methodNamed B.named B.method).1
  subst hsz
  have hD := hD0.self (sz := s.heap.size)
  generalize hAe : va_A ([(q, .inr (iWy, [.null, .null, .null]))]) s.heap.size = A at hD ⊢
  have hA : ∀ q : Nat, s.heap.size ≤ q → A q := fun q h => by rw [← hAe]; exact Or.inr h
  have hS : va_S A s.heap s.heap [] := va_S.rf
  have hl := lv_entry ([.ref q]) (n := 2) (Nat.le_of_ble_eq_true rfl)
  rw [lg_entry_eq]
  generalize (lg_sl ([.ref q]) ++ List.replicate (2 - (lg_sl ([.ref q])).length) Slot.unset).toArray = ls at hl ⊢
  have hl : lv_has ls 2 [(0, .ref q)] := hl
  have hP : va_P D vwCl ([(q, .inr (iWy, [.null, .null, .null]))]) s.heap := hP
  refine lv_aload_n hx hb dWy_init_0 rfl (lv_at hl 0 rfl) ?_
  refine W.objInit hx hb hown (htB _ b_38) (htB _ b_14) (htB _ b_15) rfl (by rw [hml]; exact hl.1) rfl dWy_init_1 (Nat.le_of_ble_eq_true rfl) (Nat.le_of_ble_eq_true rfl) ?_
  refine W.eq (g2 := F0 m 4 ls []) rfl ?_
  refine lv_aload_n hx hb dWy_init_4 rfl (lv_at hl 0 rfl) ?_
  refine lv_iconst (v := 4) hx hb dWy_init_5 (by decide) ?_
  refine mk_newa (atype := .int) (ty := .int) (a0 := (4, .inl (fun _ => 0))) hx hb (htB _ b_32) rfl hK hP hD hS hA 0 rfl (fun C h => by cases h) (fun _ => rfl) (by decide) (by decide) (by decide) (Nat.le_of_ble_eq_true rfl) (Nat.le_of_ble_eq_true rfl) dWy_init_6 (fun q6 H hP hD hS => ?_)
  have hP : va_P D vwCl ([(q, .inr (iWy, [.null, .null, .null])), (q6, .inl (g 0, 4, .inl (fun _ => 0)))]) H := hP
  have hD : va_D A ([(q, .inr (iWy, [.null, .null, .null])), (q6, .inl (g 0, 4, .inl (fun _ => 0)))]) := hD
  refine W.widen (k := 1) (n := 4) (by omega) (by omega) ?_
  refine va_putF (D := D) (ci := iWy) (v := .ref q6) (ty := (.array .int)) (C := RWy) (T := TWy) (N := 3) hx hb htB inBWy tyWy tyWy_ok nmWy hown hK hP hD hS 0 rfl rfl 0 (by decide) (htB _ b_40) (fun _ h9 => h9) rfl hin rfl (by decide +kernel) rfl rfl (Nat.le_of_ble_eq_true rfl) dWy_init_8 (fun H locs hP hD hS => ?_)
  have hP : va_P D vwCl ([(q, .inr (iWy, [.ref q6, .null, .null])), (q6, .inl (g 0, 4, .inl (fun _ => 0)))]) H := hP
  have hD : va_D A ([(q, .inr (iWy, [.ref q6, .null, .null])), (q6, .inl (g 0, 4, .inl (fun _ => 0)))]) := hD
  refine lv_aload_n hx hb dWy_init_11 rfl (lv_at hl 0 rfl) ?_
  refine lv_iconst (v := 4) hx hb dWy_init_12 (by decide) ?_
  refine mk_newa (atype := .boolean) (ty := .boolean) (a0 := (4, .inl (fun _ => 0))) hx hb (htB _ b_53) rfl hK hP hD hS hA 1 rfl (fun C h => by cases h) (fun _ => rfl) (by decide) (by decide) (by decide) (Nat.le_of_ble_eq_true rfl) (Nat.le_of_ble_eq_true rfl) dWy_init_13 (fun q13 H hP hD hS => ?_)
  have hP : va_P D vwCl ([(q, .inr (iWy, [.ref q6, .null, .null])), (q6, .inl (g 0, 4, .inl (fun _ => 0))), (q13, .inl (g 1, 4, .inl (fun j => bI ((fun _ => false) j))))]) H := hP
  have hD : va_D A ([(q, .inr (iWy, [.ref q6, .null, .null])), (q6, .inl (g 0, 4, .inl (fun _ => 0))), (q13, .inl (g 1, 4, .inl (fun j => bI ((fun _ => false) j))))]) := hD
  refine W.widen (k := 2) (n := 8) (by omega) (by omega) ?_
  refine va_putF (D := D) (ci := iWy) (v := .ref q13) (ty := (.array .boolean)) (C := RWy) (T := TWy) (N := 3) hx hb htB inBWy tyWy tyWy_ok nmWy hown hK hP hD hS 0 rfl rfl 1 (by decide) (htB _ b_42) (fun _ h9 => h9) rfl hin rfl (by decide +kernel) rfl rfl (Nat.le_of_ble_eq_true rfl) dWy_init_15 (fun H locs hP hD hS => ?_)
  have hP : va_P D vwCl ([(q, .inr (iWy, [.ref q6, .ref q13, .null])), (q6, .inl (g 0, 4, .inl (fun _ => 0))), (q13, .inl (g 1, 4, .inl (fun j => bI ((fun _ => false) j))))]) H := hP
  have hD : va_D A ([(q, .inr (iWy, [.ref q6, .ref q13, .null])), (q6, .inl (g 0, 4, .inl (fun _ => 0))), (q13, .inl (g 1, 4, .inl (fun j => bI ((fun _ => false) j))))]) := hD
  refine lv_aload_n hx hb dWy_init_18 rfl (lv_at hl 0 rfl) ?_
  refine lv_iconst (v := 2) hx hb dWy_init_19 (by decide) ?_
  refine mk_newa (atype := .boolean) (ty := .boolean) (a0 := (2, .inl (fun _ => 0))) hx hb (htB _ b_53) rfl hK hP hD hS hA 1 rfl (fun C h => by cases h) (fun _ => rfl) (by decide) (by decide) (by decide) (Nat.le_of_ble_eq_true rfl) (Nat.le_of_ble_eq_true rfl) dWy_init_20 (fun q20 H hP hD hS => ?_)
  have hP : va_P D vwCl ([(q, .inr (iWy, [.ref q6, .ref q13, .null])), (q6, .inl (g 0, 4, .inl (fun _ => 0))), (q13, .inl (g 1, 4, .inl (fun j => bI ((fun _ => false) j)))), (q20, .inl (g 1, 2, .inl (fun j => bI ((fun _ => false) j))))]) H := hP
  have hD : va_D A ([(q, .inr (iWy, [.ref q6, .ref q13, .null])), (q6, .inl (g 0, 4, .inl (fun _ => 0))), (q13, .inl (g 1, 4, .inl (fun j => bI ((fun _ => false) j)))), (q20, .inl (g 1, 2, .inl (fun j => bI ((fun _ => false) j))))]) := hD
  refine W.widen (k := 3) (n := 10) (by omega) (by omega) ?_
  refine va_putF (D := D) (ci := iWy) (v := .ref q20) (ty := (.array .boolean)) (C := RWy) (T := TWy) (N := 3) hx hb htB inBWy tyWy tyWy_ok nmWy hown hK hP hD hS 0 rfl rfl 2 (by decide) (htB _ b_44) (fun _ h9 => h9) rfl hin rfl (by decide +kernel) rfl rfl (Nat.le_of_ble_eq_true rfl) dWy_init_22 (fun H locs hP hD hS => ?_)
  have hP : va_P D vwCl ([(q, .inr (iWy, [.ref q6, .ref q13, .ref q20])), (q6, .inl (g 0, 4, .inl (fun _ => 0))), (q13, .inl (g 1, 4, .inl (fun j => bI ((fun _ => false) j)))), (q20, .inl (g 1, 2, .inl (fun j => bI ((fun _ => false) j))))]) H := hP
  have hD : va_D A ([(q, .inr (iWy, [.ref q6, .ref q13, .ref q20])), (q6, .inl (g 0, 4, .inl (fun _ => 0))), (q13, .inl (g 1, 4, .inl (fun j => bI ((fun _ => false) j)))), (q20, .inl (g 1, 2, .inl (fun j => bI ((fun _ => false) j))))]) := hD
  refine lv_iconst (v := 0) hx hb dWy_init_25 (by decide) ?_
  refine lv_istore_n (lv' := [(1, .int 0), (0, .ref q)]) hx hb dWy_init_26 rfl hl (by decide) rfl (fun ls hl => ?_)
  refine lv_iload_n hx hb dWy_init_27 rfl (lv_at hl 0 rfl) ?_
  refine lv_iconst (v := 4) hx hb dWy_init_28 (by decide) ?_
  refine lv_icmp_ge (tgt := 46) hx hb dWy_init_29 (by decide) (fun c_1 => absurd c_1 (by decide)) (fun _ => ?_)
  refine lv_aload_n hx hb dWy_init_32 rfl (lv_at hl 1 rfl) ?_
  refine va_get (D := D) (ci := iWy) (v := .ref q6) (C := RWy) (T := TWy) (N := 3) hx hb htB inBWy hown hK hP 0 rfl rfl 0 (by decide) (htB _ b_40) (fun _ h9 => h9) rfl dWy_init_33 ?_
  refine lv_iload_n hx hb dWy_init_36 rfl (lv_at hl 0 rfl) ?_
  refine lv_ldc (v := 32768) hx hb hown (htB _ b_39) dWy_init_37 ?_
  refine mk_iast (k := 0) hx hb hK hP hD hS 1 0 rfl rfl rfl (by decide) dWy_init_39 (fun H locs hP hD hS => ?_)
  have hP : va_P D vwCl ([(q, .inr (iWy, [.ref q6, .ref q13, .ref q20])), (q6, .inl (g 0, 4, .inl (upd (fun _ => 0) 0 32768))), (q13, .inl (g 1, 4, .inl (fun j => bI ((fun _ => false) j)))), (q20, .inl (g 1, 2, .inl (fun j => bI ((fun _ => false) j))))]) H := hP
  have hD : va_D A ([(q, .inr (iWy, [.ref q6, .ref q13, .ref q20])), (q6, .inl (g 0, 4, .inl (upd (fun _ => 0) 0 32768))), (q13, .inl (g 1, 4, .inl (fun j => bI ((fun _ => false) j)))), (q20, .inl (g 1, 2, .inl (fun j => bI ((fun _ => false) j))))]) := hD
  refine lv_iinc (v := 1) (lv' := [(1, .int 1), (0, .ref q)]) hx hb dWy_init_40 hl (k := 0) rfl (by decide) (by decide) rfl (fun ls hl => ?_)
  refine lv_goto (tgt := 27) hx hb dWy_init_43 (by decide) ?_
  refine lv_iload_n hx hb dWy_init_27 rfl (lv_at hl 0 rfl) ?_
  refine lv_iconst (v := 4) hx hb dWy_init_28 (by decide) ?_
  refine lv_icmp_ge (tgt := 46) hx hb dWy_init_29 (by decide) (fun c_2 => absurd c_2 (by decide)) (fun _ => ?_)
  refine lv_aload_n hx hb dWy_init_32 rfl (lv_at hl 1 rfl) ?_
  refine va_get (D := D) (ci := iWy) (v := .ref q6) (C := RWy) (T := TWy) (N := 3) hx hb htB inBWy hown hK hP 0 rfl rfl 0 (by decide) (htB _ b_40) (fun _ h9 => h9) rfl dWy_init_33 ?_
  refine lv_iload_n hx hb dWy_init_36 rfl (lv_at hl 0 rfl) ?_
  refine lv_ldc (v := 32768) hx hb hown (htB _ b_39) dWy_init_37 ?_
  refine mk_iast (k := 1) hx hb hK hP hD hS 1 0 rfl rfl rfl (by decide) dWy_init_39 (fun H locs hP hD hS => ?_)
  have hP : va_P D vwCl ([(q, .inr (iWy, [.ref q6, .ref q13, .ref q20])), (q6, .inl (g 0, 4, .inl (upd (upd (fun _ => 0) 0 32768) 1 32768))), (q13, .inl (g 1, 4, .inl (fun j => bI ((fun _ => false) j)))), (q20, .inl (g 1, 2, .inl (fun j => bI ((fun _ => false) j))))]) H := hP
  have hD : va_D A ([(q, .inr (iWy, [.ref q6, .ref q13, .ref q20])), (q6, .inl (g 0, 4, .inl (upd (upd (fun _ => 0) 0 32768) 1 32768))), (q13, .inl (g 1, 4, .inl (fun j => bI ((fun _ => false) j)))), (q20, .inl (g 1, 2, .inl (fun j => bI ((fun _ => false) j))))]) := hD
  refine lv_iinc (v := 2) (lv' := [(1, .int 2), (0, .ref q)]) hx hb dWy_init_40 hl (k := 0) rfl (by decide) (by decide) rfl (fun ls hl => ?_)
  refine lv_goto (tgt := 27) hx hb dWy_init_43 (by decide) ?_
  refine lv_iload_n hx hb dWy_init_27 rfl (lv_at hl 0 rfl) ?_
  refine lv_iconst (v := 4) hx hb dWy_init_28 (by decide) ?_
  refine lv_icmp_ge (tgt := 46) hx hb dWy_init_29 (by decide) (fun c_3 => absurd c_3 (by decide)) (fun _ => ?_)
  refine lv_aload_n hx hb dWy_init_32 rfl (lv_at hl 1 rfl) ?_
  refine va_get (D := D) (ci := iWy) (v := .ref q6) (C := RWy) (T := TWy) (N := 3) hx hb htB inBWy hown hK hP 0 rfl rfl 0 (by decide) (htB _ b_40) (fun _ h9 => h9) rfl dWy_init_33 ?_
  refine lv_iload_n hx hb dWy_init_36 rfl (lv_at hl 0 rfl) ?_
  refine lv_ldc (v := 32768) hx hb hown (htB _ b_39) dWy_init_37 ?_
  refine mk_iast (k := 2) hx hb hK hP hD hS 1 0 rfl rfl rfl (by decide) dWy_init_39 (fun H locs hP hD hS => ?_)
  have hP : va_P D vwCl ([(q, .inr (iWy, [.ref q6, .ref q13, .ref q20])), (q6, .inl (g 0, 4, .inl (upd (upd (upd (fun _ => 0) 0 32768) 1 32768) 2 32768))), (q13, .inl (g 1, 4, .inl (fun j => bI ((fun _ => false) j)))), (q20, .inl (g 1, 2, .inl (fun j => bI ((fun _ => false) j))))]) H := hP
  have hD : va_D A ([(q, .inr (iWy, [.ref q6, .ref q13, .ref q20])), (q6, .inl (g 0, 4, .inl (upd (upd (upd (fun _ => 0) 0 32768) 1 32768) 2 32768))), (q13, .inl (g 1, 4, .inl (fun j => bI ((fun _ => false) j)))), (q20, .inl (g 1, 2, .inl (fun j => bI ((fun _ => false) j))))]) := hD
  refine lv_iinc (v := 3) (lv' := [(1, .int 3), (0, .ref q)]) hx hb dWy_init_40 hl (k := 0) rfl (by decide) (by decide) rfl (fun ls hl => ?_)
  refine lv_goto (tgt := 27) hx hb dWy_init_43 (by decide) ?_
  refine lv_iload_n hx hb dWy_init_27 rfl (lv_at hl 0 rfl) ?_
  refine lv_iconst (v := 4) hx hb dWy_init_28 (by decide) ?_
  refine lv_icmp_ge (tgt := 46) hx hb dWy_init_29 (by decide) (fun c_4 => absurd c_4 (by decide)) (fun _ => ?_)
  refine lv_aload_n hx hb dWy_init_32 rfl (lv_at hl 1 rfl) ?_
  refine va_get (D := D) (ci := iWy) (v := .ref q6) (C := RWy) (T := TWy) (N := 3) hx hb htB inBWy hown hK hP 0 rfl rfl 0 (by decide) (htB _ b_40) (fun _ h9 => h9) rfl dWy_init_33 ?_
  refine lv_iload_n hx hb dWy_init_36 rfl (lv_at hl 0 rfl) ?_
  refine lv_ldc (v := 32768) hx hb hown (htB _ b_39) dWy_init_37 ?_
  refine mk_iast (k := 3) hx hb hK hP hD hS 1 0 rfl rfl rfl (by decide) dWy_init_39 (fun H locs hP hD hS => ?_)
  have hP : va_P D vwCl ([(q, .inr (iWy, [.ref q6, .ref q13, .ref q20])), (q6, .inl (g 0, 4, .inl (upd (upd (upd (upd (fun _ => 0) 0 32768) 1 32768) 2 32768) 3 32768))), (q13, .inl (g 1, 4, .inl (fun j => bI ((fun _ => false) j)))), (q20, .inl (g 1, 2, .inl (fun j => bI ((fun _ => false) j))))]) H := hP
  have hD : va_D A ([(q, .inr (iWy, [.ref q6, .ref q13, .ref q20])), (q6, .inl (g 0, 4, .inl (upd (upd (upd (upd (fun _ => 0) 0 32768) 1 32768) 2 32768) 3 32768))), (q13, .inl (g 1, 4, .inl (fun j => bI ((fun _ => false) j)))), (q20, .inl (g 1, 2, .inl (fun j => bI ((fun _ => false) j))))]) := hD
  refine lv_iinc (v := 4) (lv' := [(1, .int 4), (0, .ref q)]) hx hb dWy_init_40 hl (k := 0) rfl (by decide) (by decide) rfl (fun ls hl => ?_)
  refine lv_goto (tgt := 27) hx hb dWy_init_43 (by decide) ?_
  refine lv_iload_n hx hb dWy_init_27 rfl (lv_at hl 0 rfl) ?_
  refine lv_iconst (v := 4) hx hb dWy_init_28 (by decide) ?_
  refine lv_icmp_ge (tgt := 46) hx hb dWy_init_29 (by decide) (fun _ => ?_) (fun c_5 => absurd (by decide) c_5)
  refine lv_iconst (v := 0) hx hb dWy_init_46 (by decide) ?_
  refine lv_istore_n (lv' := [(1, .int 0), (0, .ref q)]) hx hb dWy_init_47 rfl hl (by decide) rfl (fun ls hl => ?_)
  refine lv_iload_n hx hb dWy_init_48 rfl (lv_at hl 0 rfl) ?_
  refine lv_iconst (v := 2) hx hb dWy_init_49 (by decide) ?_
  refine lv_icmp_ge (tgt := 66) hx hb dWy_init_50 (by decide) (fun c_6 => absurd c_6 (by decide)) (fun _ => ?_)
  refine lv_aload_n hx hb dWy_init_53 rfl (lv_at hl 1 rfl) ?_
  refine va_get (D := D) (ci := iWy) (v := .ref q20) (C := RWy) (T := TWy) (N := 3) hx hb htB inBWy hown hK hP 0 rfl rfl 2 (by decide) (htB _ b_44) (fun _ h9 => h9) rfl dWy_init_54 ?_
  refine lv_iload_n hx hb dWy_init_57 rfl (lv_at hl 0 rfl) ?_
  refine lv_iconst (v := 1) hx hb dWy_init_58 (by decide) ?_
  refine mk_zast (k := 0) (f := (fun _ => false)) (z := true) hx hb hK hP hD hS 3 1 rfl rfl rfl (by decide) dWy_init_59 (fun H locs hP hD hS => ?_)
  have hP : va_P D vwCl ([(q, .inr (iWy, [.ref q6, .ref q13, .ref q20])), (q6, .inl (g 0, 4, .inl (upd (upd (upd (upd (fun _ => 0) 0 32768) 1 32768) 2 32768) 3 32768))), (q13, .inl (g 1, 4, .inl (fun j => bI ((fun _ => false) j)))), (q20, .inl (g 1, 2, .inl (fun j => bI ((va_up (fun _ => false) 0 true) j))))]) H := hP
  have hD : va_D A ([(q, .inr (iWy, [.ref q6, .ref q13, .ref q20])), (q6, .inl (g 0, 4, .inl (upd (upd (upd (upd (fun _ => 0) 0 32768) 1 32768) 2 32768) 3 32768))), (q13, .inl (g 1, 4, .inl (fun j => bI ((fun _ => false) j)))), (q20, .inl (g 1, 2, .inl (fun j => bI ((va_up (fun _ => false) 0 true) j))))]) := hD
  refine lv_iinc (v := 1) (lv' := [(1, .int 1), (0, .ref q)]) hx hb dWy_init_60 hl (k := 0) rfl (by decide) (by decide) rfl (fun ls hl => ?_)
  refine lv_goto (tgt := 48) hx hb dWy_init_63 (by decide) ?_
  refine lv_iload_n hx hb dWy_init_48 rfl (lv_at hl 0 rfl) ?_
  refine lv_iconst (v := 2) hx hb dWy_init_49 (by decide) ?_
  refine lv_icmp_ge (tgt := 66) hx hb dWy_init_50 (by decide) (fun c_7 => absurd c_7 (by decide)) (fun _ => ?_)
  refine lv_aload_n hx hb dWy_init_53 rfl (lv_at hl 1 rfl) ?_
  refine va_get (D := D) (ci := iWy) (v := .ref q20) (C := RWy) (T := TWy) (N := 3) hx hb htB inBWy hown hK hP 0 rfl rfl 2 (by decide) (htB _ b_44) (fun _ h9 => h9) rfl dWy_init_54 ?_
  refine lv_iload_n hx hb dWy_init_57 rfl (lv_at hl 0 rfl) ?_
  refine lv_iconst (v := 1) hx hb dWy_init_58 (by decide) ?_
  refine mk_zast (k := 1) (f := (va_up (fun _ => false) 0 true)) (z := true) hx hb hK hP hD hS 3 1 rfl rfl rfl (by decide) dWy_init_59 (fun H locs hP hD hS => ?_)
  have hP : va_P D vwCl ([(q, .inr (iWy, [.ref q6, .ref q13, .ref q20])), (q6, .inl (g 0, 4, .inl (upd (upd (upd (upd (fun _ => 0) 0 32768) 1 32768) 2 32768) 3 32768))), (q13, .inl (g 1, 4, .inl (fun j => bI ((fun _ => false) j)))), (q20, .inl (g 1, 2, .inl (fun j => bI ((va_up (va_up (fun _ => false) 0 true) 1 true) j))))]) H := hP
  have hD : va_D A ([(q, .inr (iWy, [.ref q6, .ref q13, .ref q20])), (q6, .inl (g 0, 4, .inl (upd (upd (upd (upd (fun _ => 0) 0 32768) 1 32768) 2 32768) 3 32768))), (q13, .inl (g 1, 4, .inl (fun j => bI ((fun _ => false) j)))), (q20, .inl (g 1, 2, .inl (fun j => bI ((va_up (va_up (fun _ => false) 0 true) 1 true) j))))]) := hD
  refine lv_iinc (v := 2) (lv' := [(1, .int 2), (0, .ref q)]) hx hb dWy_init_60 hl (k := 0) rfl (by decide) (by decide) rfl (fun ls hl => ?_)
  refine lv_goto (tgt := 48) hx hb dWy_init_63 (by decide) ?_
  refine lv_iload_n hx hb dWy_init_48 rfl (lv_at hl 0 rfl) ?_
  refine lv_iconst (v := 2) hx hb dWy_init_49 (by decide) ?_
  refine lv_icmp_ge (tgt := 66) hx hb dWy_init_50 (by decide) (fun _ => ?_) (fun c_8 => absurd (by decide) c_8)
  exact W.vret hx hb hr (fun t9 ht hW => ⟨⟨(fun k => if k = 0 then q else if k = 1 then q6 else if k = 2 then q13 else q20), rfl, rfl, mk_end ht rfl hP, hD⟩, hS.F ht⟩) hS.2.2 dWy_init_66
set_option maxHeartbeats 8000000 in
set_option maxRecDepth 100000 in
theorem c_Tr_init (l : Launch) (D : va_G) (g : Nat → ClassId) (q : Nat) : mk_Cv l yTr_init wsTr_init ({ frames := 2, cells := 10, slots := 60, locals := 32 }) D vwCl (zty g) q ([(q, .inr (iTr, [.null, .null, .int 0, .int 0, .int 0, .int 0, .int 0, .int 0, .int 0, .int 0, .int 0]))]) (fun a : Nat → Nat → Nat => wTr g a zt0) (fun a => a 0 0 = q) 10 60 := by
  intro sz
  refine Met.ofW (cc := cTr_init) (maxL := 1) (ret := none) (by decide) rfl ?_
  intro p e s m args below meth cd s₁ B hml hv
  obtain ⟨rfl, hsz, hP, hK, hD0⟩ := hv
  have hx := B.exec
  have hb := B.bytes
  have hr := B.returns
  have hts := atoms_spec (ws := wsTr_init) B.pre
  have htB := fun (w : Cond) (h : w ∈ BIG) => hts w (List.mem_cons_of_mem _ h)
  have hown : s.vm.findClass RTr = some m.cls := findClass_of_methodNamed B.named
  have hlocks := B.notSynchronized
  have hin : meth.name = "<init>" := (name_of_methodNamed B.named B.method).1
  subst hsz
  have hD := hD0.self (sz := s.heap.size)
  generalize hAe : va_A ([(q, .inr (iTr, [.null, .null, .int 0, .int 0, .int 0, .int 0, .int 0, .int 0, .int 0, .int 0, .int 0]))]) s.heap.size = A at hD ⊢
  have hA : ∀ q : Nat, s.heap.size ≤ q → A q := fun q h => by rw [← hAe]; exact Or.inr h
  have hS : va_S A s.heap s.heap [] := va_S.rf
  have hl := lv_entry ([.ref q]) (n := 1) (Nat.le_of_ble_eq_true rfl)
  rw [lg_entry_eq]
  generalize (lg_sl ([.ref q]) ++ List.replicate (1 - (lg_sl ([.ref q])).length) Slot.unset).toArray = ls at hl ⊢
  have hl : lv_has ls 1 [(0, .ref q)] := hl
  have hP : va_P D vwCl ([(q, .inr (iTr, [.null, .null, .int 0, .int 0, .int 0, .int 0, .int 0, .int 0, .int 0, .int 0, .int 0]))]) s.heap := hP
  refine lv_aload_n hx hb dTr_init_0 rfl (lv_at hl 0 rfl) ?_
  refine W.objInit hx hb hown (htB _ b_60) (htB _ b_14) (htB _ b_15) rfl (by rw [hml]; exact hl.1) rfl dTr_init_1 (Nat.le_of_ble_eq_true rfl) (Nat.le_of_ble_eq_true rfl) ?_
  refine W.eq (g2 := F0 m 4 ls []) rfl ?_
  refine lv_aload_n hx hb dTr_init_4 rfl (lv_at hl 0 rfl) ?_
  refine va_new (ci := iCh) (fs := [.null, .null, .null, .null, .int 0, .int 0, .int 0, .int 0, .int 0, .int 0]) (C := RCh) (T := TCh) (N := 10) hx hb htB inBCh tyCh tyCh_ok hown (htB _ b_61) (htB _ b_62) (htB _ b_5) hK hP hD hS hA rfl (fun j hj => by rcases (show j = 0 ∨ j = 1 ∨ j = 2 ∨ j = 3 ∨ j = 4 ∨ j = 5 ∨ j = 6 ∨ j = 7 ∨ j = 8 ∨ j = 9 by omega) with rfl | rfl | rfl | rfl | rfl | rfl | rfl | rfl | rfl | rfl <;> rfl) (Nat.le_of_ble_eq_true rfl) (Nat.le_of_ble_eq_true rfl) dTr_init_5 (fun q1 H hP hD hS => ?_)
  have hP : va_P D vwCl ([(q, .inr (iTr, [.null, .null, .int 0, .int 0, .int 0, .int 0, .int 0, .int 0, .int 0, .int 0, .int 0])), (q1, .inr (iCh, [.null, .null, .null, .null, .int 0, .int 0, .int 0, .int 0, .int 0, .int 0]))]) H := hP
  have hD : va_D A ([(q, .inr (iTr, [.null, .null, .int 0, .int 0, .int 0, .int 0, .int 0, .int 0, .int 0, .int 0, .int 0])), (q1, .inr (iCh, [.null, .null, .null, .null, .int 0, .int 0, .int 0, .int 0, .int 0, .int 0]))]) := hD
  refine W.widen (k := 1) (n := 10) (by omega) (by omega) ?_
  refine lv_dup hx hb dTr_init_8 rfl ?_
  refine mk_init (Wr := [(q, .inr (iTr, [.null, .null, .int 0, .int 0, .int 0, .int 0, .int 0, .int 0, .int 0, .int 0, .int 0]))]) (w0 := [(q1, .inr (iCh, [.null, .null, .null, .null, .int 0, .int 0, .int 0, .int 0, .int 0, .int 0]))]) (rest := [.ref q1, .ref q]) ⟨hx, hb, hml, hown, hts⟩ (c_Ch_init l D g q1) (cwI 0 hts (gd_I b_65) rfl rfl rfl (htB _ b_5) (htB _ b_63) (htB _ b_64) rfl (by decide +kernel) ⟨Nat.le_of_ble_eq_true rfl, Nat.le_of_ble_eq_true rfl⟩) hK hP hD hS hA rfl hl.1 rfl (Nat.le_of_ble_eq_true rfl) dTr_init_9 ⟨Nat.le_of_ble_eq_true rfl, Nat.le_of_ble_eq_true rfl⟩ (fun a2 Hn locsn hoa2 hPn hDn hSn => ?_)
  subst hoa2
  generalize Hn = H at hPn hSn ⊢
  generalize locsn = locs at hSn ⊢
  have hP : va_P D vwCl ([(q, .inr (iTr, [.null, .null, .int 0, .int 0, .int 0, .int 0, .int 0, .int 0, .int 0, .int 0, .int 0]))] ++ wCh g a2 zc0) H := hPn
  have hD : va_D A ([(q, .inr (iTr, [.null, .null, .int 0, .int 0, .int 0, .int 0, .int 0, .int 0, .int 0, .int 0, .int 0]))] ++ wCh g a2 zc0) := hDn
  have hS := hSn
  clear hPn hDn hSn
  refine W.widen (k := 5) (n := 30) (by omega) (by omega) ?_
  refine va_putF (D := D) (ci := iTr) (v := .ref (a2 0)) (ty := (.object "MovingBlock$Channel")) (C := RTr) (T := TTr) (N := 11) hx hb htB inBTr tyTr tyTr_ok nmTr hown hK hP hD hS 0 rfl rfl 0 (by decide) (htB _ b_106) (fun _ h9 => h9) rfl hin rfl (by decide +kernel) rfl rfl (Nat.le_of_ble_eq_true rfl) dTr_init_12 (fun H locs hP hD hS => ?_)
  have hP : va_P D vwCl ([(q, .inr (iTr, [.ref (a2 0), .null, .int 0, .int 0, .int 0, .int 0, .int 0, .int 0, .int 0, .int 0, .int 0]))] ++ wCh g a2 zc0) H := hP
  have hD : va_D A ([(q, .inr (iTr, [.ref (a2 0), .null, .int 0, .int 0, .int 0, .int 0, .int 0, .int 0, .int 0, .int 0, .int 0]))] ++ wCh g a2 zc0) := hD
  refine lv_aload_n hx hb dTr_init_15 rfl (lv_at hl 0 rfl) ?_
  refine va_new (ci := iCh) (fs := [.null, .null, .null, .null, .int 0, .int 0, .int 0, .int 0, .int 0, .int 0]) (C := RCh) (T := TCh) (N := 10) hx hb htB inBCh tyCh tyCh_ok hown (htB _ b_61) (htB _ b_62) (htB _ b_5) hK hP hD hS hA rfl (fun j hj => by rcases (show j = 0 ∨ j = 1 ∨ j = 2 ∨ j = 3 ∨ j = 4 ∨ j = 5 ∨ j = 6 ∨ j = 7 ∨ j = 8 ∨ j = 9 by omega) with rfl | rfl | rfl | rfl | rfl | rfl | rfl | rfl | rfl | rfl <;> rfl) (Nat.le_of_ble_eq_true rfl) (Nat.le_of_ble_eq_true rfl) dTr_init_16 (fun q3 H hP hD hS => ?_)
  have hP : va_P D vwCl ([(q, .inr (iTr, [.ref (a2 0), .null, .int 0, .int 0, .int 0, .int 0, .int 0, .int 0, .int 0, .int 0, .int 0]))] ++ wCh g a2 zc0 ++ [(q3, .inr (iCh, [.null, .null, .null, .null, .int 0, .int 0, .int 0, .int 0, .int 0, .int 0]))]) H := hP
  have hD : va_D A ([(q, .inr (iTr, [.ref (a2 0), .null, .int 0, .int 0, .int 0, .int 0, .int 0, .int 0, .int 0, .int 0, .int 0]))] ++ wCh g a2 zc0 ++ [(q3, .inr (iCh, [.null, .null, .null, .null, .int 0, .int 0, .int 0, .int 0, .int 0, .int 0]))]) := hD
  refine W.widen (k := 6) (n := 40) (by omega) (by omega) ?_
  refine lv_dup hx hb dTr_init_19 rfl ?_
  refine mk_init (Wr := [(q, .inr (iTr, [.ref (a2 0), .null, .int 0, .int 0, .int 0, .int 0, .int 0, .int 0, .int 0, .int 0, .int 0]))] ++ wCh g a2 zc0) (w0 := [(q3, .inr (iCh, [.null, .null, .null, .null, .int 0, .int 0, .int 0, .int 0, .int 0, .int 0]))]) (rest := [.ref q3, .ref q]) ⟨hx, hb, hml, hown, hts⟩ (c_Ch_init l D g q3) (cwI 0 hts (gd_I b_65) rfl rfl rfl (htB _ b_5) (htB _ b_63) (htB _ b_64) rfl (by decide +kernel) ⟨Nat.le_of_ble_eq_true rfl, Nat.le_of_ble_eq_true rfl⟩) hK hP hD hS hA rfl hl.1 rfl (Nat.le_of_ble_eq_true rfl) dTr_init_20 ⟨Nat.le_of_ble_eq_true rfl, Nat.le_of_ble_eq_true rfl⟩ (fun a4 Hn locsn hoa4 hPn hDn hSn => ?_)
  subst hoa4
  generalize Hn = H at hPn hSn ⊢
  generalize locsn = locs at hSn ⊢
  have hP : va_P D vwCl ([(q, .inr (iTr, [.ref (a2 0), .null, .int 0, .int 0, .int 0, .int 0, .int 0, .int 0, .int 0, .int 0, .int 0]))] ++ wCh g a2 zc0 ++ wCh g a4 zc0) H := hPn
  have hD : va_D A ([(q, .inr (iTr, [.ref (a2 0), .null, .int 0, .int 0, .int 0, .int 0, .int 0, .int 0, .int 0, .int 0, .int 0]))] ++ wCh g a2 zc0 ++ wCh g a4 zc0) := hDn
  have hS := hSn
  clear hPn hDn hSn
  refine W.widen (k := 10) (n := 60) (by omega) (by omega) ?_
  refine va_putF (D := D) (ci := iTr) (v := .ref (a4 0)) (ty := (.object "MovingBlock$Channel")) (C := RTr) (T := TTr) (N := 11) hx hb htB inBTr tyTr tyTr_ok nmTr hown hK hP hD hS 0 rfl rfl 1 (by decide) (htB _ b_108) (fun _ h9 => h9) rfl hin rfl (by decide +kernel) rfl rfl (Nat.le_of_ble_eq_true rfl) dTr_init_23 (fun H locs hP hD hS => ?_)
  have hP : va_P D vwCl ([(q, .inr (iTr, [.ref (a2 0), .ref (a4 0), .int 0, .int 0, .int 0, .int 0, .int 0, .int 0, .int 0, .int 0, .int 0]))] ++ wCh g a2 zc0 ++ wCh g a4 zc0) H := hP
  have hD : va_D A ([(q, .inr (iTr, [.ref (a2 0), .ref (a4 0), .int 0, .int 0, .int 0, .int 0, .int 0, .int 0, .int 0, .int 0, .int 0]))] ++ wCh g a2 zc0 ++ wCh g a4 zc0) := hD
  exact W.vret hx hb hr (fun t9 ht hW => ⟨⟨(fun k => if k = 0 then (fun _ => q) else if k = 1 then a2 else a4), rfl, rfl, mk_end ht rfl hP, hD⟩, hS.F ht⟩) hS.2.2 dTr_init_26
set_option maxHeartbeats 8000000 in
set_option maxRecDepth 100000 in
theorem c_MB_init (l : Launch) (D : va_G) (g : Nat → ClassId) (q : Nat) : mk_CvO l yMB_init wsMB_init ({ frames := 3, cells := 52, slots := 319, locals := 52 }) D vwCl (zty g) q ([(q, .inr (iMB, [.null, .null, .null, .int 0, .int 0]))]) (fun a : zAd => wMB g a zs0) (fun a => go a 0 = q ∧ gOK a) 52 319 := by
  intro sz
  refine Met.ofW (cc := cMB_init) (maxL := 2) (ret := none) (by decide) rfl ?_
  intro p e s m args below meth cd s₁ B hml hv
  obtain ⟨rfl, ⟨hsz, hP, hK, hD0⟩, hAO⟩ := hv
  have hx := B.exec
  have hb := B.bytes
  have hr := B.returns
  have hts := atoms_spec (ws := wsMB_init) B.pre
  have htB := fun (w : Cond) (h : w ∈ BIG) => hts w (List.mem_cons_of_mem _ h)
  have hown : s.vm.findClass RMB = some m.cls := findClass_of_methodNamed B.named
  have hlocks := B.notSynchronized
  have hin : meth.name = "<init>" := (name_of_methodNamed B.named B.method).1
  subst hsz
  have hD := hD0.self (sz := s.heap.size)
  generalize hAe : va_A ([(q, .inr (iMB, [.null, .null, .null, .int 0, .int 0]))]) s.heap.size = A at hD ⊢
  have hA : ∀ q : Nat, s.heap.size ≤ q → A q := fun q h => by rw [← hAe]; exact Or.inr h
  have hS : va_S A s.heap s.heap [] := va_S.rf
  have hl := lv_entry ([.ref q]) (n := 2) (Nat.le_of_ble_eq_true rfl)
  rw [lg_entry_eq]
  generalize (lg_sl ([.ref q]) ++ List.replicate (2 - (lg_sl ([.ref q])).length) Slot.unset).toArray = ls at hl ⊢
  have hl : lv_has ls 2 [(0, .ref q)] := hl
  have hP : va_P D vwCl ([(q, .inr (iMB, [.null, .null, .null, .int 0, .int 0]))]) s.heap := hP
  refine lv_aload_n hx hb dMB_init_0 rfl (lv_at hl 0 rfl) ?_
  refine W.objInit hx hb hown (htB _ b_13) (htB _ b_14) (htB _ b_15) rfl (by rw [hml]; exact hl.1) rfl dMB_init_1 (Nat.le_of_ble_eq_true rfl) (Nat.le_of_ble_eq_true rfl) ?_
  refine W.eq (g2 := F0 m 4 ls []) rfl ?_
  refine lv_aload_n hx hb dMB_init_4 rfl (lv_at hl 0 rfl) ?_
  refine va_new (ci := iTk) (fs := [.null, .null]) (C := RTk) (T := TTk) (N := 2) hx hb htB inBTk tyTk tyTk_ok hown (htB _ b_16) (htB _ b_17) (htB _ b_2) hK hP hD hS hA rfl (fun j hj => by rcases (show j = 0 ∨ j = 1 by omega) with rfl | rfl <;> rfl) (Nat.le_of_ble_eq_true rfl) (Nat.le_of_ble_eq_true rfl) dMB_init_5 (fun q1 H hP hD hS => ?_)
  have hP : va_P D vwCl ([(q, .inr (iMB, [.null, .null, .null, .int 0, .int 0])), (q1, .inr (iTk, [.null, .null]))]) H := hP
  have hD : va_D A ([(q, .inr (iMB, [.null, .null, .null, .int 0, .int 0])), (q1, .inr (iTk, [.null, .null]))]) := hD
  refine W.widen (k := 1) (n := 2) (by omega) (by omega) ?_
  refine lv_dup hx hb dMB_init_8 rfl ?_
  refine mk_init (Wr := [(q, .inr (iMB, [.null, .null, .null, .int 0, .int 0]))]) (w0 := [(q1, .inr (iTk, [.null, .null]))]) (rest := [.ref q1, .ref q]) ⟨hx, hb, hml, hown, hts⟩ (c_Tk_init l D g q1) (cwI 0 hts (gd_I b_20) rfl rfl rfl (htB _ b_2) (htB _ b_18) (htB _ b_19) rfl (by decide +kernel) ⟨Nat.le_of_ble_eq_true rfl, Nat.le_of_ble_eq_true rfl⟩) hK hP hD hS hA rfl hl.1 rfl (Nat.le_of_ble_eq_true rfl) dMB_init_9 ⟨Nat.le_of_ble_eq_true rfl, Nat.le_of_ble_eq_true rfl⟩ (fun a2 Hn locsn hoa2 hPn hDn hSn => ?_)
  subst hoa2
  generalize Hn = H at hPn hSn ⊢
  generalize locsn = locs at hSn ⊢
  have hP : va_P D vwCl ([(q, .inr (iMB, [.null, .null, .null, .int 0, .int 0]))] ++ wTk g a2 zk0) H := hPn
  have hD : va_D A ([(q, .inr (iMB, [.null, .null, .null, .int 0, .int 0]))] ++ wTk g a2 zk0) := hDn
  have hS := hSn
  clear hPn hDn hSn
  refine W.widen (k := 3) (n := 18) (by omega) (by omega) ?_
  refine va_putF (D := D) (ci := iMB) (v := .ref (a2 0)) (ty := (.object "MovingBlock$Track")) (C := RMB) (T := TMB) (N := 5) hx hb htB inBMB tyMB tyMB_ok nmMB hown hK hP hD hS 0 rfl rfl 0 (by decide) (htB _ b_150) (fun _ h9 => h9) rfl hin rfl (by decide +kernel) rfl rfl (Nat.le_of_ble_eq_true rfl) dMB_init_12 (fun H locs hP hD hS => ?_)
  have hP : va_P D vwCl ([(q, .inr (iMB, [.ref (a2 0), .null, .null, .int 0, .int 0]))] ++ wTk g a2 zk0) H := hP
  have hD : va_D A ([(q, .inr (iMB, [.ref (a2 0), .null, .null, .int 0, .int 0]))] ++ wTk g a2 zk0) := hD
  refine lv_aload_n hx hb dMB_init_15 rfl (lv_at hl 0 rfl) ?_
  refine va_new (ci := iWy) (fs := [.null, .null, .null]) (C := RWy) (T := TWy) (N := 3) hx hb htB inBWy tyWy tyWy_ok hown (htB _ b_33) (htB _ b_34) (htB _ b_3) hK hP hD hS hA rfl (fun j hj => by rcases (show j = 0 ∨ j = 1 ∨ j = 2 by omega) with rfl | rfl | rfl <;> rfl) (Nat.le_of_ble_eq_true rfl) (Nat.le_of_ble_eq_true rfl) dMB_init_16 (fun q3 H hP hD hS => ?_)
  have hP : va_P D vwCl ([(q, .inr (iMB, [.ref (a2 0), .null, .null, .int 0, .int 0]))] ++ wTk g a2 zk0 ++ [(q3, .inr (iWy, [.null, .null, .null]))]) H := hP
  have hD : va_D A ([(q, .inr (iMB, [.ref (a2 0), .null, .null, .int 0, .int 0]))] ++ wTk g a2 zk0 ++ [(q3, .inr (iWy, [.null, .null, .null]))]) := hD
  refine W.widen (k := 4) (n := 21) (by omega) (by omega) ?_
  refine lv_dup hx hb dMB_init_19 rfl ?_
  refine mk_init (Wr := [(q, .inr (iMB, [.ref (a2 0), .null, .null, .int 0, .int 0]))] ++ wTk g a2 zk0) (w0 := [(q3, .inr (iWy, [.null, .null, .null]))]) (rest := [.ref q3, .ref q]) ⟨hx, hb, hml, hown, hts⟩ (c_Wy_init l D g q3) (cwI 0 hts (gd_I b_37) rfl rfl rfl (htB _ b_3) (htB _ b_35) (htB _ b_36) rfl (by decide +kernel) ⟨Nat.le_of_ble_eq_true rfl, Nat.le_of_ble_eq_true rfl⟩) hK hP hD hS hA rfl hl.1 rfl (Nat.le_of_ble_eq_true rfl) dMB_init_20 ⟨Nat.le_of_ble_eq_true rfl, Nat.le_of_ble_eq_true rfl⟩ (fun a4 Hn locsn hoa4 hPn hDn hSn => ?_)
  subst hoa4
  generalize Hn = H at hPn hSn ⊢
  generalize locsn = locs at hSn ⊢
  have hP : va_P D vwCl ([(q, .inr (iMB, [.ref (a2 0), .null, .null, .int 0, .int 0]))] ++ wTk g a2 zk0 ++ wWy g a4 zy0) H := hPn
  have hD : va_D A ([(q, .inr (iMB, [.ref (a2 0), .null, .null, .int 0, .int 0]))] ++ wTk g a2 zk0 ++ wWy g a4 zy0) := hDn
  have hS := hSn
  clear hPn hDn hSn
  refine W.widen (k := 7) (n := 31) (by omega) (by omega) ?_
  refine va_putF (D := D) (ci := iMB) (v := .ref (a4 0)) (ty := (.object "MovingBlock$Wayside")) (C := RMB) (T := TMB) (N := 5) hx hb htB inBMB tyMB tyMB_ok nmMB hown hK hP hD hS 0 rfl rfl 1 (by decide) (htB _ b_151) (fun _ h9 => h9) rfl hin rfl (by decide +kernel) rfl rfl (Nat.le_of_ble_eq_true rfl) dMB_init_23 (fun H locs hP hD hS => ?_)
  have hP : va_P D vwCl ([(q, .inr (iMB, [.ref (a2 0), .ref (a4 0), .null, .int 0, .int 0]))] ++ wTk g a2 zk0 ++ wWy g a4 zy0) H := hP
  have hD : va_D A ([(q, .inr (iMB, [.ref (a2 0), .ref (a4 0), .null, .int 0, .int 0]))] ++ wTk g a2 zk0 ++ wWy g a4 zy0) := hD
  refine lv_aload_n hx hb dMB_init_26 rfl (lv_at hl 0 rfl) ?_
  refine lv_iconst (v := 4) hx hb dMB_init_27 (by decide) ?_
  refine mk_newq (C := "MovingBlock$Train") (N' := 4) hx hb hown (htB _ b_54) hAO hK hP hD hS hA 2 rfl (by decide) (by decide) (by decide) (Nat.le_of_ble_eq_true rfl) (Nat.le_of_ble_eq_true rfl) dMB_init_28 (fun q28 H hP hD hS => ?_)
  have hP : va_P D vwCl ([(q, .inr (iMB, [.ref (a2 0), .ref (a4 0), .null, .int 0, .int 0]))] ++ wTk g a2 zk0 ++ wWy g a4 zy0 ++ [(q28, .inl (g 2, 4, .inr (.inr (.inr (.inr (fun _ => none))))))]) H := hP
  have hD : va_D A ([(q, .inr (iMB, [.ref (a2 0), .ref (a4 0), .null, .int 0, .int 0]))] ++ wTk g a2 zk0 ++ wWy g a4 zy0 ++ [(q28, .inl (g 2, 4, .inr (.inr (.inr (.inr (fun _ => none))))))]) := hD
  refine W.widen (k := 8) (n := 35) (by omega) (by omega) ?_
  refine va_putF (D := D) (ci := iMB) (v := .ref q28) (ty := (.array (.object "MovingBlock$Train"))) (C := RMB) (T := TMB) (N := 5) hx hb htB inBMB tyMB tyMB_ok nmMB hown hK hP hD hS 0 rfl rfl 2 (by decide) (htB _ b_152) (fun _ h9 => h9) rfl hin rfl (by decide +kernel) rfl rfl (Nat.le_of_ble_eq_true rfl) dMB_init_31 (fun H locs hP hD hS => ?_)
  have hP : va_P D vwCl ([(q, .inr (iMB, [.ref (a2 0), .ref (a4 0), .ref q28, .int 0, .int 0]))] ++ wTk g a2 zk0 ++ wWy g a4 zy0 ++ [(q28, .inl (g 2, 4, .inr (.inr (.inr (.inr (fun _ => none))))))]) H := hP
  have hD : va_D A ([(q, .inr (iMB, [.ref (a2 0), .ref (a4 0), .ref q28, .int 0, .int 0]))] ++ wTk g a2 zk0 ++ wWy g a4 zy0 ++ [(q28, .inl (g 2, 4, .inr (.inr (.inr (.inr (fun _ => none))))))]) := hD
  refine lv_iconst (v := 0) hx hb dMB_init_34 (by decide) ?_
  refine lv_istore_n (lv' := [(1, .int 0), (0, .ref q)]) hx hb dMB_init_35 rfl hl (by decide) rfl (fun ls hl => ?_)
  refine lv_iload_n hx hb dMB_init_36 rfl (lv_at hl 0 rfl) ?_
  refine lv_iconst (v := 4) hx hb dMB_init_37 (by decide) ?_
  refine lv_icmp_ge (tgt := 60) hx hb dMB_init_38 (by decide) (fun c_5 => absurd c_5 (by decide)) (fun _ => ?_)
  refine lv_aload_n hx hb dMB_init_41 rfl (lv_at hl 1 rfl) ?_
  refine va_get (D := D) (ci := iMB) (v := .ref q28) (C := RMB) (T := TMB) (N := 5) hx hb htB inBMB hown hK hP 0 rfl rfl 2 (by decide) (htB _ b_152) (fun _ h9 => h9) rfl dMB_init_42 ?_
  refine lv_iload_n hx hb dMB_init_45 rfl (lv_at hl 0 rfl) ?_
  refine va_new (ci := iTr) (fs := [.null, .null, .int 0, .int 0, .int 0, .int 0, .int 0, .int 0, .int 0, .int 0, .int 0]) (C := RTr) (T := TTr) (N := 11) hx hb htB inBTr tyTr tyTr_ok hown (htB _ b_54) (htB _ b_56) (htB _ b_4) hK hP hD hS hA rfl (fun j hj => by rcases (show j = 0 ∨ j = 1 ∨ j = 2 ∨ j = 3 ∨ j = 4 ∨ j = 5 ∨ j = 6 ∨ j = 7 ∨ j = 8 ∨ j = 9 ∨ j = 10 by omega) with rfl | rfl | rfl | rfl | rfl | rfl | rfl | rfl | rfl | rfl | rfl <;> rfl) (Nat.le_of_ble_eq_true rfl) (Nat.le_of_ble_eq_true rfl) dMB_init_46 (fun q6 H hP hD hS => ?_)
  have hP : va_P D vwCl ([(q, .inr (iMB, [.ref (a2 0), .ref (a4 0), .ref q28, .int 0, .int 0]))] ++ wTk g a2 zk0 ++ wWy g a4 zy0 ++ [(q28, .inl (g 2, 4, .inr (.inr (.inr (.inr (fun _ => none)))))), (q6, .inr (iTr, [.null, .null, .int 0, .int 0, .int 0, .int 0, .int 0, .int 0, .int 0, .int 0, .int 0]))]) H := hP
  have hD : va_D A ([(q, .inr (iMB, [.ref (a2 0), .ref (a4 0), .ref q28, .int 0, .int 0]))] ++ wTk g a2 zk0 ++ wWy g a4 zy0 ++ [(q28, .inl (g 2, 4, .inr (.inr (.inr (.inr (fun _ => none)))))), (q6, .inr (iTr, [.null, .null, .int 0, .int 0, .int 0, .int 0, .int 0, .int 0, .int 0, .int 0, .int 0]))]) := hD
  refine W.widen (k := 9) (n := 46) (by omega) (by omega) ?_
  refine lv_dup hx hb dMB_init_49 rfl ?_
  refine mk_init (Wr := [(q, .inr (iMB, [.ref (a2 0), .ref (a4 0), .ref q28, .int 0, .int 0]))] ++ wTk g a2 zk0 ++ wWy g a4 zy0 ++ [(q28, .inl (g 2, 4, .inr (.inr (.inr (.inr (fun _ => none))))))]) (w0 := [(q6, .inr (iTr, [.null, .null, .int 0, .int 0, .int 0, .int 0, .int 0, .int 0, .int 0, .int 0, .int 0]))]) (rest := [.ref q6, .int 0, .ref q28]) ⟨hx, hb, hml, hown, hts⟩ (c_Tr_init l D g q6) (cwI 0 hts (gd_I b_59) rfl rfl rfl (htB _ b_4) (htB _ b_57) (htB _ b_58) rfl (by decide +kernel) ⟨Nat.le_of_ble_eq_true rfl, Nat.le_of_ble_eq_true rfl⟩) hK hP hD hS hA rfl hl.1 rfl (Nat.le_of_ble_eq_true rfl) dMB_init_50 ⟨Nat.le_of_ble_eq_true rfl, Nat.le_of_ble_eq_true rfl⟩ (fun a7 Hn locsn hoa7 hPn hDn hSn => ?_)
  subst hoa7
  generalize Hn = H at hPn hSn ⊢
  generalize locsn = locs at hSn ⊢
  have hP : va_P D vwCl ([(q, .inr (iMB, [.ref (a2 0), .ref (a4 0), .ref q28, .int 0, .int 0]))] ++ wTk g a2 zk0 ++ wWy g a4 zy0 ++ [(q28, .inl (g 2, 4, .inr (.inr (.inr (.inr (fun _ => none))))))] ++ wTr g a7 zt0) H := hPn
  have hD : va_D A ([(q, .inr (iMB, [.ref (a2 0), .ref (a4 0), .ref q28, .int 0, .int 0]))] ++ wTk g a2 zk0 ++ wWy g a4 zy0 ++ [(q28, .inl (g 2, 4, .inr (.inr (.inr (.inr (fun _ => none))))))] ++ wTr g a7 zt0) := hDn
  have hS := hSn
  clear hPn hDn hSn
  refine W.widen (k := 19) (n := 106) (by omega) (by omega) ?_
  refine va_astq (r := (RTr, TTr, 11)) hx hb hK hP hD hS 8 2 9 iTr rfl rfl rfl rfl (i := 0) (vp_in_nI (n := 0) (by decide) (by decide)) dMB_init_53 (fun H locs hP hD hS => ?_)
  have hP : va_P D vwCl ([(q, .inr (iMB, [.ref (a2 0), .ref (a4 0), .ref q28, .int 0, .int 0]))] ++ wTk g a2 zk0 ++ wWy g a4 zy0 ++ [(q28, .inl (g 2, 4, .inr (.inr (.inr (.inr (va_up (fun _ => none) 0 (some (a7 0 0))))))))] ++ wTr g a7 zt0) H := hP
  have hD : va_D A ([(q, .inr (iMB, [.ref (a2 0), .ref (a4 0), .ref q28, .int 0, .int 0]))] ++ wTk g a2 zk0 ++ wWy g a4 zy0 ++ [(q28, .inl (g 2, 4, .inr (.inr (.inr (.inr (va_up (fun _ => none) 0 (some (a7 0 0))))))))] ++ wTr g a7 zt0) := hD
  refine lv_iinc (v := 1) (lv' := [(1, .int 1), (0, .ref q)]) hx hb dMB_init_54 hl (k := 0) rfl (by decide) (by decide) rfl (fun ls hl => ?_)
  refine lv_goto (tgt := 36) hx hb dMB_init_57 (by decide) ?_
  refine lv_iload_n hx hb dMB_init_36 rfl (lv_at hl 0 rfl) ?_
  refine lv_iconst (v := 4) hx hb dMB_init_37 (by decide) ?_
  refine lv_icmp_ge (tgt := 60) hx hb dMB_init_38 (by decide) (fun c_8 => absurd c_8 (by decide)) (fun _ => ?_)
  refine lv_aload_n hx hb dMB_init_41 rfl (lv_at hl 1 rfl) ?_
  refine va_get (D := D) (ci := iMB) (v := .ref q28) (C := RMB) (T := TMB) (N := 5) hx hb htB inBMB hown hK hP 0 rfl rfl 2 (by decide) (htB _ b_152) (fun _ h9 => h9) rfl dMB_init_42 ?_
  refine lv_iload_n hx hb dMB_init_45 rfl (lv_at hl 0 rfl) ?_
  refine va_new (ci := iTr) (fs := [.null, .null, .int 0, .int 0, .int 0, .int 0, .int 0, .int 0, .int 0, .int 0, .int 0]) (C := RTr) (T := TTr) (N := 11) hx hb htB inBTr tyTr tyTr_ok hown (htB _ b_54) (htB _ b_56) (htB _ b_4) hK hP hD hS hA rfl (fun j hj => by rcases (show j = 0 ∨ j = 1 ∨ j = 2 ∨ j = 3 ∨ j = 4 ∨ j = 5 ∨ j = 6 ∨ j = 7 ∨ j = 8 ∨ j = 9 ∨ j = 10 by omega) with rfl | rfl | rfl | rfl | rfl | rfl | rfl | rfl | rfl | rfl | rfl <;> rfl) (Nat.le_of_ble_eq_true rfl) (Nat.le_of_ble_eq_true rfl) dMB_init_46 (fun q9 H hP hD hS => ?_)
  have hP : va_P D vwCl ([(q, .inr (iMB, [.ref (a2 0), .ref (a4 0), .ref q28, .int 0, .int 0]))] ++ wTk g a2 zk0 ++ wWy g a4 zy0 ++ [(q28, .inl (g 2, 4, .inr (.inr (.inr (.inr (va_up (fun _ => none) 0 (some (a7 0 0))))))))] ++ wTr g a7 zt0 ++ [(q9, .inr (iTr, [.null, .null, .int 0, .int 0, .int 0, .int 0, .int 0, .int 0, .int 0, .int 0, .int 0]))]) H := hP
  have hD : va_D A ([(q, .inr (iMB, [.ref (a2 0), .ref (a4 0), .ref q28, .int 0, .int 0]))] ++ wTk g a2 zk0 ++ wWy g a4 zy0 ++ [(q28, .inl (g 2, 4, .inr (.inr (.inr (.inr (va_up (fun _ => none) 0 (some (a7 0 0))))))))] ++ wTr g a7 zt0 ++ [(q9, .inr (iTr, [.null, .null, .int 0, .int 0, .int 0, .int 0, .int 0, .int 0, .int 0, .int 0, .int 0]))]) := hD
  refine W.widen (k := 20) (n := 117) (by omega) (by omega) ?_
  refine lv_dup hx hb dMB_init_49 rfl ?_
  refine mk_init (Wr := [(q, .inr (iMB, [.ref (a2 0), .ref (a4 0), .ref q28, .int 0, .int 0]))] ++ wTk g a2 zk0 ++ wWy g a4 zy0 ++ [(q28, .inl (g 2, 4, .inr (.inr (.inr (.inr (va_up (fun _ => none) 0 (some (a7 0 0))))))))] ++ wTr g a7 zt0) (w0 := [(q9, .inr (iTr, [.null, .null, .int 0, .int 0, .int 0, .int 0, .int 0, .int 0, .int 0, .int 0, .int 0]))]) (rest := [.ref q9, .int 1, .ref q28]) ⟨hx, hb, hml, hown, hts⟩ (c_Tr_init l D g q9) (cwI 0 hts (gd_I b_59) rfl rfl rfl (htB _ b_4) (htB _ b_57) (htB _ b_58) rfl (by decide +kernel) ⟨Nat.le_of_ble_eq_true rfl, Nat.le_of_ble_eq_true rfl⟩) hK hP hD hS hA rfl hl.1 rfl (Nat.le_of_ble_eq_true rfl) dMB_init_50 ⟨Nat.le_of_ble_eq_true rfl, Nat.le_of_ble_eq_true rfl⟩ (fun a10 Hn locsn hoa10 hPn hDn hSn => ?_)
  subst hoa10
  generalize Hn = H at hPn hSn ⊢
  generalize locsn = locs at hSn ⊢
  have hP : va_P D vwCl ([(q, .inr (iMB, [.ref (a2 0), .ref (a4 0), .ref q28, .int 0, .int 0]))] ++ wTk g a2 zk0 ++ wWy g a4 zy0 ++ [(q28, .inl (g 2, 4, .inr (.inr (.inr (.inr (va_up (fun _ => none) 0 (some (a7 0 0))))))))] ++ wTr g a7 zt0 ++ wTr g a10 zt0) H := hPn
  have hD : va_D A ([(q, .inr (iMB, [.ref (a2 0), .ref (a4 0), .ref q28, .int 0, .int 0]))] ++ wTk g a2 zk0 ++ wWy g a4 zy0 ++ [(q28, .inl (g 2, 4, .inr (.inr (.inr (.inr (va_up (fun _ => none) 0 (some (a7 0 0))))))))] ++ wTr g a7 zt0 ++ wTr g a10 zt0) := hDn
  have hS := hSn
  clear hPn hDn hSn
  refine W.widen (k := 30) (n := 177) (by omega) (by omega) ?_
  refine va_astq (r := (RTr, TTr, 11)) hx hb hK hP hD hS 8 2 20 iTr rfl rfl rfl rfl (i := 1) (vp_in_nI (n := 1) (by decide) (by decide)) dMB_init_53 (fun H locs hP hD hS => ?_)
  have hP : va_P D vwCl ([(q, .inr (iMB, [.ref (a2 0), .ref (a4 0), .ref q28, .int 0, .int 0]))] ++ wTk g a2 zk0 ++ wWy g a4 zy0 ++ [(q28, .inl (g 2, 4, .inr (.inr (.inr (.inr (va_up (va_up (fun _ => none) 0 (some (a7 0 0))) 1 (some (a10 0 0))))))))] ++ wTr g a7 zt0 ++ wTr g a10 zt0) H := hP
  have hD : va_D A ([(q, .inr (iMB, [.ref (a2 0), .ref (a4 0), .ref q28, .int 0, .int 0]))] ++ wTk g a2 zk0 ++ wWy g a4 zy0 ++ [(q28, .inl (g 2, 4, .inr (.inr (.inr (.inr (va_up (va_up (fun _ => none) 0 (some (a7 0 0))) 1 (some (a10 0 0))))))))] ++ wTr g a7 zt0 ++ wTr g a10 zt0) := hD
  refine lv_iinc (v := 2) (lv' := [(1, .int 2), (0, .ref q)]) hx hb dMB_init_54 hl (k := 0) rfl (by decide) (by decide) rfl (fun ls hl => ?_)
  refine lv_goto (tgt := 36) hx hb dMB_init_57 (by decide) ?_
  refine lv_iload_n hx hb dMB_init_36 rfl (lv_at hl 0 rfl) ?_
  refine lv_iconst (v := 4) hx hb dMB_init_37 (by decide) ?_
  refine lv_icmp_ge (tgt := 60) hx hb dMB_init_38 (by decide) (fun c_11 => absurd c_11 (by decide)) (fun _ => ?_)
  refine lv_aload_n hx hb dMB_init_41 rfl (lv_at hl 1 rfl) ?_
  refine va_get (D := D) (ci := iMB) (v := .ref q28) (C := RMB) (T := TMB) (N := 5) hx hb htB inBMB hown hK hP 0 rfl rfl 2 (by decide) (htB _ b_152) (fun _ h9 => h9) rfl dMB_init_42 ?_
  refine lv_iload_n hx hb dMB_init_45 rfl (lv_at hl 0 rfl) ?_
  refine va_new (ci := iTr) (fs := [.null, .null, .int 0, .int 0, .int 0, .int 0, .int 0, .int 0, .int 0, .int 0, .int 0]) (C := RTr) (T := TTr) (N := 11) hx hb htB inBTr tyTr tyTr_ok hown (htB _ b_54) (htB _ b_56) (htB _ b_4) hK hP hD hS hA rfl (fun j hj => by rcases (show j = 0 ∨ j = 1 ∨ j = 2 ∨ j = 3 ∨ j = 4 ∨ j = 5 ∨ j = 6 ∨ j = 7 ∨ j = 8 ∨ j = 9 ∨ j = 10 by omega) with rfl | rfl | rfl | rfl | rfl | rfl | rfl | rfl | rfl | rfl | rfl <;> rfl) (Nat.le_of_ble_eq_true rfl) (Nat.le_of_ble_eq_true rfl) dMB_init_46 (fun q12 H hP hD hS => ?_)
  have hP : va_P D vwCl ([(q, .inr (iMB, [.ref (a2 0), .ref (a4 0), .ref q28, .int 0, .int 0]))] ++ wTk g a2 zk0 ++ wWy g a4 zy0 ++ [(q28, .inl (g 2, 4, .inr (.inr (.inr (.inr (va_up (va_up (fun _ => none) 0 (some (a7 0 0))) 1 (some (a10 0 0))))))))] ++ wTr g a7 zt0 ++ wTr g a10 zt0 ++ [(q12, .inr (iTr, [.null, .null, .int 0, .int 0, .int 0, .int 0, .int 0, .int 0, .int 0, .int 0, .int 0]))]) H := hP
  have hD : va_D A ([(q, .inr (iMB, [.ref (a2 0), .ref (a4 0), .ref q28, .int 0, .int 0]))] ++ wTk g a2 zk0 ++ wWy g a4 zy0 ++ [(q28, .inl (g 2, 4, .inr (.inr (.inr (.inr (va_up (va_up (fun _ => none) 0 (some (a7 0 0))) 1 (some (a10 0 0))))))))] ++ wTr g a7 zt0 ++ wTr g a10 zt0 ++ [(q12, .inr (iTr, [.null, .null, .int 0, .int 0, .int 0, .int 0, .int 0, .int 0, .int 0, .int 0, .int 0]))]) := hD
  refine W.widen (k := 31) (n := 188) (by omega) (by omega) ?_
  refine lv_dup hx hb dMB_init_49 rfl ?_
  refine mk_init (Wr := [(q, .inr (iMB, [.ref (a2 0), .ref (a4 0), .ref q28, .int 0, .int 0]))] ++ wTk g a2 zk0 ++ wWy g a4 zy0 ++ [(q28, .inl (g 2, 4, .inr (.inr (.inr (.inr (va_up (va_up (fun _ => none) 0 (some (a7 0 0))) 1 (some (a10 0 0))))))))] ++ wTr g a7 zt0 ++ wTr g a10 zt0) (w0 := [(q12, .inr (iTr, [.null, .null, .int 0, .int 0, .int 0, .int 0, .int 0, .int 0, .int 0, .int 0, .int 0]))]) (rest := [.ref q12, .int 2, .ref q28]) ⟨hx, hb, hml, hown, hts⟩ (c_Tr_init l D g q12) (cwI 0 hts (gd_I b_59) rfl rfl rfl (htB _ b_4) (htB _ b_57) (htB _ b_58) rfl (by decide +kernel) ⟨Nat.le_of_ble_eq_true rfl, Nat.le_of_ble_eq_true rfl⟩) hK hP hD hS hA rfl hl.1 rfl (Nat.le_of_ble_eq_true rfl) dMB_init_50 ⟨Nat.le_of_ble_eq_true rfl, Nat.le_of_ble_eq_true rfl⟩ (fun a13 Hn locsn hoa13 hPn hDn hSn => ?_)
  subst hoa13
  generalize Hn = H at hPn hSn ⊢
  generalize locsn = locs at hSn ⊢
  have hP : va_P D vwCl ([(q, .inr (iMB, [.ref (a2 0), .ref (a4 0), .ref q28, .int 0, .int 0]))] ++ wTk g a2 zk0 ++ wWy g a4 zy0 ++ [(q28, .inl (g 2, 4, .inr (.inr (.inr (.inr (va_up (va_up (fun _ => none) 0 (some (a7 0 0))) 1 (some (a10 0 0))))))))] ++ wTr g a7 zt0 ++ wTr g a10 zt0 ++ wTr g a13 zt0) H := hPn
  have hD : va_D A ([(q, .inr (iMB, [.ref (a2 0), .ref (a4 0), .ref q28, .int 0, .int 0]))] ++ wTk g a2 zk0 ++ wWy g a4 zy0 ++ [(q28, .inl (g 2, 4, .inr (.inr (.inr (.inr (va_up (va_up (fun _ => none) 0 (some (a7 0 0))) 1 (some (a10 0 0))))))))] ++ wTr g a7 zt0 ++ wTr g a10 zt0 ++ wTr g a13 zt0) := hDn
  have hS := hSn
  clear hPn hDn hSn
  refine W.widen (k := 41) (n := 248) (by omega) (by omega) ?_
  refine va_astq (r := (RTr, TTr, 11)) hx hb hK hP hD hS 8 2 31 iTr rfl rfl rfl rfl (i := 2) (vp_in_nI (n := 2) (by decide) (by decide)) dMB_init_53 (fun H locs hP hD hS => ?_)
  have hP : va_P D vwCl ([(q, .inr (iMB, [.ref (a2 0), .ref (a4 0), .ref q28, .int 0, .int 0]))] ++ wTk g a2 zk0 ++ wWy g a4 zy0 ++ [(q28, .inl (g 2, 4, .inr (.inr (.inr (.inr (va_up (va_up (va_up (fun _ => none) 0 (some (a7 0 0))) 1 (some (a10 0 0))) 2 (some (a13 0 0))))))))] ++ wTr g a7 zt0 ++ wTr g a10 zt0 ++ wTr g a13 zt0) H := hP
  have hD : va_D A ([(q, .inr (iMB, [.ref (a2 0), .ref (a4 0), .ref q28, .int 0, .int 0]))] ++ wTk g a2 zk0 ++ wWy g a4 zy0 ++ [(q28, .inl (g 2, 4, .inr (.inr (.inr (.inr (va_up (va_up (va_up (fun _ => none) 0 (some (a7 0 0))) 1 (some (a10 0 0))) 2 (some (a13 0 0))))))))] ++ wTr g a7 zt0 ++ wTr g a10 zt0 ++ wTr g a13 zt0) := hD
  refine lv_iinc (v := 3) (lv' := [(1, .int 3), (0, .ref q)]) hx hb dMB_init_54 hl (k := 0) rfl (by decide) (by decide) rfl (fun ls hl => ?_)
  refine lv_goto (tgt := 36) hx hb dMB_init_57 (by decide) ?_
  refine lv_iload_n hx hb dMB_init_36 rfl (lv_at hl 0 rfl) ?_
  refine lv_iconst (v := 4) hx hb dMB_init_37 (by decide) ?_
  refine lv_icmp_ge (tgt := 60) hx hb dMB_init_38 (by decide) (fun c_14 => absurd c_14 (by decide)) (fun _ => ?_)
  refine lv_aload_n hx hb dMB_init_41 rfl (lv_at hl 1 rfl) ?_
  refine va_get (D := D) (ci := iMB) (v := .ref q28) (C := RMB) (T := TMB) (N := 5) hx hb htB inBMB hown hK hP 0 rfl rfl 2 (by decide) (htB _ b_152) (fun _ h9 => h9) rfl dMB_init_42 ?_
  refine lv_iload_n hx hb dMB_init_45 rfl (lv_at hl 0 rfl) ?_
  refine va_new (ci := iTr) (fs := [.null, .null, .int 0, .int 0, .int 0, .int 0, .int 0, .int 0, .int 0, .int 0, .int 0]) (C := RTr) (T := TTr) (N := 11) hx hb htB inBTr tyTr tyTr_ok hown (htB _ b_54) (htB _ b_56) (htB _ b_4) hK hP hD hS hA rfl (fun j hj => by rcases (show j = 0 ∨ j = 1 ∨ j = 2 ∨ j = 3 ∨ j = 4 ∨ j = 5 ∨ j = 6 ∨ j = 7 ∨ j = 8 ∨ j = 9 ∨ j = 10 by omega) with rfl | rfl | rfl | rfl | rfl | rfl | rfl | rfl | rfl | rfl | rfl <;> rfl) (Nat.le_of_ble_eq_true rfl) (Nat.le_of_ble_eq_true rfl) dMB_init_46 (fun q15 H hP hD hS => ?_)
  have hP : va_P D vwCl ([(q, .inr (iMB, [.ref (a2 0), .ref (a4 0), .ref q28, .int 0, .int 0]))] ++ wTk g a2 zk0 ++ wWy g a4 zy0 ++ [(q28, .inl (g 2, 4, .inr (.inr (.inr (.inr (va_up (va_up (va_up (fun _ => none) 0 (some (a7 0 0))) 1 (some (a10 0 0))) 2 (some (a13 0 0))))))))] ++ wTr g a7 zt0 ++ wTr g a10 zt0 ++ wTr g a13 zt0 ++ [(q15, .inr (iTr, [.null, .null, .int 0, .int 0, .int 0, .int 0, .int 0, .int 0, .int 0, .int 0, .int 0]))]) H := hP
  have hD : va_D A ([(q, .inr (iMB, [.ref (a2 0), .ref (a4 0), .ref q28, .int 0, .int 0]))] ++ wTk g a2 zk0 ++ wWy g a4 zy0 ++ [(q28, .inl (g 2, 4, .inr (.inr (.inr (.inr (va_up (va_up (va_up (fun _ => none) 0 (some (a7 0 0))) 1 (some (a10 0 0))) 2 (some (a13 0 0))))))))] ++ wTr g a7 zt0 ++ wTr g a10 zt0 ++ wTr g a13 zt0 ++ [(q15, .inr (iTr, [.null, .null, .int 0, .int 0, .int 0, .int 0, .int 0, .int 0, .int 0, .int 0, .int 0]))]) := hD
  refine W.widen (k := 42) (n := 259) (by omega) (by omega) ?_
  refine lv_dup hx hb dMB_init_49 rfl ?_
  refine mk_init (Wr := [(q, .inr (iMB, [.ref (a2 0), .ref (a4 0), .ref q28, .int 0, .int 0]))] ++ wTk g a2 zk0 ++ wWy g a4 zy0 ++ [(q28, .inl (g 2, 4, .inr (.inr (.inr (.inr (va_up (va_up (va_up (fun _ => none) 0 (some (a7 0 0))) 1 (some (a10 0 0))) 2 (some (a13 0 0))))))))] ++ wTr g a7 zt0 ++ wTr g a10 zt0 ++ wTr g a13 zt0) (w0 := [(q15, .inr (iTr, [.null, .null, .int 0, .int 0, .int 0, .int 0, .int 0, .int 0, .int 0, .int 0, .int 0]))]) (rest := [.ref q15, .int 3, .ref q28]) ⟨hx, hb, hml, hown, hts⟩ (c_Tr_init l D g q15) (cwI 0 hts (gd_I b_59) rfl rfl rfl (htB _ b_4) (htB _ b_57) (htB _ b_58) rfl (by decide +kernel) ⟨Nat.le_of_ble_eq_true rfl, Nat.le_of_ble_eq_true rfl⟩) hK hP hD hS hA rfl hl.1 rfl (Nat.le_of_ble_eq_true rfl) dMB_init_50 ⟨Nat.le_of_ble_eq_true rfl, Nat.le_of_ble_eq_true rfl⟩ (fun a16 Hn locsn hoa16 hPn hDn hSn => ?_)
  subst hoa16
  generalize Hn = H at hPn hSn ⊢
  generalize locsn = locs at hSn ⊢
  have hP : va_P D vwCl ([(q, .inr (iMB, [.ref (a2 0), .ref (a4 0), .ref q28, .int 0, .int 0]))] ++ wTk g a2 zk0 ++ wWy g a4 zy0 ++ [(q28, .inl (g 2, 4, .inr (.inr (.inr (.inr (va_up (va_up (va_up (fun _ => none) 0 (some (a7 0 0))) 1 (some (a10 0 0))) 2 (some (a13 0 0))))))))] ++ wTr g a7 zt0 ++ wTr g a10 zt0 ++ wTr g a13 zt0 ++ wTr g a16 zt0) H := hPn
  have hD : va_D A ([(q, .inr (iMB, [.ref (a2 0), .ref (a4 0), .ref q28, .int 0, .int 0]))] ++ wTk g a2 zk0 ++ wWy g a4 zy0 ++ [(q28, .inl (g 2, 4, .inr (.inr (.inr (.inr (va_up (va_up (va_up (fun _ => none) 0 (some (a7 0 0))) 1 (some (a10 0 0))) 2 (some (a13 0 0))))))))] ++ wTr g a7 zt0 ++ wTr g a10 zt0 ++ wTr g a13 zt0 ++ wTr g a16 zt0) := hDn
  have hS := hSn
  clear hPn hDn hSn
  refine W.widen (k := 52) (n := 319) (by omega) (by omega) ?_
  refine va_astq (r := (RTr, TTr, 11)) hx hb hK hP hD hS 8 2 42 iTr rfl rfl rfl rfl (i := 3) (vp_in_nI (n := 3) (by decide) (by decide)) dMB_init_53 (fun H locs hP hD hS => ?_)
  have hP : va_P D vwCl ([(q, .inr (iMB, [.ref (a2 0), .ref (a4 0), .ref q28, .int 0, .int 0]))] ++ wTk g a2 zk0 ++ wWy g a4 zy0 ++ [(q28, .inl (g 2, 4, .inr (.inr (.inr (.inr (va_up (va_up (va_up (va_up (fun _ => none) 0 (some (a7 0 0))) 1 (some (a10 0 0))) 2 (some (a13 0 0))) 3 (some (a16 0 0))))))))] ++ wTr g a7 zt0 ++ wTr g a10 zt0 ++ wTr g a13 zt0 ++ wTr g a16 zt0) H := hP
  have hD : va_D A ([(q, .inr (iMB, [.ref (a2 0), .ref (a4 0), .ref q28, .int 0, .int 0]))] ++ wTk g a2 zk0 ++ wWy g a4 zy0 ++ [(q28, .inl (g 2, 4, .inr (.inr (.inr (.inr (va_up (va_up (va_up (va_up (fun _ => none) 0 (some (a7 0 0))) 1 (some (a10 0 0))) 2 (some (a13 0 0))) 3 (some (a16 0 0))))))))] ++ wTr g a7 zt0 ++ wTr g a10 zt0 ++ wTr g a13 zt0 ++ wTr g a16 zt0) := hD
  refine lv_iinc (v := 4) (lv' := [(1, .int 4), (0, .ref q)]) hx hb dMB_init_54 hl (k := 0) rfl (by decide) (by decide) rfl (fun ls hl => ?_)
  refine lv_goto (tgt := 36) hx hb dMB_init_57 (by decide) ?_
  refine lv_iload_n hx hb dMB_init_36 rfl (lv_at hl 0 rfl) ?_
  refine lv_iconst (v := 4) hx hb dMB_init_37 (by decide) ?_
  refine lv_icmp_ge (tgt := 60) hx hb dMB_init_38 (by decide) (fun _ => ?_) (fun c_17 => absurd (by decide) c_17)
  exact W.vret hx hb hr (fun t9 ht hW => ⟨⟨((fun k => if k = 0 then q else q28), (va_up (va_up (va_up (va_up (fun _ => none) 0 (some (a7 0 0))) 1 (some (a10 0 0))) 2 (some (a13 0 0))) 3 (some (a16 0 0))), (fun k => if k = 0 then a7 else if k = 1 then a10 else if k = 2 then a13 else a16), a2, a4), rfl, ⟨rfl, fun i hi => by rcases i4 hi with rfl | rfl | rfl | rfl <;> rfl⟩, mk_end ht rfl hP, hD⟩, hS.F ht⟩) hS.2.2 dMB_init_60
