set_option maxHeartbeats 4000000 in
set_option maxRecDepth 100000 in
theorem sg_Tr_drive {p : Program} {l : Launch} {e : Env} {s : State} {m : MethodId} {args : Array Value} {below : List Frame} {meth : Method} {cd : Code} {Q : State → Prop} {D : va_G} {g : Nat → ClassId} {A : Nat → Prop} {a : Nat → Nat → Nat} {t : zTr} {b : Nat → Nat} {k : zTk} {n : Nat} {f : Bool} (hx : p.tables.exec = Jvm.exec) (hb : cd.code = cTr_drive) (hml : cd.maxLocals = 5) (hown : s.vm.findClass RTr = some m.cls) (hts : ∀ w ∈ wsTr_drive, w.before args s = true) (hK : va_K D vwCl (zty g) s) (hA : ∀ q : Nat, s.heap.size ≤ q → A q) {H : Heap} {locs : List Loc} {ls : Array Slot}  (hP : va_P D vwCl (wTr g a t ++ wTk g b k) H) (hD : va_D A (wTr g a t ++ wTk g b k)) (hS : va_S A s.heap H locs) (hl : lv_has ls 5 [(3, .int (bI f)), (0, .ref (a 0 0)), (1, .int (nI n)), (2, .ref (b 0))]) (kk99 : ∀ (H : Heap) (locs : List Loc) (ls : Array Slot), va_P D vwCl (wTr g a (tDrv4 (tDrv3 t (tDrv2 t f k) k)) ++ wTk g b k) H → va_D A (wTr g a (tDrv4 (tDrv3 t (tDrv2 t f k) k)) ++ wTk g b k) → va_S A s.heap H locs → lv_has ls 5 [(0, .ref (a 0 0)), (1, .int (nI n)), (2, .ref (b 0))] → W p l e ({ frames := 4, cells := 0, slots := 0, locals := 96 }) s m args below meth cd H locs 0 0 Q (F0 m 99 ls [])) : W p l e ({ frames := 4, cells := 0, slots := 0, locals := 96 }) s m args below meth cd H locs 0 0 Q (F0 m 56 ls []) := by
  have htB : ∀ w ∈ BIG, w.before args s = true := fun w h => hts w (List.mem_cons_of_mem _ h)
  refine lv_aload_n hx hb dTr_drive_56 rfl (lv_at hl 1 rfl) ?_
  refine va_get (D := D) (ci := iTr) (v := .int (bI (tem t))) (C := RTr) (T := TTr) (N := 11) hx hb htB inBTr hown hK hP 0 rfl rfl 9 (by decide) (htB _ b_123) (fun _ h9 => h9) rfl dTr_drive_57 ?_
  refine lv_if_eq (tgt := 68) hx hb dTr_drive_60 (by decide) (fun c_1 => ?_) (fun c_1 => ?_)
  · refine lv_aload_n hx hb dTr_drive_68 rfl (lv_at hl 1 rfl) ?_
    refine lv_iload_n hx hb dTr_drive_69 rfl (lv_at hl 0 rfl) ?_
    refine lv_aload_n hx hb dTr_drive_70 rfl (lv_at hl 3 rfl) ?_
    refine mk_rdV (As := [.int (bI f), .ref (b 0)]) (rest := []) (w := (wTr g a t ++ wTk g b k)) (q0 := (RTr, TTr, 11)) (ci := iTr) ⟨hx, hb, hml, hown, hts⟩ (c_Tr_pull l D g a t b k f) (cwV 2 hts (gd_V b_293 b_294 b_295 b_4 b_296) rfl rfl rfl (by decide +kernel) ⟨Nat.le_of_ble_eq_true rfl, Nat.le_of_ble_eq_true rfl⟩) hK hP hD hS hA [0, 1, 2, 3, 4, 5, 6, 7, 8, 9, 10, 11, 12, 13] rfl (by decide) rfl rfl rfl hl.1 rfl (Nat.le_of_ble_eq_true rfl) dTr_drive_71 ⟨Nat.zero_le _, Nat.zero_le _⟩ (fun H locs hP hS => ?_)
    refine lv_istore (lv' := [(4, .int (tPull t f k)), (3, .int (bI f)), (0, .ref (a 0 0)), (1, .int (nI n)), (2, .ref (b 0))]) hx hb dTr_drive_74 hl (by decide) rfl (fun ls hl => ?_)
    refine lv_aload_n hx hb dTr_drive_76 rfl (lv_at hl 2 rfl) ?_
    refine lv_aload_n hx hb dTr_drive_77 rfl (lv_at hl 2 rfl) ?_
    refine lv_iload hx hb dTr_drive_78 (lv_at hl 0 rfl) ?_
    refine lv_aload_n hx hb dTr_drive_80 rfl (lv_at hl 4 rfl) ?_
    refine mk_rdV (As := [.int (tPull t f k), .ref (b 0)]) (rest := [.ref (a 0 0)]) (w := (wTr g a t ++ wTk g b k)) (q0 := (RTr, TTr, 11)) (ci := iTr) ⟨hx, hb, hml, hown, hts⟩ (c_Tr_after l D g a t b k (tPull t f k)) (cwV 2 hts (gd_V b_301 b_302 b_303 b_4 b_304) rfl rfl rfl (by decide +kernel) ⟨Nat.le_of_ble_eq_true rfl, Nat.le_of_ble_eq_true rfl⟩) hK hP hD hS hA [0, 1, 2, 3, 4, 5, 6, 7, 8, 9, 10, 11, 12, 13] rfl (by decide) rfl rfl rfl hl.1 rfl (Nat.le_of_ble_eq_true rfl) dTr_drive_81 ⟨Nat.zero_le _, Nat.zero_le _⟩ (fun H locs hP hS => ?_)
    refine mk_wrV (As := [.int (tAfter t (tPull t f k) k)]) (rest := []) (w := (wTr g a t)) (q0 := (RTr, TTr, 11)) (ci := iTr) (w2 := (wTr g a (tMove t (tAfter t (tPull t f k) k)))) ⟨hx, hb, hml, hown, hts⟩ (c_Tr_move l D g a t (tAfter t (tPull t f k) k)) (cwV 1 hts (gd_V b_313 b_314 b_315 b_4 b_316) rfl rfl rfl (by decide +kernel) ⟨Nat.le_of_ble_eq_true rfl, Nat.le_of_ble_eq_true rfl⟩) hK hP hD hS hA [0, 1, 2, 3, 4, 5, 6, 7, 8, 9, 10] rfl (by decide) fst_Tr rfl rfl rfl hl.1 rfl (Nat.le_of_ble_eq_true rfl) dTr_drive_84 ⟨Nat.zero_le _, Nat.zero_le _⟩ (fun H locs hP hD hS => ?_)
    rw [put_Tr1] at hP hD
    have hP : va_P D vwCl (wTr g a (tMove t (tAfter t (tPull t f k) k)) ++ wTk g b k) H := hP
    have hD : va_D A (wTr g a (tMove t (tAfter t (tPull t f k) k)) ++ wTk g b k) := hD
    generalize hg_2 : (tMove t (tAfter t (tPull t f k) k)) = u_2 at hP hD
    have hP : va_P D vwCl (wTr g a u_2 ++ wTk g b k) H := hP
    have hD : va_D A (wTr g a u_2 ++ wTk g b k) := hD
    refine lv_aload_n hx hb dTr_drive_87 rfl (lv_at hl 2 rfl) ?_
    refine va_get (D := D) (ci := iTr) (v := .int (tsp u_2)) (C := RTr) (T := TTr) (N := 11) hx hb htB inBTr hown hK hP 0 rfl rfl 4 (by decide) (htB _ b_113) (fun _ h9 => h9) rfl dTr_drive_88 ?_
    refine lv_if_ne (tgt := 99) hx hb dTr_drive_91 (by decide) (fun c_3 => ?_) (fun c_3 => ?_)
    · have hE : wTr g a (tDrv4 (tDrv3 t (tDrv2 t f k) k)) ++ wTk g b k = wTr g a u_2 ++ wTk g b k := (by simp only [tDrv4, tDrv3, tDrv2, hg_2, if_pos c_1, if_neg c_3])
      rw [hE] at kk99
      exact kk99 H locs ls hP hD hS (lv_sub hl [2, 3, 4] rfl)
    · refine lv_aload_n hx hb dTr_drive_94 rfl (lv_at hl 2 rfl) ?_
      refine lv_iconst (v := 0) hx hb dTr_drive_95 (by decide) ?_
      refine va_put (D := D) (ci := iTr) (v := .int 0) (ty := .boolean) (C := RTr) (T := TTr) (N := 11) hx hb htB inBTr tyTr tyTr_ok nmTr hown hK hP hD hS 0 rfl rfl 9 (by decide) (htB _ b_123) (fun _ h9 => h9) rfl (by decide +kernel) rfl rfl (Nat.le_of_ble_eq_true rfl) dTr_drive_96 (fun H locs hP hD hS => ?_)
      have hP : va_P D vwCl (wTr g a (tOut u_2) ++ wTk g b k) H := mk_eqP set_em0 hP
      have hD : va_D A (wTr g a (tOut u_2) ++ wTk g b k) := mk_eqD set_em0 hD
      have hE : wTr g a (tDrv4 (tDrv3 t (tDrv2 t f k) k)) ++ wTk g b k = wTr g a (tOut u_2) ++ wTk g b k := (by simp only [tDrv4, tDrv3, tDrv2, hg_2, if_pos c_1, if_pos c_3])
      rw [hE] at kk99
      exact kk99 H locs ls hP hD hS (lv_sub hl [2, 3, 4] rfl)
  · refine lv_bipush (v := (-12)) hx hb dTr_drive_63 (by decide) ?_
    refine lv_goto (tgt := 74) hx hb dTr_drive_65 (by decide) ?_
    refine lv_istore (lv' := [(4, .int (-12)), (3, .int (bI f)), (0, .ref (a 0 0)), (1, .int (nI n)), (2, .ref (b 0))]) hx hb dTr_drive_74 hl (by decide) rfl (fun ls hl => ?_)
    refine lv_aload_n hx hb dTr_drive_76 rfl (lv_at hl 2 rfl) ?_
    refine lv_aload_n hx hb dTr_drive_77 rfl (lv_at hl 2 rfl) ?_
    refine lv_iload hx hb dTr_drive_78 (lv_at hl 0 rfl) ?_
    refine lv_aload_n hx hb dTr_drive_80 rfl (lv_at hl 4 rfl) ?_
    refine mk_rdV (As := [.int (-12), .ref (b 0)]) (rest := [.ref (a 0 0)]) (w := (wTr g a t ++ wTk g b k)) (q0 := (RTr, TTr, 11)) (ci := iTr) ⟨hx, hb, hml, hown, hts⟩ (c_Tr_after l D g a t b k (-12)) (cwV 2 hts (gd_V b_301 b_302 b_303 b_4 b_304) rfl rfl rfl (by decide +kernel) ⟨Nat.le_of_ble_eq_true rfl, Nat.le_of_ble_eq_true rfl⟩) hK hP hD hS hA [0, 1, 2, 3, 4, 5, 6, 7, 8, 9, 10, 11, 12, 13] rfl (by decide) rfl rfl rfl hl.1 rfl (Nat.le_of_ble_eq_true rfl) dTr_drive_81 ⟨Nat.zero_le _, Nat.zero_le _⟩ (fun H locs hP hS => ?_)
    refine mk_wrV (As := [.int (tAfter t (-12) k)]) (rest := []) (w := (wTr g a t)) (q0 := (RTr, TTr, 11)) (ci := iTr) (w2 := (wTr g a (tMove t (tAfter t (-12) k)))) ⟨hx, hb, hml, hown, hts⟩ (c_Tr_move l D g a t (tAfter t (-12) k)) (cwV 1 hts (gd_V b_313 b_314 b_315 b_4 b_316) rfl rfl rfl (by decide +kernel) ⟨Nat.le_of_ble_eq_true rfl, Nat.le_of_ble_eq_true rfl⟩) hK hP hD hS hA [0, 1, 2, 3, 4, 5, 6, 7, 8, 9, 10] rfl (by decide) fst_Tr rfl rfl rfl hl.1 rfl (Nat.le_of_ble_eq_true rfl) dTr_drive_84 ⟨Nat.zero_le _, Nat.zero_le _⟩ (fun H locs hP hD hS => ?_)
    rw [put_Tr1] at hP hD
    have hP : va_P D vwCl (wTr g a (tMove t (tAfter t (-12) k)) ++ wTk g b k) H := hP
    have hD : va_D A (wTr g a (tMove t (tAfter t (-12) k)) ++ wTk g b k) := hD
    generalize hg_4 : (tMove t (tAfter t (-12) k)) = u_4 at hP hD
    have hP : va_P D vwCl (wTr g a u_4 ++ wTk g b k) H := hP
    have hD : va_D A (wTr g a u_4 ++ wTk g b k) := hD
    refine lv_aload_n hx hb dTr_drive_87 rfl (lv_at hl 2 rfl) ?_
    refine va_get (D := D) (ci := iTr) (v := .int (tsp u_4)) (C := RTr) (T := TTr) (N := 11) hx hb htB inBTr hown hK hP 0 rfl rfl 4 (by decide) (htB _ b_113) (fun _ h9 => h9) rfl dTr_drive_88 ?_
    refine lv_if_ne (tgt := 99) hx hb dTr_drive_91 (by decide) (fun c_5 => ?_) (fun c_5 => ?_)
    · have hE : wTr g a (tDrv4 (tDrv3 t (tDrv2 t f k) k)) ++ wTk g b k = wTr g a u_4 ++ wTk g b k := (by simp only [tDrv4, tDrv3, tDrv2, hg_4, if_neg c_1, if_neg c_5])
      rw [hE] at kk99
      exact kk99 H locs ls hP hD hS (lv_sub hl [2, 3, 4] rfl)
    · refine lv_aload_n hx hb dTr_drive_94 rfl (lv_at hl 2 rfl) ?_
      refine lv_iconst (v := 0) hx hb dTr_drive_95 (by decide) ?_
      refine va_put (D := D) (ci := iTr) (v := .int 0) (ty := .boolean) (C := RTr) (T := TTr) (N := 11) hx hb htB inBTr tyTr tyTr_ok nmTr hown hK hP hD hS 0 rfl rfl 9 (by decide) (htB _ b_123) (fun _ h9 => h9) rfl (by decide +kernel) rfl rfl (Nat.le_of_ble_eq_true rfl) dTr_drive_96 (fun H locs hP hD hS => ?_)
      have hP : va_P D vwCl (wTr g a (tOut u_4) ++ wTk g b k) H := mk_eqP set_em0 hP
      have hD : va_D A (wTr g a (tOut u_4) ++ wTk g b k) := mk_eqD set_em0 hD
      have hE : wTr g a (tDrv4 (tDrv3 t (tDrv2 t f k) k)) ++ wTk g b k = wTr g a (tOut u_4) ++ wTk g b k := (by simp only [tDrv4, tDrv3, tDrv2, hg_4, if_neg c_1, if_pos c_5])
      rw [hE] at kk99
      exact kk99 H locs ls hP hD hS (lv_sub hl [2, 3, 4] rfl)
set_option maxHeartbeats 4000000 in
set_option maxRecDepth 100000 in
/-- drive -/
theorem c_Tr_drive (l : Launch) (D : va_G) (g : Nat → ClassId) (a : Nat → Nat → Nat) (t : zTr) (b : Nat → Nat) (k : zTk) (n : Nat) : mk_Wv l yTr_drive wsTr_drive ({ frames := 4, cells := 0, slots := 0, locals := 96 }) D vwCl (zty g) [.ref (a 0 0), .int (nI n), .ref (b 0)] (wTr g a t ++ wTk g b k) (wTr g a (tDrive t n k) ++ wTk g b k) := by
  intro sz
  refine Met.ofW (cc := cTr_drive) (maxL := 5) (ret := none) (by decide) rfl ?_
  intro p e s m args below meth cd s₁ B hml hv
  obtain ⟨rfl, hsz, hP, hK, hD0⟩ := hv
  have hx := B.exec
  have hb := B.bytes
  have hr := B.returns
  have hts := atoms_spec (ws := wsTr_drive) B.pre
  have htB := fun (w : Cond) (h : w ∈ BIG) => hts w (List.mem_cons_of_mem _ h)
  have hown : s.vm.findClass RTr = some m.cls := findClass_of_methodNamed B.named
  have hlocks := B.notSynchronized
  subst hsz
  have hD := hD0.self (sz := s.heap.size)
  generalize hAe : va_A (wTr g a t ++ wTk g b k) s.heap.size = A at hD ⊢
  have hA : ∀ q : Nat, s.heap.size ≤ q → A q := fun q h => by rw [← hAe]; exact Or.inr h
  have hS : va_S A s.heap s.heap [] := va_S.rf
  have hl := lv_entry ([.ref (a 0 0), .int (nI n), .ref (b 0)]) (n := 5) (Nat.le_of_ble_eq_true rfl)
  rw [lg_entry_eq]
  generalize (lg_sl ([.ref (a 0 0), .int (nI n), .ref (b 0)]) ++ List.replicate (5 - (lg_sl ([.ref (a 0 0), .int (nI n), .ref (b 0)])).length) Slot.unset).toArray = ls at hl ⊢
  have hl : lv_has ls 5 [(0, .ref (a 0 0)), (1, .int (nI n)), (2, .ref (b 0))] := hl
  have hP : va_P D vwCl (wTr g a t ++ wTk g b k) s.heap := hP
  refine lv_aload_n hx hb dTr_drive_0 rfl (lv_at hl 0 rfl) ?_
  refine lv_iload_n hx hb dTr_drive_1 rfl (lv_at hl 1 rfl) ?_
  refine mk_rdV (As := [.int (nI n)]) (rest := []) (w := (wTr g a t)) (q0 := (RTr, TTr, 11)) (ci := iTr) ⟨hx, hb, hml, hown, hts⟩ (c_Tr_fresh l D g a t n) (cwV 1 hts (gd_V b_275 b_276 b_277 b_4 b_278) rfl rfl rfl (by decide +kernel) ⟨Nat.le_of_ble_eq_true rfl, Nat.le_of_ble_eq_true rfl⟩) hK hP hD hS hA [0, 1, 2, 3, 4, 5, 6, 7, 8, 9, 10] rfl (by decide) rfl rfl rfl hl.1 rfl (Nat.le_of_ble_eq_true rfl) dTr_drive_2 ⟨Nat.zero_le _, Nat.zero_le _⟩ (fun H locs hP hS => ?_)
  refine lv_istore_n (lv' := [(3, .int (bI (tFresh t n))), (0, .ref (a 0 0)), (1, .int (nI n)), (2, .ref (b 0))]) hx hb dTr_drive_5 rfl hl (by decide) rfl (fun ls hl => ?_)
  refine lv_aload_n hx hb dTr_drive_6 rfl (lv_at hl 1 rfl) ?_
  refine va_get (D := D) (ci := iTr) (v := .int (bI (tem t))) (C := RTr) (T := TTr) (N := 11) hx hb htB inBTr hown hK hP 0 rfl rfl 9 (by decide) (htB _ b_123) (fun _ h9 => h9) rfl dTr_drive_7 ?_
  refine lv_if_ne (tgt := 56) hx hb dTr_drive_10 (by decide) (fun c_1 => ?_) (fun c_1 => ?_)
  · refine sg_Tr_drive (a := a) (t := t) (b := b) (k := k) (n := n) (f := tFresh t n) hx hb hml hown hts hK hA hP hD hS (lv_sub hl [0, 1, 2, 3] rfl) (fun H locs ls hP hD hS hl => ?_)
    have hE : wTr g a (tDrive t n k) ++ wTk g b k = wTr g a (tDrv4 (tDrv3 t (tDrv2 t (tFresh t n) k) k)) ++ wTk g b k := (by simp only [tDrive, tDrv1, tInto, if_neg c_1] <;> rfl)
    exact W.vret hx hb hr (fun t9 ht hW => ⟨⟨(), rfl, trivial, mk_end ht hE hP⟩, hS.F ht⟩) hS.2.2 dTr_drive_99
  · refine lv_aload_n hx hb dTr_drive_13 rfl (lv_at hl 1 rfl) ?_
    refine va_get (D := D) (ci := iTr) (v := .int (tsp t)) (C := RTr) (T := TTr) (N := 11) hx hb htB inBTr hown hK hP 0 rfl rfl 4 (by decide) (htB _ b_113) (fun _ h9 => h9) rfl dTr_drive_14 ?_
    refine lv_if_eq (tgt := 56) hx hb dTr_drive_17 (by decide) (fun c_2 => ?_) (fun c_2 => ?_)
    · refine sg_Tr_drive (a := a) (t := t) (b := b) (k := k) (n := n) (f := tFresh t n) hx hb hml hown hts hK hA hP hD hS (lv_sub hl [0, 1, 2, 3] rfl) (fun H locs ls hP hD hS hl => ?_)
      have hE : wTr g a (tDrive t n k) ++ wTk g b k = wTr g a (tDrv4 (tDrv3 t (tDrv2 t (tFresh t n) k) k)) ++ wTk g b k := (by simp only [tDrive, tDrv1, tInto, if_pos c_1, if_pos c_2] <;> rfl)
      exact W.vret hx hb hr (fun t9 ht hW => ⟨⟨(), rfl, trivial, mk_end ht hE hP⟩, hS.F ht⟩) hS.2.2 dTr_drive_99
    · refine lv_iload_n hx hb dTr_drive_20 rfl (lv_at hl 0 rfl) ?_
      refine lv_if_eq (tgt := 41) hx hb dTr_drive_21 (by decide) (fun c_3 => ?_) (fun c_3 => ?_)
      · refine lv_aload_n hx hb dTr_drive_41 rfl (lv_at hl 1 rfl) ?_
        refine lv_iconst (v := 1) hx hb dTr_drive_42 (by decide) ?_
        refine va_put (D := D) (ci := iTr) (v := .int 1) (ty := .boolean) (C := RTr) (T := TTr) (N := 11) hx hb htB inBTr tyTr tyTr_ok nmTr hown hK hP hD hS 0 rfl rfl 9 (by decide) (htB _ b_123) (fun _ h9 => h9) rfl (by decide +kernel) rfl rfl (Nat.le_of_ble_eq_true rfl) dTr_drive_43 (fun H locs hP hD hS => ?_)
        have hP : va_P D vwCl (wTr g a ((trp t), (tau t), (tle t), (tfr t), (tsp t), (tes t), (tdo t), (tde t), (tdr t), true, (tec t)) ++ wTk g b k) H := hP
        have hD : va_D A (wTr g a ((trp t), (tau t), (tle t), (tfr t), (tsp t), (tes t), (tdo t), (tde t), (tdr t), true, (tec t)) ++ wTk g b k) := hD
        refine lv_aload_n hx hb dTr_drive_46 rfl (lv_at hl 1 rfl) ?_
        refine lv_dup hx hb dTr_drive_47 rfl ?_
        refine va_get (D := D) (ci := iTr) (v := .int (tec t)) (C := RTr) (T := TTr) (N := 11) hx hb htB inBTr hown hK hP 0 rfl rfl 10 (by decide) (htB _ b_125) (fun _ h9 => h9) rfl dTr_drive_48 ?_
        refine lv_iconst (v := 1) hx hb dTr_drive_51 (by decide) ?_
        refine lv_iadd hx hb dTr_drive_52 ?_
        refine va_put (D := D) (ci := iTr) (v := .int ((tec t) + 1)) (ty := .int) (C := RTr) (T := TTr) (N := 11) hx hb htB inBTr tyTr tyTr_ok nmTr hown hK hP hD hS 0 rfl rfl 10 (by decide) (htB _ b_125) (fun _ h9 => h9) rfl (by decide +kernel) rfl rfl (Nat.le_of_ble_eq_true rfl) dTr_drive_53 (fun H locs hP hD hS => ?_)
        have hP : va_P D vwCl (wTr g a ((trp t), (tau t), (tle t), (tfr t), (tsp t), (tes t), (tdo t), (tde t), (tdr t), true, (tec t) + 1) ++ wTk g b k) H := hP
        have hD : va_D A (wTr g a ((trp t), (tau t), (tle t), (tfr t), (tsp t), (tes t), (tdo t), (tde t), (tdr t), true, (tec t) + 1) ++ wTk g b k) := hD
        refine sg_Tr_drive (a := a) (t := ((trp t), (tau t), (tle t), (tfr t), (tsp t), (tes t), (tdo t), (tde t), (tdr t), true, (tec t) + 1)) (b := b) (k := k) (n := n) (f := tFresh t n) hx hb hml hown hts hK hA hP hD hS (lv_sub hl [0, 1, 2, 3] rfl) (fun H locs ls hP hD hS hl => ?_)
        have hE : wTr g a (tDrive t n k) ++ wTk g b k = wTr g a (tDrv4 (tDrv3 ((trp t), (tau t), (tle t), (tfr t), (tsp t), (tes t), (tdo t), (tde t), (tdr t), true, (tec t) + 1) (tDrv2 ((trp t), (tau t), (tle t), (tfr t), (tsp t), (tes t), (tdo t), (tde t), (tdr t), true, (tec t) + 1) (tFresh t n) k) k)) ++ wTk g b k := (by simp only [tDrive, tDrv1, tInto, if_pos c_1, if_neg c_2, if_pos c_3] <;> rfl)
        exact W.vret hx hb hr (fun t9 ht hW => ⟨⟨(), rfl, trivial, mk_end ht hE hP⟩, hS.F ht⟩) hS.2.2 dTr_drive_99
      · refine lv_aload_n hx hb dTr_drive_24 rfl (lv_at hl 1 rfl) ?_
        refine va_get (D := D) (ci := iTr) (v := .int (tsp t)) (C := RTr) (T := TTr) (N := 11) hx hb htB inBTr hown hK hP 0 rfl rfl 4 (by decide) (htB _ b_113) (fun _ h9 => h9) rfl dTr_drive_25 ?_
        refine lv_aload_n hx hb dTr_drive_28 rfl (lv_at hl 1 rfl) ?_
        refine va_get (D := D) (ci := iTr) (v := .int (tsp t)) (C := RTr) (T := TTr) (N := 11) hx hb htB inBTr hown hK hP 0 rfl rfl 4 (by decide) (htB _ b_113) (fun _ h9 => h9) rfl dTr_drive_29 ?_
        refine lv_imul hx hb dTr_drive_32 ?_
        refine lv_aload_n hx hb dTr_drive_33 rfl (lv_at hl 1 rfl) ?_
        refine lv_aload_n hx hb dTr_drive_34 rfl (lv_at hl 3 rfl) ?_
        refine mk_rdV (As := [.ref (b 0)]) (rest := [.int ((tsp t) * (tsp t))]) (w := (wTr g a t ++ wTk g b k)) (q0 := (RTr, TTr, 11)) (ci := iTr) ⟨hx, hb, hml, hown, hts⟩ (c_Tr_here l D g a t b k ) (cwV 1 hts (gd_V b_280 b_281 b_282 b_4 b_283) rfl rfl rfl (by decide +kernel) ⟨Nat.le_of_ble_eq_true rfl, Nat.le_of_ble_eq_true rfl⟩) hK hP hD hS hA [0, 1, 2, 3, 4, 5, 6, 7, 8, 9, 10, 11, 12, 13] rfl (by decide) rfl rfl rfl hl.1 rfl (Nat.le_of_ble_eq_true rfl) dTr_drive_35 ⟨Nat.zero_le _, Nat.zero_le _⟩ (fun H locs hP hS => ?_)
        refine lv_icmp_le (tgt := 56) hx hb dTr_drive_38 (by decide) (fun c_4 => ?_) (fun c_4 => ?_)
        · refine sg_Tr_drive (a := a) (t := t) (b := b) (k := k) (n := n) (f := tFresh t n) hx hb hml hown hts hK hA hP hD hS (lv_sub hl [0, 1, 2, 3] rfl) (fun H locs ls hP hD hS hl => ?_)
          have hE : wTr g a (tDrive t n k) ++ wTk g b k = wTr g a (tDrv4 (tDrv3 t (tDrv2 t (tFresh t n) k) k)) ++ wTk g b k := (by simp only [tDrive, tDrv1, tInto, if_pos c_1, if_neg c_2, if_neg c_3, if_pos c_4] <;> rfl)
          exact W.vret hx hb hr (fun t9 ht hW => ⟨⟨(), rfl, trivial, mk_end ht hE hP⟩, hS.F ht⟩) hS.2.2 dTr_drive_99
        · refine lv_aload_n hx hb dTr_drive_41 rfl (lv_at hl 1 rfl) ?_
          refine lv_iconst (v := 1) hx hb dTr_drive_42 (by decide) ?_
          refine va_put (D := D) (ci := iTr) (v := .int 1) (ty := .boolean) (C := RTr) (T := TTr) (N := 11) hx hb htB inBTr tyTr tyTr_ok nmTr hown hK hP hD hS 0 rfl rfl 9 (by decide) (htB _ b_123) (fun _ h9 => h9) rfl (by decide +kernel) rfl rfl (Nat.le_of_ble_eq_true rfl) dTr_drive_43 (fun H locs hP hD hS => ?_)
          have hP : va_P D vwCl (wTr g a ((trp t), (tau t), (tle t), (tfr t), (tsp t), (tes t), (tdo t), (tde t), (tdr t), true, (tec t)) ++ wTk g b k) H := hP
          have hD : va_D A (wTr g a ((trp t), (tau t), (tle t), (tfr t), (tsp t), (tes t), (tdo t), (tde t), (tdr t), true, (tec t)) ++ wTk g b k) := hD
          refine lv_aload_n hx hb dTr_drive_46 rfl (lv_at hl 1 rfl) ?_
          refine lv_dup hx hb dTr_drive_47 rfl ?_
          refine va_get (D := D) (ci := iTr) (v := .int (tec t)) (C := RTr) (T := TTr) (N := 11) hx hb htB inBTr hown hK hP 0 rfl rfl 10 (by decide) (htB _ b_125) (fun _ h9 => h9) rfl dTr_drive_48 ?_
          refine lv_iconst (v := 1) hx hb dTr_drive_51 (by decide) ?_
          refine lv_iadd hx hb dTr_drive_52 ?_
          refine va_put (D := D) (ci := iTr) (v := .int ((tec t) + 1)) (ty := .int) (C := RTr) (T := TTr) (N := 11) hx hb htB inBTr tyTr tyTr_ok nmTr hown hK hP hD hS 0 rfl rfl 10 (by decide) (htB _ b_125) (fun _ h9 => h9) rfl (by decide +kernel) rfl rfl (Nat.le_of_ble_eq_true rfl) dTr_drive_53 (fun H locs hP hD hS => ?_)
          have hP : va_P D vwCl (wTr g a ((trp t), (tau t), (tle t), (tfr t), (tsp t), (tes t), (tdo t), (tde t), (tdr t), true, (tec t) + 1) ++ wTk g b k) H := hP
          have hD : va_D A (wTr g a ((trp t), (tau t), (tle t), (tfr t), (tsp t), (tes t), (tdo t), (tde t), (tdr t), true, (tec t) + 1) ++ wTk g b k) := hD
          refine sg_Tr_drive (a := a) (t := ((trp t), (tau t), (tle t), (tfr t), (tsp t), (tes t), (tdo t), (tde t), (tdr t), true, (tec t) + 1)) (b := b) (k := k) (n := n) (f := tFresh t n) hx hb hml hown hts hK hA hP hD hS (lv_sub hl [0, 1, 2, 3] rfl) (fun H locs ls hP hD hS hl => ?_)
          have hE : wTr g a (tDrive t n k) ++ wTk g b k = wTr g a (tDrv4 (tDrv3 ((trp t), (tau t), (tle t), (tfr t), (tsp t), (tes t), (tdo t), (tde t), (tdr t), true, (tec t) + 1) (tDrv2 ((trp t), (tau t), (tle t), (tfr t), (tsp t), (tes t), (tdo t), (tde t), (tdr t), true, (tec t) + 1) (tFresh t n) k) k)) ++ wTk g b k := (by simp only [tDrive, tDrv1, tInto, if_pos c_1, if_neg c_2, if_neg c_3, if_neg c_4] <;> rfl)
          exact W.vret hx hb hr (fun t9 ht hW => ⟨⟨(), rfl, trivial, mk_end ht hE hP⟩, hS.F ht⟩) hS.2.2 dTr_drive_99
