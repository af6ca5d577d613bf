set_option maxHeartbeats 4000000 in
set_option maxRecDepth 100000 in
/-- the piece of a place -/
theorem c_Tk_pieceAt (l : Launch) (D : va_G) (g : Nat → ClassId) (x : Int32) : mk_Rd l yTk_pieceAt wsTk_pieceAt ({ frames := 0, cells := 0, slots := 0, locals := 0 }) D vwCl (zty g) [.int x] ([]) (nI (nPiece x)) := by
  intro sz
  refine Met.ofW (cc := cTk_pieceAt) (maxL := 1) (ret := (some .int)) (by decide) rfl ?_
  intro p e s m args below meth cd s₁ B hml hv
  obtain ⟨rfl, hsz, hP, hK, hD0⟩ := hv
  have hx := B.exec
  have hb := B.bytes
  have hr := B.returns
  have hts := atoms_spec (ws := wsTk_pieceAt) B.pre
  have htB := fun (w : Cond) (h : w ∈ BIG) => hts w (List.mem_cons_of_mem _ h)
  have hown : s.vm.findClass RTk = some m.cls := findClass_of_methodNamed B.named
  have hlocks := B.notSynchronized
  subst hsz
  have hD := hD0
  have hA : ∀ q : Nat, s.heap.size ≤ q → (fun q => s.heap.size ≤ q) q := fun _ h => h
  have hS : va_S (fun q => s.heap.size ≤ q) s.heap s.heap [] := va_S.rf
  have hl := lv_entry ([.int x]) (n := 1) (Nat.le_of_ble_eq_true rfl)
  rw [lg_entry_eq]
  generalize (lg_sl ([.int x]) ++ List.replicate (1 - (lg_sl ([.int x])).length) Slot.unset).toArray = ls at hl ⊢
  have hl : lv_has ls 1 [(0, .int x)] := hl
  have hP : va_P D vwCl ([]) s.heap := hP
  refine lv_iload_n hx hb dTk_pieceAt_0 rfl (lv_at hl 0 rfl) ?_
  refine lv_if_ge (tgt := 6) hx hb dTk_pieceAt_1 (by decide) (fun c_1 => ?_) (fun c_1 => ?_)
  · refine lv_iload_n hx hb dTk_pieceAt_6 rfl (lv_at hl 0 rfl) ?_
    refine lv_ldc (v := 32768) hx hb hown (htB _ b_291) dTk_pieceAt_7 ?_
    refine lv_icmp_ge (tgt := 20) hx hb dTk_pieceAt_9 (by decide) (fun c_2 => ?_) (fun c_2 => ?_)
    · refine lv_bipush (v := 7) hx hb dTk_pieceAt_20 (by decide) ?_
      exact W.iret (v := 7) hx hb hr (fun t9 ht hW => ⟨⟨7, (), rfl, (by rw [← (jPiece_lt x).2]; simp only [jPiece, if_pos c_1, if_pos c_2]), trivial⟩, hS.F ht⟩) hS.2.2 dTk_pieceAt_22
    · refine lv_iload_n hx hb dTk_pieceAt_12 rfl (lv_at hl 0 rfl) ?_
      refine lv_sipush (v := 4096) hx hb dTk_pieceAt_13 (by decide) ?_
      refine lv_idiv hx hb dTk_pieceAt_16 (by decide) ?_
      refine lv_goto (tgt := 22) hx hb dTk_pieceAt_17 (by decide) ?_
      exact W.iret (v := x / 4096) hx hb hr (fun t9 ht hW => ⟨⟨x / 4096, (), rfl, (by rw [← (jPiece_lt x).2]; simp only [jPiece, if_pos c_1, if_neg c_2]), trivial⟩, hS.F ht⟩) hS.2.2 dTk_pieceAt_22
  · refine lv_iconst (v := 0) hx hb dTk_pieceAt_4 (by decide) ?_
    exact W.iret (v := 0) hx hb hr (fun t9 ht hW => ⟨⟨0, (), rfl, (by rw [← (jPiece_lt x).2]; simp only [jPiece, if_neg c_1]), trivial⟩, hS.F ht⟩) hS.2.2 dTk_pieceAt_5
set_option maxHeartbeats 4000000 in
set_option maxRecDepth 100000 in
theorem lp_Tk_gss {p : Program} {l : Launch} {e : Env} {s : State} {m : MethodId} {args : Array Value} {below : List Frame} {meth : Method} {cd : Code} {Q : State → Prop} {D : va_G} {g : Nat → ClassId} {A : Nat → Prop} {Ad : Nat → Prop} {b : Nat → Nat} {k : zTk} {u r t : Int32} (hx : p.tables.exec = Jvm.exec) (hb : cd.code = cTk_greatestSafeSquare) (hml : cd.maxLocals = 8) (hown : s.vm.findClass RTk = some m.cls) (hts : ∀ w ∈ wsTk_greatestSafeSquare, w.before args s = true) (hK : va_K D vwCl (zty g) s) (hA : ∀ q : Nat, s.heap.size ≤ q → A q) : ∀ (j i : Nat) (q : Int32) (H : Heap) (locs : List Loc) (ls : Array Slot), i + j = 8 → va_P D vwCl (wTk g b k) H → va_D Ad (wTk g b k) → va_S A s.heap H locs → lv_has ls 8 [(6, .int (nI i)), (5, .int (nI (nPiece r))), (4, .int q), (0, .ref (b 0)), (1, .int u), (2, .int r), (3, .int t)] → (∀ (H : Heap) (locs : List Loc) (ls : Array Slot), va_P D vwCl (wTk g b k) H → va_D Ad (wTk g b k) → va_S A s.heap H locs → lv_has ls 8 [(4, .int (gssL k r j i q)), (0, .ref (b 0)), (1, .int u), (2, .int r), (3, .int t)] → W p l e ({ frames := 1, cells := 0, slots := 0, locals := 21 }) s m args below meth cd H locs 0 0 Q (F0 m 82 ls [])) → W p l e ({ frames := 1, cells := 0, slots := 0, locals := 21 }) s m args below meth cd H locs 0 0 Q (F0 m 20 ls []) := by
  have htB : ∀ w ∈ BIG, w.before args s = true := fun w h => hts w (List.mem_cons_of_mem _ h)
  intro j
  induction j with
  | zero =>
    intro i q H locs ls hi hP hD hS hl kk
    refine lv_iload hx hb dTk_greatestSafeSquare_20 (lv_at hl 0 rfl) ?_
    refine lv_bipush (v := 8) hx hb dTk_greatestSafeSquare_22 (by decide) ?_
    refine lv_icmp_ge (tgt := 82) hx hb dTk_greatestSafeSquare_24 (by decide) (fun _ => ?_) (fun c_1 => absurd (nI_le (a := 8) (b := i) (by omega) (by omega)) c_1)
    exact kk H locs ls hP hD hS (lv_sub hl [2, 3, 4, 5, 6] rfl)
  | succ j ih =>
    intro i q H locs ls hi hP hD hS hl kk
    refine lv_iload hx hb dTk_greatestSafeSquare_20 (lv_at hl 0 rfl) ?_
    refine lv_bipush (v := 8) hx hb dTk_greatestSafeSquare_22 (by decide) ?_
    refine lv_icmp_ge (tgt := 82) hx hb dTk_greatestSafeSquare_24 (by decide) (fun c_1 => absurd c_1 (nI_ge (a := i) (b := 8) (by omega) (by decide))) (fun _ => ?_)
    refine lv_iload hx hb dTk_greatestSafeSquare_27 (lv_at hl 0 rfl) ?_
    refine lv_iload hx hb dTk_greatestSafeSquare_29 (lv_at hl 1 rfl) ?_
    refine lv_icmp_le (tgt := 45) hx hb dTk_greatestSafeSquare_31 (by decide) (fun c_2 => ?_) (fun c_2 => ?_)
    · refine lv_iconst (v := 0) hx hb dTk_greatestSafeSquare_45 (by decide) ?_
      refine lv_istore (lv' := [(7, .int 0), (6, .int (nI i)), (5, .int (nI (nPiece r))), (4, .int q), (0, .ref (b 0)), (1, .int u), (2, .int r), (3, .int t)]) hx hb dTk_greatestSafeSquare_46 hl (by decide) rfl (fun ls hl => ?_)
      refine lv_iload hx hb dTk_greatestSafeSquare_48 (lv_at hl 3 rfl) ?_
      refine lv_aload_n hx hb dTk_greatestSafeSquare_50 rfl (lv_at hl 4 rfl) ?_
      refine va_get (D := D) (ci := iTk) (v := .ref (b 1)) (C := RTk) (T := TTk) (N := 2) hx hb htB inBTk hown hK hP 0 rfl rfl 0 (by decide) (htB _ b_22) (fun _ h9 => h9) rfl dTk_greatestSafeSquare_51 ?_
      refine lv_iload hx hb dTk_greatestSafeSquare_54 (lv_at hl 1 rfl) ?_
      refine mk_iald (k := i) hx hb hK hP 1 0 rfl rfl rfl ⟨(by omega), by decide⟩ dTk_greatestSafeSquare_56 ?_
      refine lv_aload_n hx hb dTk_greatestSafeSquare_57 rfl (lv_at hl 4 rfl) ?_
      refine va_get (D := D) (ci := iTk) (v := .ref (b 1)) (C := RTk) (T := TTk) (N := 2) hx hb htB inBTk hown hK hP 0 rfl rfl 0 (by decide) (htB _ b_22) (fun _ h9 => h9) rfl dTk_greatestSafeSquare_58 ?_
      refine lv_iload hx hb dTk_greatestSafeSquare_61 (lv_at hl 1 rfl) ?_
      refine mk_iald (k := i) hx hb hK hP 1 0 rfl rfl rfl ⟨(by omega), by decide⟩ dTk_greatestSafeSquare_63 ?_
      refine lv_imul hx hb dTk_greatestSafeSquare_64 ?_
      refine lv_bipush (v := 12) hx hb dTk_greatestSafeSquare_65 (by decide) ?_
      refine lv_iload hx hb dTk_greatestSafeSquare_67 (lv_at hl 0 rfl) ?_
      refine lv_imul hx hb dTk_greatestSafeSquare_69 ?_
      refine lv_iadd hx hb dTk_greatestSafeSquare_70 ?_
      refine va_mmin hx hb (by rw [hml]; exact hl.1.symm) hown (htB _ b_292) (htB _ b_262) (htB _ b_7) (htB _ b_263) (Nat.le_of_ble_eq_true rfl) (Nat.le_of_ble_eq_true rfl) (Nat.zero_le _) (Nat.zero_le _) dTk_greatestSafeSquare_71 ?_
      refine lv_istore (lv' := [(4, .int (mn q ((((kli k) i) * ((kli k) i)) + (12 * 0)))), (7, .int 0), (6, .int (nI i)), (5, .int (nI (nPiece r))), (0, .ref (b 0)), (1, .int u), (2, .int r), (3, .int t)]) hx hb dTk_greatestSafeSquare_74 hl (by decide) rfl (fun ls hl => ?_)
      refine lv_iinc (v := nI (i + 1)) (lv' := [(6, .int (nI (i + 1))), (4, .int (mn q ((((kli k) i) * ((kli k) i)) + (12 * 0)))), (7, .int 0), (5, .int (nI (nPiece r))), (0, .ref (b 0)), (1, .int u), (2, .int r), (3, .int t)]) hx hb dTk_greatestSafeSquare_76 hl (k := 2) rfl (nI_1 _) (by decide) rfl (fun ls hl => ?_)
      refine lv_goto (tgt := 20) hx hb dTk_greatestSafeSquare_79 (by decide) ?_
      have hE : gssL k r (j + 1) i q = gssL k r j (i + 1) (mn q ((((kli k) i) * ((kli k) i)) + (12 * 0))) := (by simp only [gssL, jWay, if_pos c_2] <;> rfl)
      rw [hE] at kk
      exact ih (i + 1) (mn q ((((kli k) i) * ((kli k) i)) + (12 * 0))) H locs ls (by omega) hP hD hS (lv_sub hl [0, 3, 1, 4, 5, 6, 7] rfl) kk
    · refine lv_iload hx hb dTk_greatestSafeSquare_34 (lv_at hl 0 rfl) ?_
      refine lv_sipush (v := 4096) hx hb dTk_greatestSafeSquare_36 (by decide) ?_
      refine lv_imul hx hb dTk_greatestSafeSquare_39 ?_
      refine lv_iload_n hx hb dTk_greatestSafeSquare_40 rfl (lv_at hl 5 rfl) ?_
      refine lv_isub hx hb dTk_greatestSafeSquare_41 ?_
      refine lv_goto (tgt := 46) hx hb dTk_greatestSafeSquare_42 (by decide) ?_
      refine lv_istore (lv' := [(7, .int (((nI i) * 4096) - r)), (6, .int (nI i)), (5, .int (nI (nPiece r))), (4, .int q), (0, .ref (b 0)), (1, .int u), (2, .int r), (3, .int t)]) hx hb dTk_greatestSafeSquare_46 hl (by decide) rfl (fun ls hl => ?_)
      refine lv_iload hx hb dTk_greatestSafeSquare_48 (lv_at hl 3 rfl) ?_
      refine lv_aload_n hx hb dTk_greatestSafeSquare_50 rfl (lv_at hl 4 rfl) ?_
      refine va_get (D := D) (ci := iTk) (v := .ref (b 1)) (C := RTk) (T := TTk) (N := 2) hx hb htB inBTk hown hK hP 0 rfl rfl 0 (by decide) (htB _ b_22) (fun _ h9 => h9) rfl dTk_greatestSafeSquare_51 ?_
      refine lv_iload hx hb dTk_greatestSafeSquare_54 (lv_at hl 1 rfl) ?_
      refine mk_iald (k := i) hx hb hK hP 1 0 rfl rfl rfl ⟨(by omega), by decide⟩ dTk_greatestSafeSquare_56 ?_
      refine lv_aload_n hx hb dTk_greatestSafeSquare_57 rfl (lv_at hl 4 rfl) ?_
      refine va_get (D := D) (ci := iTk) (v := .ref (b 1)) (C := RTk) (T := TTk) (N := 2) hx hb htB inBTk hown hK hP 0 rfl rfl 0 (by decide) (htB _ b_22) (fun _ h9 => h9) rfl dTk_greatestSafeSquare_58 ?_
      refine lv_iload hx hb dTk_greatestSafeSquare_61 (lv_at hl 1 rfl) ?_
      refine mk_iald (k := i) hx hb hK hP 1 0 rfl rfl rfl ⟨(by omega), by decide⟩ dTk_greatestSafeSquare_63 ?_
      refine lv_imul hx hb dTk_greatestSafeSquare_64 ?_
      refine lv_bipush (v := 12) hx hb dTk_greatestSafeSquare_65 (by decide) ?_
      refine lv_iload hx hb dTk_greatestSafeSquare_67 (lv_at hl 0 rfl) ?_
      refine lv_imul hx hb dTk_greatestSafeSquare_69 ?_
      refine lv_iadd hx hb dTk_greatestSafeSquare_70 ?_
      refine va_mmin hx hb (by rw [hml]; exact hl.1.symm) hown (htB _ b_292) (htB _ b_262) (htB _ b_7) (htB _ b_263) (Nat.le_of_ble_eq_true rfl) (Nat.le_of_ble_eq_true rfl) (Nat.zero_le _) (Nat.zero_le _) dTk_greatestSafeSquare_71 ?_
      refine lv_istore (lv' := [(4, .int (mn q ((((kli k) i) * ((kli k) i)) + (12 * (((nI i) * 4096) - r))))), (7, .int (((nI i) * 4096) - r)), (6, .int (nI i)), (5, .int (nI (nPiece r))), (0, .ref (b 0)), (1, .int u), (2, .int r), (3, .int t)]) hx hb dTk_greatestSafeSquare_74 hl (by decide) rfl (fun ls hl => ?_)
      refine lv_iinc (v := nI (i + 1)) (lv' := [(6, .int (nI (i + 1))), (4, .int (mn q ((((kli k) i) * ((kli k) i)) + (12 * (((nI i) * 4096) - r))))), (7, .int (((nI i) * 4096) - r)), (5, .int (nI (nPiece r))), (0, .ref (b 0)), (1, .int u), (2, .int r), (3, .int t)]) hx hb dTk_greatestSafeSquare_76 hl (k := 2) rfl (nI_1 _) (by decide) rfl (fun ls hl => ?_)
      refine lv_goto (tgt := 20) hx hb dTk_greatestSafeSquare_79 (by decide) ?_
      have hE : gssL k r (j + 1) i q = gssL k r j (i + 1) (mn q ((((kli k) i) * ((kli k) i)) + (12 * (((nI i) * 4096) - r)))) := (by simp only [gssL, jWay, if_neg c_2] <;> rfl)
      rw [hE] at kk
      exact ih (i + 1) (mn q ((((kli k) i) * ((kli k) i)) + (12 * (((nI i) * 4096) - r)))) H locs ls (by omega) hP hD hS (lv_sub hl [0, 3, 1, 4, 5, 6, 7] rfl) kk
set_option maxHeartbeats 4000000 in
set_option maxRecDepth 100000 in
/-- greatestSafeSquare -/
theorem c_Tk_gss (l : Launch) (D : va_G) (g : Nat → ClassId) (b : Nat → Nat) (k : zTk) (u r t : Int32) : mk_Rd l yTk_greatestSafeSquare wsTk_greatestSafeSquare ({ frames := 1, cells := 0, slots := 0, locals := 21 }) D vwCl (zty g) [.ref (b 0), .int u, .int r, .int t] (wTk g b k) (gss k u r t) := by
  intro sz
  refine Met.ofW (cc := cTk_greatestSafeSquare) (maxL := 8) (ret := (some .int)) (by decide) rfl ?_
  intro p e s m args below meth cd s₁ B hml hv
  obtain ⟨rfl, hsz, hP, hK, hD0⟩ := hv
  have hx := B.exec
  have hb := B.bytes
  have hr := B.returns
  have hts := atoms_spec (ws := wsTk_greatestSafeSquare) B.pre
  have htB := fun (w : Cond) (h : w ∈ BIG) => hts w (List.mem_cons_of_mem _ h)
  have hown : s.vm.findClass RTk = some m.cls := findClass_of_methodNamed B.named
  have hlocks := B.notSynchronized
  subst hsz
  have hD := hD0
  have hA : ∀ q : Nat, s.heap.size ≤ q → (fun q => s.heap.size ≤ q) q := fun _ h => h
  have hS : va_S (fun q => s.heap.size ≤ q) s.heap s.heap [] := va_S.rf
  have hl := lv_entry ([.ref (b 0), .int u, .int r, .int t]) (n := 8) (Nat.le_of_ble_eq_true rfl)
  rw [lg_entry_eq]
  generalize (lg_sl ([.ref (b 0), .int u, .int r, .int t]) ++ List.replicate (8 - (lg_sl ([.ref (b 0), .int u, .int r, .int t])).length) Slot.unset).toArray = ls at hl ⊢
  have hl : lv_has ls 8 [(0, .ref (b 0)), (1, .int u), (2, .int r), (3, .int t)] := hl
  have hP : va_P D vwCl (wTk g b k) s.heap := hP
  refine lv_bipush (v := 12) hx hb dTk_greatestSafeSquare_0 (by decide) ?_
  refine lv_iload_n hx hb dTk_greatestSafeSquare_2 rfl (lv_at hl 1 rfl) ?_
  refine lv_iload_n hx hb dTk_greatestSafeSquare_3 rfl (lv_at hl 2 rfl) ?_
  refine lv_isub hx hb dTk_greatestSafeSquare_4 ?_
  refine lv_imul hx hb dTk_greatestSafeSquare_5 ?_
  refine lv_istore (lv' := [(4, .int (12 * (u - r))), (0, .ref (b 0)), (1, .int u), (2, .int r), (3, .int t)]) hx hb dTk_greatestSafeSquare_6 hl (by decide) rfl (fun ls hl => ?_)
  refine lv_iload_n hx hb dTk_greatestSafeSquare_8 rfl (lv_at hl 3 rfl) ?_
  refine mk_rdS (As := [.int r]) (rest := []) (w := []) ⟨hx, hb, hml, hown, hts⟩ (c_Tk_pieceAt l D g r) (va_cwS 1 hts (gd_S b_288 b_289 b_2 b_290) rfl rfl rfl (by decide +kernel) ⟨Nat.le_of_ble_eq_true rfl, Nat.le_of_ble_eq_true rfl⟩) hK hP hD hS hA [] rfl rfl rfl hl.1 rfl (Nat.le_of_ble_eq_true rfl) dTk_greatestSafeSquare_9 ⟨Nat.zero_le _, Nat.zero_le _⟩ (fun H locs hP hS => ?_)
  refine lv_istore (lv' := [(5, .int (nI (nPiece r))), (4, .int (12 * (u - r))), (0, .ref (b 0)), (1, .int u), (2, .int r), (3, .int t)]) hx hb dTk_greatestSafeSquare_12 hl (by decide) rfl (fun ls hl => ?_)
  refine lv_iload_n hx hb dTk_greatestSafeSquare_14 rfl (lv_at hl 5 rfl) ?_
  refine mk_rdS (As := [.int t]) (rest := []) (w := []) ⟨hx, hb, hml, hown, hts⟩ (c_Tk_pieceAt l D g t) (va_cwS 1 hts (gd_S b_288 b_289 b_2 b_290) rfl rfl rfl (by decide +kernel) ⟨Nat.le_of_ble_eq_true rfl, Nat.le_of_ble_eq_true rfl⟩) hK hP hD hS hA [] rfl rfl rfl hl.1 rfl (Nat.le_of_ble_eq_true rfl) dTk_greatestSafeSquare_15 ⟨Nat.zero_le _, Nat.zero_le _⟩ (fun H locs hP hS => ?_)
  refine lv_istore (lv' := [(6, .int (nI (nPiece t))), (5, .int (nI (nPiece r))), (4, .int (12 * (u - r))), (0, .ref (b 0)), (1, .int u), (2, .int r), (3, .int t)]) hx hb dTk_greatestSafeSquare_18 hl (by decide) rfl (fun ls hl => ?_)
  have h8 : nPiece t < 8 := (jPiece_lt t).1
  refine lp_Tk_gss (b := b) (k := k) (u := u) (r := r) (t := t) hx hb hml hown hts hK hA (8 - nPiece t) (nPiece t) (12 * (u - r)) _ _ ls (by omega) hP hD hS (lv_sub hl [0, 1, 2, 3, 4, 5, 6] rfl) (fun H locs ls hP hD hS hl => ?_)
  refine lv_iload hx hb dTk_greatestSafeSquare_82 (lv_at hl 0 rfl) ?_
  exact W.iret (v := gssL k r (8 - nPiece t) (nPiece t) (12 * (u - r))) hx hb hr (fun t9 ht hW => ⟨⟨gssL k r (8 - nPiece t) (nPiece t) (12 * (u - r)), (), rfl, (by first | rfl | (simp only [gss] <;> rfl)), trivial⟩, hS.F ht⟩) hS.2.2 dTk_greatestSafeSquare_84
set_option maxHeartbeats 4000000 in
set_option maxRecDepth 100000 in
/-- isUpAt -/
theorem c_Wy_isUpAt (l : Launch) (D : va_G) (g : Nat → ClassId) (d : Nat → Nat) (y : zWy) (r : Int32) : mk_Rd l yWy_isUpAt wsWy_isUpAt ({ frames := 0, cells := 0, slots := 0, locals := 0 }) D vwCl (zty g) [.ref (d 0), .int r] (wWy g d y) (bI (jUp y r)) := by
  intro sz
  refine Met.ofW (cc := cWy_isUpAt) (maxL := 2) (ret := (some .boolean)) (by decide) rfl ?_
  intro p e s m args below meth cd s₁ B hml hv
  obtain ⟨rfl, hsz, hP, hK, hD0⟩ := hv
  have hx := B.exec
  have hb := B.bytes
  have hr := B.returns
  have hts := atoms_spec (ws := wsWy_isUpAt) B.pre
  have htB := fun (w : Cond) (h : w ∈ BIG) => hts w (List.mem_cons_of_mem _ h)
  have hown : s.vm.findClass RWy = some m.cls := findClass_of_methodNamed B.named
  have hlocks := B.notSynchronized
  subst hsz
  have hD := hD0
  have hA : ∀ q : Nat, s.heap.size ≤ q → (fun q => s.heap.size ≤ q) q := fun _ h => h
  have hS : va_S (fun q => s.heap.size ≤ q) s.heap s.heap [] := va_S.rf
  have hl := lv_entry ([.ref (d 0), .int r]) (n := 2) (Nat.le_of_ble_eq_true rfl)
  rw [lg_entry_eq]
  generalize (lg_sl ([.ref (d 0), .int r]) ++ List.replicate (2 - (lg_sl ([.ref (d 0), .int r])).length) Slot.unset).toArray = ls at hl ⊢
  have hl : lv_has ls 2 [(0, .ref (d 0)), (1, .int r)] := hl
  have hP : va_P D vwCl (wWy g d y) s.heap := hP
  refine lv_aload_n hx hb dWy_isUpAt_0 rfl (lv_at hl 0 rfl) ?_
  refine va_get (D := D) (ci := iWy) (v := .ref (d 3)) (C := RWy) (T := TWy) (N := 3) hx hb htB inBWy hown hK hP 0 rfl rfl 2 (by decide) (htB _ b_44) (fun _ h9 => h9) rfl dWy_isUpAt_1 ?_
  refine lv_iload_n hx hb dWy_isUpAt_4 rfl (lv_at hl 1 rfl) ?_
  refine lv_sipush (v := 16384) hx hb dWy_isUpAt_5 (by decide) ?_
  refine lv_icmp_ge (tgt := 15) hx hb dWy_isUpAt_8 (by decide) (fun c_1 => ?_) (fun c_1 => ?_)
  · refine lv_iconst (v := 1) hx hb dWy_isUpAt_15 (by decide) ?_
    refine mk_zald (k := 1) hx hb hK hP 3 1 rfl rfl rfl (by decide) dWy_isUpAt_16 ?_
    exact W.zret (v := bI ((yup y) 1)) hx hb hr (bI_ret _) (fun t9 ht hW => ⟨⟨bI ((yup y) 1), (), rfl, (by simp only [jUp, if_pos c_1] <;> rfl), trivial⟩, hS.F ht⟩) hS.2.2 dWy_isUpAt_17
  · refine lv_iconst (v := 0) hx hb dWy_isUpAt_11 (by decide) ?_
    refine lv_goto (tgt := 16) hx hb dWy_isUpAt_12 (by decide) ?_
    refine mk_zald (k := 0) hx hb hK hP 3 1 rfl rfl rfl (by decide) dWy_isUpAt_16 ?_
    exact W.zret (v := bI ((yup y) 0)) hx hb hr (bI_ret _) (fun t9 ht hW => ⟨⟨bI ((yup y) 0), (), rfl, (by simp only [jUp, if_neg c_1] <;> rfl), trivial⟩, hS.F ht⟩) hS.2.2 dWy_isUpAt_17
set_option maxHeartbeats 4000000 in
set_option maxRecDepth 100000 in
theorem lp_Wy_endFor {p : Program} {l : Launch} {e : Env} {s : State} {m : MethodId} {args : Array Value} {below : List Frame} {meth : Method} {cd : Code} {Q : State → Prop} {D : va_G} {g : Nat → ClassId} {A : Nat → Prop} {Ad : Nat → Prop} {d : Nat → Nat} {y : zWy} {r : Int32} (hx : p.tables.exec = Jvm.exec) (hb : cd.code = cWy_endFor) (hml : cd.maxLocals = 4) (hown : s.vm.findClass RWy = some m.cls) (hts : ∀ w ∈ wsWy_endFor, w.before args s = true) (hK : va_K D vwCl (zty g) s) (hA : ∀ q : Nat, s.heap.size ≤ q → A q) : ∀ (j i : Nat) (q : Int32) (H : Heap) (locs : List Loc) (ls : Array Slot), i + j = 4 → va_P D vwCl (wWy g d y) H → va_D Ad (wWy g d y) → va_S A s.heap H locs → lv_has ls 4 [(3, .int (nI i)), (2, .int q), (0, .ref (d 0)), (1, .int r)] → (∀ (H : Heap) (locs : List Loc) (ls : Array Slot), va_P D vwCl (wWy g d y) H → va_D Ad (wWy g d y) → va_S A s.heap H locs → lv_has ls 4 [(2, .int (endL y r j i q)), (0, .ref (d 0)), (1, .int r)] → W p l e ({ frames := 1, cells := 0, slots := 0, locals := 21 }) s m args below meth cd H locs 0 0 Q (F0 m 68 ls [])) → W p l e ({ frames := 1, cells := 0, slots := 0, locals := 21 }) s m args below meth cd H locs 0 0 Q (F0 m 27 ls []) := by
  have htB : ∀ w ∈ BIG, w.before args s = true := fun w h => hts w (List.mem_cons_of_mem _ h)
  intro j
  induction j with
  | zero =>
    intro i q H locs ls hi hP hD hS hl kk
    refine lv_iload_n hx hb dWy_endFor_27 rfl (lv_at hl 0 rfl) ?_
    refine lv_iconst (v := 4) hx hb dWy_endFor_28 (by decide) ?_
    refine lv_icmp_ge (tgt := 68) hx hb dWy_endFor_29 (by decide) (fun _ => ?_) (fun c_1 => absurd (nI_le (a := 4) (b := i) (by omega) (by omega)) c_1)
    exact kk H locs ls hP hD hS (lv_sub hl [1, 2, 3] rfl)
  | succ j ih =>
    intro i q H locs ls hi hP hD hS hl kk
    refine lv_iload_n hx hb dWy_endFor_27 rfl (lv_at hl 0 rfl) ?_
    refine lv_iconst (v := 4) hx hb dWy_endFor_28 (by decide) ?_
    refine lv_icmp_ge (tgt := 68) hx hb dWy_endFor_29 (by decide) (fun c_1 => absurd c_1 (nI_ge (a := i) (b := 4) (by omega) (by decide))) (fun _ => ?_)
    refine lv_aload_n hx hb dWy_endFor_32 rfl (lv_at hl 2 rfl) ?_
    refine va_get (D := D) (ci := iWy) (v := .ref (d 2)) (C := RWy) (T := TWy) (N := 3) hx hb htB inBWy hown hK hP 0 rfl rfl 1 (by decide) (htB _ b_42) (fun _ h9 => h9) rfl dWy_endFor_33 ?_
    refine lv_iload_n hx hb dWy_endFor_36 rfl (lv_at hl 0 rfl) ?_
    refine mk_zald (k := i) hx hb hK hP 2 1 rfl rfl rfl ⟨(by omega), by decide⟩ dWy_endFor_37 ?_
    refine lv_if_eq (tgt := 62) hx hb dWy_endFor_38 (by decide) (fun c_2 => ?_) (fun c_2 => ?_)
    · refine lv_iinc (v := nI (i + 1)) (lv' := [(3, .int (nI (i + 1))), (2, .int q), (0, .ref (d 0)), (1, .int r)]) hx hb dWy_endFor_62 hl (k := 0) rfl (nI_1 _) (by decide) rfl (fun ls hl => ?_)
      refine lv_goto (tgt := 27) hx hb dWy_endFor_65 (by decide) ?_
      have hE : endL y r (j + 1) i q = endL y r j (i + 1) q := (by simp only [endL, if_pos c_2] <;> rfl)
      rw [hE] at kk
      exact ih (i + 1) q H locs ls (by omega) hP hD hS (lv_sub hl [0, 1, 2, 3] rfl) kk
    · refine lv_aload_n hx hb dWy_endFor_41 rfl (lv_at hl 2 rfl) ?_
      refine va_get (D := D) (ci := iWy) (v := .ref (d 1)) (C := RWy) (T := TWy) (N := 3) hx hb htB inBWy hown hK hP 0 rfl rfl 0 (by decide) (htB _ b_40) (fun _ h9 => h9) rfl dWy_endFor_42 ?_
      refine lv_iload_n hx hb dWy_endFor_45 rfl (lv_at hl 0 rfl) ?_
      refine mk_iald (k := i) hx hb hK hP 1 0 rfl rfl rfl ⟨(by omega), by decide⟩ dWy_endFor_46 ?_
      refine lv_iload_n hx hb dWy_endFor_47 rfl (lv_at hl 3 rfl) ?_
      refine lv_icmp_lt (tgt := 62) hx hb dWy_endFor_48 (by decide) (fun c_3 => ?_) (fun c_3 => ?_)
      · refine lv_iinc (v := nI (i + 1)) (lv' := [(3, .int (nI (i + 1))), (2, .int q), (0, .ref (d 0)), (1, .int r)]) hx hb dWy_endFor_62 hl (k := 0) rfl (nI_1 _) (by decide) rfl (fun ls hl => ?_)
        refine lv_goto (tgt := 27) hx hb dWy_endFor_65 (by decide) ?_
        have hE : endL y r (j + 1) i q = endL y r j (i + 1) q := (by simp only [endL, if_neg c_2, if_pos c_3] <;> rfl)
        rw [hE] at kk
        exact ih (i + 1) q H locs ls (by omega) hP hD hS (lv_sub hl [0, 1, 2, 3] rfl) kk
      · refine lv_iload_n hx hb dWy_endFor_51 rfl (lv_at hl 1 rfl) ?_
        refine lv_aload_n hx hb dWy_endFor_52 rfl (lv_at hl 2 rfl) ?_
        refine va_get (D := D) (ci := iWy) (v := .ref (d 1)) (C := RWy) (T := TWy) (N := 3) hx hb htB inBWy hown hK hP 0 rfl rfl 0 (by decide) (htB _ b_40) (fun _ h9 => h9) rfl dWy_endFor_53 ?_
        refine lv_iload_n hx hb dWy_endFor_56 rfl (lv_at hl 0 rfl) ?_
        refine mk_iald (k := i) hx hb hK hP 1 0 rfl rfl rfl ⟨(by omega), by decide⟩ dWy_endFor_57 ?_
        refine va_mmin hx hb (by rw [hml]; exact hl.1.symm) hown (htB _ b_261) (htB _ b_262) (htB _ b_7) (htB _ b_263) (Nat.le_of_ble_eq_true rfl) (Nat.le_of_ble_eq_true rfl) (Nat.zero_le _) (Nat.zero_le _) dWy_endFor_58 ?_
        refine lv_istore_n (lv' := [(2, .int (mn q ((ypl y) i))), (3, .int (nI i)), (0, .ref (d 0)), (1, .int r)]) hx hb dWy_endFor_61 rfl hl (by decide) rfl (fun ls hl => ?_)
        refine lv_iinc (v := nI (i + 1)) (lv' := [(3, .int (nI (i + 1))), (2, .int (mn q ((ypl y) i))), (0, .ref (d 0)), (1, .int r)]) hx hb dWy_endFor_62 hl (k := 1) rfl (nI_1 _) (by decide) rfl (fun ls hl => ?_)
        refine lv_goto (tgt := 27) hx hb dWy_endFor_65 (by decide) ?_
        have hE : endL y r (j + 1) i q = endL y r j (i + 1) (mn q ((ypl y) i)) := (by simp only [endL, if_neg c_2, if_neg c_3] <;> rfl)
        rw [hE] at kk
        exact ih (i + 1) (mn q ((ypl y) i)) H locs ls (by omega) hP hD hS (lv_sub hl [0, 1, 2, 3] rfl) kk
set_option maxHeartbeats 4000000 in
set_option maxRecDepth 100000 in
/-- endFor -/
theorem c_Wy_endFor (l : Launch) (D : va_G) (g : Nat → ClassId) (d : Nat → Nat) (y : zWy) (r : Int32) : mk_Rd l yWy_endFor wsWy_endFor ({ frames := 1, cells := 0, slots := 0, locals := 21 }) D vwCl (zty g) [.ref (d 0), .int r] (wWy g d y) (endFor y r) := by
  intro sz
  refine Met.ofW (cc := cWy_endFor) (maxL := 4) (ret := (some .int)) (by decide) rfl ?_
  intro p e s m args below meth cd s₁ B hml hv
  obtain ⟨rfl, hsz, hP, hK, hD0⟩ := hv
  have hx := B.exec
  have hb := B.bytes
  have hr := B.returns
  have hts := atoms_spec (ws := wsWy_endFor) B.pre
  have htB := fun (w : Cond) (h : w ∈ BIG) => hts w (List.mem_cons_of_mem _ h)
  have hown : s.vm.findClass RWy = some m.cls := findClass_of_methodNamed B.named
  have hlocks := B.notSynchronized
  subst hsz
  have hD := hD0
  have hA : ∀ q : Nat, s.heap.size ≤ q → (fun q => s.heap.size ≤ q) q := fun _ h => h
  have hS : va_S (fun q => s.heap.size ≤ q) s.heap s.heap [] := va_S.rf
  have hl := lv_entry ([.ref (d 0), .int r]) (n := 4) (Nat.le_of_ble_eq_true rfl)
  rw [lg_entry_eq]
  generalize (lg_sl ([.ref (d 0), .int r]) ++ List.replicate (4 - (lg_sl ([.ref (d 0), .int r])).length) Slot.unset).toArray = ls at hl ⊢
  have hl : lv_has ls 4 [(0, .ref (d 0)), (1, .int r)] := hl
  have hP : va_P D vwCl (wWy g d y) s.heap := hP
  refine lv_iload_n hx hb dWy_endFor_0 rfl (lv_at hl 1 rfl) ?_
  refine lv_sipush (v := 16384) hx hb dWy_endFor_1 (by decide) ?_
  refine lv_icmp_ge (tgt := 22) hx hb dWy_endFor_4 (by decide) (fun c_1 => ?_) (fun c_1 => ?_)
  · refine lv_ldc (v := 32768) hx hb hown (htB _ b_39) dWy_endFor_22 ?_
    refine lv_istore_n (lv' := [(2, .int 32768), (0, .ref (d 0)), (1, .int r)]) hx hb dWy_endFor_24 rfl hl (by decide) rfl (fun ls hl => ?_)
    refine lv_iconst (v := 0) hx hb dWy_endFor_25 (by decide) ?_
    refine lv_istore_n (lv' := [(3, .int 0), (2, .int 32768), (0, .ref (d 0)), (1, .int r)]) hx hb dWy_endFor_26 rfl hl (by decide) rfl (fun ls hl => ?_)
    refine lp_Wy_endFor (d := d) (y := y) (r := r) hx hb hml hown hts hK hA 4 0 32768 _ _ ls (by omega) hP hD hS (lv_sub hl [0, 1, 2, 3] rfl) (fun H locs ls hP hD hS hl => ?_)
    refine lv_iload_n hx hb dWy_endFor_68 rfl (lv_at hl 0 rfl) ?_
    exact W.iret (v := endL y r 4 0 32768) hx hb hr (fun t9 ht hW => ⟨⟨endL y r 4 0 32768, (), rfl, (by simp only [endFor, end0, if_pos c_1] <;> rfl), trivial⟩, hS.F ht⟩) hS.2.2 dWy_endFor_69
  · refine lv_aload_n hx hb dWy_endFor_7 rfl (lv_at hl 0 rfl) ?_
    refine va_get (D := D) (ci := iWy) (v := .ref (d 3)) (C := RWy) (T := TWy) (N := 3) hx hb htB inBWy hown hK hP 0 rfl rfl 2 (by decide) (htB _ b_44) (fun _ h9 => h9) rfl dWy_endFor_8 ?_
    refine lv_iconst (v := 1) hx hb dWy_endFor_11 (by decide) ?_
    refine mk_zald (k := 1) hx hb hK hP 3 1 rfl rfl rfl (by decide) dWy_endFor_12 ?_
    refine lv_if_ne (tgt := 22) hx hb dWy_endFor_13 (by decide) (fun c_2 => ?_) (fun c_2 => ?_)
    · refine lv_ldc (v := 32768) hx hb hown (htB _ b_39) dWy_endFor_22 ?_
      refine lv_istore_n (lv' := [(2, .int 32768), (0, .ref (d 0)), (1, .int r)]) hx hb dWy_endFor_24 rfl hl (by decide) rfl (fun ls hl => ?_)
      refine lv_iconst (v := 0) hx hb dWy_endFor_25 (by decide) ?_
      refine lv_istore_n (lv' := [(3, .int 0), (2, .int 32768), (0, .ref (d 0)), (1, .int r)]) hx hb dWy_endFor_26 rfl hl (by decide) rfl (fun ls hl => ?_)
      refine lp_Wy_endFor (d := d) (y := y) (r := r) hx hb hml hown hts hK hA 4 0 32768 _ _ ls (by omega) hP hD hS (lv_sub hl [0, 1, 2, 3] rfl) (fun H locs ls hP hD hS hl => ?_)
      refine lv_iload_n hx hb dWy_endFor_68 rfl (lv_at hl 0 rfl) ?_
      exact W.iret (v := endL y r 4 0 32768) hx hb hr (fun t9 ht hW => ⟨⟨endL y r 4 0 32768, (), rfl, (by simp only [endFor, end0, if_neg c_1, if_neg c_2] <;> rfl), trivial⟩, hS.F ht⟩) hS.2.2 dWy_endFor_69
    · refine lv_sipush (v := 16384) hx hb dWy_endFor_16 (by decide) ?_
      refine lv_goto (tgt := 24) hx hb dWy_endFor_19 (by decide) ?_
      refine lv_istore_n (lv' := [(2, .int 16384), (0, .ref (d 0)), (1, .int r)]) hx hb dWy_endFor_24 rfl hl (by decide) rfl (fun ls hl => ?_)
      refine lv_iconst (v := 0) hx hb dWy_endFor_25 (by decide) ?_
      refine lv_istore_n (lv' := [(3, .int 0), (2, .int 16384), (0, .ref (d 0)), (1, .int r)]) hx hb dWy_endFor_26 rfl hl (by decide) rfl (fun ls hl => ?_)
      refine lp_Wy_endFor (d := d) (y := y) (r := r) hx hb hml hown hts hK hA 4 0 16384 _ _ ls (by omega) hP hD hS (lv_sub hl [0, 1, 2, 3] rfl) (fun H locs ls hP hD hS hl => ?_)
      refine lv_iload_n hx hb dWy_endFor_68 rfl (lv_at hl 0 rfl) ?_
      exact W.iret (v := endL y r 4 0 16384) hx hb hr (fun t9 ht hW => ⟨⟨endL y r 4 0 16384, (), rfl, (by simp only [endFor, end0, if_neg c_1, if_pos c_2] <;> rfl), trivial⟩, hS.F ht⟩) hS.2.2 dWy_endFor_69
