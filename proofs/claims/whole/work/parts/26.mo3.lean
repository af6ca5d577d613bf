set_option maxHeartbeats 4000000 in
set_option maxRecDepth 100000 in
theorem lq_wk1 {p : Program} {l : Launch} {e : Env} {s : State} {m : MethodId} {args : Array Value} {below : List Frame} {meth : Method} {cd : Code} {Q : State → Prop} {D : va_G} {g : Nat → ClassId} {A : Nat → Prop} {Ad : Nat → Prop} {a : Nat → Nat} {M : zMo} {t : Nat} {r : Int64} (hx : p.tables.exec = Jvm.exec) (hb : cd.code = cMo_worked) (hml : cd.maxLocals = 9) (hown : s.vm.findClass RMo = some m.cls) (hts : ∀ w ∈ wsMo_worked, w.before args s = true) (hK : va_K D vwCl (zty g) s) (hA : ∀ q : Nat, s.heap.size ≤ q → A q) : ∀ (j i : Nat) (q : Int64) (H : Heap) (locs : List Loc) (ls : Array Slot), i + j = 4 → va_P D vwCl (wMo g a M) H → va_D Ad (wMo g a M) → va_S A s.heap H locs → lv_has ls 9 [(6, .int (nI i)), (2, .long q), (4, .long r), (0, .ref (a 0)), (1, .int (nI t))] → (∀ (H : Heap) (locs : List Loc) (ls : Array Slot), va_P D vwCl (wMo g a M) H → va_D Ad (wMo g a M) → va_S A s.heap H locs → lv_has ls 9 [(2, .long (wkL1 M r j i q)), (4, .long r), (0, .ref (a 0)), (1, .int (nI t))] → W p l e ({ frames := 0, cells := 0, slots := 0, locals := 0 }) s m args below meth cd H locs 0 0 Q (F0 m 70 ls [])) → W p l e ({ frames := 0, cells := 0, slots := 0, locals := 0 }) s m args below meth cd H locs 0 0 Q (F0 m 15 ls []) := by
  have htB : ∀ w ∈ BIG, w.before args s = true := fun w h => hts w (List.mem_cons_of_mem _ h)
  intro j
  induction j with
  | zero =>
    intro i q H locs ls hi hP hD hS hl kk
    refine lv_iload hx hb dMo_worked_15 (lv_at hl 0 rfl) ?_
    refine lv_iconst (v := 4) hx hb dMo_worked_17 (by decide) ?_
    refine lv_icmp_ge (tgt := 70) hx hb dMo_worked_18 (by decide) (fun _ => ?_) (fun c_1 => absurd (nI_le (a := 4) (b := i) (by omega) (by omega)) c_1)
    exact kk H locs ls hP hD hS (lv_sub hl [1, 2, 3, 4] rfl)
  | succ j ih =>
    intro i q H locs ls hi hP hD hS hl kk
    refine lv_iload hx hb dMo_worked_15 (lv_at hl 0 rfl) ?_
    refine lv_iconst (v := 4) hx hb dMo_worked_17 (by decide) ?_
    refine lv_icmp_ge (tgt := 70) hx hb dMo_worked_18 (by decide) (fun c_1 => absurd c_1 (nI_ge (a := i) (b := 4) (by omega) (by decide))) (fun _ => ?_)
    refine lv_aload_n hx hb dMo_worked_21 rfl (lv_at hl 3 rfl) ?_
    refine va_get (D := D) (ci := iMo) (v := .ref (a 4)) (C := RMo) (T := TMo) (N := 32) hx hb htB inBMo hown hK hP 0 rfl rfl 3 (by decide) (htB _ b_373) (fun _ h9 => h9) rfl dMo_worked_22 ?_
    refine lv_iload hx hb dMo_worked_25 (lv_at hl 0 rfl) ?_
    refine mk_zald (k := i) hx hb hK hP 4 1 rfl rfl rfl ⟨(by omega), by decide⟩ dMo_worked_27 ?_
    refine lv_if_eq (tgt := 64) hx hb dMo_worked_28 (by decide) (fun c_2 => ?_) (fun c_2 => ?_)
    · refine lv_iinc (v := nI (i + 1)) (lv' := [(6, .int (nI (i + 1))), (2, .long q), (4, .long r), (0, .ref (a 0)), (1, .int (nI t))]) hx hb dMo_worked_64 hl (k := 0) rfl (nI_1 _) (by decide) rfl (fun ls hl => ?_)
      refine lv_goto (tgt := 15) hx hb dMo_worked_67 (by decide) ?_
      have hE : wkL1 M r (j + 1) i q = wkL1 M r j (i + 1) q := (by first | (simp only [wkL1, if_pos c_2] <;> rfl) | exact ((if_pos c_2).trans (rfl)).symm)
      rw [hE] at kk
      exact ih (i + 1) q H locs ls (by omega) hP hD hS (lv_sub hl [0, 1, 2, 3, 4] rfl) kk
    · refine lv_aload_n hx hb dMo_worked_31 rfl (lv_at hl 3 rfl) ?_
      refine va_get (D := D) (ci := iMo) (v := .ref (a 3)) (C := RMo) (T := TMo) (N := 32) hx hb htB inBMo hown hK hP 0 rfl rfl 2 (by decide) (htB _ b_372) (fun _ h9 => h9) rfl dMo_worked_32 ?_
      refine lv_iload hx hb dMo_worked_35 (lv_at hl 0 rfl) ?_
      refine mk_lald (k := i) hx hb hK hP 3 3 rfl rfl rfl ⟨(by omega), by decide⟩ dMo_worked_37 ?_
      refine lv_lload hx hb dMo_worked_38 (lv_at hl 2 rfl) ?_
      refine mk_lif_lt (tgt := 64) hx hb dMo_worked_40 dMo_worked_41 (by decide) (fun c_3 => ?_) (fun c_3 => ?_)
      · refine lv_iinc (v := nI (i + 1)) (lv' := [(6, .int (nI (i + 1))), (2, .long q), (4, .long r), (0, .ref (a 0)), (1, .int (nI t))]) hx hb dMo_worked_64 hl (k := 0) rfl (nI_1 _) (by decide) rfl (fun ls hl => ?_)
        refine lv_goto (tgt := 15) hx hb dMo_worked_67 (by decide) ?_
        have hE : wkL1 M r (j + 1) i q = wkL1 M r j (i + 1) q := (by first | (simp only [wkL1, if_neg c_2, if_pos c_3] <;> rfl) | exact ((if_neg c_2).trans ((if_pos c_3).trans (rfl))).symm)
        rw [hE] at kk
        exact ih (i + 1) q H locs ls (by omega) hP hD hS (lv_sub hl [0, 1, 2, 3, 4] rfl) kk
      · refine lv_aload_n hx hb dMo_worked_44 rfl (lv_at hl 3 rfl) ?_
        refine va_get (D := D) (ci := iMo) (v := .ref (a 3)) (C := RMo) (T := TMo) (N := 32) hx hb htB inBMo hown hK hP 0 rfl rfl 2 (by decide) (htB _ b_372) (fun _ h9 => h9) rfl dMo_worked_45 ?_
        refine lv_iload hx hb dMo_worked_48 (lv_at hl 0 rfl) ?_
        refine mk_lald (k := i) hx hb hK hP 3 3 rfl rfl rfl ⟨(by omega), by decide⟩ dMo_worked_50 ?_
        refine lv_lload_n hx hb dMo_worked_51 rfl (lv_at hl 1 rfl) ?_
        refine mk_lif_ge (tgt := 64) hx hb dMo_worked_52 dMo_worked_53 (by decide) (fun c_4 => ?_) (fun c_4 => ?_)
        · refine lv_iinc (v := nI (i + 1)) (lv' := [(6, .int (nI (i + 1))), (2, .long q), (4, .long r), (0, .ref (a 0)), (1, .int (nI t))]) hx hb dMo_worked_64 hl (k := 0) rfl (nI_1 _) (by decide) rfl (fun ls hl => ?_)
          refine lv_goto (tgt := 15) hx hb dMo_worked_67 (by decide) ?_
          have hE : wkL1 M r (j + 1) i q = wkL1 M r j (i + 1) q := (by first | (simp only [wkL1, if_neg c_2, if_neg c_3, if_pos c_4] <;> rfl) | exact ((if_neg c_2).trans ((if_neg c_3).trans ((if_pos c_4).trans (rfl)))).symm)
          rw [hE] at kk
          exact ih (i + 1) q H locs ls (by omega) hP hD hS (lv_sub hl [0, 1, 2, 3, 4] rfl) kk
        · refine lv_aload_n hx hb dMo_worked_56 rfl (lv_at hl 3 rfl) ?_
          refine va_get (D := D) (ci := iMo) (v := .ref (a 3)) (C := RMo) (T := TMo) (N := 32) hx hb htB inBMo hown hK hP 0 rfl rfl 2 (by decide) (htB _ b_372) (fun _ h9 => h9) rfl dMo_worked_57 ?_
          refine lv_iload hx hb dMo_worked_60 (lv_at hl 0 rfl) ?_
          refine mk_lald (k := i) hx hb hK hP 3 3 rfl rfl rfl ⟨(by omega), by decide⟩ dMo_worked_62 ?_
          refine lv_lstore_n (lv' := [(2, .long ((xho (m1 M)) i)), (6, .int (nI i)), (4, .long r), (0, .ref (a 0)), (1, .int (nI t))]) hx hb dMo_worked_63 rfl hl (by decide) rfl (fun ls hl => ?_)
          refine lv_iinc (v := nI (i + 1)) (lv' := [(6, .int (nI (i + 1))), (2, .long ((xho (m1 M)) i)), (4, .long r), (0, .ref (a 0)), (1, .int (nI t))]) hx hb dMo_worked_64 hl (k := 1) rfl (nI_1 _) (by decide) rfl (fun ls hl => ?_)
          refine lv_goto (tgt := 15) hx hb dMo_worked_67 (by decide) ?_
          have hE : wkL1 M r (j + 1) i q = wkL1 M r j (i + 1) ((xho (m1 M)) i) := (by first | (simp only [wkL1, if_neg c_2, if_neg c_3, if_neg c_4] <;> rfl) | exact ((if_neg c_2).trans ((if_neg c_3).trans ((if_neg c_4).trans (rfl)))).symm)
          rw [hE] at kk
          exact ih (i + 1) ((xho (m1 M)) i) H locs ls (by omega) hP hD hS (lv_sub hl [0, 1, 2, 3, 4] rfl) kk
set_option maxHeartbeats 4000000 in
set_option maxRecDepth 100000 in
theorem lq_wk2 {p : Program} {l : Launch} {e : Env} {s : State} {m : MethodId} {args : Array Value} {below : List Frame} {meth : Method} {cd : Code} {Q : State → Prop} {D : va_G} {g : Nat → ClassId} {A : Nat → Prop} {Ad : Nat → Prop} {a : Nat → Nat} {M : zMo} {t : Nat} {r : Int64} (ht : t < 4) (hx : p.tables.exec = Jvm.exec) (hb : cd.code = cMo_worked) (hml : cd.maxLocals = 9) (hown : s.vm.findClass RMo = some m.cls) (hts : ∀ w ∈ wsMo_worked, w.before args s = true) (hK : va_K D vwCl (zty g) s) (hA : ∀ q : Nat, s.heap.size ≤ q → A q) : ∀ (j i : Nat) (q : Int64) (H : Heap) (locs : List Loc) (ls : Array Slot), i + j = t → va_P D vwCl (wMo g a M) H → va_D Ad (wMo g a M) → va_S A s.heap H locs → lv_has ls 9 [(6, .int (nI i)), (2, .long q), (4, .long r), (0, .ref (a 0)), (1, .int (nI t))] → (∀ (H : Heap) (locs : List Loc) (ls : Array Slot), va_P D vwCl (wMo g a M) H → va_D Ad (wMo g a M) → va_S A s.heap H locs → lv_has ls 9 [(2, .long (wkL2 M j i q)), (4, .long r), (0, .ref (a 0)), (1, .int (nI t))] → W p l e ({ frames := 0, cells := 0, slots := 0, locals := 0 }) s m args below meth cd H locs 0 0 Q (F0 m 152 ls [])) → W p l e ({ frames := 0, cells := 0, slots := 0, locals := 0 }) s m args below meth cd H locs 0 0 Q (F0 m 103 ls []) := by
  have htB : ∀ w ∈ BIG, w.before args s = true := fun w h => hts w (List.mem_cons_of_mem _ h)
  intro j
  induction j with
  | zero =>
    intro i q H locs ls hi hP hD hS hl kk
    refine lv_iload hx hb dMo_worked_103 (lv_at hl 0 rfl) ?_
    refine lv_iload_n hx hb dMo_worked_105 rfl (lv_at hl 4 rfl) ?_
    refine lv_icmp_ge (tgt := 152) hx hb dMo_worked_106 (by decide) (fun _ => ?_) (fun c_1 => absurd (nI_le (a := t) (b := i) (by omega) (by omega)) c_1)
    exact kk H locs ls hP hD hS (lv_sub hl [1, 2, 3, 4] rfl)
  | succ j ih =>
    intro i q H locs ls hi hP hD hS hl kk
    refine lv_iload hx hb dMo_worked_103 (lv_at hl 0 rfl) ?_
    refine lv_iload_n hx hb dMo_worked_105 rfl (lv_at hl 4 rfl) ?_
    refine lv_icmp_ge (tgt := 152) hx hb dMo_worked_106 (by decide) (fun c_1 => absurd c_1 (nI_ge (a := i) (b := t) (by omega) (by omega))) (fun _ => ?_)
    refine lv_aload_n hx hb dMo_worked_109 rfl (lv_at hl 3 rfl) ?_
    refine va_get (D := D) (ci := iMo) (v := .ref (a 15)) (C := RMo) (T := TMo) (N := 32) hx hb htB inBMo hown hK hP 0 rfl rfl 15 (by decide) (htB _ b_385) (fun _ h9 => h9) rfl dMo_worked_110 ?_
    refine lv_iload hx hb dMo_worked_113 (lv_at hl 0 rfl) ?_
    refine mk_iald (k := i) hx hb hK hP 19 0 rfl rfl rfl ⟨(by omega), by decide⟩ dMo_worked_115 ?_
    refine lv_if_ne (tgt := 123) hx hb dMo_worked_116 (by decide) (fun c_2 => ?_) (fun c_2 => ?_)
    · refine lv_aload_n hx hb dMo_worked_123 rfl (lv_at hl 3 rfl) ?_
      refine va_get (D := D) (ci := iMo) (v := .ref (a 14)) (C := RMo) (T := TMo) (N := 32) hx hb htB inBMo hown hK hP 0 rfl rfl 14 (by decide) (htB _ b_384) (fun _ h9 => h9) rfl dMo_worked_124 ?_
      refine lv_iload hx hb dMo_worked_127 (lv_at hl 0 rfl) ?_
      refine mk_lald (k := i) hx hb hK hP 18 3 rfl rfl rfl ⟨(by omega), by decide⟩ dMo_worked_129 ?_
      refine lv_ldc2 (v := 64) hx hb hown (htB _ b_493) dMo_worked_130 ?_
      refine lv_lsub hx hb dMo_worked_133 ?_
      refine lv_lstore (lv' := [(7, .long (((xst (m3 M)) i) - 64)), (6, .int (nI i)), (2, .long q), (4, .long r), (0, .ref (a 0)), (1, .int (nI t))]) hx hb dMo_worked_134 hl (by decide) rfl (fun ls hl => ?_)
      refine lv_lload hx hb dMo_worked_136 (lv_at hl 0 rfl) ?_
      refine lv_lload_n hx hb dMo_worked_138 rfl (lv_at hl 2 rfl) ?_
      refine mk_lif_ge (tgt := 146) hx hb dMo_worked_139 dMo_worked_140 (by decide) (fun c_3 => ?_) (fun c_3 => ?_)
      · refine lv_iinc (v := nI (i + 1)) (lv' := [(6, .int (nI (i + 1))), (7, .long (((xst (m3 M)) i) - 64)), (2, .long q), (4, .long r), (0, .ref (a 0)), (1, .int (nI t))]) hx hb dMo_worked_146 hl (k := 1) rfl (nI_1 _) (by decide) rfl (fun ls hl => ?_)
        refine lv_goto (tgt := 103) hx hb dMo_worked_149 (by decide) ?_
        have hE : wkL2 M (j + 1) i q = wkL2 M j (i + 1) q := (by first | (simp only [wkL2, wkTo, if_neg c_2, if_pos c_3] <;> rfl) | exact ((if_neg c_2).trans ((if_pos c_3).trans (rfl))).symm)
        rw [hE] at kk
        exact ih (i + 1) q H locs ls (by omega) hP hD hS (lv_sub hl [0, 2, 3, 4, 5] rfl) kk
      · refine lv_lload hx hb dMo_worked_143 (lv_at hl 0 rfl) ?_
        refine lv_lstore_n (lv' := [(2, .long (((xst (m3 M)) i) - 64)), (7, .long (((xst (m3 M)) i) - 64)), (6, .int (nI i)), (4, .long r), (0, .ref (a 0)), (1, .int (nI t))]) hx hb dMo_worked_145 rfl hl (by decide) rfl (fun ls hl => ?_)
        refine lv_iinc (v := nI (i + 1)) (lv' := [(6, .int (nI (i + 1))), (2, .long (((xst (m3 M)) i) - 64)), (7, .long (((xst (m3 M)) i) - 64)), (4, .long r), (0, .ref (a 0)), (1, .int (nI t))]) hx hb dMo_worked_146 hl (k := 2) rfl (nI_1 _) (by decide) rfl (fun ls hl => ?_)
        refine lv_goto (tgt := 103) hx hb dMo_worked_149 (by decide) ?_
        have hE : wkL2 M (j + 1) i q = wkL2 M j (i + 1) (((xst (m3 M)) i) - 64) := (by first | (simp only [wkL2, wkTo, if_neg c_2, if_neg c_3] <;> rfl) | exact ((if_neg c_2).trans ((if_neg c_3).trans (rfl))).symm)
        rw [hE] at kk
        exact ih (i + 1) (((xst (m3 M)) i) - 64) H locs ls (by omega) hP hD hS (lv_sub hl [0, 1, 3, 4, 5] rfl) kk
    · refine lv_lconst (v := 0) hx hb dMo_worked_119 (by decide) ?_
      refine lv_goto (tgt := 134) hx hb dMo_worked_120 (by decide) ?_
      refine lv_lstore (lv' := [(7, .long 0), (6, .int (nI i)), (2, .long q), (4, .long r), (0, .ref (a 0)), (1, .int (nI t))]) hx hb dMo_worked_134 hl (by decide) rfl (fun ls hl => ?_)
      refine lv_lload hx hb dMo_worked_136 (lv_at hl 0 rfl) ?_
      refine lv_lload_n hx hb dMo_worked_138 rfl (lv_at hl 2 rfl) ?_
      refine mk_lif_ge (tgt := 146) hx hb dMo_worked_139 dMo_worked_140 (by decide) (fun c_4 => ?_) (fun c_4 => ?_)
      · refine lv_iinc (v := nI (i + 1)) (lv' := [(6, .int (nI (i + 1))), (7, .long 0), (2, .long q), (4, .long r), (0, .ref (a 0)), (1, .int (nI t))]) hx hb dMo_worked_146 hl (k := 1) rfl (nI_1 _) (by decide) rfl (fun ls hl => ?_)
        refine lv_goto (tgt := 103) hx hb dMo_worked_149 (by decide) ?_
        have hE : wkL2 M (j + 1) i q = wkL2 M j (i + 1) q := (by first | (simp only [wkL2, wkTo, if_pos c_2, if_pos c_4] <;> rfl) | exact ((if_pos c_2).trans ((if_pos c_4).trans (rfl))).symm)
        rw [hE] at kk
        exact ih (i + 1) q H locs ls (by omega) hP hD hS (lv_sub hl [0, 2, 3, 4, 5] rfl) kk
      · refine lv_lload hx hb dMo_worked_143 (lv_at hl 0 rfl) ?_
        refine lv_lstore_n (lv' := [(2, .long 0), (7, .long 0), (6, .int (nI i)), (4, .long r), (0, .ref (a 0)), (1, .int (nI t))]) hx hb dMo_worked_145 rfl hl (by decide) rfl (fun ls hl => ?_)
        refine lv_iinc (v := nI (i + 1)) (lv' := [(6, .int (nI (i + 1))), (2, .long 0), (7, .long 0), (4, .long r), (0, .ref (a 0)), (1, .int (nI t))]) hx hb dMo_worked_146 hl (k := 2) rfl (nI_1 _) (by decide) rfl (fun ls hl => ?_)
        refine lv_goto (tgt := 103) hx hb dMo_worked_149 (by decide) ?_
        have hE : wkL2 M (j + 1) i q = wkL2 M j (i + 1) 0 := (by first | (simp only [wkL2, wkTo, if_pos c_2, if_neg c_4] <;> rfl) | exact ((if_pos c_2).trans ((if_neg c_4).trans (rfl))).symm)
        rw [hE] at kk
        exact ih (i + 1) 0 H locs ls (by omega) hP hD hS (lv_sub hl [0, 1, 3, 4, 5] rfl) kk
set_option maxHeartbeats 4000000 in
set_option maxRecDepth 100000 in
/-- worked -/
theorem k_worked (l : Launch) (D : va_G) (g : Nat → ClassId) (a : Nat → Nat) (M : zMo) (t : Nat) (ht : t < 4) : mk_Rl l yMo_worked wsMo_worked ({ frames := 0, cells := 0, slots := 0, locals := 0 }) D vwCl (zty g) [.ref (a 0), .int (nI t)] (wMo g a M) (yWorked M t) := by
  intro sz
  refine Met.ofW (cc := cMo_worked) (maxL := 9) (ret := (some .long)) (by decide) rfl ?_
  intro p e s m args below meth cd s₁ B hml hv
  obtain ⟨rfl, hsz, hP, hK, hD0⟩ := hv
  have hx := B.exec
  have hb := B.bytes
  have hr := B.returns
  have hts := atoms_spec (ws := wsMo_worked) B.pre
  have htB := fun (w : Cond) (h : w ∈ BIG) => hts w (List.mem_cons_of_mem _ h)
  have hown : s.vm.findClass RMo = some m.cls := findClass_of_methodNamed B.named
  have hlocks := B.notSynchronized
  subst hsz
  have hD := hD0
  have hA : ∀ q : Nat, s.heap.size ≤ q → (fun q => s.heap.size ≤ q) q := fun _ h => h
  have hS : va_S (fun q => s.heap.size ≤ q) s.heap s.heap [] := va_S.rf
  have hl := lv_entry ([.ref (a 0), .int (nI t)]) (n := 9) (Nat.le_of_ble_eq_true rfl)
  rw [lg_entry_eq]
  generalize (lg_sl ([.ref (a 0), .int (nI t)]) ++ List.replicate (9 - (lg_sl ([.ref (a 0), .int (nI t)])).length) Slot.unset).toArray = ls at hl ⊢
  have hl : lv_has ls 9 [(0, .ref (a 0)), (1, .int (nI t))] := hl
  have hP : va_P D vwCl (wMo g a M) s.heap := hP
  refine lv_ldc2 (v := 32768) hx hb hown (htB _ b_368) dMo_worked_0 ?_
  refine lv_lstore_n (lv' := [(2, .long 32768), (0, .ref (a 0)), (1, .int (nI t))]) hx hb dMo_worked_3 rfl hl (by decide) rfl (fun ls hl => ?_)
  refine lv_aload_n hx hb dMo_worked_4 rfl (lv_at hl 1 rfl) ?_
  refine va_get (D := D) (ci := iMo) (v := .ref (a 13)) (C := RMo) (T := TMo) (N := 32) hx hb htB inBMo hown hK hP 0 rfl rfl 13 (by decide) (htB _ b_383) (fun _ h9 => h9) rfl dMo_worked_5 ?_
  refine lv_iload_n hx hb dMo_worked_8 rfl (lv_at hl 2 rfl) ?_
  refine mk_lald (k := t) hx hb hK hP 17 3 rfl rfl rfl ⟨ht, by decide⟩ dMo_worked_9 ?_
  refine lv_lstore (lv' := [(4, .long ((xsr (m3 M)) t)), (2, .long 32768), (0, .ref (a 0)), (1, .int (nI t))]) hx hb dMo_worked_10 hl (by decide) rfl (fun ls hl => ?_)
  refine lv_iconst (v := 0) hx hb dMo_worked_12 (by decide) ?_
  refine lv_istore (lv' := [(6, .int 0), (4, .long ((xsr (m3 M)) t)), (2, .long 32768), (0, .ref (a 0)), (1, .int (nI t))]) hx hb dMo_worked_13 hl (by decide) rfl (fun ls hl => ?_)
  refine lq_wk1 (a := a) (M := M) (t := t) (r := (xsr (m3 M) t)) hx hb hml hown hts hK hA 4 0 32768 _ _ ls (by omega) hP hD hS (lv_sub hl [0, 2, 1, 3, 4] rfl) (fun H locs ls hP hD hS hl => ?_)
  refine lv_lload hx hb dMo_worked_70 (lv_at hl 1 rfl) ?_
  refine lv_ldc2 (v := 16384) hx hb hown (htB _ b_542) dMo_worked_72 ?_
  refine mk_lif_ge (tgt := 100) hx hb dMo_worked_75 dMo_worked_76 (by decide) (fun c_1 => ?_) (fun c_1 => ?_)
  · refine lv_iconst (v := 0) hx hb dMo_worked_100 (by decide) ?_
    refine lv_istore (lv' := [(6, .int 0), (2, .long (wkL1 M (xsr (m3 M) t) 4 0 32768)), (4, .long (xsr (m3 M) t)), (0, .ref (a 0)), (1, .int (nI t))]) hx hb dMo_worked_101 hl (by decide) rfl (fun ls hl => ?_)
    refine lq_wk2 (a := a) (M := M) (t := t) (r := (xsr (m3 M) t)) ht hx hb hml hown hts hK hA t 0 (wkL1 M (xsr (m3 M) t) 4 0 32768) _ _ ls (by omega) hP hD hS (lv_sub hl [0, 1, 2, 3, 4] rfl) (fun H locs ls hP hD hS hl => ?_)
    refine lv_lload_n hx hb dMo_worked_152 rfl (lv_at hl 0 rfl) ?_
    exact W.lret (v := wkL2 M t 0 (wkL1 M (xsr (m3 M) t) 4 0 32768)) hx hb hr (fun t9 ht hW => ⟨⟨wkL2 M t 0 (wkL1 M (xsr (m3 M) t) 4 0 32768), (), rfl, (by first | (simp only [yWorked, wkMid, if_pos c_1] <;> rfl) | exact ((if_pos c_1).trans (rfl)).symm), trivial⟩, hS.F ht⟩) hS.2.2 dMo_worked_153
  · refine lv_aload_n hx hb dMo_worked_79 rfl (lv_at hl 2 rfl) ?_
    refine va_get (D := D) (ci := iMo) (v := .ref (a 5)) (C := RMo) (T := TMo) (N := 32) hx hb htB inBMo hown hK hP 0 rfl rfl 4 (by decide) (htB _ b_374) (fun _ h9 => h9) rfl dMo_worked_80 ?_
    refine lv_iconst (v := 1) hx hb dMo_worked_83 (by decide) ?_
    refine mk_zald (k := 1) hx hb hK hP 5 1 rfl rfl rfl (by decide) dMo_worked_84 ?_
    refine lv_if_eq (tgt := 100) hx hb dMo_worked_85 (by decide) (fun c_2 => ?_) (fun c_2 => ?_)
    · refine lv_iconst (v := 0) hx hb dMo_worked_100 (by decide) ?_
      refine lv_istore (lv' := [(6, .int 0), (2, .long (wkL1 M (xsr (m3 M) t) 4 0 32768)), (4, .long (xsr (m3 M) t)), (0, .ref (a 0)), (1, .int (nI t))]) hx hb dMo_worked_101 hl (by decide) rfl (fun ls hl => ?_)
      refine lq_wk2 (a := a) (M := M) (t := t) (r := (xsr (m3 M) t)) ht hx hb hml hown hts hK hA t 0 (wkL1 M (xsr (m3 M) t) 4 0 32768) _ _ ls (by omega) hP hD hS (lv_sub hl [0, 1, 2, 3, 4] rfl) (fun H locs ls hP hD hS hl => ?_)
      refine lv_lload_n hx hb dMo_worked_152 rfl (lv_at hl 0 rfl) ?_
      exact W.lret (v := wkL2 M t 0 (wkL1 M (xsr (m3 M) t) 4 0 32768)) hx hb hr (fun t9 ht hW => ⟨⟨wkL2 M t 0 (wkL1 M (xsr (m3 M) t) 4 0 32768), (), rfl, (by first | (simp only [yWorked, wkMid, if_neg c_1, if_pos c_2] <;> rfl) | exact ((if_neg c_1).trans ((if_pos c_2).trans (rfl))).symm), trivial⟩, hS.F ht⟩) hS.2.2 dMo_worked_153
    · refine lv_lload_n hx hb dMo_worked_88 rfl (lv_at hl 0 rfl) ?_
      refine lv_ldc2 (v := 16384) hx hb hown (htB _ b_542) dMo_worked_89 ?_
      refine mk_lif_le (tgt := 100) hx hb dMo_worked_92 dMo_worked_93 (by decide) (fun c_3 => ?_) (fun c_3 => ?_)
      · refine lv_iconst (v := 0) hx hb dMo_worked_100 (by decide) ?_
        refine lv_istore (lv' := [(6, .int 0), (2, .long (wkL1 M (xsr (m3 M) t) 4 0 32768)), (4, .long (xsr (m3 M) t)), (0, .ref (a 0)), (1, .int (nI t))]) hx hb dMo_worked_101 hl (by decide) rfl (fun ls hl => ?_)
        refine lq_wk2 (a := a) (M := M) (t := t) (r := (xsr (m3 M) t)) ht hx hb hml hown hts hK hA t 0 (wkL1 M (xsr (m3 M) t) 4 0 32768) _ _ ls (by omega) hP hD hS (lv_sub hl [0, 1, 2, 3, 4] rfl) (fun H locs ls hP hD hS hl => ?_)
        refine lv_lload_n hx hb dMo_worked_152 rfl (lv_at hl 0 rfl) ?_
        exact W.lret (v := wkL2 M t 0 (wkL1 M (xsr (m3 M) t) 4 0 32768)) hx hb hr (fun t9 ht hW => ⟨⟨wkL2 M t 0 (wkL1 M (xsr (m3 M) t) 4 0 32768), (), rfl, (by first | (simp only [yWorked, wkMid, if_neg c_1, if_neg c_2, if_pos c_3] <;> rfl) | exact ((if_neg c_1).trans ((if_neg c_2).trans ((if_pos c_3).trans (rfl)))).symm), trivial⟩, hS.F ht⟩) hS.2.2 dMo_worked_153
      · refine lv_ldc2 (v := 16384) hx hb hown (htB _ b_542) dMo_worked_96 ?_
        refine lv_lstore_n (lv' := [(2, .long 16384), (4, .long (xsr (m3 M) t)), (0, .ref (a 0)), (1, .int (nI t))]) hx hb dMo_worked_99 rfl hl (by decide) rfl (fun ls hl => ?_)
        refine lv_iconst (v := 0) hx hb dMo_worked_100 (by decide) ?_
        refine lv_istore (lv' := [(6, .int 0), (2, .long 16384), (4, .long (xsr (m3 M) t)), (0, .ref (a 0)), (1, .int (nI t))]) hx hb dMo_worked_101 hl (by decide) rfl (fun ls hl => ?_)
        refine lq_wk2 (a := a) (M := M) (t := t) (r := (xsr (m3 M) t)) ht hx hb hml hown hts hK hA t 0 16384 _ _ ls (by omega) hP hD hS (lv_sub hl [0, 1, 2, 3, 4] rfl) (fun H locs ls hP hD hS hl => ?_)
        refine lv_lload_n hx hb dMo_worked_152 rfl (lv_at hl 0 rfl) ?_
        exact W.lret (v := wkL2 M t 0 16384) hx hb hr (fun t9 ht hW => ⟨⟨wkL2 M t 0 16384, (), rfl, (by first | (simp only [yWorked, wkMid, if_neg c_1, if_neg c_2, if_neg c_3] <;> rfl) | exact ((if_neg c_1).trans ((if_neg c_2).trans ((if_neg c_3).trans (rfl)))).symm), trivial⟩, hS.F ht⟩) hS.2.2 dMo_worked_153
set_option maxHeartbeats 4000000 in
set_option maxRecDepth 100000 in
theorem lq_control {p : Program} {l : Launch} {e : Env} {s : State} {m : MethodId} {args : Array Value} {below : List Frame} {meth : Method} {cd : Code} {Q : State → Prop} {D : va_G} {g : Nat → ClassId} {A : Nat → Prop} {a : Nat → Nat} (hx : p.tables.exec = Jvm.exec) (hb : cd.code = cMo_control) (hml : cd.maxLocals = 3) (hown : s.vm.findClass RMo = some m.cls) (hts : ∀ w ∈ wsMo_control, w.before args s = true) (hK : va_K D vwCl (zty g) s) (hA : ∀ q : Nat, s.heap.size ≤ q → A q) : ∀ (j i : Nat) (M : zMo) (H : Heap) (locs : List Loc) (ls : Array Slot), i + j = xtr (m5 M) → xtr (m5 M) ≤ 4 → xme (m5 M) + j ≤ 64 → va_P D vwCl (wMo g a M) H → va_D A (wMo g a M) → va_S A s.heap H locs → lv_has ls 3 [(1, .int (nI i)), (0, .ref (a 0))] → (∀ (H : Heap) (locs : List Loc) (ls : Array Slot), va_P D vwCl (wMo g a (yConL j i M)) H → va_D A (wMo g a (yConL j i M)) → va_S A s.heap H locs → lv_has ls 3 [(0, .ref (a 0))] → W p l e ({ frames := 1, cells := 0, slots := 0, locals := 28 }) s m args below meth cd H locs 0 0 Q (F0 m 74 ls [])) → W p l e ({ frames := 1, cells := 0, slots := 0, locals := 28 }) s m args below meth cd H locs 0 0 Q (F0 m 2 ls []) := by
  have htB : ∀ w ∈ BIG, w.before args s = true := fun w h => hts w (List.mem_cons_of_mem _ h)
  intro j
  induction j with
  | zero =>
    intro i M H locs ls hi hm hme hP hD hS hl kk
    refine lv_iload_n hx hb dMo_control_2 rfl (lv_at hl 0 rfl) ?_
    refine lv_aload_n hx hb dMo_control_3 rfl (lv_at hl 1 rfl) ?_
    refine va_get (D := D) (ci := iMo) (v := .int (nI (xtr (m5 M)))) (C := RMo) (T := TMo) (N := 32) hx hb htB inBMo hown hK hP 0 rfl rfl 5 (by decide) (htB _ b_375) (fun _ h9 => h9) rfl dMo_control_4 ?_
    refine lv_icmp_ge (tgt := 74) hx hb dMo_control_7 (by decide) (fun _ => ?_) (fun c_1 => absurd (nI_le (a := xtr (m5 M)) (b := i) (by omega) (by omega)) c_1)
    exact kk H locs ls hP hD hS (lv_sub hl [1] rfl)
  | succ j ih =>
    intro i M H locs ls hi hm hme hP hD hS hl kk
    refine lv_iload_n hx hb dMo_control_2 rfl (lv_at hl 0 rfl) ?_
    refine lv_aload_n hx hb dMo_control_3 rfl (lv_at hl 1 rfl) ?_
    refine va_get (D := D) (ci := iMo) (v := .int (nI (xtr (m5 M)))) (C := RMo) (T := TMo) (N := 32) hx hb htB inBMo hown hK hP 0 rfl rfl 5 (by decide) (htB _ b_375) (fun _ h9 => h9) rfl dMo_control_4 ?_
    refine lv_icmp_ge (tgt := 74) hx hb dMo_control_7 (by decide) (fun c_1 => absurd c_1 (nI_ge (a := i) (b := xtr (m5 M)) (by omega) (by omega))) (fun _ => ?_)
    refine lv_aload_n hx hb dMo_control_10 rfl (lv_at hl 1 rfl) ?_
    refine va_get (D := D) (ci := iMo) (v := .ref (a 15)) (C := RMo) (T := TMo) (N := 32) hx hb htB inBMo hown hK hP 0 rfl rfl 15 (by decide) (htB _ b_385) (fun _ h9 => h9) rfl dMo_control_11 ?_
    refine lv_iload_n hx hb dMo_control_14 rfl (lv_at hl 0 rfl) ?_
    refine mk_iald (k := i) hx hb hK hP 19 0 rfl rfl rfl ⟨(by omega), by decide⟩ dMo_control_15 ?_
    refine lv_if_ne (tgt := 22) hx hb dMo_control_16 (by decide) (fun c_2 => ?_) (fun c_2 => ?_)
    · refine lv_aload_n hx hb dMo_control_22 rfl (lv_at hl 1 rfl) ?_
      refine va_get (D := D) (ci := iMo) (v := .ref (a 13)) (C := RMo) (T := TMo) (N := 32) hx hb htB inBMo hown hK hP 0 rfl rfl 13 (by decide) (htB _ b_383) (fun _ h9 => h9) rfl dMo_control_23 ?_
      refine lv_iload_n hx hb dMo_control_26 rfl (lv_at hl 0 rfl) ?_
      refine mk_lald (k := i) hx hb hK hP 17 3 rfl rfl rfl ⟨(by omega), by decide⟩ dMo_control_27 ?_
      refine lv_ldc2 (v := 16384) hx hb hown (htB _ b_542) dMo_control_28 ?_
      refine mk_lif_ge (tgt := 39) hx hb dMo_control_31 dMo_control_32 (by decide) (fun c_3 => ?_) (fun c_3 => ?_)
      · refine lv_iconst (v := 1) hx hb dMo_control_39 (by decide) ?_
        refine lv_istore_n (lv' := [(2, .int 1), (1, .int (nI i)), (0, .ref (a 0))]) hx hb dMo_control_40 rfl hl (by decide) rfl (fun ls hl => ?_)
        refine lv_aload_n hx hb dMo_control_41 rfl (lv_at hl 2 rfl) ?_
        refine va_get (D := D) (ci := iMo) (v := .ref (a 5)) (C := RMo) (T := TMo) (N := 32) hx hb htB inBMo hown hK hP 0 rfl rfl 4 (by decide) (htB _ b_374) (fun _ h9 => h9) rfl dMo_control_42 ?_
        refine lv_iload_n hx hb dMo_control_45 rfl (lv_at hl 0 rfl) ?_
        refine mk_zald (k := 1) hx hb hK hP 5 1 rfl rfl rfl (by decide) dMo_control_46 ?_
        refine lv_if_ne (tgt := 68) hx hb dMo_control_47 (by decide) (fun c_4 => ?_) (fun c_4 => ?_)
        · refine lv_iinc (v := nI (i + 1)) (lv' := [(1, .int (nI (i + 1))), (2, .int 1), (0, .ref (a 0))]) hx hb dMo_control_68 hl (k := 1) rfl (nI_1 _) (by decide) rfl (fun ls hl => ?_)
          refine lv_goto (tgt := 2) hx hb dMo_control_71 (by decide) ?_
          have hE : yConL (j + 1) i M = yConL j (i + 1) M := (by first | (simp only [yConL, yCon1, yZone, if_neg c_2, if_pos c_3, if_neg c_4] <;> rfl) | exact ((if_neg c_2).trans ((if_pos c_3).trans ((if_neg c_4).trans (rfl)))).symm)
          rw [hE] at kk
          exact ih (i + 1) M H locs ls (by omega) hm (by omega) hP hD hS (lv_sub hl [0, 2] rfl) kk
        · refine lv_aload_n hx hb dMo_control_50 rfl (lv_at hl 2 rfl) ?_
          refine lv_iconst (v := 1) hx hb dMo_control_51 (by decide) ?_
          refine lv_iload_n hx hb dMo_control_52 rfl (lv_at hl 1 rfl) ?_
          refine lv_aload_n hx hb dMo_control_53 rfl (lv_at hl 2 rfl) ?_
          refine va_get (D := D) (ci := iMo) (v := .ref (a 19)) (C := RMo) (T := TMo) (N := 32) hx hb htB inBMo hown hK hP 0 rfl rfl 19 (by decide) (htB _ b_389) (fun _ h9 => h9) rfl dMo_control_54 ?_
          refine lv_iload_n hx hb dMo_control_57 rfl (lv_at hl 1 rfl) ?_
          refine mk_iald (k := i) hx hb hK hP 21 0 rfl rfl rfl ⟨(by omega), by decide⟩ dMo_control_58 ?_
          refine lv_aload_n hx hb dMo_control_59 rfl (lv_at hl 2 rfl) ?_
          refine lv_iload_n hx hb dMo_control_60 rfl (lv_at hl 1 rfl) ?_
          refine mk_rlV (As := [.int (nI i)]) (rest := [.int ((xbk (m3 M)) i), .int (nI i), .int 1, .ref (a 0)]) (w := (wMo g a M)) (q0 := (RMo, TMo, 32)) (ci := iMo) ⟨hx, hb, hml, hown, hts⟩ (k_worked l D g a M i (by omega) ) (cwV 1 hts (gd_V b_543 b_545 bp_17 b_6 b_546) rfl rfl rfl (by decide +kernel) ⟨Nat.le_of_ble_eq_true rfl, Nat.le_of_ble_eq_true rfl⟩) hK hP hD hS hA (List.range 28) mo_cutAll mo_ndAll rfl rfl rfl hl.1 rfl (Nat.le_of_ble_eq_true rfl) dMo_control_61 ⟨Nat.zero_le _, Nat.zero_le _⟩ (fun H locs hP hS => ?_)
          refine lv_lconst (v := 0) hx hb dMo_control_64 (by decide) ?_
          refine mk_wrV (As := [.int 1, .int (nI i), .int ((xbk (m3 M)) i), .long (yWorked M i), .long 0]) (rest := []) (w := (wMo g a M)) (q0 := (RMo, TMo, 32)) (ci := iMo) (w2 := (wMo g a (ySend M true i ((xbk (m3 M)) i) (yWorked M i) 0))) ⟨hx, hb, hml, hown, hts⟩ (k_send l D g a M true i ((xbk (m3 M)) i) (yWorked M i) 0 (by omega)) (cwV 5 hts (gd_V b_522 b_524 bp_12 b_6 b_525) rfl rfl rfl (by decide +kernel) ⟨Nat.le_of_ble_eq_true rfl, Nat.le_of_ble_eq_true rfl⟩) hK hP hD hS hA (List.range 28) mo_cutAll mo_ndAll fst_Mo rfl rfl rfl hl.1 rfl (Nat.le_of_ble_eq_true rfl) dMo_control_65 ⟨Nat.zero_le _, Nat.zero_le _⟩ (fun H locs hP hD hS => ?_)
          rw [mo_putAll] at hP hD
          have hP : va_P D vwCl (wMo g a (ySend M true i ((xbk (m3 M)) i) (yWorked M i) 0)) H := hP
          have hD : va_D A (wMo g a (ySend M true i ((xbk (m3 M)) i) (yWorked M i) 0)) := hD
          refine lv_iinc (v := nI (i + 1)) (lv' := [(1, .int (nI (i + 1))), (2, .int 1), (0, .ref (a 0))]) hx hb dMo_control_68 hl (k := 1) rfl (nI_1 _) (by decide) rfl (fun ls hl => ?_)
          refine lv_goto (tgt := 2) hx hb dMo_control_71 (by decide) ?_
          have hE : yConL (j + 1) i M = yConL j (i + 1) (ySend M true i ((xbk (m3 M)) i) (yWorked M i) 0) := (by first | (simp only [yConL, yCon1, yZone, if_neg c_2, if_pos c_3, if_pos c_4] <;> rfl) | exact ((if_neg c_2).trans ((if_pos c_3).trans ((if_pos c_4).trans (rfl)))).symm)
          rw [hE] at kk
          exact ih (i + 1) (ySend M true i ((xbk (m3 M)) i) (yWorked M i) 0) H locs ls (by rw [ySend_tr]; omega) (by rw [ySend_tr]; exact hm) (by have e0 := ySend_me (M := M) (z := true) (t := i) (dl := xbk (m3 M) i) (f1 := yWorked M i) (f2 := 0); omega) hP hD hS (lv_sub hl [0, 2] rfl) kk
      · refine lv_iconst (v := 0) hx hb dMo_control_35 (by decide) ?_
        refine lv_goto (tgt := 40) hx hb dMo_control_36 (by decide) ?_
        refine lv_istore_n (lv' := [(2, .int 0), (1, .int (nI i)), (0, .ref (a 0))]) hx hb dMo_control_40 rfl hl (by decide) rfl (fun ls hl => ?_)
        refine lv_aload_n hx hb dMo_control_41 rfl (lv_at hl 2 rfl) ?_
        refine va_get (D := D) (ci := iMo) (v := .ref (a 5)) (C := RMo) (T := TMo) (N := 32) hx hb htB inBMo hown hK hP 0 rfl rfl 4 (by decide) (htB _ b_374) (fun _ h9 => h9) rfl dMo_control_42 ?_
        refine lv_iload_n hx hb dMo_control_45 rfl (lv_at hl 0 rfl) ?_
        refine mk_zald (k := 0) hx hb hK hP 5 1 rfl rfl rfl (by decide) dMo_control_46 ?_
        refine lv_if_ne (tgt := 68) hx hb dMo_control_47 (by decide) (fun c_5 => ?_) (fun c_5 => ?_)
        · refine lv_iinc (v := nI (i + 1)) (lv' := [(1, .int (nI (i + 1))), (2, .int 0), (0, .ref (a 0))]) hx hb dMo_control_68 hl (k := 1) rfl (nI_1 _) (by decide) rfl (fun ls hl => ?_)
          refine lv_goto (tgt := 2) hx hb dMo_control_71 (by decide) ?_
          have hE : yConL (j + 1) i M = yConL j (i + 1) M := (by first | (simp only [yConL, yCon1, yZone, if_neg c_2, if_neg c_3, if_neg c_5] <;> rfl) | exact ((if_neg c_2).trans ((if_neg c_3).trans ((if_neg c_5).trans (rfl)))).symm)
          rw [hE] at kk
          exact ih (i + 1) M H locs ls (by omega) hm (by omega) hP hD hS (lv_sub hl [0, 2] rfl) kk
        · refine lv_aload_n hx hb dMo_control_50 rfl (lv_at hl 2 rfl) ?_
          refine lv_iconst (v := 1) hx hb dMo_control_51 (by decide) ?_
          refine lv_iload_n hx hb dMo_control_52 rfl (lv_at hl 1 rfl) ?_
          refine lv_aload_n hx hb dMo_control_53 rfl (lv_at hl 2 rfl) ?_
          refine va_get (D := D) (ci := iMo) (v := .ref (a 19)) (C := RMo) (T := TMo) (N := 32) hx hb htB inBMo hown hK hP 0 rfl rfl 19 (by decide) (htB _ b_389) (fun _ h9 => h9) rfl dMo_control_54 ?_
          refine lv_iload_n hx hb dMo_control_57 rfl (lv_at hl 1 rfl) ?_
          refine mk_iald (k := i) hx hb hK hP 21 0 rfl rfl rfl ⟨(by omega), by decide⟩ dMo_control_58 ?_
          refine lv_aload_n hx hb dMo_control_59 rfl (lv_at hl 2 rfl) ?_
          refine lv_iload_n hx hb dMo_control_60 rfl (lv_at hl 1 rfl) ?_
          refine mk_rlV (As := [.int (nI i)]) (rest := [.int ((xbk (m3 M)) i), .int (nI i), .int 1, .ref (a 0)]) (w := (wMo g a M)) (q0 := (RMo, TMo, 32)) (ci := iMo) ⟨hx, hb, hml, hown, hts⟩ (k_worked l D g a M i (by omega) ) (cwV 1 hts (gd_V b_543 b_545 bp_17 b_6 b_546) rfl rfl rfl (by decide +kernel) ⟨Nat.le_of_ble_eq_true rfl, Nat.le_of_ble_eq_true rfl⟩) hK hP hD hS hA (List.range 28) mo_cutAll mo_ndAll rfl rfl rfl hl.1 rfl (Nat.le_of_ble_eq_true rfl) dMo_control_61 ⟨Nat.zero_le _, Nat.zero_le _⟩ (fun H locs hP hS => ?_)
          refine lv_lconst (v := 0) hx hb dMo_control_64 (by decide) ?_
          refine mk_wrV (As := [.int 1, .int (nI i), .int ((xbk (m3 M)) i), .long (yWorked M i), .long 0]) (rest := []) (w := (wMo g a M)) (q0 := (RMo, TMo, 32)) (ci := iMo) (w2 := (wMo g a (ySend M true i ((xbk (m3 M)) i) (yWorked M i) 0))) ⟨hx, hb, hml, hown, hts⟩ (k_send l D g a M true i ((xbk (m3 M)) i) (yWorked M i) 0 (by omega)) (cwV 5 hts (gd_V b_522 b_524 bp_12 b_6 b_525) rfl rfl rfl (by decide +kernel) ⟨Nat.le_of_ble_eq_true rfl, Nat.le_of_ble_eq_true rfl⟩) hK hP hD hS hA (List.range 28) mo_cutAll mo_ndAll fst_Mo rfl rfl rfl hl.1 rfl (Nat.le_of_ble_eq_true rfl) dMo_control_65 ⟨Nat.zero_le _, Nat.zero_le _⟩ (fun H locs hP hD hS => ?_)
          rw [mo_putAll] at hP hD
          have hP : va_P D vwCl (wMo g a (ySend M true i ((xbk (m3 M)) i) (yWorked M i) 0)) H := hP
          have hD : va_D A (wMo g a (ySend M true i ((xbk (m3 M)) i) (yWorked M i) 0)) := hD
          refine lv_iinc (v := nI (i + 1)) (lv' := [(1, .int (nI (i + 1))), (2, .int 0), (0, .ref (a 0))]) hx hb dMo_control_68 hl (k := 1) rfl (nI_1 _) (by decide) rfl (fun ls hl => ?_)
          refine lv_goto (tgt := 2) hx hb dMo_control_71 (by decide) ?_
          have hE : yConL (j + 1) i M = yConL j (i + 1) (ySend M true i ((xbk (m3 M)) i) (yWorked M i) 0) := (by first | (simp only [yConL, yCon1, yZone, if_neg c_2, if_neg c_3, if_pos c_5] <;> rfl) | exact ((if_neg c_2).trans ((if_neg c_3).trans ((if_pos c_5).trans (rfl)))).symm)
          rw [hE] at kk
          exact ih (i + 1) (ySend M true i ((xbk (m3 M)) i) (yWorked M i) 0) H locs ls (by rw [ySend_tr]; omega) (by rw [ySend_tr]; exact hm) (by have e0 := ySend_me (M := M) (z := true) (t := i) (dl := xbk (m3 M) i) (f1 := yWorked M i) (f2 := 0); omega) hP hD hS (lv_sub hl [0, 2] rfl) kk
    · refine lv_goto (tgt := 68) hx hb dMo_control_19 (by decide) ?_
      refine lv_iinc (v := nI (i + 1)) (lv' := [(1, .int (nI (i + 1))), (0, .ref (a 0))]) hx hb dMo_control_68 hl (k := 0) rfl (nI_1 _) (by decide) rfl (fun ls hl => ?_)
      refine lv_goto (tgt := 2) hx hb dMo_control_71 (by decide) ?_
      have hE : yConL (j + 1) i M = yConL j (i + 1) M := (by first | (simp only [yConL, yCon1, yZone, if_pos c_2] <;> rfl) | exact ((if_pos c_2).trans (rfl)).symm)
      rw [hE] at kk
      exact ih (i + 1) M H locs ls (by omega) hm (by omega) hP hD hS (lv_sub hl [0, 1] rfl) kk
set_option maxHeartbeats 4000000 in
set_option maxRecDepth 100000 in
/-- control -/
theorem k_control (l : Launch) (D : va_G) (g : Nat → ClassId) (a : Nat → Nat) (M : zMo) (hm : xtr (m5 M) ≤ 4) (hme : xme (m5 M) + 4 ≤ 64) : mk_Wv l yMo_control wsMo_control ({ frames := 1, cells := 0, slots := 0, locals := 28 }) D vwCl (zty g) [.ref (a 0)] (wMo g a M) (wMo g a (yControl M)) := by
  intro sz
  refine Met.ofW (cc := cMo_control) (maxL := 3) (ret := none) (by decide) rfl ?_
  intro p e s m args below meth cd s₁ B hml hv
  obtain ⟨rfl, hsz, hP, hK, hD0⟩ := hv
  have hx := B.exec
  have hb := B.bytes
  have hr := B.returns
  have hts := atoms_spec (ws := wsMo_control) B.pre
  have htB := fun (w : Cond) (h : w ∈ BIG) => hts w (List.mem_cons_of_mem _ h)
  have hown : s.vm.findClass RMo = some m.cls := findClass_of_methodNamed B.named
  have hlocks := B.notSynchronized
  subst hsz
  have hD := hD0.self (sz := s.heap.size)
  generalize hAe : va_A (wMo g a M) s.heap.size = A at hD ⊢
  have hA : ∀ q : Nat, s.heap.size ≤ q → A q := fun q h => by rw [← hAe]; exact Or.inr h
  have hS : va_S A s.heap s.heap [] := va_S.rf
  have hl := lv_entry ([.ref (a 0)]) (n := 3) (Nat.le_of_ble_eq_true rfl)
  rw [lg_entry_eq]
  generalize (lg_sl ([.ref (a 0)]) ++ List.replicate (3 - (lg_sl ([.ref (a 0)])).length) Slot.unset).toArray = ls at hl ⊢
  have hl : lv_has ls 3 [(0, .ref (a 0))] := hl
  have hP : va_P D vwCl (wMo g a M) s.heap := hP
  refine lv_iconst (v := 0) hx hb dMo_control_0 (by decide) ?_
  refine lv_istore_n (lv' := [(1, .int 0), (0, .ref (a 0))]) hx hb dMo_control_1 rfl hl (by decide) rfl (fun ls hl => ?_)
  refine lq_control (a := a) hx hb hml hown hts hK hA (xtr (m5 M)) 0 M _ _ ls (by omega) hm (by omega) hP hD hS (lv_sub hl [0, 1] rfl) (fun H locs ls hP hD hS hl => ?_)
  have hE : wMo g a (yControl M) = wMo g a (yConL (xtr (m5 M)) 0 M) := (by first | rfl | (simp only [yControl] <;> rfl))
  exact W.vret hx hb hr (fun t9 ht hW => ⟨⟨(), rfl, trivial, mk_end ht hE hP⟩, hS.F ht⟩) hS.2.2 dMo_control_74
set_option maxHeartbeats 4000000 in
set_option maxRecDepth 100000 in
theorem lq_safe {p : Program} {l : Launch} {e : Env} {s : State} {m : MethodId} {args : Array Value} {below : List Frame} {meth : Method} {cd : Code} {Q : State → Prop} {D : va_G} {g : Nat → ClassId} {A : Nat → Prop} {Ad : Nat → Prop} {a : Nat → Nat} {M : zMo} {t : Nat} {v r ta : Int64} {res : Bool} (ht : t < 4) (hx : p.tables.exec = Jvm.exec) (hb : cd.code = cMo_safe) (hml : cd.maxLocals = 12) (hown : s.vm.findClass RMo = some m.cls) (hts : ∀ w ∈ wsMo_safe, w.before args s = true) (hK : va_K D vwCl (zty g) s) (hA : ∀ q : Nat, s.heap.size ≤ q → A q) : ∀ (j i : Nat) (H : Heap) (locs : List Loc) (ls : Array Slot), i + j = 8 → safL M v r j i = res → va_P D vwCl (wMo g a M) H → va_D Ad (wMo g a M) → va_S A s.heap H locs → lv_has ls 12 [(8, .int (nI i)), (0, .ref (a 0)), (1, .int (nI t)), (2, .long v), (4, .long r), (6, .long ta)] → (∀ (H : Heap) (locs : List Loc) (ls : Array Slot), res = false → va_P D vwCl (wMo g a M) H → va_D Ad (wMo g a M) → va_S A s.heap H locs → W p l e ({ frames := 1, cells := 0, slots := 0, locals := 21 }) s m args below meth cd H locs 0 0 Q (F0 m 89 ls [.int 0])) → (∀ (H : Heap) (locs : List Loc) (ls : Array Slot), res = false → va_P D vwCl (wMo g a M) H → va_D Ad (wMo g a M) → va_S A s.heap H locs → W p l e ({ frames := 1, cells := 0, slots := 0, locals := 21 }) s m args below meth cd H locs 0 0 Q (F0 m 123 ls [.int 0])) → (∀ (H : Heap) (locs : List Loc) (ls : Array Slot), res = true → va_P D vwCl (wMo g a M) H → va_D Ad (wMo g a M) → va_S A s.heap H locs → W p l e ({ frames := 1, cells := 0, slots := 0, locals := 21 }) s m args below meth cd H locs 0 0 Q (F0 m 130 ls [])) → W p l e ({ frames := 1, cells := 0, slots := 0, locals := 21 }) s m args below meth cd H locs 0 0 Q (F0 m 38 ls []) := by
  have htB : ∀ w ∈ BIG, w.before args s = true := fun w h => hts w (List.mem_cons_of_mem _ h)
  intro j
  induction j with
  | zero =>
    intro i H locs ls hi hres hP hD hS hl k89 k123 k130
    refine lv_iload hx hb dMo_safe_38 (lv_at hl 0 rfl) ?_
    refine lv_bipush (v := 8) hx hb dMo_safe_40 (by decide) ?_
    refine lv_icmp_ge (tgt := 130) hx hb dMo_safe_42 (by decide) (fun _ => ?_) (fun c_1 => absurd (nI_le (a := 8) (b := i) (by omega) (by omega)) c_1)
    exact k130 H locs ls (by rw [← hres]; rfl) hP hD hS
  | succ j ih =>
    intro i H locs ls hi hres hP hD hS hl k89 k123 k130
    refine lv_iload hx hb dMo_safe_38 (lv_at hl 0 rfl) ?_
    refine lv_bipush (v := 8) hx hb dMo_safe_40 (by decide) ?_
    refine lv_icmp_ge (tgt := 130) hx hb dMo_safe_42 (by decide) (fun c_1 => absurd c_1 (nI_ge (a := i) (b := 8) (by omega) (by decide))) (fun _ => ?_)
    refine lv_ldc2 (v := 8) hx hb hown (htB _ b_480) dMo_safe_45 ?_
    refine lv_aload_n hx hb dMo_safe_48 rfl (lv_at hl 1 rfl) ?_
    refine va_get (D := D) (ci := iMo) (v := .ref (a 1)) (C := RMo) (T := TMo) (N := 32) hx hb htB inBMo hown hK hP 0 rfl rfl 0 (by decide) (htB _ b_370) (fun _ h9 => h9) rfl dMo_safe_49 ?_
    refine lv_iload hx hb dMo_safe_52 (lv_at hl 0 rfl) ?_
    refine mk_iald (k := i) hx hb hK hP 1 0 rfl rfl rfl ⟨(by omega), by decide⟩ dMo_safe_54 ?_
    refine lv_i2l (v := ((xli (m1 M)) i).toInt64) hx hb dMo_safe_55 rfl ?_
    refine lv_lmul hx hb dMo_safe_56 ?_
    refine lv_lstore (lv' := [(9, .long (8 * (((xli (m1 M)) i).toInt64))), (8, .int (nI i)), (0, .ref (a 0)), (1, .int (nI t)), (2, .long v), (4, .long r), (6, .long ta)]) hx hb dMo_safe_57 hl (by decide) rfl (fun ls hl => ?_)
    refine lv_iload hx hb dMo_safe_59 (lv_at hl 1 rfl) ?_
    refine lv_lload hx hb dMo_safe_61 (lv_at hl 5 rfl) ?_
    refine mk_rdS (As := [.long r]) (rest := [.int (nI i)]) (w := []) ⟨hx, hb, hml, hown, hts⟩ (k_pieceOf l D g r) (va_cwS 1 hts (gd_S b_560 b_561 b_6 b_562) rfl rfl rfl (by decide +kernel) ⟨Nat.le_of_ble_eq_true rfl, Nat.le_of_ble_eq_true rfl⟩) hK hP hD hS hA [] rfl rfl rfl hl.1 rfl (Nat.le_of_ble_eq_true rfl) dMo_safe_63 ⟨Nat.zero_le _, Nat.zero_le _⟩ (fun H locs hP hS => ?_)
    refine lv_icmp_le (tgt := 73) hx hb dMo_safe_66 (by decide) (fun c_2 => ?_) (fun c_2 => ?_)
    · refine lv_iconst (v := 0) hx hb dMo_safe_73 (by decide) ?_
      refine lv_istore (lv' := [(11, .int 0), (9, .long (8 * (((xli (m1 M)) i).toInt64))), (8, .int (nI i)), (0, .ref (a 0)), (1, .int (nI t)), (2, .long v), (4, .long r), (6, .long ta)]) hx hb dMo_safe_74 hl (by decide) rfl (fun ls hl => ?_)
      refine lv_iload hx hb dMo_safe_76 (lv_at hl 0 rfl) ?_
      refine lv_if_ne (tgt := 90) hx hb dMo_safe_78 (by decide) (fun c_3 => absurd (by decide) c_3) (fun _ => ?_)
      refine lv_lload_n hx hb dMo_safe_81 rfl (lv_at hl 5 rfl) ?_
      refine lv_lload hx hb dMo_safe_82 (lv_at hl 1 rfl) ?_
      refine mk_lif_le (tgt := 90) hx hb dMo_safe_84 dMo_safe_85 (by decide) (fun c_4 => ?_) (fun c_4 => ?_)
      · refine lv_iload hx hb dMo_safe_90 (lv_at hl 0 rfl) ?_
        refine lv_if_eq (tgt := 124) hx hb dMo_safe_92 (by decide) (fun _ => ?_) (fun c_5 => absurd (by decide) c_5)
        refine lv_iinc (v := nI (i + 1)) (lv' := [(8, .int (nI (i + 1))), (11, .int 0), (9, .long (8 * (((xli (m1 M)) i).toInt64))), (0, .ref (a 0)), (1, .int (nI t)), (2, .long v), (4, .long r), (6, .long ta)]) hx hb dMo_safe_124 hl (k := 2) rfl (nI_1 _) (by decide) rfl (fun ls hl => ?_)
        refine lv_goto (tgt := 38) hx hb dMo_safe_127 (by decide) ?_
        exact ih (i + 1) H locs ls (by omega) (by rw [← hres]; simp only [safL, if_pos c_2, if_pos c_4]) hP hD hS (lv_sub hl [0, 3, 4, 5, 6, 7] rfl) k89 k123 k130
      · refine lv_iconst (v := 0) hx hb dMo_safe_88 (by decide) ?_
        exact k89 H locs ls (by rw [← hres]; simp only [safL, if_pos c_2, if_neg c_4]) hP hD hS
    · refine lv_iconst (v := 1) hx hb dMo_safe_69 (by decide) ?_
      refine lv_goto (tgt := 74) hx hb dMo_safe_70 (by decide) ?_
      refine lv_istore (lv' := [(11, .int 1), (9, .long (8 * (((xli (m1 M)) i).toInt64))), (8, .int (nI i)), (0, .ref (a 0)), (1, .int (nI t)), (2, .long v), (4, .long r), (6, .long ta)]) hx hb dMo_safe_74 hl (by decide) rfl (fun ls hl => ?_)
      refine lv_iload hx hb dMo_safe_76 (lv_at hl 0 rfl) ?_
      refine lv_if_ne (tgt := 90) hx hb dMo_safe_78 (by decide) (fun _ => ?_) (fun c_6 => absurd c_6 (by decide))
      refine lv_iload hx hb dMo_safe_90 (lv_at hl 0 rfl) ?_
      refine lv_if_eq (tgt := 124) hx hb dMo_safe_92 (by decide) (fun c_7 => absurd c_7 (by decide)) (fun _ => ?_)
      refine lv_lload_n hx hb dMo_safe_95 rfl (lv_at hl 5 rfl) ?_
      refine lv_lload_n hx hb dMo_safe_96 rfl (lv_at hl 5 rfl) ?_
      refine lv_lmul hx hb dMo_safe_97 ?_
      refine lv_lload hx hb dMo_safe_98 (lv_at hl 1 rfl) ?_
      refine lv_lload hx hb dMo_safe_100 (lv_at hl 1 rfl) ?_
      refine lv_lmul hx hb dMo_safe_102 ?_
      refine lv_ldc2 (v := 12) hx hb hown (htB _ b_559) dMo_safe_103 ?_
      refine lv_ldc2 (v := 4096) hx hb hown (htB _ b_563) dMo_safe_106 ?_
      refine lv_iload hx hb dMo_safe_109 (lv_at hl 2 rfl) ?_
      refine lv_i2l (v := (nI i).toInt64) hx hb dMo_safe_111 rfl ?_
      refine lv_lmul hx hb dMo_safe_112 ?_
      refine lv_lload hx hb dMo_safe_113 (lv_at hl 6 rfl) ?_
      refine lv_lsub hx hb dMo_safe_115 ?_
      refine lv_lmul hx hb dMo_safe_116 ?_
      refine lv_ladd hx hb dMo_safe_117 ?_
      refine mk_lif_le (tgt := 124) hx hb dMo_safe_118 dMo_safe_119 (by decide) (fun c_8 => ?_) (fun c_8 => ?_)
      · refine lv_iinc (v := nI (i + 1)) (lv' := [(8, .int (nI (i + 1))), (11, .int 1), (9, .long (8 * (((xli (m1 M)) i).toInt64))), (0, .ref (a 0)), (1, .int (nI t)), (2, .long v), (4, .long r), (6, .long ta)]) hx hb dMo_safe_124 hl (k := 2) rfl (nI_1 _) (by decide) rfl (fun ls hl => ?_)
        refine lv_goto (tgt := 38) hx hb dMo_safe_127 (by decide) ?_
        exact ih (i + 1) H locs ls (by omega) (by rw [← hres]; simp only [safL, if_neg c_2, if_pos c_8]) hP hD hS (lv_sub hl [0, 3, 4, 5, 6, 7] rfl) k89 k123 k130
      · refine lv_iconst (v := 0) hx hb dMo_safe_122 (by decide) ?_
        exact k123 H locs ls (by rw [← hres]; simp only [safL, if_neg c_2, if_neg c_8]) hP hD hS
set_option maxHeartbeats 4000000 in
set_option maxRecDepth 100000 in
/-- safe -/
theorem k_safe (l : Launch) (D : va_G) (g : Nat → ClassId) (a : Nat → Nat) (M : zMo) (t : Nat) (ht : t < 4) (v r ta : Int64) : mk_Rd l yMo_safe wsMo_safe ({ frames := 1, cells := 0, slots := 0, locals := 21 }) D vwCl (zty g) [.ref (a 0), .int (nI t), .long v, .long r, .long ta] (wMo g a M) (bI (ySafe M t v r ta)) := by
  intro sz
  refine Met.ofW (cc := cMo_safe) (maxL := 12) (ret := (some .boolean)) (by decide) rfl ?_
  intro p e s m args below meth cd s₁ B hml hv
  obtain ⟨rfl, hsz, hP, hK, hD0⟩ := hv
  have hx := B.exec
  have hb := B.bytes
  have hr := B.returns
  have hts := atoms_spec (ws := wsMo_safe) B.pre
  have htB := fun (w : Cond) (h : w ∈ BIG) => hts w (List.mem_cons_of_mem _ h)
  have hown : s.vm.findClass RMo = some m.cls := findClass_of_methodNamed B.named
  have hlocks := B.notSynchronized
  subst hsz
  have hD := hD0
  have hA : ∀ q : Nat, s.heap.size ≤ q → (fun q => s.heap.size ≤ q) q := fun _ h => h
  have hS : va_S (fun q => s.heap.size ≤ q) s.heap s.heap [] := va_S.rf
  have hl := lv_entry ([.ref (a 0), .int (nI t), .long v, .long r, .long ta]) (n := 12) (Nat.le_of_ble_eq_true rfl)
  rw [lg_entry_eq]
  generalize (lg_sl ([.ref (a 0), .int (nI t), .long v, .long r, .long ta]) ++ List.replicate (12 - (lg_sl ([.ref (a 0), .int (nI t), .long v, .long r, .long ta])).length) Slot.unset).toArray = ls at hl ⊢
  have hl : lv_has ls 12 [(0, .ref (a 0)), (1, .int (nI t)), (2, .long v), (4, .long r), (6, .long ta)] := hl
  have hP : va_P D vwCl (wMo g a M) s.heap := hP
  refine lv_aload_n hx hb dMo_safe_0 rfl (lv_at hl 0 rfl) ?_
  refine va_get (D := D) (ci := iMo) (v := .ref (a 12)) (C := RMo) (T := TMo) (N := 32) hx hb htB inBMo hown hK hP 0 rfl rfl 12 (by decide) (htB _ b_382) (fun _ h9 => h9) rfl dMo_safe_1 ?_
  refine lv_iload_n hx hb dMo_safe_4 rfl (lv_at hl 1 rfl) ?_
  refine mk_iald (k := t) hx hb hK hP 16 0 rfl rfl rfl ⟨ht, by decide⟩ dMo_safe_5 ?_
  refine lv_if_eq (tgt := 29) hx hb dMo_safe_6 (by decide) (fun c_1 => ?_) (fun c_1 => ?_)
  · refine lv_iconst (v := 0) hx hb dMo_safe_29 (by decide) ?_
    exact W.zret (v := 0) hx hb hr rfl (fun t9 ht hW => ⟨⟨0, (), rfl, (by first | (simp only [ySafe, if_pos c_1] <;> rfl) | exact ((if_pos c_1).trans (rfl)).symm), trivial⟩, hS.F ht⟩) hS.2.2 dMo_safe_30
  · refine lv_lload_n hx hb dMo_safe_9 rfl (lv_at hl 2 rfl) ?_
    refine lv_lload_n hx hb dMo_safe_10 rfl (lv_at hl 2 rfl) ?_
    refine lv_lmul hx hb dMo_safe_11 ?_
    refine lv_ldc2 (v := 12) hx hb hown (htB _ b_559) dMo_safe_12 ?_
    refine lv_aload_n hx hb dMo_safe_15 rfl (lv_at hl 0 rfl) ?_
    refine va_get (D := D) (ci := iMo) (v := .ref (a 11)) (C := RMo) (T := TMo) (N := 32) hx hb htB inBMo hown hK hP 0 rfl rfl 11 (by decide) (htB _ b_381) (fun _ h9 => h9) rfl dMo_safe_16 ?_
    refine lv_iload_n hx hb dMo_safe_19 rfl (lv_at hl 1 rfl) ?_
    refine mk_lald (k := t) hx hb hK hP 15 3 rfl rfl rfl ⟨ht, by decide⟩ dMo_safe_20 ?_
    refine lv_lload hx hb dMo_safe_21 (lv_at hl 3 rfl) ?_
    refine lv_lsub hx hb dMo_safe_23 ?_
    refine lv_lmul hx hb dMo_safe_24 ?_
    refine mk_lif_le (tgt := 31) hx hb dMo_safe_25 dMo_safe_26 (by decide) (fun c_2 => ?_) (fun c_2 => ?_)
    · refine lv_lload hx hb dMo_safe_31 (lv_at hl 4 rfl) ?_
      refine mk_rdS (As := [.long ta]) (rest := []) (w := []) ⟨hx, hb, hml, hown, hts⟩ (k_pieceOf l D g ta) (va_cwS 1 hts (gd_S b_560 b_561 b_6 b_562) rfl rfl rfl (by decide +kernel) ⟨Nat.le_of_ble_eq_true rfl, Nat.le_of_ble_eq_true rfl⟩) hK hP hD hS hA [] rfl rfl rfl hl.1 rfl (Nat.le_of_ble_eq_true rfl) dMo_safe_33 ⟨Nat.zero_le _, Nat.zero_le _⟩ (fun H locs hP hS => ?_)
      refine lv_istore (lv' := [(8, .int (nI (pPiece ta))), (0, .ref (a 0)), (1, .int (nI t)), (2, .long v), (4, .long r), (6, .long ta)]) hx hb dMo_safe_36 hl (by decide) rfl (fun ls hl => ?_)
      have h8 : pPiece ta < 8 := (lPiece_lt ta).1
      have hE : ySafe M t v r ta = safL M v r (8 - pPiece ta) (pPiece ta) := (by simp only [ySafe, if_neg c_1, if_pos c_2])
      refine lq_safe (a := a) (M := M) (t := t) (v := v) (r := r) (ta := ta) ht hx hb hml hown hts hK hA (8 - pPiece ta) (pPiece ta) _ _ ls (by omega) rfl hP hD hS (lv_sub hl [0, 1, 2, 3, 4, 5] rfl) (fun H locs ls hf hP hD hS => ?_) (fun H locs ls hf hP hD hS => ?_) (fun H locs ls hf hP hD hS => ?_)
      · exact W.zret (v := 0) hx hb hr rfl (fun t9 ht hW => ⟨⟨0, (), rfl, (by rw [hE, hf]; rfl), trivial⟩, hS.F ht⟩) hS.2.2 dMo_safe_89
      · exact W.zret (v := 0) hx hb hr rfl (fun t9 ht hW => ⟨⟨0, (), rfl, (by rw [hE, hf]; rfl), trivial⟩, hS.F ht⟩) hS.2.2 dMo_safe_123
      · refine lv_iconst (v := 1) hx hb dMo_safe_130 (by decide) ?_
        exact W.zret (v := 1) hx hb hr rfl (fun t9 ht hW => ⟨⟨1, (), rfl, (by rw [hE, hf]; rfl), trivial⟩, hS.F ht⟩) hS.2.2 dMo_safe_131
    · refine lv_iconst (v := 0) hx hb dMo_safe_29 (by decide) ?_
      exact W.zret (v := 0) hx hb hr rfl (fun t9 ht hW => ⟨⟨0, (), rfl, (by first | (simp only [ySafe, if_neg c_1, if_neg c_2] <;> rfl) | exact ((if_neg c_1).trans ((if_neg c_2).trans (rfl))).symm), trivial⟩, hS.F ht⟩) hS.2.2 dMo_safe_30
set_option maxHeartbeats 4000000 in
set_option maxRecDepth 100000 in
/-- pull -/
theorem k_pull (l : Launch) (D : va_G) (g : Nat → ClassId) (a : Nat → Nat) (M : zMo) (t : Nat) (ht : t < 4) : mk_Rd l yMo_pull wsMo_pull ({ frames := 2, cells := 0, slots := 0, locals := 52 }) D vwCl (zty g) [.ref (a 0), .int (nI t)] (wMo g a M) (yPull M t) := by
  intro sz
  refine Met.ofW (cc := cMo_pull) (maxL := 10) (ret := (some .int)) (by decide) rfl ?_
  intro p e s m args below meth cd s₁ B hml hv
  obtain ⟨rfl, hsz, hP, hK, hD0⟩ := hv
  have hx := B.exec
  have hb := B.bytes
  have hr := B.returns
  have hts := atoms_spec (ws := wsMo_pull) B.pre
  have htB := fun (w : Cond) (h : w ∈ BIG) => hts w (List.mem_cons_of_mem _ h)
  have hown : s.vm.findClass RMo = some m.cls := findClass_of_methodNamed B.named
  have hlocks := B.notSynchronized
  subst hsz
  have hD := hD0
  have hA : ∀ q : Nat, s.heap.size ≤ q → (fun q => s.heap.size ≤ q) q := fun _ h => h
  have hS : va_S (fun q => s.heap.size ≤ q) s.heap s.heap [] := va_S.rf
  have hl := lv_entry ([.ref (a 0), .int (nI t)]) (n := 10) (Nat.le_of_ble_eq_true rfl)
  rw [lg_entry_eq]
  generalize (lg_sl ([.ref (a 0), .int (nI t)]) ++ List.replicate (10 - (lg_sl ([.ref (a 0), .int (nI t)])).length) Slot.unset).toArray = ls at hl ⊢
  have hl : lv_has ls 10 [(0, .ref (a 0)), (1, .int (nI t))] := hl
  have hP : va_P D vwCl (wMo g a M) s.heap := hP
  refine lv_aload_n hx hb dMo_pull_0 rfl (lv_at hl 0 rfl) ?_
  refine va_get (D := D) (ci := iMo) (v := .ref (a 20)) (C := RMo) (T := TMo) (N := 32) hx hb htB inBMo hown hK hP 0 rfl rfl 20 (by decide) (htB _ b_390) (fun _ h9 => h9) rfl dMo_pull_1 ?_
  refine lv_iload_n hx hb dMo_pull_4 rfl (lv_at hl 1 rfl) ?_
  refine mk_zald (k := t) hx hb hK hP 13 1 rfl rfl rfl ⟨ht, by decide⟩ dMo_pull_5 ?_
  refine lv_if_eq (tgt := 12) hx hb dMo_pull_6 (by decide) (fun c_1 => ?_) (fun c_1 => ?_)
  · refine lv_aload_n hx hb dMo_pull_12 rfl (lv_at hl 0 rfl) ?_
    refine va_get (D := D) (ci := iMo) (v := .ref (a 16)) (C := RMo) (T := TMo) (N := 32) hx hb htB inBMo hown hK hP 0 rfl rfl 16 (by decide) (htB _ b_386) (fun _ h9 => h9) rfl dMo_pull_13 ?_
    refine lv_iload_n hx hb dMo_pull_16 rfl (lv_at hl 1 rfl) ?_
    refine mk_iald (k := t) hx hb hK hP 11 0 rfl rfl rfl ⟨ht, by decide⟩ dMo_pull_17 ?_
    refine lv_if_ge (tgt := 24) hx hb dMo_pull_18 (by decide) (fun c_2 => ?_) (fun c_2 => ?_)
    · refine lv_aload_n hx hb dMo_pull_24 rfl (lv_at hl 0 rfl) ?_
      refine va_get (D := D) (ci := iMo) (v := .ref (a 16)) (C := RMo) (T := TMo) (N := 32) hx hb htB inBMo hown hK hP 0 rfl rfl 16 (by decide) (htB _ b_386) (fun _ h9 => h9) rfl dMo_pull_25 ?_
      refine lv_iload_n hx hb dMo_pull_28 rfl (lv_at hl 1 rfl) ?_
      refine mk_iald (k := t) hx hb hK hP 11 0 rfl rfl rfl ⟨ht, by decide⟩ dMo_pull_29 ?_
      refine lv_iconst (v := 1) hx hb dMo_pull_30 (by decide) ?_
      refine lv_icmp_ne (tgt := 38) hx hb dMo_pull_31 (by decide) (fun c_3 => ?_) (fun c_3 => ?_)
      · refine lv_iconst (v := 0) hx hb dMo_pull_38 (by decide) ?_
        refine lv_istore_n (lv' := [(2, .int 0), (0, .ref (a 0)), (1, .int (nI t))]) hx hb dMo_pull_39 rfl hl (by decide) rfl (fun ls hl => ?_)
        refine lv_aload_n hx hb dMo_pull_40 rfl (lv_at hl 1 rfl) ?_
        refine lv_iload_n hx hb dMo_pull_41 rfl (lv_at hl 2 rfl) ?_
        refine lv_iload_n hx hb dMo_pull_42 rfl (lv_at hl 0 rfl) ?_
        refine mk_rlV (As := [.int (nI t), .int 0]) (rest := []) (w := (wMo g a M)) (q0 := (RMo, TMo, 32)) (ci := iMo) ⟨hx, hb, hml, hown, hts⟩ (k_next l D g a M t ht 0) (cwV 2 hts (gd_V b_568 b_570 bp_22 b_6 b_571) rfl rfl rfl (by decide +kernel) ⟨Nat.le_of_ble_eq_true rfl, Nat.le_of_ble_eq_true rfl⟩) hK hP hD hS hA (List.range 28) mo_cutAll mo_ndAll rfl rfl rfl hl.1 rfl (Nat.le_of_ble_eq_true rfl) dMo_pull_43 ⟨Nat.zero_le _, Nat.zero_le _⟩ (fun H locs hP hS => ?_)
        refine lv_lstore_n (lv' := [(3, .long (yNext M t 0)), (2, .int 0), (0, .ref (a 0)), (1, .int (nI t))]) hx hb dMo_pull_46 rfl hl (by decide) rfl (fun ls hl => ?_)
        refine lv_aload_n hx hb dMo_pull_47 rfl (lv_at hl 2 rfl) ?_
        refine va_get (D := D) (ci := iMo) (v := .ref (a 8)) (C := RMo) (T := TMo) (N := 32) hx hb htB inBMo hown hK hP 0 rfl rfl 8 (by decide) (htB _ b_378) (fun _ h9 => h9) rfl dMo_pull_48 ?_
        refine lv_iload_n hx hb dMo_pull_51 rfl (lv_at hl 3 rfl) ?_
        refine mk_lald (k := t) hx hb hK hP 8 3 rfl rfl rfl ⟨ht, by decide⟩ dMo_pull_52 ?_
        refine lv_lload_n hx hb dMo_pull_53 rfl (lv_at hl 0 rfl) ?_
        refine lv_ladd hx hb dMo_pull_54 ?_
        refine lv_ldc2 (v := 2) hx hb hown (htB _ b_572) dMo_pull_55 ?_
        refine lv_ldiv hx hb dMo_pull_58 (by decide) ?_
        refine lv_lstore (lv' := [(5, .long ((((xsp (m2 M)) t) + (yNext M t 0)) / 2)), (3, .long (yNext M t 0)), (2, .int 0), (0, .ref (a 0)), (1, .int (nI t))]) hx hb dMo_pull_59 hl (by decide) rfl (fun ls hl => ?_)
        refine lv_lload hx hb dMo_pull_61 (lv_at hl 0 rfl) ?_
        refine lv_lconst (v := 0) hx hb dMo_pull_63 (by decide) ?_
        refine mk_lif_ne (tgt := 72) hx hb dMo_pull_64 dMo_pull_65 (by decide) (fun c_4 => ?_) (fun c_4 => ?_)
        · refine lv_ldc2 (v := 2) hx hb hown (htB _ b_572) dMo_pull_72 ?_
          refine lv_lstore (lv' := [(7, .long 2), (5, .long ((((xsp (m2 M)) t) + (yNext M t 0)) / 2)), (3, .long (yNext M t 0)), (2, .int 0), (0, .ref (a 0)), (1, .int (nI t))]) hx hb dMo_pull_75 hl (by decide) rfl (fun ls hl => ?_)
          refine lv_aload_n hx hb dMo_pull_77 rfl (lv_at hl 4 rfl) ?_
          refine lv_iload_n hx hb dMo_pull_78 rfl (lv_at hl 5 rfl) ?_
          refine mk_rdV (As := [.int (nI t)]) (rest := []) (w := (wMo g a M)) (q0 := (RMo, TMo, 32)) (ci := iMo) ⟨hx, hb, hml, hown, hts⟩ (k_old l D g a M t ht ) (cwV 1 hts (gd_V b_551 b_553 bp_19 b_6 b_554) rfl rfl rfl (by decide +kernel) ⟨Nat.le_of_ble_eq_true rfl, Nat.le_of_ble_eq_true rfl⟩) hK hP hD hS hA (List.range 28) mo_cutAll mo_ndAll rfl rfl rfl hl.1 rfl (Nat.le_of_ble_eq_true rfl) dMo_pull_79 ⟨Nat.zero_le _, Nat.zero_le _⟩ (fun H locs hP hS => ?_)
          refine lv_if_ne (tgt := 120) hx hb dMo_pull_82 (by decide) (fun c_5 => ?_) (fun c_5 => ?_)
          · refine lv_iconst (v := 0) hx hb dMo_pull_120 (by decide) ?_
            refine lv_istore (lv' := [(9, .int 0), (7, .long 2), (5, .long ((((xsp (m2 M)) t) + (yNext M t 0)) / 2)), (3, .long (yNext M t 0)), (2, .int 0), (0, .ref (a 0)), (1, .int (nI t))]) hx hb dMo_pull_121 hl (by decide) rfl (fun ls hl => ?_)
            refine lv_iload hx hb dMo_pull_123 (lv_at hl 0 rfl) ?_
            refine lv_if_eq (tgt := 132) hx hb dMo_pull_125 (by decide) (fun _ => ?_) (fun c_6 => absurd (by decide) c_6)
            refine lv_bipush (v := (-8)) hx hb dMo_pull_132 (by decide) ?_
            exact W.iret (v := (-8)) hx hb hr (fun t9 ht hW => ⟨⟨(-8), (), rfl, (by first | (simp only [yPull, yGood, yWish, yWay, yMore, if_pos c_1, if_pos c_2, if_neg c_3, if_neg c_4, if_neg c_5] <;> rfl) | exact ((if_pos c_1).trans ((if_pos c_2).trans ((if_neg c_3).trans ((if_neg c_4).trans ((if_neg c_5).trans (rfl)))))).symm), trivial⟩, hS.F ht⟩) hS.2.2 dMo_pull_134
          · refine lv_aload_n hx hb dMo_pull_85 rfl (lv_at hl 4 rfl) ?_
            refine lv_iload_n hx hb dMo_pull_86 rfl (lv_at hl 5 rfl) ?_
            refine lv_lload_n hx hb dMo_pull_87 rfl (lv_at hl 2 rfl) ?_
            refine lv_aload_n hx hb dMo_pull_88 rfl (lv_at hl 4 rfl) ?_
            refine lv_iload_n hx hb dMo_pull_89 rfl (lv_at hl 5 rfl) ?_
            refine mk_rlV (As := [.int (nI t)]) (rest := [.long (yNext M t 0), .int (nI t), .ref (a 0)]) (w := (wMo g a M)) (q0 := (RMo, TMo, 32)) (ci := iMo) ⟨hx, hb, hml, hown, hts⟩ (k_reach l D g a M t ht ) (cwV 1 hts (gd_V b_514 b_516 bp_10 b_6 b_517) rfl rfl rfl (by decide +kernel) ⟨Nat.le_of_ble_eq_true rfl, Nat.le_of_ble_eq_true rfl⟩) hK hP hD hS hA (List.range 28) mo_cutAll mo_ndAll rfl rfl rfl hl.1 rfl (Nat.le_of_ble_eq_true rfl) dMo_pull_90 ⟨Nat.zero_le _, Nat.zero_le _⟩ (fun H locs hP hS => ?_)
            refine lv_lload hx hb dMo_pull_93 (lv_at hl 1 rfl) ?_
            refine lv_ladd hx hb dMo_pull_95 ?_
            refine lv_lload hx hb dMo_pull_96 (lv_at hl 0 rfl) ?_
            refine lv_ladd hx hb dMo_pull_98 ?_
            refine lv_aload_n hx hb dMo_pull_99 rfl (lv_at hl 4 rfl) ?_
            refine lv_iload_n hx hb dMo_pull_100 rfl (lv_at hl 5 rfl) ?_
            refine mk_rlV (As := [.int (nI t)]) (rest := [.long (((yReach M t) + ((((xsp (m2 M)) t) + (yNext M t 0)) / 2)) + 2), .long (yNext M t 0), .int (nI t), .ref (a 0)]) (w := (wMo g a M)) (q0 := (RMo, TMo, 32)) (ci := iMo) ⟨hx, hb, hml, hown, hts⟩ (k_tail l D g a M t ht ) (cwV 1 hts (gd_V b_518 b_520 bp_11 b_6 b_521) rfl rfl rfl (by decide +kernel) ⟨Nat.le_of_ble_eq_true rfl, Nat.le_of_ble_eq_true rfl⟩) hK hP hD hS hA (List.range 28) mo_cutAll mo_ndAll rfl rfl rfl hl.1 rfl (Nat.le_of_ble_eq_true rfl) dMo_pull_101 ⟨Nat.zero_le _, Nat.zero_le _⟩ (fun H locs hP hS => ?_)
            refine lv_lload hx hb dMo_pull_104 (lv_at hl 1 rfl) ?_
            refine lv_ladd hx hb dMo_pull_106 ?_
            refine lv_lload hx hb dMo_pull_107 (lv_at hl 0 rfl) ?_
            refine lv_lsub hx hb dMo_pull_109 ?_
            refine mk_rdV (As := [.int (nI t), .long (yNext M t 0), .long (((yReach M t) + ((((xsp (m2 M)) t) + (yNext M t 0)) / 2)) + 2), .long (((yTail M t) + ((((xsp (m2 M)) t) + (yNext M t 0)) / 2)) - 2)]) (rest := []) (w := (wMo g a M)) (q0 := (RMo, TMo, 32)) (ci := iMo) ⟨hx, hb, hml, hown, hts⟩ (k_safe l D g a M t ht (yNext M t 0) (((yReach M t) + ((((xsp (m2 M)) t) + (yNext M t 0)) / 2)) + 2) (((yTail M t) + ((((xsp (m2 M)) t) + (yNext M t 0)) / 2)) - 2)) (cwV 4 hts (gd_V b_555 b_557 bp_20 b_6 b_558) rfl rfl rfl (by decide +kernel) ⟨Nat.le_of_ble_eq_true rfl, Nat.le_of_ble_eq_true rfl⟩) hK hP hD hS hA (List.range 28) mo_cutAll mo_ndAll rfl rfl rfl hl.1 rfl (Nat.le_of_ble_eq_true rfl) dMo_pull_110 ⟨Nat.zero_le _, Nat.zero_le _⟩ (fun H locs hP hS => ?_)
            refine lv_if_eq (tgt := 120) hx hb dMo_pull_113 (by decide) (fun c_7 => ?_) (fun c_7 => ?_)
            · refine lv_iconst (v := 0) hx hb dMo_pull_120 (by decide) ?_
              refine lv_istore (lv' := [(9, .int 0), (7, .long 2), (5, .long ((((xsp (m2 M)) t) + (yNext M t 0)) / 2)), (3, .long (yNext M t 0)), (2, .int 0), (0, .ref (a 0)), (1, .int (nI t))]) hx hb dMo_pull_121 hl (by decide) rfl (fun ls hl => ?_)
              refine lv_iload hx hb dMo_pull_123 (lv_at hl 0 rfl) ?_
              refine lv_if_eq (tgt := 132) hx hb dMo_pull_125 (by decide) (fun _ => ?_) (fun c_8 => absurd (by decide) c_8)
              refine lv_bipush (v := (-8)) hx hb dMo_pull_132 (by decide) ?_
              exact W.iret (v := (-8)) hx hb hr (fun t9 ht hW => ⟨⟨(-8), (), rfl, (by first | (simp only [yPull, yGood, yWish, yWay, yMore, if_pos c_1, if_pos c_2, if_neg c_3, if_neg c_4, if_pos c_5, if_pos c_7] <;> rfl) | exact ((if_pos c_1).trans ((if_pos c_2).trans ((if_neg c_3).trans ((if_neg c_4).trans ((if_pos c_5).trans ((if_pos c_7).trans (rfl))))))).symm), trivial⟩, hS.F ht⟩) hS.2.2 dMo_pull_134
            · refine lv_iconst (v := 1) hx hb dMo_pull_116 (by decide) ?_
              refine lv_goto (tgt := 121) hx hb dMo_pull_117 (by decide) ?_
              refine lv_istore (lv' := [(9, .int 1), (7, .long 2), (5, .long ((((xsp (m2 M)) t) + (yNext M t 0)) / 2)), (3, .long (yNext M t 0)), (2, .int 0), (0, .ref (a 0)), (1, .int (nI t))]) hx hb dMo_pull_121 hl (by decide) rfl (fun ls hl => ?_)
              refine lv_iload hx hb dMo_pull_123 (lv_at hl 0 rfl) ?_
              refine lv_if_eq (tgt := 132) hx hb dMo_pull_125 (by decide) (fun c_9 => absurd c_9 (by decide)) (fun _ => ?_)
              refine lv_iload_n hx hb dMo_pull_128 rfl (lv_at hl 4 rfl) ?_
              refine lv_goto (tgt := 134) hx hb dMo_pull_129 (by decide) ?_
              exact W.iret (v := 0) hx hb hr (fun t9 ht hW => ⟨⟨0, (), rfl, (by first | (simp only [yPull, yGood, yWish, yWay, yMore, if_pos c_1, if_pos c_2, if_neg c_3, if_neg c_4, if_pos c_5, if_neg c_7] <;> rfl) | exact ((if_pos c_1).trans ((if_pos c_2).trans ((if_neg c_3).trans ((if_neg c_4).trans ((if_pos c_5).trans ((if_neg c_7).trans (rfl))))))).symm), trivial⟩, hS.F ht⟩) hS.2.2 dMo_pull_134
        · refine lv_lconst (v := 0) hx hb dMo_pull_68 (by decide) ?_
          refine lv_goto (tgt := 75) hx hb dMo_pull_69 (by decide) ?_
          refine lv_lstore (lv' := [(7, .long 0), (5, .long ((((xsp (m2 M)) t) + (yNext M t 0)) / 2)), (3, .long (yNext M t 0)), (2, .int 0), (0, .ref (a 0)), (1, .int (nI t))]) hx hb dMo_pull_75 hl (by decide) rfl (fun ls hl => ?_)
          refine lv_aload_n hx hb dMo_pull_77 rfl (lv_at hl 4 rfl) ?_
          refine lv_iload_n hx hb dMo_pull_78 rfl (lv_at hl 5 rfl) ?_
          refine mk_rdV (As := [.int (nI t)]) (rest := []) (w := (wMo g a M)) (q0 := (RMo, TMo, 32)) (ci := iMo) ⟨hx, hb, hml, hown, hts⟩ (k_old l D g a M t ht ) (cwV 1 hts (gd_V b_551 b_553 bp_19 b_6 b_554) rfl rfl rfl (by decide +kernel) ⟨Nat.le_of_ble_eq_true rfl, Nat.le_of_ble_eq_true rfl⟩) hK hP hD hS hA (List.range 28) mo_cutAll mo_ndAll rfl rfl rfl hl.1 rfl (Nat.le_of_ble_eq_true rfl) dMo_pull_79 ⟨Nat.zero_le _, Nat.zero_le _⟩ (fun H locs hP hS => ?_)
          refine lv_if_ne (tgt := 120) hx hb dMo_pull_82 (by decide) (fun c_10 => ?_) (fun c_10 => ?_)
          · refine lv_iconst (v := 0) hx hb dMo_pull_120 (by decide) ?_
            refine lv_istore (lv' := [(9, .int 0), (7, .long 0), (5, .long ((((xsp (m2 M)) t) + (yNext M t 0)) / 2)), (3, .long (yNext M t 0)), (2, .int 0), (0, .ref (a 0)), (1, .int (nI t))]) hx hb dMo_pull_121 hl (by decide) rfl (fun ls hl => ?_)
            refine lv_iload hx hb dMo_pull_123 (lv_at hl 0 rfl) ?_
            refine lv_if_eq (tgt := 132) hx hb dMo_pull_125 (by decide) (fun _ => ?_) (fun c_11 => absurd (by decide) c_11)
            refine lv_bipush (v := (-8)) hx hb dMo_pull_132 (by decide) ?_
            exact W.iret (v := (-8)) hx hb hr (fun t9 ht hW => ⟨⟨(-8), (), rfl, (by first | (simp only [yPull, yGood, yWish, yWay, yMore, if_pos c_1, if_pos c_2, if_neg c_3, if_pos c_4, if_neg c_10] <;> rfl) | exact ((if_pos c_1).trans ((if_pos c_2).trans ((if_neg c_3).trans ((if_pos c_4).trans ((if_neg c_10).trans (rfl)))))).symm), trivial⟩, hS.F ht⟩) hS.2.2 dMo_pull_134
          · refine lv_aload_n hx hb dMo_pull_85 rfl (lv_at hl 4 rfl) ?_
            refine lv_iload_n hx hb dMo_pull_86 rfl (lv_at hl 5 rfl) ?_
            refine lv_lload_n hx hb dMo_pull_87 rfl (lv_at hl 2 rfl) ?_
            refine lv_aload_n hx hb dMo_pull_88 rfl (lv_at hl 4 rfl) ?_
            refine lv_iload_n hx hb dMo_pull_89 rfl (lv_at hl 5 rfl) ?_
            refine mk_rlV (As := [.int (nI t)]) (rest := [.long (yNext M t 0), .int (nI t), .ref (a 0)]) (w := (wMo g a M)) (q0 := (RMo, TMo, 32)) (ci := iMo) ⟨hx, hb, hml, hown, hts⟩ (k_reach l D g a M t ht ) (cwV 1 hts (gd_V b_514 b_516 bp_10 b_6 b_517) rfl rfl rfl (by decide +kernel) ⟨Nat.le_of_ble_eq_true rfl, Nat.le_of_ble_eq_true rfl⟩) hK hP hD hS hA (List.range 28) mo_cutAll mo_ndAll rfl rfl rfl hl.1 rfl (Nat.le_of_ble_eq_true rfl) dMo_pull_90 ⟨Nat.zero_le _, Nat.zero_le _⟩ (fun H locs hP hS => ?_)
            refine lv_lload hx hb dMo_pull_93 (lv_at hl 1 rfl) ?_
            refine lv_ladd hx hb dMo_pull_95 ?_
            refine lv_lload hx hb dMo_pull_96 (lv_at hl 0 rfl) ?_
            refine lv_ladd hx hb dMo_pull_98 ?_
            refine lv_aload_n hx hb dMo_pull_99 rfl (lv_at hl 4 rfl) ?_
            refine lv_iload_n hx hb dMo_pull_100 rfl (lv_at hl 5 rfl) ?_
            refine mk_rlV (As := [.int (nI t)]) (rest := [.long (((yReach M t) + ((((xsp (m2 M)) t) + (yNext M t 0)) / 2)) + 0), .long (yNext M t 0), .int (nI t), .ref (a 0)]) (w := (wMo g a M)) (q0 := (RMo, TMo, 32)) (ci := iMo) ⟨hx, hb, hml, hown, hts⟩ (k_tail l D g a M t ht ) (cwV 1 hts (gd_V b_518 b_520 bp_11 b_6 b_521) rfl rfl rfl (by decide +kernel) ⟨Nat.le_of_ble_eq_true rfl, Nat.le_of_ble_eq_true rfl⟩) hK hP hD hS hA (List.range 28) mo_cutAll mo_ndAll rfl rfl rfl hl.1 rfl (Nat.le_of_ble_eq_true rfl) dMo_pull_101 ⟨Nat.zero_le _, Nat.zero_le _⟩ (fun H locs hP hS => ?_)
            refine lv_lload hx hb dMo_pull_104 (lv_at hl 1 rfl) ?_
            refine lv_ladd hx hb dMo_pull_106 ?_
            refine lv_lload hx hb dMo_pull_107 (lv_at hl 0 rfl) ?_
            refine lv_lsub hx hb dMo_pull_109 ?_
            refine mk_rdV (As := [.int (nI t), .long (yNext M t 0), .long (((yReach M t) + ((((xsp (m2 M)) t) + (yNext M t 0)) / 2)) + 0), .long (((yTail M t) + ((((xsp (m2 M)) t) + (yNext M t 0)) / 2)) - 0)]) (rest := []) (w := (wMo g a M)) (q0 := (RMo, TMo, 32)) (ci := iMo) ⟨hx, hb, hml, hown, hts⟩ (k_safe l D g a M t ht (yNext M t 0) (((yReach M t) + ((((xsp (m2 M)) t) + (yNext M t 0)) / 2)) + 0) (((yTail M t) + ((((xsp (m2 M)) t) + (yNext M t 0)) / 2)) - 0)) (cwV 4 hts (gd_V b_555 b_557 bp_20 b_6 b_558) rfl rfl rfl (by decide +kernel) ⟨Nat.le_of_ble_eq_true rfl, Nat.le_of_ble_eq_true rfl⟩) hK hP hD hS hA (List.range 28) mo_cutAll mo_ndAll rfl rfl rfl hl.1 rfl (Nat.le_of_ble_eq_true rfl) dMo_pull_110 ⟨Nat.zero_le _, Nat.zero_le _⟩ (fun H locs hP hS => ?_)
            refine lv_if_eq (tgt := 120) hx hb dMo_pull_113 (by decide) (fun c_12 => ?_) (fun c_12 => ?_)
            · refine lv_iconst (v := 0) hx hb dMo_pull_120 (by decide) ?_
              refine lv_istore (lv' := [(9, .int 0), (7, .long 0), (5, .long ((((xsp (m2 M)) t) + (yNext M t 0)) / 2)), (3, .long (yNext M t 0)), (2, .int 0), (0, .ref (a 0)), (1, .int (nI t))]) hx hb dMo_pull_121 hl (by decide) rfl (fun ls hl => ?_)
              refine lv_iload hx hb dMo_pull_123 (lv_at hl 0 rfl) ?_
              refine lv_if_eq (tgt := 132) hx hb dMo_pull_125 (by decide) (fun _ => ?_) (fun c_13 => absurd (by decide) c_13)
              refine lv_bipush (v := (-8)) hx hb dMo_pull_132 (by decide) ?_
              exact W.iret (v := (-8)) hx hb hr (fun t9 ht hW => ⟨⟨(-8), (), rfl, (by first | (simp only [yPull, yGood, yWish, yWay, yMore, if_pos c_1, if_pos c_2, if_neg c_3, if_pos c_4, if_pos c_10, if_pos c_12] <;> rfl) | exact ((if_pos c_1).trans ((if_pos c_2).trans ((if_neg c_3).trans ((if_pos c_4).trans ((if_pos c_10).trans ((if_pos c_12).trans (rfl))))))).symm), trivial⟩, hS.F ht⟩) hS.2.2 dMo_pull_134
            · refine lv_iconst (v := 1) hx hb dMo_pull_116 (by decide) ?_
              refine lv_goto (tgt := 121) hx hb dMo_pull_117 (by decide) ?_
              refine lv_istore (lv' := [(9, .int 1), (7, .long 0), (5, .long ((((xsp (m2 M)) t) + (yNext M t 0)) / 2)), (3, .long (yNext M t 0)), (2, .int 0), (0, .ref (a 0)), (1, .int (nI t))]) hx hb dMo_pull_121 hl (by decide) rfl (fun ls hl => ?_)
              refine lv_iload hx hb dMo_pull_123 (lv_at hl 0 rfl) ?_
              refine lv_if_eq (tgt := 132) hx hb dMo_pull_125 (by decide) (fun c_14 => absurd c_14 (by decide)) (fun _ => ?_)
              refine lv_iload_n hx hb dMo_pull_128 rfl (lv_at hl 4 rfl) ?_
              refine lv_goto (tgt := 134) hx hb dMo_pull_129 (by decide) ?_
              exact W.iret (v := 0) hx hb hr (fun t9 ht hW => ⟨⟨0, (), rfl, (by first | (simp only [yPull, yGood, yWish, yWay, yMore, if_pos c_1, if_pos c_2, if_neg c_3, if_pos c_4, if_pos c_10, if_neg c_12] <;> rfl) | exact ((if_pos c_1).trans ((if_pos c_2).trans ((if_neg c_3).trans ((if_pos c_4).trans ((if_pos c_10).trans ((if_neg c_12).trans (rfl))))))).symm), trivial⟩, hS.F ht⟩) hS.2.2 dMo_pull_134
      · refine lv_iconst (v := 4) hx hb dMo_pull_34 (by decide) ?_
        refine lv_goto (tgt := 39) hx hb dMo_pull_35 (by decide) ?_
        refine lv_istore_n (lv' := [(2, .int 4), (0, .ref (a 0)), (1, .int (nI t))]) hx hb dMo_pull_39 rfl hl (by decide) rfl (fun ls hl => ?_)
        refine lv_aload_n hx hb dMo_pull_40 rfl (lv_at hl 1 rfl) ?_
        refine lv_iload_n hx hb dMo_pull_41 rfl (lv_at hl 2 rfl) ?_
        refine lv_iload_n hx hb dMo_pull_42 rfl (lv_at hl 0 rfl) ?_
        refine mk_rlV (As := [.int (nI t), .int 4]) (rest := []) (w := (wMo g a M)) (q0 := (RMo, TMo, 32)) (ci := iMo) ⟨hx, hb, hml, hown, hts⟩ (k_next l D g a M t ht 4) (cwV 2 hts (gd_V b_568 b_570 bp_22 b_6 b_571) rfl rfl rfl (by decide +kernel) ⟨Nat.le_of_ble_eq_true rfl, Nat.le_of_ble_eq_true rfl⟩) hK hP hD hS hA (List.range 28) mo_cutAll mo_ndAll rfl rfl rfl hl.1 rfl (Nat.le_of_ble_eq_true rfl) dMo_pull_43 ⟨Nat.zero_le _, Nat.zero_le _⟩ (fun H locs hP hS => ?_)
        refine lv_lstore_n (lv' := [(3, .long (yNext M t 4)), (2, .int 4), (0, .ref (a 0)), (1, .int (nI t))]) hx hb dMo_pull_46 rfl hl (by decide) rfl (fun ls hl => ?_)
        refine lv_aload_n hx hb dMo_pull_47 rfl (lv_at hl 2 rfl) ?_
        refine va_get (D := D) (ci := iMo) (v := .ref (a 8)) (C := RMo) (T := TMo) (N := 32) hx hb htB inBMo hown hK hP 0 rfl rfl 8 (by decide) (htB _ b_378) (fun _ h9 => h9) rfl dMo_pull_48 ?_
        refine lv_iload_n hx hb dMo_pull_51 rfl (lv_at hl 3 rfl) ?_
        refine mk_lald (k := t) hx hb hK hP 8 3 rfl rfl rfl ⟨ht, by decide⟩ dMo_pull_52 ?_
        refine lv_lload_n hx hb dMo_pull_53 rfl (lv_at hl 0 rfl) ?_
        refine lv_ladd hx hb dMo_pull_54 ?_
        refine lv_ldc2 (v := 2) hx hb hown (htB _ b_572) dMo_pull_55 ?_
        refine lv_ldiv hx hb dMo_pull_58 (by decide) ?_
        refine lv_lstore (lv' := [(5, .long ((((xsp (m2 M)) t) + (yNext M t 4)) / 2)), (3, .long (yNext M t 4)), (2, .int 4), (0, .ref (a 0)), (1, .int (nI t))]) hx hb dMo_pull_59 hl (by decide) rfl (fun ls hl => ?_)
        refine lv_lload hx hb dMo_pull_61 (lv_at hl 0 rfl) ?_
        refine lv_lconst (v := 0) hx hb dMo_pull_63 (by decide) ?_
        refine mk_lif_ne (tgt := 72) hx hb dMo_pull_64 dMo_pull_65 (by decide) (fun c_15 => ?_) (fun c_15 => ?_)
        · refine lv_ldc2 (v := 2) hx hb hown (htB _ b_572) dMo_pull_72 ?_
          refine lv_lstore (lv' := [(7, .long 2), (5, .long ((((xsp (m2 M)) t) + (yNext M t 4)) / 2)), (3, .long (yNext M t 4)), (2, .int 4), (0, .ref (a 0)), (1, .int (nI t))]) hx hb dMo_pull_75 hl (by decide) rfl (fun ls hl => ?_)
          refine lv_aload_n hx hb dMo_pull_77 rfl (lv_at hl 4 rfl) ?_
          refine lv_iload_n hx hb dMo_pull_78 rfl (lv_at hl 5 rfl) ?_
          refine mk_rdV (As := [.int (nI t)]) (rest := []) (w := (wMo g a M)) (q0 := (RMo, TMo, 32)) (ci := iMo) ⟨hx, hb, hml, hown, hts⟩ (k_old l D g a M t ht ) (cwV 1 hts (gd_V b_551 b_553 bp_19 b_6 b_554) rfl rfl rfl (by decide +kernel) ⟨Nat.le_of_ble_eq_true rfl, Nat.le_of_ble_eq_true rfl⟩) hK hP hD hS hA (List.range 28) mo_cutAll mo_ndAll rfl rfl rfl hl.1 rfl (Nat.le_of_ble_eq_true rfl) dMo_pull_79 ⟨Nat.zero_le _, Nat.zero_le _⟩ (fun H locs hP hS => ?_)
          refine lv_if_ne (tgt := 120) hx hb dMo_pull_82 (by decide) (fun c_16 => ?_) (fun c_16 => ?_)
          · refine lv_iconst (v := 0) hx hb dMo_pull_120 (by decide) ?_
            refine lv_istore (lv' := [(9, .int 0), (7, .long 2), (5, .long ((((xsp (m2 M)) t) + (yNext M t 4)) / 2)), (3, .long (yNext M t 4)), (2, .int 4), (0, .ref (a 0)), (1, .int (nI t))]) hx hb dMo_pull_121 hl (by decide) rfl (fun ls hl => ?_)
            refine lv_iload hx hb dMo_pull_123 (lv_at hl 0 rfl) ?_
            refine lv_if_eq (tgt := 132) hx hb dMo_pull_125 (by decide) (fun _ => ?_) (fun c_17 => absurd (by decide) c_17)
            refine lv_bipush (v := (-8)) hx hb dMo_pull_132 (by decide) ?_
            exact W.iret (v := (-8)) hx hb hr (fun t9 ht hW => ⟨⟨(-8), (), rfl, (by first | (simp only [yPull, yGood, yWish, yWay, yMore, if_pos c_1, if_pos c_2, if_pos c_3, if_neg c_15, if_neg c_16] <;> rfl) | exact ((if_pos c_1).trans ((if_pos c_2).trans ((if_pos c_3).trans ((if_neg c_15).trans ((if_neg c_16).trans (rfl)))))).symm), trivial⟩, hS.F ht⟩) hS.2.2 dMo_pull_134
          · refine lv_aload_n hx hb dMo_pull_85 rfl (lv_at hl 4 rfl) ?_
            refine lv_iload_n hx hb dMo_pull_86 rfl (lv_at hl 5 rfl) ?_
            refine lv_lload_n hx hb dMo_pull_87 rfl (lv_at hl 2 rfl) ?_
            refine lv_aload_n hx hb dMo_pull_88 rfl (lv_at hl 4 rfl) ?_
            refine lv_iload_n hx hb dMo_pull_89 rfl (lv_at hl 5 rfl) ?_
            refine mk_rlV (As := [.int (nI t)]) (rest := [.long (yNext M t 4), .int (nI t), .ref (a 0)]) (w := (wMo g a M)) (q0 := (RMo, TMo, 32)) (ci := iMo) ⟨hx, hb, hml, hown, hts⟩ (k_reach l D g a M t ht ) (cwV 1 hts (gd_V b_514 b_516 bp_10 b_6 b_517) rfl rfl rfl (by decide +kernel) ⟨Nat.le_of_ble_eq_true rfl, Nat.le_of_ble_eq_true rfl⟩) hK hP hD hS hA (List.range 28) mo_cutAll mo_ndAll rfl rfl rfl hl.1 rfl (Nat.le_of_ble_eq_true rfl) dMo_pull_90 ⟨Nat.zero_le _, Nat.zero_le _⟩ (fun H locs hP hS => ?_)
            refine lv_lload hx hb dMo_pull_93 (lv_at hl 1 rfl) ?_
            refine lv_ladd hx hb dMo_pull_95 ?_
            refine lv_lload hx hb dMo_pull_96 (lv_at hl 0 rfl) ?_
            refine lv_ladd hx hb dMo_pull_98 ?_
            refine lv_aload_n hx hb dMo_pull_99 rfl (lv_at hl 4 rfl) ?_
            refine lv_iload_n hx hb dMo_pull_100 rfl (lv_at hl 5 rfl) ?_
            refine mk_rlV (As := [.int (nI t)]) (rest := [.long (((yReach M t) + ((((xsp (m2 M)) t) + (yNext M t 4)) / 2)) + 2), .long (yNext M t 4), .int (nI t), .ref (a 0)]) (w := (wMo g a M)) (q0 := (RMo, TMo, 32)) (ci := iMo) ⟨hx, hb, hml, hown, hts⟩ (k_tail l D g a M t ht ) (cwV 1 hts (gd_V b_518 b_520 bp_11 b_6 b_521) rfl rfl rfl (by decide +kernel) ⟨Nat.le_of_ble_eq_true rfl, Nat.le_of_ble_eq_true rfl⟩) hK hP hD hS hA (List.range 28) mo_cutAll mo_ndAll rfl rfl rfl hl.1 rfl (Nat.le_of_ble_eq_true rfl) dMo_pull_101 ⟨Nat.zero_le _, Nat.zero_le _⟩ (fun H locs hP hS => ?_)
            refine lv_lload hx hb dMo_pull_104 (lv_at hl 1 rfl) ?_
            refine lv_ladd hx hb dMo_pull_106 ?_
            refine lv_lload hx hb dMo_pull_107 (lv_at hl 0 rfl) ?_
            refine lv_lsub hx hb dMo_pull_109 ?_
            refine mk_rdV (As := [.int (nI t), .long (yNext M t 4), .long (((yReach M t) + ((((xsp (m2 M)) t) + (yNext M t 4)) / 2)) + 2), .long (((yTail M t) + ((((xsp (m2 M)) t) + (yNext M t 4)) / 2)) - 2)]) (rest := []) (w := (wMo g a M)) (q0 := (RMo, TMo, 32)) (ci := iMo) ⟨hx, hb, hml, hown, hts⟩ (k_safe l D g a M t ht (yNext M t 4) (((yReach M t) + ((((xsp (m2 M)) t) + (yNext M t 4)) / 2)) + 2) (((yTail M t) + ((((xsp (m2 M)) t) + (yNext M t 4)) / 2)) - 2)) (cwV 4 hts (gd_V b_555 b_557 bp_20 b_6 b_558) rfl rfl rfl (by decide +kernel) ⟨Nat.le_of_ble_eq_true rfl, Nat.le_of_ble_eq_true rfl⟩) hK hP hD hS hA (List.range 28) mo_cutAll mo_ndAll rfl rfl rfl hl.1 rfl (Nat.le_of_ble_eq_true rfl) dMo_pull_110 ⟨Nat.zero_le _, Nat.zero_le _⟩ (fun H locs hP hS => ?_)
            refine lv_if_eq (tgt := 120) hx hb dMo_pull_113 (by decide) (fun c_18 => ?_) (fun c_18 => ?_)
            · refine lv_iconst (v := 0) hx hb dMo_pull_120 (by decide) ?_
              refine lv_istore (lv' := [(9, .int 0), (7, .long 2), (5, .long ((((xsp (m2 M)) t) + (yNext M t 4)) / 2)), (3, .long (yNext M t 4)), (2, .int 4), (0, .ref (a 0)), (1, .int (nI t))]) hx hb dMo_pull_121 hl (by decide) rfl (fun ls hl => ?_)
              refine lv_iload hx hb dMo_pull_123 (lv_at hl 0 rfl) ?_
              refine lv_if_eq (tgt := 132) hx hb dMo_pull_125 (by decide) (fun _ => ?_) (fun c_19 => absurd (by decide) c_19)
              refine lv_bipush (v := (-8)) hx hb dMo_pull_132 (by decide) ?_
              exact W.iret (v := (-8)) hx hb hr (fun t9 ht hW => ⟨⟨(-8), (), rfl, (by first | (simp only [yPull, yGood, yWish, yWay, yMore, if_pos c_1, if_pos c_2, if_pos c_3, if_neg c_15, if_pos c_16, if_pos c_18] <;> rfl) | exact ((if_pos c_1).trans ((if_pos c_2).trans ((if_pos c_3).trans ((if_neg c_15).trans ((if_pos c_16).trans ((if_pos c_18).trans (rfl))))))).symm), trivial⟩, hS.F ht⟩) hS.2.2 dMo_pull_134
            · refine lv_iconst (v := 1) hx hb dMo_pull_116 (by decide) ?_
              refine lv_goto (tgt := 121) hx hb dMo_pull_117 (by decide) ?_
              refine lv_istore (lv' := [(9, .int 1), (7, .long 2), (5, .long ((((xsp (m2 M)) t) + (yNext M t 4)) / 2)), (3, .long (yNext M t 4)), (2, .int 4), (0, .ref (a 0)), (1, .int (nI t))]) hx hb dMo_pull_121 hl (by decide) rfl (fun ls hl => ?_)
              refine lv_iload hx hb dMo_pull_123 (lv_at hl 0 rfl) ?_
              refine lv_if_eq (tgt := 132) hx hb dMo_pull_125 (by decide) (fun c_20 => absurd c_20 (by decide)) (fun _ => ?_)
              refine lv_iload_n hx hb dMo_pull_128 rfl (lv_at hl 4 rfl) ?_
              refine lv_goto (tgt := 134) hx hb dMo_pull_129 (by decide) ?_
              exact W.iret (v := 4) hx hb hr (fun t9 ht hW => ⟨⟨4, (), rfl, (by first | (simp only [yPull, yGood, yWish, yWay, yMore, if_pos c_1, if_pos c_2, if_pos c_3, if_neg c_15, if_pos c_16, if_neg c_18] <;> rfl) | exact ((if_pos c_1).trans ((if_pos c_2).trans ((if_pos c_3).trans ((if_neg c_15).trans ((if_pos c_16).trans ((if_neg c_18).trans (rfl))))))).symm), trivial⟩, hS.F ht⟩) hS.2.2 dMo_pull_134
        · refine lv_lconst (v := 0) hx hb dMo_pull_68 (by decide) ?_
          refine lv_goto (tgt := 75) hx hb dMo_pull_69 (by decide) ?_
          refine lv_lstore (lv' := [(7, .long 0), (5, .long ((((xsp (m2 M)) t) + (yNext M t 4)) / 2)), (3, .long (yNext M t 4)), (2, .int 4), (0, .ref (a 0)), (1, .int (nI t))]) hx hb dMo_pull_75 hl (by decide) rfl (fun ls hl => ?_)
          refine lv_aload_n hx hb dMo_pull_77 rfl (lv_at hl 4 rfl) ?_
          refine lv_iload_n hx hb dMo_pull_78 rfl (lv_at hl 5 rfl) ?_
          refine mk_rdV (As := [.int (nI t)]) (rest := []) (w := (wMo g a M)) (q0 := (RMo, TMo, 32)) (ci := iMo) ⟨hx, hb, hml, hown, hts⟩ (k_old l D g a M t ht ) (cwV 1 hts (gd_V b_551 b_553 bp_19 b_6 b_554) rfl rfl rfl (by decide +kernel) ⟨Nat.le_of_ble_eq_true rfl, Nat.le_of_ble_eq_true rfl⟩) hK hP hD hS hA (List.range 28) mo_cutAll mo_ndAll rfl rfl rfl hl.1 rfl (Nat.le_of_ble_eq_true rfl) dMo_pull_79 ⟨Nat.zero_le _, Nat.zero_le _⟩ (fun H locs hP hS => ?_)
          refine lv_if_ne (tgt := 120) hx hb dMo_pull_82 (by decide) (fun c_21 => ?_) (fun c_21 => ?_)
          · refine lv_iconst (v := 0) hx hb dMo_pull_120 (by decide) ?_
            refine lv_istore (lv' := [(9, .int 0), (7, .long 0), (5, .long ((((xsp (m2 M)) t) + (yNext M t 4)) / 2)), (3, .long (yNext M t 4)), (2, .int 4), (0, .ref (a 0)), (1, .int (nI t))]) hx hb dMo_pull_121 hl (by decide) rfl (fun ls hl => ?_)
            refine lv_iload hx hb dMo_pull_123 (lv_at hl 0 rfl) ?_
            refine lv_if_eq (tgt := 132) hx hb dMo_pull_125 (by decide) (fun _ => ?_) (fun c_22 => absurd (by decide) c_22)
            refine lv_bipush (v := (-8)) hx hb dMo_pull_132 (by decide) ?_
            exact W.iret (v := (-8)) hx hb hr (fun t9 ht hW => ⟨⟨(-8), (), rfl, (by first | (simp only [yPull, yGood, yWish, yWay, yMore, if_pos c_1, if_pos c_2, if_pos c_3, if_pos c_15, if_neg c_21] <;> rfl) | exact ((if_pos c_1).trans ((if_pos c_2).trans ((if_pos c_3).trans ((if_pos c_15).trans ((if_neg c_21).trans (rfl)))))).symm), trivial⟩, hS.F ht⟩) hS.2.2 dMo_pull_134
          · refine lv_aload_n hx hb dMo_pull_85 rfl (lv_at hl 4 rfl) ?_
            refine lv_iload_n hx hb dMo_pull_86 rfl (lv_at hl 5 rfl) ?_
            refine lv_lload_n hx hb dMo_pull_87 rfl (lv_at hl 2 rfl) ?_
            refine lv_aload_n hx hb dMo_pull_88 rfl (lv_at hl 4 rfl) ?_
            refine lv_iload_n hx hb dMo_pull_89 rfl (lv_at hl 5 rfl) ?_
            refine mk_rlV (As := [.int (nI t)]) (rest := [.long (yNext M t 4), .int (nI t), .ref (a 0)]) (w := (wMo g a M)) (q0 := (RMo, TMo, 32)) (ci := iMo) ⟨hx, hb, hml, hown, hts⟩ (k_reach l D g a M t ht ) (cwV 1 hts (gd_V b_514 b_516 bp_10 b_6 b_517) rfl rfl rfl (by decide +kernel) ⟨Nat.le_of_ble_eq_true rfl, Nat.le_of_ble_eq_true rfl⟩) hK hP hD hS hA (List.range 28) mo_cutAll mo_ndAll rfl rfl rfl hl.1 rfl (Nat.le_of_ble_eq_true rfl) dMo_pull_90 ⟨Nat.zero_le _, Nat.zero_le _⟩ (fun H locs hP hS => ?_)
            refine lv_lload hx hb dMo_pull_93 (lv_at hl 1 rfl) ?_
            refine lv_ladd hx hb dMo_pull_95 ?_
            refine lv_lload hx hb dMo_pull_96 (lv_at hl 0 rfl) ?_
            refine lv_ladd hx hb dMo_pull_98 ?_
            refine lv_aload_n hx hb dMo_pull_99 rfl (lv_at hl 4 rfl) ?_
            refine lv_iload_n hx hb dMo_pull_100 rfl (lv_at hl 5 rfl) ?_
            refine mk_rlV (As := [.int (nI t)]) (rest := [.long (((yReach M t) + ((((xsp (m2 M)) t) + (yNext M t 4)) / 2)) + 0), .long (yNext M t 4), .int (nI t), .ref (a 0)]) (w := (wMo g a M)) (q0 := (RMo, TMo, 32)) (ci := iMo) ⟨hx, hb, hml, hown, hts⟩ (k_tail l D g a M t ht ) (cwV 1 hts (gd_V b_518 b_520 bp_11 b_6 b_521) rfl rfl rfl (by decide +kernel) ⟨Nat.le_of_ble_eq_true rfl, Nat.le_of_ble_eq_true rfl⟩) hK hP hD hS hA (List.range 28) mo_cutAll mo_ndAll rfl rfl rfl hl.1 rfl (Nat.le_of_ble_eq_true rfl) dMo_pull_101 ⟨Nat.zero_le _, Nat.zero_le _⟩ (fun H locs hP hS => ?_)
            refine lv_lload hx hb dMo_pull_104 (lv_at hl 1 rfl) ?_
            refine lv_ladd hx hb dMo_pull_106 ?_
            refine lv_lload hx hb dMo_pull_107 (lv_at hl 0 rfl) ?_
            refine lv_lsub hx hb dMo_pull_109 ?_
            refine mk_rdV (As := [.int (nI t), .long (yNext M t 4), .long (((yReach M t) + ((((xsp (m2 M)) t) + (yNext M t 4)) / 2)) + 0), .long (((yTail M t) + ((((xsp (m2 M)) t) + (yNext M t 4)) / 2)) - 0)]) (rest := []) (w := (wMo g a M)) (q0 := (RMo, TMo, 32)) (ci := iMo) ⟨hx, hb, hml, hown, hts⟩ (k_safe l D g a M t ht (yNext M t 4) (((yReach M t) + ((((xsp (m2 M)) t) + (yNext M t 4)) / 2)) + 0) (((yTail M t) + ((((xsp (m2 M)) t) + (yNext M t 4)) / 2)) - 0)) (cwV 4 hts (gd_V b_555 b_557 bp_20 b_6 b_558) rfl rfl rfl (by decide +kernel) ⟨Nat.le_of_ble_eq_true rfl, Nat.le_of_ble_eq_true rfl⟩) hK hP hD hS hA (List.range 28) mo_cutAll mo_ndAll rfl rfl rfl hl.1 rfl (Nat.le_of_ble_eq_true rfl) dMo_pull_110 ⟨Nat.zero_le _, Nat.zero_le _⟩ (fun H locs hP hS => ?_)
            refine lv_if_eq (tgt := 120) hx hb dMo_pull_113 (by decide) (fun c_23 => ?_) (fun c_23 => ?_)
            · refine lv_iconst (v := 0) hx hb dMo_pull_120 (by decide) ?_
              refine lv_istore (lv' := [(9, .int 0), (7, .long 0), (5, .long ((((xsp (m2 M)) t) + (yNext M t 4)) / 2)), (3, .long (yNext M t 4)), (2, .int 4), (0, .ref (a 0)), (1, .int (nI t))]) hx hb dMo_pull_121 hl (by decide) rfl (fun ls hl => ?_)
              refine lv_iload hx hb dMo_pull_123 (lv_at hl 0 rfl) ?_
              refine lv_if_eq (tgt := 132) hx hb dMo_pull_125 (by decide) (fun _ => ?_) (fun c_24 => absurd (by decide) c_24)
              refine lv_bipush (v := (-8)) hx hb dMo_pull_132 (by decide) ?_
              exact W.iret (v := (-8)) hx hb hr (fun t9 ht hW => ⟨⟨(-8), (), rfl, (by first | (simp only [yPull, yGood, yWish, yWay, yMore, if_pos c_1, if_pos c_2, if_pos c_3, if_pos c_15, if_pos c_21, if_pos c_23] <;> rfl) | exact ((if_pos c_1).trans ((if_pos c_2).trans ((if_pos c_3).trans ((if_pos c_15).trans ((if_pos c_21).trans ((if_pos c_23).trans (rfl))))))).symm), trivial⟩, hS.F ht⟩) hS.2.2 dMo_pull_134
            · refine lv_iconst (v := 1) hx hb dMo_pull_116 (by decide) ?_
              refine lv_goto (tgt := 121) hx hb dMo_pull_117 (by decide) ?_
              refine lv_istore (lv' := [(9, .int 1), (7, .long 0), (5, .long ((((xsp (m2 M)) t) + (yNext M t 4)) / 2)), (3, .long (yNext M t 4)), (2, .int 4), (0, .ref (a 0)), (1, .int (nI t))]) hx hb dMo_pull_121 hl (by decide) rfl (fun ls hl => ?_)
              refine lv_iload hx hb dMo_pull_123 (lv_at hl 0 rfl) ?_
              refine lv_if_eq (tgt := 132) hx hb dMo_pull_125 (by decide) (fun c_25 => absurd c_25 (by decide)) (fun _ => ?_)
              refine lv_iload_n hx hb dMo_pull_128 rfl (lv_at hl 4 rfl) ?_
              refine lv_goto (tgt := 134) hx hb dMo_pull_129 (by decide) ?_
              exact W.iret (v := 4) hx hb hr (fun t9 ht hW => ⟨⟨4, (), rfl, (by first | (simp only [yPull, yGood, yWish, yWay, yMore, if_pos c_1, if_pos c_2, if_pos c_3, if_pos c_15, if_pos c_21, if_neg c_23] <;> rfl) | exact ((if_pos c_1).trans ((if_pos c_2).trans ((if_pos c_3).trans ((if_pos c_15).trans ((if_pos c_21).trans ((if_neg c_23).trans (rfl))))))).symm), trivial⟩, hS.F ht⟩) hS.2.2 dMo_pull_134
    · refine lv_bipush (v := (-8)) hx hb dMo_pull_21 (by decide) ?_
      exact W.iret (v := (-8)) hx hb hr (fun t9 ht hW => ⟨⟨(-8), (), rfl, (by first | (simp only [yPull, yGood, yWish, yWay, yMore, if_pos c_1, if_neg c_2] <;> rfl) | exact ((if_pos c_1).trans ((if_neg c_2).trans (rfl))).symm), trivial⟩, hS.F ht⟩) hS.2.2 dMo_pull_23
  · refine lv_bipush (v := (-12)) hx hb dMo_pull_9 (by decide) ?_
    exact W.iret (v := (-12)) hx hb hr (fun t9 ht hW => ⟨⟨(-12), (), rfl, (by first | (simp only [yPull, yGood, yWish, yWay, yMore, if_neg c_1] <;> rfl) | exact ((if_neg c_1).trans (rfl)).symm), trivial⟩, hS.F ht⟩) hS.2.2 dMo_pull_11
