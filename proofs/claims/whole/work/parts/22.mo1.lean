set_option maxHeartbeats 4000000 in
set_option maxRecDepth 100000 in
/-- in -/
theorem k_in (l : Launch) (D : va_G) (g : Nat → ClassId) (x lo hi : Int32) : mk_Rd l yMo_in wsMo_in ({ frames := 0, cells := 0, slots := 0, locals := 0 }) D vwCl (zty g) [.int x, .int lo, .int hi] ([]) (bI (mIn x lo hi)) := by
  intro sz
  refine Met.ofW (cc := cMo_in) (maxL := 3) (ret := (some .boolean)) (by decide) rfl ?_
  intro p e s m args below meth cd s₁ B hml hv
  obtain ⟨rfl, hsz, hP, hK, hD0⟩ := hv
  have hx := B.exec
  have hb := B.bytes
  have hr := B.returns
  have hts := atoms_spec (ws := wsMo_in) B.pre
  have htB := fun (w : Cond) (h : w ∈ BIG) => hts w (List.mem_cons_of_mem _ h)
  have hown : s.vm.findClass RMo = some m.cls := findClass_of_methodNamed B.named
  have hlocks := B.notSynchronized
  subst hsz
  have hD := hD0
  have hA : ∀ q : Nat, s.heap.size ≤ q → (fun q => s.heap.size ≤ q) q := fun _ h => h
  have hS : va_S (fun q => s.heap.size ≤ q) s.heap s.heap [] := va_S.rf
  have hl := lv_entry ([.int x, .int lo, .int hi]) (n := 3) (Nat.le_of_ble_eq_true rfl)
  rw [lg_entry_eq]
  generalize (lg_sl ([.int x, .int lo, .int hi]) ++ List.replicate (3 - (lg_sl ([.int x, .int lo, .int hi])).length) Slot.unset).toArray = ls at hl ⊢
  have hl : lv_has ls 3 [(0, .int x), (1, .int lo), (2, .int hi)] := hl
  have hP : va_P D vwCl ([]) s.heap := hP
  refine lv_iload_n hx hb dMo_in_0 rfl (lv_at hl 0 rfl) ?_
  refine lv_iload_n hx hb dMo_in_1 rfl (lv_at hl 1 rfl) ?_
  refine lv_icmp_lt (tgt := 14) hx hb dMo_in_2 (by decide) (fun c_1 => ?_) (fun c_1 => ?_)
  · refine lv_iconst (v := 0) hx hb dMo_in_14 (by decide) ?_
    exact W.zret (v := 0) hx hb hr rfl (fun t9 ht hW => ⟨⟨0, (), rfl, (by first | (simp only [mIn, if_pos c_1] <;> rfl) | exact ((if_pos c_1).trans (rfl)).symm), trivial⟩, hS.F ht⟩) hS.2.2 dMo_in_15
  · refine lv_iload_n hx hb dMo_in_5 rfl (lv_at hl 0 rfl) ?_
    refine lv_iload_n hx hb dMo_in_6 rfl (lv_at hl 2 rfl) ?_
    refine lv_icmp_gt (tgt := 14) hx hb dMo_in_7 (by decide) (fun c_2 => ?_) (fun c_2 => ?_)
    · refine lv_iconst (v := 0) hx hb dMo_in_14 (by decide) ?_
      exact W.zret (v := 0) hx hb hr rfl (fun t9 ht hW => ⟨⟨0, (), rfl, (by first | (simp only [mIn, if_neg c_1, if_pos c_2] <;> rfl) | exact ((if_neg c_1).trans ((if_pos c_2).trans (rfl))).symm), trivial⟩, hS.F ht⟩) hS.2.2 dMo_in_15
    · refine lv_iconst (v := 1) hx hb dMo_in_10 (by decide) ?_
      refine lv_goto (tgt := 15) hx hb dMo_in_11 (by decide) ?_
      exact W.zret (v := 1) hx hb hr rfl (fun t9 ht hW => ⟨⟨1, (), rfl, (by first | (simp only [mIn, if_neg c_1, if_neg c_2] <;> rfl) | exact ((if_neg c_1).trans ((if_neg c_2).trans (rfl))).symm), trivial⟩, hS.F ht⟩) hS.2.2 dMo_in_15
set_option maxHeartbeats 4000000 in
set_option maxRecDepth 100000 in
/-- told -/
theorem k_told (l : Launch) (D : va_G) (g : Nat → ClassId) (x : Int64) : mk_Rd l yMo_told wsMo_told ({ frames := 0, cells := 0, slots := 0, locals := 0 }) D vwCl (zty g) [.long x] ([]) (x.toInt32) := by
  intro sz
  refine Met.ofW (cc := cMo_told) (maxL := 2) (ret := (some .int)) (by decide) rfl ?_
  intro p e s m args below meth cd s₁ B hml hv
  obtain ⟨rfl, hsz, hP, hK, hD0⟩ := hv
  have hx := B.exec
  have hb := B.bytes
  have hr := B.returns
  have hts := atoms_spec (ws := wsMo_told) B.pre
  have htB := fun (w : Cond) (h : w ∈ BIG) => hts w (List.mem_cons_of_mem _ h)
  have hown : s.vm.findClass RMo = some m.cls := findClass_of_methodNamed B.named
  have hlocks := B.notSynchronized
  subst hsz
  have hD := hD0
  have hA : ∀ q : Nat, s.heap.size ≤ q → (fun q => s.heap.size ≤ q) q := fun _ h => h
  have hS : va_S (fun q => s.heap.size ≤ q) s.heap s.heap [] := va_S.rf
  have hl := lv_entry ([.long x]) (n := 2) (Nat.le_of_ble_eq_true rfl)
  rw [lg_entry_eq]
  generalize (lg_sl ([.long x]) ++ List.replicate (2 - (lg_sl ([.long x])).length) Slot.unset).toArray = ls at hl ⊢
  have hl : lv_has ls 2 [(0, .long x)] := hl
  have hP : va_P D vwCl ([]) s.heap := hP
  refine lv_lload_n hx hb dMo_told_0 rfl (lv_at hl 0 rfl) ?_
  refine lv_l2i (v := x.toInt32) hx hb dMo_told_1 rfl ?_
  exact W.iret (v := x.toInt32) hx hb hr (fun t9 ht hW => ⟨⟨x.toInt32, (), rfl, (by first | rfl | (simp only [id] <;> rfl)), trivial⟩, hS.F ht⟩) hS.2.2 dMo_told_2
set_option maxHeartbeats 4000000 in
set_option maxRecDepth 100000 in
/-- pieceOf -/
theorem k_pieceOf (l : Launch) (D : va_G) (g : Nat → ClassId) (x : Int64) : mk_Rd l yMo_pieceOf wsMo_pieceOf ({ frames := 0, cells := 0, slots := 0, locals := 0 }) D vwCl (zty g) [.long x] ([]) (nI (pPiece x)) := by
  intro sz
  refine Met.ofW (cc := cMo_pieceOf) (maxL := 2) (ret := (some .int)) (by decide) rfl ?_
  intro p e s m args below meth cd s₁ B hml hv
  obtain ⟨rfl, hsz, hP, hK, hD0⟩ := hv
  have hx := B.exec
  have hb := B.bytes
  have hr := B.returns
  have hts := atoms_spec (ws := wsMo_pieceOf) B.pre
  have htB := fun (w : Cond) (h : w ∈ BIG) => hts w (List.mem_cons_of_mem _ h)
  have hown : s.vm.findClass RMo = some m.cls := findClass_of_methodNamed B.named
  have hlocks := B.notSynchronized
  subst hsz
  have hD := hD0
  have hA : ∀ q : Nat, s.heap.size ≤ q → (fun q => s.heap.size ≤ q) q := fun _ h => h
  have hS : va_S (fun q => s.heap.size ≤ q) s.heap s.heap [] := va_S.rf
  have hl := lv_entry ([.long x]) (n := 2) (Nat.le_of_ble_eq_true rfl)
  rw [lg_entry_eq]
  generalize (lg_sl ([.long x]) ++ List.replicate (2 - (lg_sl ([.long x])).length) Slot.unset).toArray = ls at hl ⊢
  have hl : lv_has ls 2 [(0, .long x)] := hl
  have hP : va_P D vwCl ([]) s.heap := hP
  refine lv_lload_n hx hb dMo_pieceOf_0 rfl (lv_at hl 0 rfl) ?_
  refine lv_lconst (v := 0) hx hb dMo_pieceOf_1 (by decide) ?_
  refine mk_lif_ge (tgt := 10) hx hb dMo_pieceOf_2 dMo_pieceOf_3 (by decide) (fun c_1 => ?_) (fun c_1 => ?_)
  · refine lv_lload_n hx hb dMo_pieceOf_10 rfl (lv_at hl 0 rfl) ?_
    refine lv_ldc2 (v := 32768) hx hb hown (htB _ b_368) dMo_pieceOf_11 ?_
    refine mk_lif_lt (tgt := 23) hx hb dMo_pieceOf_14 dMo_pieceOf_15 (by decide) (fun c_2 => ?_) (fun c_2 => ?_)
    · refine lv_lload_n hx hb dMo_pieceOf_23 rfl (lv_at hl 0 rfl) ?_
      refine lv_ldc2 (v := 4096) hx hb hown (htB _ b_563) dMo_pieceOf_24 ?_
      refine lv_ldiv hx hb dMo_pieceOf_27 (by decide) ?_
      refine lv_l2i (v := (x / 4096).toInt32) hx hb dMo_pieceOf_28 rfl ?_
      exact W.iret (v := (x / 4096).toInt32) hx hb hr (fun t9 ht hW => ⟨⟨(x / 4096).toInt32, (), rfl, (by rw [← (lPiece_lt x).2]; simp only [lPiece, if_pos c_1, if_pos c_2]), trivial⟩, hS.F ht⟩) hS.2.2 dMo_pieceOf_29
    · refine lv_bipush (v := 7) hx hb dMo_pieceOf_18 (by decide) ?_
      refine lv_goto (tgt := 29) hx hb dMo_pieceOf_20 (by decide) ?_
      exact W.iret (v := 7) hx hb hr (fun t9 ht hW => ⟨⟨7, (), rfl, (by rw [← (lPiece_lt x).2]; simp only [lPiece, if_pos c_1, if_neg c_2]), trivial⟩, hS.F ht⟩) hS.2.2 dMo_pieceOf_29
  · refine lv_iconst (v := 0) hx hb dMo_pieceOf_6 (by decide) ?_
    refine lv_goto (tgt := 29) hx hb dMo_pieceOf_7 (by decide) ?_
    exact W.iret (v := 0) hx hb hr (fun t9 ht hW => ⟨⟨0, (), rfl, (by rw [← (lPiece_lt x).2]; simp only [lPiece, if_neg c_1]), trivial⟩, hS.F ht⟩) hS.2.2 dMo_pieceOf_29
set_option maxHeartbeats 4000000 in
set_option maxRecDepth 100000 in
/-- noTrain -/
theorem k_noTrain (l : Launch) (D : va_G) (g : Nat → ClassId) (a : Nat → Nat) (M : zMo) (x : Int32) : mk_Rd l yMo_noTrain wsMo_noTrain ({ frames := 0, cells := 0, slots := 0, locals := 0 }) D vwCl (zty g) [.ref (a 0), .int x] (wMo g a M) (bI (mNo M x)) := by
  intro sz
  refine Met.ofW (cc := cMo_noTrain) (maxL := 2) (ret := (some .boolean)) (by decide) rfl ?_
  intro p e s m args below meth cd s₁ B hml hv
  obtain ⟨rfl, hsz, hP, hK, hD0⟩ := hv
  have hx := B.exec
  have hb := B.bytes
  have hr := B.returns
  have hts := atoms_spec (ws := wsMo_noTrain) B.pre
  have htB := fun (w : Cond) (h : w ∈ BIG) => hts w (List.mem_cons_of_mem _ h)
  have hown : s.vm.findClass RMo = some m.cls := findClass_of_methodNamed B.named
  have hlocks := B.notSynchronized
  subst hsz
  have hD := hD0
  have hA : ∀ q : Nat, s.heap.size ≤ q → (fun q => s.heap.size ≤ q) q := fun _ h => h
  have hS : va_S (fun q => s.heap.size ≤ q) s.heap s.heap [] := va_S.rf
  have hl := lv_entry ([.ref (a 0), .int x]) (n := 2) (Nat.le_of_ble_eq_true rfl)
  rw [lg_entry_eq]
  generalize (lg_sl ([.ref (a 0), .int x]) ++ List.replicate (2 - (lg_sl ([.ref (a 0), .int x])).length) Slot.unset).toArray = ls at hl ⊢
  have hl : lv_has ls 2 [(0, .ref (a 0)), (1, .int x)] := hl
  have hP : va_P D vwCl (wMo g a M) s.heap := hP
  refine lv_iload_n hx hb dMo_noTrain_0 rfl (lv_at hl 1 rfl) ?_
  refine lv_if_lt (tgt := 12) hx hb dMo_noTrain_1 (by decide) (fun c_1 => ?_) (fun c_1 => ?_)
  · refine lv_iconst (v := 1) hx hb dMo_noTrain_12 (by decide) ?_
    refine lv_goto (tgt := 17) hx hb dMo_noTrain_13 (by decide) ?_
    exact W.zret (v := 1) hx hb hr rfl (fun t9 ht hW => ⟨⟨1, (), rfl, (by first | (simp only [mNo, if_pos c_1] <;> rfl) | exact ((if_pos c_1).trans (rfl)).symm), trivial⟩, hS.F ht⟩) hS.2.2 dMo_noTrain_17
  · refine lv_iload_n hx hb dMo_noTrain_4 rfl (lv_at hl 1 rfl) ?_
    refine lv_aload_n hx hb dMo_noTrain_5 rfl (lv_at hl 0 rfl) ?_
    refine va_get (D := D) (ci := iMo) (v := .int (nI (xtr (m5 M)))) (C := RMo) (T := TMo) (N := 32) hx hb htB inBMo hown hK hP 0 rfl rfl 5 (by decide) (htB _ b_375) (fun _ h9 => h9) rfl dMo_noTrain_6 ?_
    refine lv_icmp_lt (tgt := 16) hx hb dMo_noTrain_9 (by decide) (fun c_2 => ?_) (fun c_2 => ?_)
    · refine lv_iconst (v := 0) hx hb dMo_noTrain_16 (by decide) ?_
      exact W.zret (v := 0) hx hb hr rfl (fun t9 ht hW => ⟨⟨0, (), rfl, (by first | (simp only [mNo, if_neg c_1, if_pos c_2] <;> rfl) | exact ((if_neg c_1).trans ((if_pos c_2).trans (rfl))).symm), trivial⟩, hS.F ht⟩) hS.2.2 dMo_noTrain_17
    · refine lv_iconst (v := 1) hx hb dMo_noTrain_12 (by decide) ?_
      refine lv_goto (tgt := 17) hx hb dMo_noTrain_13 (by decide) ?_
      exact W.zret (v := 1) hx hb hr rfl (fun t9 ht hW => ⟨⟨1, (), rfl, (by first | (simp only [mNo, if_neg c_1, if_neg c_2] <;> rfl) | exact ((if_neg c_1).trans ((if_neg c_2).trans (rfl))).symm), trivial⟩, hS.F ht⟩) hS.2.2 dMo_noTrain_17
set_option maxHeartbeats 4000000 in
set_option maxRecDepth 100000 in
/-- rear -/
theorem k_rear (l : Launch) (D : va_G) (g : Nat → ClassId) (a : Nat → Nat) (M : zMo) (t : Nat) (ht : t < 4) : mk_Rl l yMo_rear wsMo_rear ({ frames := 0, cells := 0, slots := 0, locals := 0 }) D vwCl (zty g) [.ref (a 0), .int (nI t)] (wMo g a M) (yRear M t) := by
  intro sz
  refine Met.ofW (cc := cMo_rear) (maxL := 2) (ret := (some .long)) (by decide) rfl ?_
  intro p e s m args below meth cd s₁ B hml hv
  obtain ⟨rfl, hsz, hP, hK, hD0⟩ := hv
  have hx := B.exec
  have hb := B.bytes
  have hr := B.returns
  have hts := atoms_spec (ws := wsMo_rear) B.pre
  have htB := fun (w : Cond) (h : w ∈ BIG) => hts w (List.mem_cons_of_mem _ h)
  have hown : s.vm.findClass RMo = some m.cls := findClass_of_methodNamed B.named
  have hlocks := B.notSynchronized
  subst hsz
  have hD := hD0
  have hA : ∀ q : Nat, s.heap.size ≤ q → (fun q => s.heap.size ≤ q) q := fun _ h => h
  have hS : va_S (fun q => s.heap.size ≤ q) s.heap s.heap [] := va_S.rf
  have hl := lv_entry ([.ref (a 0), .int (nI t)]) (n := 2) (Nat.le_of_ble_eq_true rfl)
  rw [lg_entry_eq]
  generalize (lg_sl ([.ref (a 0), .int (nI t)]) ++ List.replicate (2 - (lg_sl ([.ref (a 0), .int (nI t)])).length) Slot.unset).toArray = ls at hl ⊢
  have hl : lv_has ls 2 [(0, .ref (a 0)), (1, .int (nI t))] := hl
  have hP : va_P D vwCl (wMo g a M) s.heap := hP
  refine lv_aload_n hx hb dMo_rear_0 rfl (lv_at hl 0 rfl) ?_
  refine va_get (D := D) (ci := iMo) (v := .ref (a 7)) (C := RMo) (T := TMo) (N := 32) hx hb htB inBMo hown hK hP 0 rfl rfl 7 (by decide) (htB _ b_377) (fun _ h9 => h9) rfl dMo_rear_1 ?_
  refine lv_iload_n hx hb dMo_rear_4 rfl (lv_at hl 1 rfl) ?_
  refine mk_lald (k := t) hx hb hK hP 7 3 rfl rfl rfl ⟨ht, by decide⟩ dMo_rear_5 ?_
  refine lv_aload_n hx hb dMo_rear_6 rfl (lv_at hl 0 rfl) ?_
  refine va_get (D := D) (ci := iMo) (v := .ref (a 6)) (C := RMo) (T := TMo) (N := 32) hx hb htB inBMo hown hK hP 0 rfl rfl 6 (by decide) (htB _ b_376) (fun _ h9 => h9) rfl dMo_rear_7 ?_
  refine lv_iload_n hx hb dMo_rear_10 rfl (lv_at hl 1 rfl) ?_
  refine mk_lald (k := t) hx hb hK hP 6 3 rfl rfl rfl ⟨ht, by decide⟩ dMo_rear_11 ?_
  refine lv_lsub hx hb dMo_rear_12 ?_
  exact W.lret (v := ((xfr (m2 M)) t) - ((xle (m2 M)) t)) hx hb hr (fun t9 ht hW => ⟨⟨((xfr (m2 M)) t) - ((xle (m2 M)) t), (), rfl, (by first | rfl | (simp only [yRear] <;> rfl)), trivial⟩, hS.F ht⟩) hS.2.2 dMo_rear_13
set_option maxHeartbeats 4000000 in
set_option maxRecDepth 100000 in
/-- reach -/
theorem k_reach (l : Launch) (D : va_G) (g : Nat → ClassId) (a : Nat → Nat) (M : zMo) (t : Nat) (ht : t < 4) : mk_Rl l yMo_reach wsMo_reach ({ frames := 0, cells := 0, slots := 0, locals := 0 }) D vwCl (zty g) [.ref (a 0), .int (nI t)] (wMo g a M) (yReach M t) := by
  intro sz
  refine Met.ofW (cc := cMo_reach) (maxL := 2) (ret := (some .long)) (by decide) rfl ?_
  intro p e s m args below meth cd s₁ B hml hv
  obtain ⟨rfl, hsz, hP, hK, hD0⟩ := hv
  have hx := B.exec
  have hb := B.bytes
  have hr := B.returns
  have hts := atoms_spec (ws := wsMo_reach) B.pre
  have htB := fun (w : Cond) (h : w ∈ BIG) => hts w (List.mem_cons_of_mem _ h)
  have hown : s.vm.findClass RMo = some m.cls := findClass_of_methodNamed B.named
  have hlocks := B.notSynchronized
  subst hsz
  have hD := hD0
  have hA : ∀ q : Nat, s.heap.size ≤ q → (fun q => s.heap.size ≤ q) q := fun _ h => h
  have hS : va_S (fun q => s.heap.size ≤ q) s.heap s.heap [] := va_S.rf
  have hl := lv_entry ([.ref (a 0), .int (nI t)]) (n := 2) (Nat.le_of_ble_eq_true rfl)
  rw [lg_entry_eq]
  generalize (lg_sl ([.ref (a 0), .int (nI t)]) ++ List.replicate (2 - (lg_sl ([.ref (a 0), .int (nI t)])).length) Slot.unset).toArray = ls at hl ⊢
  have hl : lv_has ls 2 [(0, .ref (a 0)), (1, .int (nI t))] := hl
  have hP : va_P D vwCl (wMo g a M) s.heap := hP
  refine lv_aload_n hx hb dMo_reach_0 rfl (lv_at hl 0 rfl) ?_
  refine va_get (D := D) (ci := iMo) (v := .ref (a 9)) (C := RMo) (T := TMo) (N := 32) hx hb htB inBMo hown hK hP 0 rfl rfl 9 (by decide) (htB _ b_379) (fun _ h9 => h9) rfl dMo_reach_1 ?_
  refine lv_iload_n hx hb dMo_reach_4 rfl (lv_at hl 1 rfl) ?_
  refine mk_lald (k := t) hx hb hK hP 9 3 rfl rfl rfl ⟨ht, by decide⟩ dMo_reach_5 ?_
  refine lv_aload_n hx hb dMo_reach_6 rfl (lv_at hl 0 rfl) ?_
  refine va_get (D := D) (ci := iMo) (v := .ref (a 10)) (C := RMo) (T := TMo) (N := 32) hx hb htB inBMo hown hK hP 0 rfl rfl 10 (by decide) (htB _ b_380) (fun _ h9 => h9) rfl dMo_reach_7 ?_
  refine lv_iload_n hx hb dMo_reach_10 rfl (lv_at hl 1 rfl) ?_
  refine mk_lald (k := t) hx hb hK hP 10 3 rfl rfl rfl ⟨ht, by decide⟩ dMo_reach_11 ?_
  refine lv_ladd hx hb dMo_reach_12 ?_
  exact W.lret (v := ((xes (m2 M)) t) + ((xdo (m2 M)) t)) hx hb hr (fun t9 ht hW => ⟨⟨((xes (m2 M)) t) + ((xdo (m2 M)) t), (), rfl, (by first | rfl | (simp only [yReach] <;> rfl)), trivial⟩, hS.F ht⟩) hS.2.2 dMo_reach_13
set_option maxHeartbeats 4000000 in
set_option maxRecDepth 100000 in
/-- tail -/
theorem k_tail (l : Launch) (D : va_G) (g : Nat → ClassId) (a : Nat → Nat) (M : zMo) (t : Nat) (ht : t < 4) : mk_Rl l yMo_tail wsMo_tail ({ frames := 0, cells := 0, slots := 0, locals := 0 }) D vwCl (zty g) [.ref (a 0), .int (nI t)] (wMo g a M) (yTail M t) := by
  intro sz
  refine Met.ofW (cc := cMo_tail) (maxL := 2) (ret := (some .long)) (by decide) rfl ?_
  intro p e s m args below meth cd s₁ B hml hv
  obtain ⟨rfl, hsz, hP, hK, hD0⟩ := hv
  have hx := B.exec
  have hb := B.bytes
  have hr := B.returns
  have hts := atoms_spec (ws := wsMo_tail) B.pre
  have htB := fun (w : Cond) (h : w ∈ BIG) => hts w (List.mem_cons_of_mem _ h)
  have hown : s.vm.findClass RMo = some m.cls := findClass_of_methodNamed B.named
  have hlocks := B.notSynchronized
  subst hsz
  have hD := hD0
  have hA : ∀ q : Nat, s.heap.size ≤ q → (fun q => s.heap.size ≤ q) q := fun _ h => h
  have hS : va_S (fun q => s.heap.size ≤ q) s.heap s.heap [] := va_S.rf
  have hl := lv_entry ([.ref (a 0), .int (nI t)]) (n := 2) (Nat.le_of_ble_eq_true rfl)
  rw [lg_entry_eq]
  generalize (lg_sl ([.ref (a 0), .int (nI t)]) ++ List.replicate (2 - (lg_sl ([.ref (a 0), .int (nI t)])).length) Slot.unset).toArray = ls at hl ⊢
  have hl : lv_has ls 2 [(0, .ref (a 0)), (1, .int (nI t))] := hl
  have hP : va_P D vwCl (wMo g a M) s.heap := hP
  refine lv_aload_n hx hb dMo_tail_0 rfl (lv_at hl 0 rfl) ?_
  refine va_get (D := D) (ci := iMo) (v := .ref (a 9)) (C := RMo) (T := TMo) (N := 32) hx hb htB inBMo hown hK hP 0 rfl rfl 9 (by decide) (htB _ b_379) (fun _ h9 => h9) rfl dMo_tail_1 ?_
  refine lv_iload_n hx hb dMo_tail_4 rfl (lv_at hl 1 rfl) ?_
  refine mk_lald (k := t) hx hb hK hP 9 3 rfl rfl rfl ⟨ht, by decide⟩ dMo_tail_5 ?_
  refine lv_aload_n hx hb dMo_tail_6 rfl (lv_at hl 0 rfl) ?_
  refine va_get (D := D) (ci := iMo) (v := .ref (a 10)) (C := RMo) (T := TMo) (N := 32) hx hb htB inBMo hown hK hP 0 rfl rfl 10 (by decide) (htB _ b_380) (fun _ h9 => h9) rfl dMo_tail_7 ?_
  refine lv_iload_n hx hb dMo_tail_10 rfl (lv_at hl 1 rfl) ?_
  refine mk_lald (k := t) hx hb hK hP 10 3 rfl rfl rfl ⟨ht, by decide⟩ dMo_tail_11 ?_
  refine lv_lsub hx hb dMo_tail_12 ?_
  refine lv_aload_n hx hb dMo_tail_13 rfl (lv_at hl 0 rfl) ?_
  refine va_get (D := D) (ci := iMo) (v := .ref (a 6)) (C := RMo) (T := TMo) (N := 32) hx hb htB inBMo hown hK hP 0 rfl rfl 6 (by decide) (htB _ b_376) (fun _ h9 => h9) rfl dMo_tail_14 ?_
  refine lv_iload_n hx hb dMo_tail_17 rfl (lv_at hl 1 rfl) ?_
  refine mk_lald (k := t) hx hb hK hP 6 3 rfl rfl rfl ⟨ht, by decide⟩ dMo_tail_18 ?_
  refine lv_lsub hx hb dMo_tail_19 ?_
  exact W.lret (v := (((xes (m2 M)) t) - ((xdo (m2 M)) t)) - ((xle (m2 M)) t)) hx hb hr (fun t9 ht hW => ⟨⟨(((xes (m2 M)) t) - ((xdo (m2 M)) t)) - ((xle (m2 M)) t), (), rfl, (by first | rfl | (simp only [yTail] <;> rfl)), trivial⟩, hS.F ht⟩) hS.2.2 dMo_tail_20
set_option maxHeartbeats 4000000 in
set_option maxRecDepth 100000 in
/-- old -/
theorem k_old (l : Launch) (D : va_G) (g : Nat → ClassId) (a : Nat → Nat) (M : zMo) (t : Nat) (ht : t < 4) : mk_Rd l yMo_old wsMo_old ({ frames := 0, cells := 0, slots := 0, locals := 0 }) D vwCl (zty g) [.ref (a 0), .int (nI t)] (wMo g a M) (bI (yOld M t)) := by
  intro sz
  refine Met.ofW (cc := cMo_old) (maxL := 2) (ret := (some .boolean)) (by decide) rfl ?_
  intro p e s m args below meth cd s₁ B hml hv
  obtain ⟨rfl, hsz, hP, hK, hD0⟩ := hv
  have hx := B.exec
  have hb := B.bytes
  have hr := B.returns
  have hts := atoms_spec (ws := wsMo_old) B.pre
  have htB := fun (w : Cond) (h : w ∈ BIG) => hts w (List.mem_cons_of_mem _ h)
  have hown : s.vm.findClass RMo = some m.cls := findClass_of_methodNamed B.named
  have hlocks := B.notSynchronized
  subst hsz
  have hD := hD0
  have hA : ∀ q : Nat, s.heap.size ≤ q → (fun q => s.heap.size ≤ q) q := fun _ h => h
  have hS : va_S (fun q => s.heap.size ≤ q) s.heap s.heap [] := va_S.rf
  have hl := lv_entry ([.ref (a 0), .int (nI t)]) (n := 2) (Nat.le_of_ble_eq_true rfl)
  rw [lg_entry_eq]
  generalize (lg_sl ([.ref (a 0), .int (nI t)]) ++ List.replicate (2 - (lg_sl ([.ref (a 0), .int (nI t)])).length) Slot.unset).toArray = ls at hl ⊢
  have hl : lv_has ls 2 [(0, .ref (a 0)), (1, .int (nI t))] := hl
  have hP : va_P D vwCl (wMo g a M) s.heap := hP
  refine lv_aload_n hx hb dMo_old_0 rfl (lv_at hl 0 rfl) ?_
  refine va_get (D := D) (ci := iMo) (v := .ref (a 12)) (C := RMo) (T := TMo) (N := 32) hx hb htB inBMo hown hK hP 0 rfl rfl 12 (by decide) (htB _ b_382) (fun _ h9 => h9) rfl dMo_old_1 ?_
  refine lv_iload_n hx hb dMo_old_4 rfl (lv_at hl 1 rfl) ?_
  refine mk_iald (k := t) hx hb hK hP 16 0 rfl rfl rfl ⟨ht, by decide⟩ dMo_old_5 ?_
  refine lv_if_eq (tgt := 24) hx hb dMo_old_6 (by decide) (fun c_1 => ?_) (fun c_1 => ?_)
  · refine lv_iconst (v := 1) hx hb dMo_old_24 (by decide) ?_
    refine lv_goto (tgt := 29) hx hb dMo_old_25 (by decide) ?_
    exact W.zret (v := 1) hx hb hr rfl (fun t9 ht hW => ⟨⟨1, (), rfl, (by first | (simp only [yOld, if_pos c_1] <;> rfl) | exact ((if_pos c_1).trans (rfl)).symm), trivial⟩, hS.F ht⟩) hS.2.2 dMo_old_29
  · refine lv_aload_n hx hb dMo_old_9 rfl (lv_at hl 0 rfl) ?_
    refine va_get (D := D) (ci := iMo) (v := .int (nI (xck (m5 M)))) (C := RMo) (T := TMo) (N := 32) hx hb htB inBMo hown hK hP 0 rfl rfl 31 (by decide) (htB _ b_401) (fun _ h9 => h9) rfl dMo_old_10 ?_
    refine lv_aload_n hx hb dMo_old_13 rfl (lv_at hl 0 rfl) ?_
    refine va_get (D := D) (ci := iMo) (v := .ref (a 12)) (C := RMo) (T := TMo) (N := 32) hx hb htB inBMo hown hK hP 0 rfl rfl 12 (by decide) (htB _ b_382) (fun _ h9 => h9) rfl dMo_old_14 ?_
    refine lv_iload_n hx hb dMo_old_17 rfl (lv_at hl 1 rfl) ?_
    refine mk_iald (k := t) hx hb hK hP 16 0 rfl rfl rfl ⟨ht, by decide⟩ dMo_old_18 ?_
    refine lv_isub hx hb dMo_old_19 ?_
    refine lv_iconst (v := 5) hx hb dMo_old_20 (by decide) ?_
    refine lv_icmp_le (tgt := 28) hx hb dMo_old_21 (by decide) (fun c_2 => ?_) (fun c_2 => ?_)
    · refine lv_iconst (v := 0) hx hb dMo_old_28 (by decide) ?_
      exact W.zret (v := 0) hx hb hr rfl (fun t9 ht hW => ⟨⟨0, (), rfl, (by first | (simp only [yOld, if_neg c_1, if_pos c_2] <;> rfl) | exact ((if_neg c_1).trans ((if_pos c_2).trans (rfl))).symm), trivial⟩, hS.F ht⟩) hS.2.2 dMo_old_29
    · refine lv_iconst (v := 1) hx hb dMo_old_24 (by decide) ?_
      refine lv_goto (tgt := 29) hx hb dMo_old_25 (by decide) ?_
      exact W.zret (v := 1) hx hb hr rfl (fun t9 ht hW => ⟨⟨1, (), rfl, (by first | (simp only [yOld, if_neg c_1, if_neg c_2] <;> rfl) | exact ((if_neg c_1).trans ((if_neg c_2).trans (rfl))).symm), trivial⟩, hS.F ht⟩) hS.2.2 dMo_old_29
set_option maxHeartbeats 4000000 in
set_option maxRecDepth 100000 in
/-- next -/
theorem k_next (l : Launch) (D : va_G) (g : Nat → ClassId) (a : Nat → Nat) (M : zMo) (t : Nat) (ht : t < 4) (pu : Int32) : mk_Rl l yMo_next wsMo_next ({ frames := 1, cells := 0, slots := 0, locals := 21 }) D vwCl (zty g) [.ref (a 0), .int (nI t), .int pu] (wMo g a M) (yNext M t pu) := by
  intro sz
  refine Met.ofW (cc := cMo_next) (maxL := 5) (ret := (some .long)) (by decide) rfl ?_
  intro p e s m args below meth cd s₁ B hml hv
  obtain ⟨rfl, hsz, hP, hK, hD0⟩ := hv
  have hx := B.exec
  have hb := B.bytes
  have hr := B.returns
  have hts := atoms_spec (ws := wsMo_next) B.pre
  have htB := fun (w : Cond) (h : w ∈ BIG) => hts w (List.mem_cons_of_mem _ h)
  have hown : s.vm.findClass RMo = some m.cls := findClass_of_methodNamed B.named
  have hlocks := B.notSynchronized
  subst hsz
  have hD := hD0
  have hA : ∀ q : Nat, s.heap.size ≤ q → (fun q => s.heap.size ≤ q) q := fun _ h => h
  have hS : va_S (fun q => s.heap.size ≤ q) s.heap s.heap [] := va_S.rf
  have hl := lv_entry ([.ref (a 0), .int (nI t), .int pu]) (n := 5) (Nat.le_of_ble_eq_true rfl)
  rw [lg_entry_eq]
  generalize (lg_sl ([.ref (a 0), .int (nI t), .int pu]) ++ List.replicate (5 - (lg_sl ([.ref (a 0), .int (nI t), .int pu])).length) Slot.unset).toArray = ls at hl ⊢
  have hl : lv_has ls 5 [(0, .ref (a 0)), (1, .int (nI t)), (2, .int pu)] := hl
  have hP : va_P D vwCl (wMo g a M) s.heap := hP
  refine lv_aload_n hx hb dMo_next_0 rfl (lv_at hl 0 rfl) ?_
  refine va_get (D := D) (ci := iMo) (v := .ref (a 8)) (C := RMo) (T := TMo) (N := 32) hx hb htB inBMo hown hK hP 0 rfl rfl 8 (by decide) (htB _ b_378) (fun _ h9 => h9) rfl dMo_next_1 ?_
  refine lv_iload_n hx hb dMo_next_4 rfl (lv_at hl 1 rfl) ?_
  refine mk_lald (k := t) hx hb hK hP 8 3 rfl rfl rfl ⟨ht, by decide⟩ dMo_next_5 ?_
  refine lv_iload_n hx hb dMo_next_6 rfl (lv_at hl 2 rfl) ?_
  refine lv_i2l (v := pu.toInt64) hx hb dMo_next_7 rfl ?_
  refine lv_ladd hx hb dMo_next_8 ?_
  refine lv_iconst (v := 2) hx hb dMo_next_9 (by decide) ?_
  refine lv_aload_n hx hb dMo_next_10 rfl (lv_at hl 0 rfl) ?_
  refine va_get (D := D) (ci := iMo) (v := .ref (a 2)) (C := RMo) (T := TMo) (N := 32) hx hb htB inBMo hown hK hP 0 rfl rfl 1 (by decide) (htB _ b_371) (fun _ h9 => h9) rfl dMo_next_11 ?_
  refine lv_aload_n hx hb dMo_next_14 rfl (lv_at hl 0 rfl) ?_
  refine va_get (D := D) (ci := iMo) (v := .ref (a 7)) (C := RMo) (T := TMo) (N := 32) hx hb htB inBMo hown hK hP 0 rfl rfl 7 (by decide) (htB _ b_377) (fun _ h9 => h9) rfl dMo_next_15 ?_
  refine lv_iload_n hx hb dMo_next_18 rfl (lv_at hl 1 rfl) ?_
  refine mk_lald (k := t) hx hb hK hP 7 3 rfl rfl rfl ⟨ht, by decide⟩ dMo_next_19 ?_
  refine mk_rdS (As := [.long ((xfr (m2 M)) t)]) (rest := [.ref (a 2), .int 2, .long (((xsp (m2 M)) t) + pu.toInt64)]) (w := []) ⟨hx, hb, hml, hown, hts⟩ (k_pieceOf l D g ((xfr (m2 M)) t)) (va_cwS 1 hts (gd_S b_560 b_561 b_6 b_562) rfl rfl rfl (by decide +kernel) ⟨Nat.le_of_ble_eq_true rfl, Nat.le_of_ble_eq_true rfl⟩) hK hP hD hS hA [] rfl rfl rfl hl.1 rfl (Nat.le_of_ble_eq_true rfl) dMo_next_20 ⟨Nat.zero_le _, Nat.zero_le _⟩ (fun H locs hP hS => ?_)
  refine mk_iald (k := (pPiece ((xfr (m2 M)) t))) hx hb hK hP 2 0 rfl rfl rfl ⟨(lPiece_lt _).1, by decide⟩ dMo_next_23 ?_
  refine lv_imul hx hb dMo_next_24 ?_
  refine lv_i2l (v := (2 * ((xgr (m1 M)) (pPiece ((xfr (m2 M)) t)))).toInt64) hx hb dMo_next_25 rfl ?_
  refine lv_lsub hx hb dMo_next_26 ?_
  refine lv_lstore_n (lv' := [(3, .long ((((xsp (m2 M)) t) + pu.toInt64) - ((2 * ((xgr (m1 M)) (pPiece ((xfr (m2 M)) t)))).toInt64))), (0, .ref (a 0)), (1, .int (nI t)), (2, .int pu)]) hx hb dMo_next_27 rfl hl (by decide) rfl (fun ls hl => ?_)
  refine lv_lload_n hx hb dMo_next_28 rfl (lv_at hl 0 rfl) ?_
  refine lv_lconst (v := 0) hx hb dMo_next_29 (by decide) ?_
  refine mk_lif_ge (tgt := 38) hx hb dMo_next_30 dMo_next_31 (by decide) (fun c_1 => ?_) (fun c_1 => ?_)
  · refine lv_lload_n hx hb dMo_next_38 rfl (lv_at hl 0 rfl) ?_
    exact W.lret (v := (((xsp (m2 M)) t) + pu.toInt64) - ((2 * ((xgr (m1 M)) (pPiece ((xfr (m2 M)) t)))).toInt64)) hx hb hr (fun t9 ht hW => ⟨⟨(((xsp (m2 M)) t) + pu.toInt64) - ((2 * ((xgr (m1 M)) (pPiece ((xfr (m2 M)) t)))).toInt64), (), rfl, (by first | (simp only [yNext, yNx0, if_pos c_1] <;> rfl) | exact ((if_pos c_1).trans (rfl)).symm), trivial⟩, hS.F ht⟩) hS.2.2 dMo_next_39
  · refine lv_lconst (v := 0) hx hb dMo_next_34 (by decide) ?_
    refine lv_goto (tgt := 39) hx hb dMo_next_35 (by decide) ?_
    exact W.lret (v := 0) hx hb hr (fun t9 ht hW => ⟨⟨0, (), rfl, (by first | (simp only [yNext, yNx0, if_neg c_1] <;> rfl) | exact ((if_neg c_1).trans (rfl)).symm), trivial⟩, hS.F ht⟩) hS.2.2 dMo_next_39
set_option maxHeartbeats 4000000 in
set_option maxRecDepth 100000 in
/-- piece -/
theorem k_piece (l : Launch) (D : va_G) (g : Nat → ClassId) (a : Nat → Nat) (M : zMo) (pi li gr : Int32) : mk_Wi l yMo_piece wsMo_piece ({ frames := 1, cells := 0, slots := 0, locals := 22 }) D vwCl (zty g) [.ref (a 0), .int pi, .int li, .int gr] (wMo g a M) (wMo g a (yPiece M pi li gr).2) ((yPiece M pi li gr).1) := by
  intro sz
  refine Met.ofW (cc := cMo_piece) (maxL := 4) (ret := (some .int)) (by decide) rfl ?_
  intro p e s m args below meth cd s₁ B hml hv
  obtain ⟨rfl, hsz, hP, hK, hD0⟩ := hv
  have hx := B.exec
  have hb := B.bytes
  have hr := B.returns
  have hts := atoms_spec (ws := wsMo_piece) B.pre
  have htB := fun (w : Cond) (h : w ∈ BIG) => hts w (List.mem_cons_of_mem _ h)
  have hown : s.vm.findClass RMo = some m.cls := findClass_of_methodNamed B.named
  have hlocks := B.notSynchronized
  subst hsz
  have hD := hD0.self (sz := s.heap.size)
  generalize hAe : va_A (wMo g a M) s.heap.size = A at hD ⊢
  have hA : ∀ q : Nat, s.heap.size ≤ q → A q := fun q h => by rw [← hAe]; exact Or.inr h
  have hS : va_S A s.heap s.heap [] := va_S.rf
  have hl := lv_entry ([.ref (a 0), .int pi, .int li, .int gr]) (n := 4) (Nat.le_of_ble_eq_true rfl)
  rw [lg_entry_eq]
  generalize (lg_sl ([.ref (a 0), .int pi, .int li, .int gr]) ++ List.replicate (4 - (lg_sl ([.ref (a 0), .int pi, .int li, .int gr])).length) Slot.unset).toArray = ls at hl ⊢
  have hl : lv_has ls 4 [(0, .ref (a 0)), (1, .int pi), (2, .int li), (3, .int gr)] := hl
  have hP : va_P D vwCl (wMo g a M) s.heap := hP
  refine lv_iload_n hx hb dMo_piece_0 rfl (lv_at hl 1 rfl) ?_
  refine lv_iconst (v := 0) hx hb dMo_piece_1 (by decide) ?_
  refine lv_bipush (v := 7) hx hb dMo_piece_2 (by decide) ?_
  refine mk_rdS (As := [.int pi, .int 0, .int 7]) (rest := []) (w := []) ⟨hx, hb, hml, hown, hts⟩ (k_in l D g pi 0 7) (va_cwS 3 hts (gd_S b_472 b_473 b_6 b_474) rfl rfl rfl (by decide +kernel) ⟨Nat.le_of_ble_eq_true rfl, Nat.le_of_ble_eq_true rfl⟩) hK hP hD hS hA [] rfl rfl rfl hl.1 rfl (Nat.le_of_ble_eq_true rfl) dMo_piece_4 ⟨Nat.zero_le _, Nat.zero_le _⟩ (fun H locs hP hS => ?_)
  refine lv_if_eq (tgt := 29) hx hb dMo_piece_7 (by decide) (fun c_1 => ?_) (fun c_1 => ?_)
  · refine lv_ldc (v := (-1000000)) hx hb hown (htB _ b_475) dMo_piece_29 ?_
    have hE : wMo g a (yPiece M pi li gr).2 = wMo g a M := (by first | (simp only [yPiece, if_pos c_1] <;> rfl) | exact ((if_pos c_1).trans (rfl)).symm)
    exact W.iret (v := (-1000000)) hx hb hr (fun t9 ht hW => ⟨⟨(-1000000), (), rfl, (by first | (simp only [yPiece, if_pos c_1] <;> rfl) | exact ((if_pos c_1).trans (rfl)).symm), mk_end ht hE hP⟩, hS.F ht⟩) hS.2.2 dMo_piece_31
  · refine lv_iload_n hx hb dMo_piece_10 rfl (lv_at hl 2 rfl) ?_
    refine lv_iconst (v := 1) hx hb dMo_piece_11 (by decide) ?_
    refine lv_bipush (v := 40) hx hb dMo_piece_12 (by decide) ?_
    refine mk_rdS (As := [.int li, .int 1, .int 40]) (rest := []) (w := []) ⟨hx, hb, hml, hown, hts⟩ (k_in l D g li 1 40) (va_cwS 3 hts (gd_S b_472 b_473 b_6 b_474) rfl rfl rfl (by decide +kernel) ⟨Nat.le_of_ble_eq_true rfl, Nat.le_of_ble_eq_true rfl⟩) hK hP hD hS hA [] rfl rfl rfl hl.1 rfl (Nat.le_of_ble_eq_true rfl) dMo_piece_14 ⟨Nat.zero_le _, Nat.zero_le _⟩ (fun H locs hP hS => ?_)
    refine lv_if_eq (tgt := 29) hx hb dMo_piece_17 (by decide) (fun c_2 => ?_) (fun c_2 => ?_)
    · refine lv_ldc (v := (-1000000)) hx hb hown (htB _ b_475) dMo_piece_29 ?_
      have hE : wMo g a (yPiece M pi li gr).2 = wMo g a M := (by first | (simp only [yPiece, if_neg c_1, if_pos c_2] <;> rfl) | exact ((if_neg c_1).trans ((if_pos c_2).trans (rfl))).symm)
      exact W.iret (v := (-1000000)) hx hb hr (fun t9 ht hW => ⟨⟨(-1000000), (), rfl, (by first | (simp only [yPiece, if_neg c_1, if_pos c_2] <;> rfl) | exact ((if_neg c_1).trans ((if_pos c_2).trans (rfl))).symm), mk_end ht hE hP⟩, hS.F ht⟩) hS.2.2 dMo_piece_31
    · refine lv_iload_n hx hb dMo_piece_20 rfl (lv_at hl 3 rfl) ?_
      refine lv_iconst (v := (-1)) hx hb dMo_piece_21 (by decide) ?_
      refine lv_iconst (v := 1) hx hb dMo_piece_22 (by decide) ?_
      refine mk_rdS (As := [.int gr, .int (-1), .int 1]) (rest := []) (w := []) ⟨hx, hb, hml, hown, hts⟩ (k_in l D g gr (-1) 1) (va_cwS 3 hts (gd_S b_472 b_473 b_6 b_474) rfl rfl rfl (by decide +kernel) ⟨Nat.le_of_ble_eq_true rfl, Nat.le_of_ble_eq_true rfl⟩) hK hP hD hS hA [] rfl rfl rfl hl.1 rfl (Nat.le_of_ble_eq_true rfl) dMo_piece_23 ⟨Nat.zero_le _, Nat.zero_le _⟩ (fun H locs hP hS => ?_)
      refine lv_if_ne (tgt := 32) hx hb dMo_piece_26 (by decide) (fun c_3 => ?_) (fun c_3 => ?_)
      · refine lv_aload_n hx hb dMo_piece_32 rfl (lv_at hl 0 rfl) ?_
        refine va_get (D := D) (ci := iMo) (v := .ref (a 1)) (C := RMo) (T := TMo) (N := 32) hx hb htB inBMo hown hK hP 0 rfl rfl 0 (by decide) (htB _ b_370) (fun _ h9 => h9) rfl dMo_piece_33 ?_
        refine lv_iload_n hx hb dMo_piece_36 rfl (lv_at hl 1 rfl) ?_
        refine lv_iload_n hx hb dMo_piece_37 rfl (lv_at hl 2 rfl) ?_
        refine mk_iast (k := pi.toNatClampNeg) hx hb hK hP hD hS 1 0 rfl rfl (mIn_ix c_1) ⟨mIn_lt (n := 8) c_1 (by decide) rfl, by decide⟩ dMo_piece_38 (fun H locs hP hD hS => ?_)
        have hP : va_P D vwCl (wMo g a (((upd (xli (m1 M)) pi.toNatClampNeg li), (xgr (m1 M)), (xho (m1 M)), (xhc (m1 M)), (xdn (m1 M))), (m2 M), (m3 M), (m4 M), (m5 M))) H := hP
        have hD : va_D A (wMo g a (((upd (xli (m1 M)) pi.toNatClampNeg li), (xgr (m1 M)), (xho (m1 M)), (xhc (m1 M)), (xdn (m1 M))), (m2 M), (m3 M), (m4 M), (m5 M))) := hD
        refine lv_aload_n hx hb dMo_piece_39 rfl (lv_at hl 0 rfl) ?_
        refine va_get (D := D) (ci := iMo) (v := .ref (a 2)) (C := RMo) (T := TMo) (N := 32) hx hb htB inBMo hown hK hP 0 rfl rfl 1 (by decide) (htB _ b_371) (fun _ h9 => h9) rfl dMo_piece_40 ?_
        refine lv_iload_n hx hb dMo_piece_43 rfl (lv_at hl 1 rfl) ?_
        refine lv_iload_n hx hb dMo_piece_44 rfl (lv_at hl 3 rfl) ?_
        refine mk_iast (k := pi.toNatClampNeg) hx hb hK hP hD hS 2 0 rfl rfl (mIn_ix c_1) ⟨mIn_lt (n := 8) c_1 (by decide) rfl, by decide⟩ dMo_piece_45 (fun H locs hP hD hS => ?_)
        have hP : va_P D vwCl (wMo g a (((upd (xli (m1 M)) pi.toNatClampNeg li), (upd (xgr (m1 M)) pi.toNatClampNeg gr), (xho (m1 M)), (xhc (m1 M)), (xdn (m1 M))), (m2 M), (m3 M), (m4 M), (m5 M))) H := hP
        have hD : va_D A (wMo g a (((upd (xli (m1 M)) pi.toNatClampNeg li), (upd (xgr (m1 M)) pi.toNatClampNeg gr), (xho (m1 M)), (xhc (m1 M)), (xdn (m1 M))), (m2 M), (m3 M), (m4 M), (m5 M))) := hD
        refine lv_iconst (v := 1) hx hb dMo_piece_46 (by decide) ?_
        have hE : wMo g a (yPiece M pi li gr).2 = wMo g a (((upd (xli (m1 M)) pi.toNatClampNeg li), (upd (xgr (m1 M)) pi.toNatClampNeg gr), (xho (m1 M)), (xhc (m1 M)), (xdn (m1 M))), (m2 M), (m3 M), (m4 M), (m5 M)) := (by first | (simp only [yPiece, if_neg c_1, if_neg c_2, if_neg c_3] <;> rfl) | exact ((if_neg c_1).trans ((if_neg c_2).trans ((if_neg c_3).trans (rfl)))).symm)
        exact W.iret (v := 1) hx hb hr (fun t9 ht hW => ⟨⟨1, (), rfl, (by first | (simp only [yPiece, if_neg c_1, if_neg c_2, if_neg c_3] <;> rfl) | exact ((if_neg c_1).trans ((if_neg c_2).trans ((if_neg c_3).trans (rfl)))).symm), mk_end ht hE hP⟩, hS.F ht⟩) hS.2.2 dMo_piece_47
      · refine lv_ldc (v := (-1000000)) hx hb hown (htB _ b_475) dMo_piece_29 ?_
        have hE : wMo g a (yPiece M pi li gr).2 = wMo g a M := (by first | (simp only [yPiece, if_neg c_1, if_neg c_2, if_pos c_3] <;> rfl) | exact ((if_neg c_1).trans ((if_neg c_2).trans ((if_pos c_3).trans (rfl)))).symm)
        exact W.iret (v := (-1000000)) hx hb hr (fun t9 ht hW => ⟨⟨(-1000000), (), rfl, (by first | (simp only [yPiece, if_neg c_1, if_neg c_2, if_pos c_3] <;> rfl) | exact ((if_neg c_1).trans ((if_neg c_2).trans ((if_pos c_3).trans (rfl)))).symm), mk_end ht hE hP⟩, hS.F ht⟩) hS.2.2 dMo_piece_31
set_option maxHeartbeats 4000000 in
set_option maxRecDepth 100000 in
/-- hold -/
theorem k_hold (l : Launch) (D : va_G) (g : Nat → ClassId) (a : Nat → Nat) (M : zMo) (h pl : Int32) (z : Bool) : mk_Wi l yMo_hold wsMo_hold ({ frames := 1, cells := 0, slots := 0, locals := 22 }) D vwCl (zty g) [.ref (a 0), .int h, .int pl, .int (bI z)] (wMo g a M) (wMo g a (yHold M h pl z).2) ((yHold M h pl z).1) := by
  intro sz
  refine Met.ofW (cc := cMo_hold) (maxL := 4) (ret := (some .int)) (by decide) rfl ?_
  intro p e s m args below meth cd s₁ B hml hv
  obtain ⟨rfl, hsz, hP, hK, hD0⟩ := hv
  have hx := B.exec
  have hb := B.bytes
  have hr := B.returns
  have hts := atoms_spec (ws := wsMo_hold) B.pre
  have htB := fun (w : Cond) (h : w ∈ BIG) => hts w (List.mem_cons_of_mem _ h)
  have hown : s.vm.findClass RMo = some m.cls := findClass_of_methodNamed B.named
  have hlocks := B.notSynchronized
  subst hsz
  have hD := hD0.self (sz := s.heap.size)
  generalize hAe : va_A (wMo g a M) s.heap.size = A at hD ⊢
  have hA : ∀ q : Nat, s.heap.size ≤ q → A q := fun q h => by rw [← hAe]; exact Or.inr h
  have hS : va_S A s.heap s.heap [] := va_S.rf
  have hl := lv_entry ([.ref (a 0), .int h, .int pl, .int (bI z)]) (n := 4) (Nat.le_of_ble_eq_true rfl)
  rw [lg_entry_eq]
  generalize (lg_sl ([.ref (a 0), .int h, .int pl, .int (bI z)]) ++ List.replicate (4 - (lg_sl ([.ref (a 0), .int h, .int pl, .int (bI z)])).length) Slot.unset).toArray = ls at hl ⊢
  have hl : lv_has ls 4 [(0, .ref (a 0)), (1, .int h), (2, .int pl), (3, .int (bI z))] := hl
  have hP : va_P D vwCl (wMo g a M) s.heap := hP
  refine lv_iload_n hx hb dMo_hold_0 rfl (lv_at hl 1 rfl) ?_
  refine lv_iconst (v := 0) hx hb dMo_hold_1 (by decide) ?_
  refine lv_iconst (v := 3) hx hb dMo_hold_2 (by decide) ?_
  refine mk_rdS (As := [.int h, .int 0, .int 3]) (rest := []) (w := []) ⟨hx, hb, hml, hown, hts⟩ (k_in l D g h 0 3) (va_cwS 3 hts (gd_S b_472 b_473 b_6 b_474) rfl rfl rfl (by decide +kernel) ⟨Nat.le_of_ble_eq_true rfl, Nat.le_of_ble_eq_true rfl⟩) hK hP hD hS hA [] rfl rfl rfl hl.1 rfl (Nat.le_of_ble_eq_true rfl) dMo_hold_3 ⟨Nat.zero_le _, Nat.zero_le _⟩ (fun H locs hP hS => ?_)
  refine lv_if_eq (tgt := 20) hx hb dMo_hold_6 (by decide) (fun c_1 => ?_) (fun c_1 => ?_)
  · refine lv_ldc (v := (-1000000)) hx hb hown (htB _ b_475) dMo_hold_20 ?_
    have hE : wMo g a (yHold M h pl z).2 = wMo g a M := (by first | (simp only [yHold, if_pos c_1] <;> rfl) | exact ((if_pos c_1).trans (rfl)).symm)
    exact W.iret (v := (-1000000)) hx hb hr (fun t9 ht hW => ⟨⟨(-1000000), (), rfl, (by first | (simp only [yHold, if_pos c_1] <;> rfl) | exact ((if_pos c_1).trans (rfl)).symm), mk_end ht hE hP⟩, hS.F ht⟩) hS.2.2 dMo_hold_22
  · refine lv_iload_n hx hb dMo_hold_9 rfl (lv_at hl 2 rfl) ?_
    refine lv_iconst (v := 0) hx hb dMo_hold_10 (by decide) ?_
    refine lv_sipush (v := 4096) hx hb dMo_hold_11 (by decide) ?_
    refine mk_rdS (As := [.int pl, .int 0, .int 4096]) (rest := []) (w := []) ⟨hx, hb, hml, hown, hts⟩ (k_in l D g pl 0 4096) (va_cwS 3 hts (gd_S b_472 b_473 b_6 b_474) rfl rfl rfl (by decide +kernel) ⟨Nat.le_of_ble_eq_true rfl, Nat.le_of_ble_eq_true rfl⟩) hK hP hD hS hA [] rfl rfl rfl hl.1 rfl (Nat.le_of_ble_eq_true rfl) dMo_hold_14 ⟨Nat.zero_le _, Nat.zero_le _⟩ (fun H locs hP hS => ?_)
    refine lv_if_ne (tgt := 23) hx hb dMo_hold_17 (by decide) (fun c_2 => ?_) (fun c_2 => ?_)
    · refine lv_aload_n hx hb dMo_hold_23 rfl (lv_at hl 0 rfl) ?_
      refine va_get (D := D) (ci := iMo) (v := .ref (a 3)) (C := RMo) (T := TMo) (N := 32) hx hb htB inBMo hown hK hP 0 rfl rfl 2 (by decide) (htB _ b_372) (fun _ h9 => h9) rfl dMo_hold_24 ?_
      refine lv_iload_n hx hb dMo_hold_27 rfl (lv_at hl 1 rfl) ?_
      refine lv_ldc2 (v := 8) hx hb hown (htB _ b_480) dMo_hold_28 ?_
      refine lv_iload_n hx hb dMo_hold_31 rfl (lv_at hl 2 rfl) ?_
      refine lv_i2l (v := pl.toInt64) hx hb dMo_hold_32 rfl ?_
      refine lv_lmul hx hb dMo_hold_33 ?_
      refine mk_last (k := h.toNatClampNeg) hx hb hK hP hD hS 3 3 rfl rfl (mIn_ix c_1) ⟨mIn_lt (n := 4) c_1 (by decide) rfl, by decide⟩ dMo_hold_34 (fun H locs hP hD hS => ?_)
      have hP : va_P D vwCl (wMo g a (((xli (m1 M)), (xgr (m1 M)), (vp_updL (xho (m1 M)) h.toNatClampNeg (8 * pl.toInt64)), (xhc (m1 M)), (xdn (m1 M))), (m2 M), (m3 M), (m4 M), (m5 M))) H := hP
      have hD : va_D A (wMo g a (((xli (m1 M)), (xgr (m1 M)), (vp_updL (xho (m1 M)) h.toNatClampNeg (8 * pl.toInt64)), (xhc (m1 M)), (xdn (m1 M))), (m2 M), (m3 M), (m4 M), (m5 M))) := hD
      refine lv_aload_n hx hb dMo_hold_35 rfl (lv_at hl 0 rfl) ?_
      refine va_get (D := D) (ci := iMo) (v := .ref (a 4)) (C := RMo) (T := TMo) (N := 32) hx hb htB inBMo hown hK hP 0 rfl rfl 3 (by decide) (htB _ b_373) (fun _ h9 => h9) rfl dMo_hold_36 ?_
      refine lv_iload_n hx hb dMo_hold_39 rfl (lv_at hl 1 rfl) ?_
      refine lv_iload_n hx hb dMo_hold_40 rfl (lv_at hl 3 rfl) ?_
      refine mk_zast (k := h.toNatClampNeg) (f := (xhc (m1 M))) (z := z) hx hb hK hP hD hS 4 1 rfl rfl (mIn_ix c_1) ⟨mIn_lt (n := 4) c_1 (by decide) rfl, by decide⟩ dMo_hold_41 (fun H locs hP hD hS => ?_)
      have hP : va_P D vwCl (wMo g a (((xli (m1 M)), (xgr (m1 M)), (vp_updL (xho (m1 M)) h.toNatClampNeg (8 * pl.toInt64)), (va_up (xhc (m1 M)) h.toNatClampNeg z), (xdn (m1 M))), (m2 M), (m3 M), (m4 M), (m5 M))) H := hP
      have hD : va_D A (wMo g a (((xli (m1 M)), (xgr (m1 M)), (vp_updL (xho (m1 M)) h.toNatClampNeg (8 * pl.toInt64)), (va_up (xhc (m1 M)) h.toNatClampNeg z), (xdn (m1 M))), (m2 M), (m3 M), (m4 M), (m5 M))) := hD
      refine lv_iconst (v := 1) hx hb dMo_hold_42 (by decide) ?_
      have hE : wMo g a (yHold M h pl z).2 = wMo g a (((xli (m1 M)), (xgr (m1 M)), (vp_updL (xho (m1 M)) h.toNatClampNeg (8 * pl.toInt64)), (va_up (xhc (m1 M)) h.toNatClampNeg z), (xdn (m1 M))), (m2 M), (m3 M), (m4 M), (m5 M)) := (by first | (simp only [yHold, if_neg c_1, if_neg c_2] <;> rfl) | exact ((if_neg c_1).trans ((if_neg c_2).trans (rfl))).symm)
      exact W.iret (v := 1) hx hb hr (fun t9 ht hW => ⟨⟨1, (), rfl, (by first | (simp only [yHold, if_neg c_1, if_neg c_2] <;> rfl) | exact ((if_neg c_1).trans ((if_neg c_2).trans (rfl))).symm), mk_end ht hE hP⟩, hS.F ht⟩) hS.2.2 dMo_hold_43
    · refine lv_ldc (v := (-1000000)) hx hb hown (htB _ b_475) dMo_hold_20 ?_
      have hE : wMo g a (yHold M h pl z).2 = wMo g a M := (by first | (simp only [yHold, if_neg c_1, if_pos c_2] <;> rfl) | exact ((if_neg c_1).trans ((if_pos c_2).trans (rfl))).symm)
      exact W.iret (v := (-1000000)) hx hb hr (fun t9 ht hW => ⟨⟨(-1000000), (), rfl, (by first | (simp only [yHold, if_neg c_1, if_pos c_2] <;> rfl) | exact ((if_neg c_1).trans ((if_pos c_2).trans (rfl))).symm), mk_end ht hE hP⟩, hS.F ht⟩) hS.2.2 dMo_hold_22
set_option maxHeartbeats 4000000 in
set_option maxRecDepth 100000 in
/-- controller -/
theorem k_controller (l : Launch) (D : va_G) (g : Nat → ClassId) (a : Nat → Nat) (M : zMo) (o : Int32) (z : Bool) : mk_Wi l yMo_controller wsMo_controller ({ frames := 1, cells := 0, slots := 0, locals := 22 }) D vwCl (zty g) [.ref (a 0), .int o, .int (bI z)] (wMo g a M) (wMo g a (yCtl M o z).2) ((yCtl M o z).1) := by
  intro sz
  refine Met.ofW (cc := cMo_controller) (maxL := 4) (ret := (some .int)) (by decide) rfl ?_
  intro p e s m args below meth cd s₁ B hml hv
  obtain ⟨rfl, hsz, hP, hK, hD0⟩ := hv
  have hx := B.exec
  have hb := B.bytes
  have hr := B.returns
  have hts := atoms_spec (ws := wsMo_controller) B.pre
  have htB := fun (w : Cond) (h : w ∈ BIG) => hts w (List.mem_cons_of_mem _ h)
  have hown : s.vm.findClass RMo = some m.cls := findClass_of_methodNamed B.named
  have hlocks := B.notSynchronized
  subst hsz
  have hD := hD0.self (sz := s.heap.size)
  generalize hAe : va_A (wMo g a M) s.heap.size = A at hD ⊢
  have hA : ∀ q : Nat, s.heap.size ≤ q → A q := fun q h => by rw [← hAe]; exact Or.inr h
  have hS : va_S A s.heap s.heap [] := va_S.rf
  have hl := lv_entry ([.ref (a 0), .int o, .int (bI z)]) (n := 4) (Nat.le_of_ble_eq_true rfl)
  rw [lg_entry_eq]
  generalize (lg_sl ([.ref (a 0), .int o, .int (bI z)]) ++ List.replicate (4 - (lg_sl ([.ref (a 0), .int o, .int (bI z)])).length) Slot.unset).toArray = ls at hl ⊢
  have hl : lv_has ls 4 [(0, .ref (a 0)), (1, .int o), (2, .int (bI z))] := hl
  have hP : va_P D vwCl (wMo g a M) s.heap := hP
  refine lv_iload_n hx hb dMo_controller_0 rfl (lv_at hl 1 rfl) ?_
  refine lv_iconst (v := 0) hx hb dMo_controller_1 (by decide) ?_
  refine lv_iconst (v := 1) hx hb dMo_controller_2 (by decide) ?_
  refine mk_rdS (As := [.int o, .int 0, .int 1]) (rest := []) (w := []) ⟨hx, hb, hml, hown, hts⟩ (k_in l D g o 0 1) (va_cwS 3 hts (gd_S b_472 b_473 b_6 b_474) rfl rfl rfl (by decide +kernel) ⟨Nat.le_of_ble_eq_true rfl, Nat.le_of_ble_eq_true rfl⟩) hK hP hD hS hA [] rfl rfl rfl hl.1 rfl (Nat.le_of_ble_eq_true rfl) dMo_controller_3 ⟨Nat.zero_le _, Nat.zero_le _⟩ (fun H locs hP hS => ?_)
  refine lv_if_ne (tgt := 12) hx hb dMo_controller_6 (by decide) (fun c_1 => ?_) (fun c_1 => ?_)
  · refine lv_aload_n hx hb dMo_controller_12 rfl (lv_at hl 0 rfl) ?_
    refine va_get (D := D) (ci := iMo) (v := .ref (a 5)) (C := RMo) (T := TMo) (N := 32) hx hb htB inBMo hown hK hP 0 rfl rfl 4 (by decide) (htB _ b_374) (fun _ h9 => h9) rfl dMo_controller_13 ?_
    refine lv_iload_n hx hb dMo_controller_16 rfl (lv_at hl 1 rfl) ?_
    refine mk_zald (k := o.toNatClampNeg) hx hb hK hP 5 1 rfl rfl (mIn_ix c_1) ⟨mIn_lt (n := 2) c_1 (by decide) rfl, by decide⟩ dMo_controller_17 ?_
    refine lv_iload_n hx hb dMo_controller_18 rfl (lv_at hl 2 rfl) ?_
    refine lv_icmp_ne (tgt := 26) hx hb dMo_controller_19 (by decide) (fun c_2 => ?_) (fun c_2 => ?_)
    · refine lv_iconst (v := 0) hx hb dMo_controller_26 (by decide) ?_
      refine lv_istore_n (lv' := [(3, .int 0), (0, .ref (a 0)), (1, .int o), (2, .int (bI z))]) hx hb dMo_controller_27 rfl hl (by decide) rfl (fun ls hl => ?_)
      refine lv_aload_n hx hb dMo_controller_28 rfl (lv_at hl 1 rfl) ?_
      refine va_get (D := D) (ci := iMo) (v := .ref (a 5)) (C := RMo) (T := TMo) (N := 32) hx hb htB inBMo hown hK hP 0 rfl rfl 4 (by decide) (htB _ b_374) (fun _ h9 => h9) rfl dMo_controller_29 ?_
      refine lv_iload_n hx hb dMo_controller_32 rfl (lv_at hl 2 rfl) ?_
      refine lv_iload_n hx hb dMo_controller_33 rfl (lv_at hl 3 rfl) ?_
      refine lv_if_ne (tgt := 41) hx hb dMo_controller_34 (by decide) (fun c_3 => ?_) (fun c_3 => ?_)
      · refine lv_iconst (v := 0) hx hb dMo_controller_41 (by decide) ?_
        refine mk_zast (k := o.toNatClampNeg) (f := (xdn (m1 M))) (z := false) hx hb hK hP hD hS 5 1 rfl rfl (mIn_ix c_1) ⟨mIn_lt (n := 2) c_1 (by decide) rfl, by decide⟩ dMo_controller_42 (fun H locs hP hD hS => ?_)
        have hP : va_P D vwCl (wMo g a (((xli (m1 M)), (xgr (m1 M)), (xho (m1 M)), (xhc (m1 M)), (va_up (xdn (m1 M)) o.toNatClampNeg false)), (m2 M), (m3 M), (m4 M), (m5 M))) H := hP
        have hD : va_D A (wMo g a (((xli (m1 M)), (xgr (m1 M)), (xho (m1 M)), (xhc (m1 M)), (va_up (xdn (m1 M)) o.toNatClampNeg false)), (m2 M), (m3 M), (m4 M), (m5 M))) := hD
        refine lv_iload_n hx hb dMo_controller_43 rfl (lv_at hl 0 rfl) ?_
        refine lv_if_eq (tgt := 51) hx hb dMo_controller_44 (by decide) (fun _ => ?_) (fun c_4 => absurd (by decide) c_4)
        refine lv_iconst (v := 0) hx hb dMo_controller_51 (by decide) ?_
        have hE : wMo g a (yCtl M o z).2 = wMo g a (((xli (m1 M)), (xgr (m1 M)), (xho (m1 M)), (xhc (m1 M)), (va_up (xdn (m1 M)) o.toNatClampNeg false)), (m2 M), (m3 M), (m4 M), (m5 M)) := (by first | (simp only [yCtl, ySetDn, if_neg c_1, if_neg c_2, if_neg c_3] <;> rfl) | exact ((if_neg c_1).trans ((if_neg c_2).trans ((if_neg c_3).trans (rfl)))).symm)
        exact W.iret (v := 0) hx hb hr (fun t9 ht hW => ⟨⟨0, (), rfl, (by first | (simp only [yCtl, ySetDn, if_neg c_1, if_neg c_2, if_neg c_3] <;> rfl) | exact ((if_neg c_1).trans ((if_neg c_2).trans ((if_neg c_3).trans (rfl)))).symm), mk_end ht hE hP⟩, hS.F ht⟩) hS.2.2 dMo_controller_52
      · refine lv_iconst (v := 1) hx hb dMo_controller_37 (by decide) ?_
        refine lv_goto (tgt := 42) hx hb dMo_controller_38 (by decide) ?_
        refine mk_zast (k := o.toNatClampNeg) (f := (xdn (m1 M))) (z := true) hx hb hK hP hD hS 5 1 rfl rfl (mIn_ix c_1) ⟨mIn_lt (n := 2) c_1 (by decide) rfl, by decide⟩ dMo_controller_42 (fun H locs hP hD hS => ?_)
        have hP : va_P D vwCl (wMo g a (((xli (m1 M)), (xgr (m1 M)), (xho (m1 M)), (xhc (m1 M)), (va_up (xdn (m1 M)) o.toNatClampNeg true)), (m2 M), (m3 M), (m4 M), (m5 M))) H := hP
        have hD : va_D A (wMo g a (((xli (m1 M)), (xgr (m1 M)), (xho (m1 M)), (xhc (m1 M)), (va_up (xdn (m1 M)) o.toNatClampNeg true)), (m2 M), (m3 M), (m4 M), (m5 M))) := hD
        refine lv_iload_n hx hb dMo_controller_43 rfl (lv_at hl 0 rfl) ?_
        refine lv_if_eq (tgt := 51) hx hb dMo_controller_44 (by decide) (fun _ => ?_) (fun c_5 => absurd (by decide) c_5)
        refine lv_iconst (v := 0) hx hb dMo_controller_51 (by decide) ?_
        have hE : wMo g a (yCtl M o z).2 = wMo g a (((xli (m1 M)), (xgr (m1 M)), (xho (m1 M)), (xhc (m1 M)), (va_up (xdn (m1 M)) o.toNatClampNeg true)), (m2 M), (m3 M), (m4 M), (m5 M)) := (by first | (simp only [yCtl, ySetDn, if_neg c_1, if_neg c_2, if_pos c_3] <;> rfl) | exact ((if_neg c_1).trans ((if_neg c_2).trans ((if_pos c_3).trans (rfl)))).symm)
        exact W.iret (v := 0) hx hb hr (fun t9 ht hW => ⟨⟨0, (), rfl, (by first | (simp only [yCtl, ySetDn, if_neg c_1, if_neg c_2, if_pos c_3] <;> rfl) | exact ((if_neg c_1).trans ((if_neg c_2).trans ((if_pos c_3).trans (rfl)))).symm), mk_end ht hE hP⟩, hS.F ht⟩) hS.2.2 dMo_controller_52
    · refine lv_iconst (v := 1) hx hb dMo_controller_22 (by decide) ?_
      refine lv_goto (tgt := 27) hx hb dMo_controller_23 (by decide) ?_
      refine lv_istore_n (lv' := [(3, .int 1), (0, .ref (a 0)), (1, .int o), (2, .int (bI z))]) hx hb dMo_controller_27 rfl hl (by decide) rfl (fun ls hl => ?_)
      refine lv_aload_n hx hb dMo_controller_28 rfl (lv_at hl 1 rfl) ?_
      refine va_get (D := D) (ci := iMo) (v := .ref (a 5)) (C := RMo) (T := TMo) (N := 32) hx hb htB inBMo hown hK hP 0 rfl rfl 4 (by decide) (htB _ b_374) (fun _ h9 => h9) rfl dMo_controller_29 ?_
      refine lv_iload_n hx hb dMo_controller_32 rfl (lv_at hl 2 rfl) ?_
      refine lv_iload_n hx hb dMo_controller_33 rfl (lv_at hl 3 rfl) ?_
      refine lv_if_ne (tgt := 41) hx hb dMo_controller_34 (by decide) (fun c_6 => ?_) (fun c_6 => ?_)
      · refine lv_iconst (v := 0) hx hb dMo_controller_41 (by decide) ?_
        refine mk_zast (k := o.toNatClampNeg) (f := (xdn (m1 M))) (z := false) hx hb hK hP hD hS 5 1 rfl rfl (mIn_ix c_1) ⟨mIn_lt (n := 2) c_1 (by decide) rfl, by decide⟩ dMo_controller_42 (fun H locs hP hD hS => ?_)
        have hP : va_P D vwCl (wMo g a (((xli (m1 M)), (xgr (m1 M)), (xho (m1 M)), (xhc (m1 M)), (va_up (xdn (m1 M)) o.toNatClampNeg false)), (m2 M), (m3 M), (m4 M), (m5 M))) H := hP
        have hD : va_D A (wMo g a (((xli (m1 M)), (xgr (m1 M)), (xho (m1 M)), (xhc (m1 M)), (va_up (xdn (m1 M)) o.toNatClampNeg false)), (m2 M), (m3 M), (m4 M), (m5 M))) := hD
        refine lv_iload_n hx hb dMo_controller_43 rfl (lv_at hl 0 rfl) ?_
        refine lv_if_eq (tgt := 51) hx hb dMo_controller_44 (by decide) (fun c_7 => absurd c_7 (by decide)) (fun _ => ?_)
        refine lv_iconst (v := 1) hx hb dMo_controller_47 (by decide) ?_
        refine lv_goto (tgt := 52) hx hb dMo_controller_48 (by decide) ?_
        have hE : wMo g a (yCtl M o z).2 = wMo g a (((xli (m1 M)), (xgr (m1 M)), (xho (m1 M)), (xhc (m1 M)), (va_up (xdn (m1 M)) o.toNatClampNeg false)), (m2 M), (m3 M), (m4 M), (m5 M)) := (by first | (simp only [yCtl, ySetDn, if_neg c_1, if_pos c_2, if_neg c_6] <;> rfl) | exact ((if_neg c_1).trans ((if_pos c_2).trans ((if_neg c_6).trans (rfl)))).symm)
        exact W.iret (v := 1) hx hb hr (fun t9 ht hW => ⟨⟨1, (), rfl, (by first | (simp only [yCtl, ySetDn, if_neg c_1, if_pos c_2, if_neg c_6] <;> rfl) | exact ((if_neg c_1).trans ((if_pos c_2).trans ((if_neg c_6).trans (rfl)))).symm), mk_end ht hE hP⟩, hS.F ht⟩) hS.2.2 dMo_controller_52
      · refine lv_iconst (v := 1) hx hb dMo_controller_37 (by decide) ?_
        refine lv_goto (tgt := 42) hx hb dMo_controller_38 (by decide) ?_
        refine mk_zast (k := o.toNatClampNeg) (f := (xdn (m1 M))) (z := true) hx hb hK hP hD hS 5 1 rfl rfl (mIn_ix c_1) ⟨mIn_lt (n := 2) c_1 (by decide) rfl, by decide⟩ dMo_controller_42 (fun H locs hP hD hS => ?_)
        have hP : va_P D vwCl (wMo g a (((xli (m1 M)), (xgr (m1 M)), (xho (m1 M)), (xhc (m1 M)), (va_up (xdn (m1 M)) o.toNatClampNeg true)), (m2 M), (m3 M), (m4 M), (m5 M))) H := hP
        have hD : va_D A (wMo g a (((xli (m1 M)), (xgr (m1 M)), (xho (m1 M)), (xhc (m1 M)), (va_up (xdn (m1 M)) o.toNatClampNeg true)), (m2 M), (m3 M), (m4 M), (m5 M))) := hD
        refine lv_iload_n hx hb dMo_controller_43 rfl (lv_at hl 0 rfl) ?_
        refine lv_if_eq (tgt := 51) hx hb dMo_controller_44 (by decide) (fun c_8 => absurd c_8 (by decide)) (fun _ => ?_)
        refine lv_iconst (v := 1) hx hb dMo_controller_47 (by decide) ?_
        refine lv_goto (tgt := 52) hx hb dMo_controller_48 (by decide) ?_
        have hE : wMo g a (yCtl M o z).2 = wMo g a (((xli (m1 M)), (xgr (m1 M)), (xho (m1 M)), (xhc (m1 M)), (va_up (xdn (m1 M)) o.toNatClampNeg true)), (m2 M), (m3 M), (m4 M), (m5 M)) := (by first | (simp only [yCtl, ySetDn, if_neg c_1, if_pos c_2, if_pos c_6] <;> rfl) | exact ((if_neg c_1).trans ((if_pos c_2).trans ((if_pos c_6).trans (rfl)))).symm)
        exact W.iret (v := 1) hx hb hr (fun t9 ht hW => ⟨⟨1, (), rfl, (by first | (simp only [yCtl, ySetDn, if_neg c_1, if_pos c_2, if_pos c_6] <;> rfl) | exact ((if_neg c_1).trans ((if_pos c_2).trans ((if_pos c_6).trans (rfl)))).symm), mk_end ht hE hP⟩, hS.F ht⟩) hS.2.2 dMo_controller_52
  · refine lv_ldc (v := (-1000000)) hx hb hown (htB _ b_475) dMo_controller_9 ?_
    have hE : wMo g a (yCtl M o z).2 = wMo g a M := (by first | (simp only [yCtl, ySetDn, if_pos c_1] <;> rfl) | exact ((if_pos c_1).trans (rfl)).symm)
    exact W.iret (v := (-1000000)) hx hb hr (fun t9 ht hW => ⟨⟨(-1000000), (), rfl, (by first | (simp only [yCtl, ySetDn, if_pos c_1] <;> rfl) | exact ((if_pos c_1).trans (rfl)).symm), mk_end ht hE hP⟩, hS.F ht⟩) hS.2.2 dMo_controller_11
set_option maxHeartbeats 4000000 in
set_option maxRecDepth 100000 in
/-- demand -/
theorem k_demand (l : Launch) (D : va_G) (g : Nat → ClassId) (a : Nat → Nat) (M : zMo) (hm : xtr (m5 M) ≤ 4) (x de : Int32) : mk_Wi l yMo_demand wsMo_demand ({ frames := 1, cells := 0, slots := 0, locals := 22 }) D vwCl (zty g) [.ref (a 0), .int x, .int de] (wMo g a M) (wMo g a (yDemand M x de).2) ((yDemand M x de).1) := by
  intro sz
  refine Met.ofW (cc := cMo_demand) (maxL := 3) (ret := (some .int)) (by decide) rfl ?_
  intro p e s m args below meth cd s₁ B hml hv
  obtain ⟨rfl, hsz, hP, hK, hD0⟩ := hv
  have hx := B.exec
  have hb := B.bytes
  have hr := B.returns
  have hts := atoms_spec (ws := wsMo_demand) B.pre
  have htB := fun (w : Cond) (h : w ∈ BIG) => hts w (List.mem_cons_of_mem _ h)
  have hown : s.vm.findClass RMo = some m.cls := findClass_of_methodNamed B.named
  have hlocks := B.notSynchronized
  subst hsz
  have hD := hD0.self (sz := s.heap.size)
  generalize hAe : va_A (wMo g a M) s.heap.size = A at hD ⊢
  have hA : ∀ q : Nat, s.heap.size ≤ q → A q := fun q h => by rw [← hAe]; exact Or.inr h
  have hS : va_S A s.heap s.heap [] := va_S.rf
  have hl := lv_entry ([.ref (a 0), .int x, .int de]) (n := 3) (Nat.le_of_ble_eq_true rfl)
  rw [lg_entry_eq]
  generalize (lg_sl ([.ref (a 0), .int x, .int de]) ++ List.replicate (3 - (lg_sl ([.ref (a 0), .int x, .int de])).length) Slot.unset).toArray = ls at hl ⊢
  have hl : lv_has ls 3 [(0, .ref (a 0)), (1, .int x), (2, .int de)] := hl
  have hP : va_P D vwCl (wMo g a M) s.heap := hP
  refine lv_aload_n hx hb dMo_demand_0 rfl (lv_at hl 0 rfl) ?_
  refine lv_iload_n hx hb dMo_demand_1 rfl (lv_at hl 1 rfl) ?_
  refine mk_rdV (As := [.int x]) (rest := []) (w := (wMo g a M)) (q0 := (RMo, TMo, 32)) (ci := iMo) ⟨hx, hb, hml, hown, hts⟩ (k_noTrain l D g a M x) (cwV 1 hts (gd_V b_498 b_500 bp_9 b_6 b_501) rfl rfl rfl (by decide +kernel) ⟨Nat.le_of_ble_eq_true rfl, Nat.le_of_ble_eq_true rfl⟩) hK hP hD hS hA (List.range 28) mo_cutAll mo_ndAll rfl rfl rfl hl.1 rfl (Nat.le_of_ble_eq_true rfl) dMo_demand_2 ⟨Nat.zero_le _, Nat.zero_le _⟩ (fun H locs hP hS => ?_)
  refine lv_if_ne (tgt := 17) hx hb dMo_demand_5 (by decide) (fun c_1 => ?_) (fun c_1 => ?_)
  · refine lv_ldc (v := (-1000000)) hx hb hown (htB _ b_475) dMo_demand_17 ?_
    have hE : wMo g a (yDemand M x de).2 = wMo g a M := (by first | (simp only [yDemand, if_neg c_1] <;> rfl) | exact ((if_neg c_1).trans (rfl)).symm)
    exact W.iret (v := (-1000000)) hx hb hr (fun t9 ht hW => ⟨⟨(-1000000), (), rfl, (by first | (simp only [yDemand, if_neg c_1] <;> rfl) | exact ((if_neg c_1).trans (rfl)).symm), mk_end ht hE hP⟩, hS.F ht⟩) hS.2.2 dMo_demand_19
  · refine lv_iload_n hx hb dMo_demand_8 rfl (lv_at hl 2 rfl) ?_
    refine lv_iconst (v := (-1)) hx hb dMo_demand_9 (by decide) ?_
    refine lv_iconst (v := 1) hx hb dMo_demand_10 (by decide) ?_
    refine mk_rdS (As := [.int de, .int (-1), .int 1]) (rest := []) (w := []) ⟨hx, hb, hml, hown, hts⟩ (k_in l D g de (-1) 1) (va_cwS 3 hts (gd_S b_472 b_473 b_6 b_474) rfl rfl rfl (by decide +kernel) ⟨Nat.le_of_ble_eq_true rfl, Nat.le_of_ble_eq_true rfl⟩) hK hP hD hS hA [] rfl rfl rfl hl.1 rfl (Nat.le_of_ble_eq_true rfl) dMo_demand_11 ⟨Nat.zero_le _, Nat.zero_le _⟩ (fun H locs hP hS => ?_)
    refine lv_if_ne (tgt := 20) hx hb dMo_demand_14 (by decide) (fun c_2 => ?_) (fun c_2 => ?_)
    · refine lv_aload_n hx hb dMo_demand_20 rfl (lv_at hl 0 rfl) ?_
      refine va_get (D := D) (ci := iMo) (v := .ref (a 16)) (C := RMo) (T := TMo) (N := 32) hx hb htB inBMo hown hK hP 0 rfl rfl 16 (by decide) (htB _ b_386) (fun _ h9 => h9) rfl dMo_demand_21 ?_
      refine lv_iload_n hx hb dMo_demand_24 rfl (lv_at hl 1 rfl) ?_
      refine lv_iload_n hx hb dMo_demand_25 rfl (lv_at hl 2 rfl) ?_
      refine mk_iast (k := x.toNatClampNeg) hx hb hK hP hD hS 11 0 rfl rfl (mNo_ix c_1) ⟨mNo_lt hm c_1, by decide⟩ dMo_demand_26 (fun H locs hP hD hS => ?_)
      have hP : va_P D vwCl (wMo g a ((m1 M), ((xle (m2 M)), (xfr (m2 M)), (xsp (m2 M)), (xes (m2 M)), (xdo (m2 M)), (upd (xwi (m2 M)) x.toNatClampNeg de), (xdr (m2 M)), (xem (m2 M)), (xec (m2 M))), (m3 M), (m4 M), (m5 M))) H := hP
      have hD : va_D A (wMo g a ((m1 M), ((xle (m2 M)), (xfr (m2 M)), (xsp (m2 M)), (xes (m2 M)), (xdo (m2 M)), (upd (xwi (m2 M)) x.toNatClampNeg de), (xdr (m2 M)), (xem (m2 M)), (xec (m2 M))), (m3 M), (m4 M), (m5 M))) := hD
      refine lv_iconst (v := 1) hx hb dMo_demand_27 (by decide) ?_
      have hE : wMo g a (yDemand M x de).2 = wMo g a ((m1 M), ((xle (m2 M)), (xfr (m2 M)), (xsp (m2 M)), (xes (m2 M)), (xdo (m2 M)), (upd (xwi (m2 M)) x.toNatClampNeg de), (xdr (m2 M)), (xem (m2 M)), (xec (m2 M))), (m3 M), (m4 M), (m5 M)) := (by first | (simp only [yDemand, if_pos c_1, if_neg c_2] <;> rfl) | exact ((if_pos c_1).trans ((if_neg c_2).trans (rfl))).symm)
      exact W.iret (v := 1) hx hb hr (fun t9 ht hW => ⟨⟨1, (), rfl, (by first | (simp only [yDemand, if_pos c_1, if_neg c_2] <;> rfl) | exact ((if_pos c_1).trans ((if_neg c_2).trans (rfl))).symm), mk_end ht hE hP⟩, hS.F ht⟩) hS.2.2 dMo_demand_28
    · refine lv_ldc (v := (-1000000)) hx hb hown (htB _ b_475) dMo_demand_17 ?_
      have hE : wMo g a (yDemand M x de).2 = wMo g a M := (by first | (simp only [yDemand, if_pos c_1, if_pos c_2] <;> rfl) | exact ((if_pos c_1).trans ((if_pos c_2).trans (rfl))).symm)
      exact W.iret (v := (-1000000)) hx hb hr (fun t9 ht hW => ⟨⟨(-1000000), (), rfl, (by first | (simp only [yDemand, if_pos c_1, if_pos c_2] <;> rfl) | exact ((if_pos c_1).trans ((if_pos c_2).trans (rfl))).symm), mk_end ht hE hP⟩, hS.F ht⟩) hS.2.2 dMo_demand_19
set_option maxHeartbeats 4000000 in
set_option maxRecDepth 100000 in
/-- drift -/
theorem k_drift (l : Launch) (D : va_G) (g : Nat → ClassId) (a : Nat → Nat) (M : zMo) (hm : xtr (m5 M) ≤ 4) (x dr : Int32) : mk_Wi l yMo_drift wsMo_drift ({ frames := 1, cells := 0, slots := 0, locals := 22 }) D vwCl (zty g) [.ref (a 0), .int x, .int dr] (wMo g a M) (wMo g a (yDrift M x dr).2) ((yDrift M x dr).1) := by
  intro sz
  refine Met.ofW (cc := cMo_drift) (maxL := 3) (ret := (some .int)) (by decide) rfl ?_
  intro p e s m args below meth cd s₁ B hml hv
  obtain ⟨rfl, hsz, hP, hK, hD0⟩ := hv
  have hx := B.exec
  have hb := B.bytes
  have hr := B.returns
  have hts := atoms_spec (ws := wsMo_drift) B.pre
  have htB := fun (w : Cond) (h : w ∈ BIG) => hts w (List.mem_cons_of_mem _ h)
  have hown : s.vm.findClass RMo = some m.cls := findClass_of_methodNamed B.named
  have hlocks := B.notSynchronized
  subst hsz
  have hD := hD0.self (sz := s.heap.size)
  generalize hAe : va_A (wMo g a M) s.heap.size = A at hD ⊢
  have hA : ∀ q : Nat, s.heap.size ≤ q → A q := fun q h => by rw [← hAe]; exact Or.inr h
  have hS : va_S A s.heap s.heap [] := va_S.rf
  have hl := lv_entry ([.ref (a 0), .int x, .int dr]) (n := 3) (Nat.le_of_ble_eq_true rfl)
  rw [lg_entry_eq]
  generalize (lg_sl ([.ref (a 0), .int x, .int dr]) ++ List.replicate (3 - (lg_sl ([.ref (a 0), .int x, .int dr])).length) Slot.unset).toArray = ls at hl ⊢
  have hl : lv_has ls 3 [(0, .ref (a 0)), (1, .int x), (2, .int dr)] := hl
  have hP : va_P D vwCl (wMo g a M) s.heap := hP
  refine lv_aload_n hx hb dMo_drift_0 rfl (lv_at hl 0 rfl) ?_
  refine lv_iload_n hx hb dMo_drift_1 rfl (lv_at hl 1 rfl) ?_
  refine mk_rdV (As := [.int x]) (rest := []) (w := (wMo g a M)) (q0 := (RMo, TMo, 32)) (ci := iMo) ⟨hx, hb, hml, hown, hts⟩ (k_noTrain l D g a M x) (cwV 1 hts (gd_V b_498 b_500 bp_9 b_6 b_501) rfl rfl rfl (by decide +kernel) ⟨Nat.le_of_ble_eq_true rfl, Nat.le_of_ble_eq_true rfl⟩) hK hP hD hS hA (List.range 28) mo_cutAll mo_ndAll rfl rfl rfl hl.1 rfl (Nat.le_of_ble_eq_true rfl) dMo_drift_2 ⟨Nat.zero_le _, Nat.zero_le _⟩ (fun H locs hP hS => ?_)
  refine lv_if_ne (tgt := 18) hx hb dMo_drift_5 (by decide) (fun c_1 => ?_) (fun c_1 => ?_)
  · refine lv_ldc (v := (-1000000)) hx hb hown (htB _ b_475) dMo_drift_18 ?_
    have hE : wMo g a (yDrift M x dr).2 = wMo g a M := (by first | (simp only [yDrift, if_neg c_1] <;> rfl) | exact ((if_neg c_1).trans (rfl)).symm)
    exact W.iret (v := (-1000000)) hx hb hr (fun t9 ht hW => ⟨⟨(-1000000), (), rfl, (by first | (simp only [yDrift, if_neg c_1] <;> rfl) | exact ((if_neg c_1).trans (rfl)).symm), mk_end ht hE hP⟩, hS.F ht⟩) hS.2.2 dMo_drift_20
  · refine lv_iload_n hx hb dMo_drift_8 rfl (lv_at hl 2 rfl) ?_
    refine lv_bipush (v := (-2)) hx hb dMo_drift_9 (by decide) ?_
    refine lv_iconst (v := 2) hx hb dMo_drift_11 (by decide) ?_
    refine mk_rdS (As := [.int dr, .int (-2), .int 2]) (rest := []) (w := []) ⟨hx, hb, hml, hown, hts⟩ (k_in l D g dr (-2) 2) (va_cwS 3 hts (gd_S b_472 b_473 b_6 b_474) rfl rfl rfl (by decide +kernel) ⟨Nat.le_of_ble_eq_true rfl, Nat.le_of_ble_eq_true rfl⟩) hK hP hD hS hA [] rfl rfl rfl hl.1 rfl (Nat.le_of_ble_eq_true rfl) dMo_drift_12 ⟨Nat.zero_le _, Nat.zero_le _⟩ (fun H locs hP hS => ?_)
    refine lv_if_ne (tgt := 21) hx hb dMo_drift_15 (by decide) (fun c_2 => ?_) (fun c_2 => ?_)
    · refine lv_aload_n hx hb dMo_drift_21 rfl (lv_at hl 0 rfl) ?_
      refine va_get (D := D) (ci := iMo) (v := .ref (a 17)) (C := RMo) (T := TMo) (N := 32) hx hb htB inBMo hown hK hP 0 rfl rfl 17 (by decide) (htB _ b_387) (fun _ h9 => h9) rfl dMo_drift_22 ?_
      refine lv_iload_n hx hb dMo_drift_25 rfl (lv_at hl 1 rfl) ?_
      refine lv_iload_n hx hb dMo_drift_26 rfl (lv_at hl 2 rfl) ?_
      refine mk_iast (k := x.toNatClampNeg) hx hb hK hP hD hS 12 0 rfl rfl (mNo_ix c_1) ⟨mNo_lt hm c_1, by decide⟩ dMo_drift_27 (fun H locs hP hD hS => ?_)
      have hP : va_P D vwCl (wMo g a ((m1 M), ((xle (m2 M)), (xfr (m2 M)), (xsp (m2 M)), (xes (m2 M)), (xdo (m2 M)), (xwi (m2 M)), (upd (xdr (m2 M)) x.toNatClampNeg dr), (xem (m2 M)), (xec (m2 M))), (m3 M), (m4 M), (m5 M))) H := hP
      have hD : va_D A (wMo g a ((m1 M), ((xle (m2 M)), (xfr (m2 M)), (xsp (m2 M)), (xes (m2 M)), (xdo (m2 M)), (xwi (m2 M)), (upd (xdr (m2 M)) x.toNatClampNeg dr), (xem (m2 M)), (xec (m2 M))), (m3 M), (m4 M), (m5 M))) := hD
      refine lv_iconst (v := 1) hx hb dMo_drift_28 (by decide) ?_
      have hE : wMo g a (yDrift M x dr).2 = wMo g a ((m1 M), ((xle (m2 M)), (xfr (m2 M)), (xsp (m2 M)), (xes (m2 M)), (xdo (m2 M)), (xwi (m2 M)), (upd (xdr (m2 M)) x.toNatClampNeg dr), (xem (m2 M)), (xec (m2 M))), (m3 M), (m4 M), (m5 M)) := (by first | (simp only [yDrift, if_pos c_1, if_neg c_2] <;> rfl) | exact ((if_pos c_1).trans ((if_neg c_2).trans (rfl))).symm)
      exact W.iret (v := 1) hx hb hr (fun t9 ht hW => ⟨⟨1, (), rfl, (by first | (simp only [yDrift, if_pos c_1, if_neg c_2] <;> rfl) | exact ((if_pos c_1).trans ((if_neg c_2).trans (rfl))).symm), mk_end ht hE hP⟩, hS.F ht⟩) hS.2.2 dMo_drift_29
    · refine lv_ldc (v := (-1000000)) hx hb hown (htB _ b_475) dMo_drift_18 ?_
      have hE : wMo g a (yDrift M x dr).2 = wMo g a M := (by first | (simp only [yDrift, if_pos c_1, if_pos c_2] <;> rfl) | exact ((if_pos c_1).trans ((if_pos c_2).trans (rfl))).symm)
      exact W.iret (v := (-1000000)) hx hb hr (fun t9 ht hW => ⟨⟨(-1000000), (), rfl, (by first | (simp only [yDrift, if_pos c_1, if_pos c_2] <;> rfl) | exact ((if_pos c_1).trans ((if_pos c_2).trans (rfl))).symm), mk_end ht hE hP⟩, hS.F ht⟩) hS.2.2 dMo_drift_20
set_option maxHeartbeats 4000000 in
set_option maxRecDepth 100000 in
/-- radio -/
theorem k_radio (l : Launch) (D : va_G) (g : Nat → ClassId) (a : Nat → Nat) (M : zMo) (hm : xtr (m5 M) ≤ 4) (x u d : Int32) : mk_Wi l yMo_radio wsMo_radio ({ frames := 1, cells := 0, slots := 0, locals := 22 }) D vwCl (zty g) [.ref (a 0), .int x, .int u, .int d] (wMo g a M) (wMo g a (yRadio M x u d).2) ((yRadio M x u d).1) := by
  intro sz
  refine Met.ofW (cc := cMo_radio) (maxL := 4) (ret := (some .int)) (by decide) rfl ?_
  intro p e s m args below meth cd s₁ B hml hv
  obtain ⟨rfl, hsz, hP, hK, hD0⟩ := hv
  have hx := B.exec
  have hb := B.bytes
  have hr := B.returns
  have hts := atoms_spec (ws := wsMo_radio) B.pre
  have htB := fun (w : Cond) (h : w ∈ BIG) => hts w (List.mem_cons_of_mem _ h)
  have hown : s.vm.findClass RMo = some m.cls := findClass_of_methodNamed B.named
  have hlocks := B.notSynchronized
  subst hsz
  have hD := hD0.self (sz := s.heap.size)
  generalize hAe : va_A (wMo g a M) s.heap.size = A at hD ⊢
  have hA : ∀ q : Nat, s.heap.size ≤ q → A q := fun q h => by rw [← hAe]; exact Or.inr h
  have hS : va_S A s.heap s.heap [] := va_S.rf
  have hl := lv_entry ([.ref (a 0), .int x, .int u, .int d]) (n := 4) (Nat.le_of_ble_eq_true rfl)
  rw [lg_entry_eq]
  generalize (lg_sl ([.ref (a 0), .int x, .int u, .int d]) ++ List.replicate (4 - (lg_sl ([.ref (a 0), .int x, .int u, .int d])).length) Slot.unset).toArray = ls at hl ⊢
  have hl : lv_has ls 4 [(0, .ref (a 0)), (1, .int x), (2, .int u), (3, .int d)] := hl
  have hP : va_P D vwCl (wMo g a M) s.heap := hP
  refine lv_aload_n hx hb dMo_radio_0 rfl (lv_at hl 0 rfl) ?_
  refine lv_iload_n hx hb dMo_radio_1 rfl (lv_at hl 1 rfl) ?_
  refine mk_rdV (As := [.int x]) (rest := []) (w := (wMo g a M)) (q0 := (RMo, TMo, 32)) (ci := iMo) ⟨hx, hb, hml, hown, hts⟩ (k_noTrain l D g a M x) (cwV 1 hts (gd_V b_498 b_500 bp_9 b_6 b_501) rfl rfl rfl (by decide +kernel) ⟨Nat.le_of_ble_eq_true rfl, Nat.le_of_ble_eq_true rfl⟩) hK hP hD hS hA (List.range 28) mo_cutAll mo_ndAll rfl rfl rfl hl.1 rfl (Nat.le_of_ble_eq_true rfl) dMo_radio_2 ⟨Nat.zero_le _, Nat.zero_le _⟩ (fun H locs hP hS => ?_)
  refine lv_if_ne (tgt := 26) hx hb dMo_radio_5 (by decide) (fun c_1 => ?_) (fun c_1 => ?_)
  · refine lv_ldc (v := (-1000000)) hx hb hown (htB _ b_475) dMo_radio_26 ?_
    have hE : wMo g a (yRadio M x u d).2 = wMo g a M := (by first | (simp only [yRadio, if_neg c_1] <;> rfl) | exact ((if_neg c_1).trans (rfl)).symm)
    exact W.iret (v := (-1000000)) hx hb hr (fun t9 ht hW => ⟨⟨(-1000000), (), rfl, (by first | (simp only [yRadio, if_neg c_1] <;> rfl) | exact ((if_neg c_1).trans (rfl)).symm), mk_end ht hE hP⟩, hS.F ht⟩) hS.2.2 dMo_radio_28
  · refine lv_iload_n hx hb dMo_radio_8 rfl (lv_at hl 2 rfl) ?_
    refine lv_iconst (v := 0) hx hb dMo_radio_9 (by decide) ?_
    refine lv_iconst (v := 5) hx hb dMo_radio_10 (by decide) ?_
    refine mk_rdS (As := [.int u, .int 0, .int 5]) (rest := []) (w := []) ⟨hx, hb, hml, hown, hts⟩ (k_in l D g u 0 5) (va_cwS 3 hts (gd_S b_472 b_473 b_6 b_474) rfl rfl rfl (by decide +kernel) ⟨Nat.le_of_ble_eq_true rfl, Nat.le_of_ble_eq_true rfl⟩) hK hP hD hS hA [] rfl rfl rfl hl.1 rfl (Nat.le_of_ble_eq_true rfl) dMo_radio_11 ⟨Nat.zero_le _, Nat.zero_le _⟩ (fun H locs hP hS => ?_)
    refine lv_if_eq (tgt := 26) hx hb dMo_radio_14 (by decide) (fun c_2 => ?_) (fun c_2 => ?_)
    · refine lv_ldc (v := (-1000000)) hx hb hown (htB _ b_475) dMo_radio_26 ?_
      have hE : wMo g a (yRadio M x u d).2 = wMo g a M := (by first | (simp only [yRadio, if_pos c_1, if_pos c_2] <;> rfl) | exact ((if_pos c_1).trans ((if_pos c_2).trans (rfl))).symm)
      exact W.iret (v := (-1000000)) hx hb hr (fun t9 ht hW => ⟨⟨(-1000000), (), rfl, (by first | (simp only [yRadio, if_pos c_1, if_pos c_2] <;> rfl) | exact ((if_pos c_1).trans ((if_pos c_2).trans (rfl))).symm), mk_end ht hE hP⟩, hS.F ht⟩) hS.2.2 dMo_radio_28
    · refine lv_iload_n hx hb dMo_radio_17 rfl (lv_at hl 3 rfl) ?_
      refine lv_iconst (v := 0) hx hb dMo_radio_18 (by decide) ?_
      refine lv_iconst (v := 5) hx hb dMo_radio_19 (by decide) ?_
      refine mk_rdS (As := [.int d, .int 0, .int 5]) (rest := []) (w := []) ⟨hx, hb, hml, hown, hts⟩ (k_in l D g d 0 5) (va_cwS 3 hts (gd_S b_472 b_473 b_6 b_474) rfl rfl rfl (by decide +kernel) ⟨Nat.le_of_ble_eq_true rfl, Nat.le_of_ble_eq_true rfl⟩) hK hP hD hS hA [] rfl rfl rfl hl.1 rfl (Nat.le_of_ble_eq_true rfl) dMo_radio_20 ⟨Nat.zero_le _, Nat.zero_le _⟩ (fun H locs hP hS => ?_)
      refine lv_if_ne (tgt := 29) hx hb dMo_radio_23 (by decide) (fun c_3 => ?_) (fun c_3 => ?_)
      · refine lv_aload_n hx hb dMo_radio_29 rfl (lv_at hl 0 rfl) ?_
        refine va_get (D := D) (ci := iMo) (v := .ref (a 18)) (C := RMo) (T := TMo) (N := 32) hx hb htB inBMo hown hK hP 0 rfl rfl 18 (by decide) (htB _ b_388) (fun _ h9 => h9) rfl dMo_radio_30 ?_
        refine lv_iload_n hx hb dMo_radio_33 rfl (lv_at hl 1 rfl) ?_
        refine lv_iload_n hx hb dMo_radio_34 rfl (lv_at hl 2 rfl) ?_
        refine mk_iast (k := x.toNatClampNeg) hx hb hK hP hD hS 20 0 rfl rfl (mNo_ix c_1) ⟨mNo_lt hm c_1, by decide⟩ dMo_radio_35 (fun H locs hP hD hS => ?_)
        have hP : va_P D vwCl (wMo g a ((m1 M), (m2 M), ((xau (m3 M)), (xas (m3 M)), (xsr (m3 M)), (xst (m3 M)), (xrs (m3 M)), (upd (xup (m3 M)) x.toNatClampNeg u), (xbk (m3 M))), (m4 M), (m5 M))) H := hP
        have hD : va_D A (wMo g a ((m1 M), (m2 M), ((xau (m3 M)), (xas (m3 M)), (xsr (m3 M)), (xst (m3 M)), (xrs (m3 M)), (upd (xup (m3 M)) x.toNatClampNeg u), (xbk (m3 M))), (m4 M), (m5 M))) := hD
        refine lv_aload_n hx hb dMo_radio_36 rfl (lv_at hl 0 rfl) ?_
        refine va_get (D := D) (ci := iMo) (v := .ref (a 19)) (C := RMo) (T := TMo) (N := 32) hx hb htB inBMo hown hK hP 0 rfl rfl 19 (by decide) (htB _ b_389) (fun _ h9 => h9) rfl dMo_radio_37 ?_
        refine lv_iload_n hx hb dMo_radio_40 rfl (lv_at hl 1 rfl) ?_
        refine lv_iload_n hx hb dMo_radio_41 rfl (lv_at hl 3 rfl) ?_
        refine mk_iast (k := x.toNatClampNeg) hx hb hK hP hD hS 21 0 rfl rfl (mNo_ix c_1) ⟨mNo_lt hm c_1, by decide⟩ dMo_radio_42 (fun H locs hP hD hS => ?_)
        have hP : va_P D vwCl (wMo g a ((m1 M), (m2 M), ((xau (m3 M)), (xas (m3 M)), (xsr (m3 M)), (xst (m3 M)), (xrs (m3 M)), (upd (xup (m3 M)) x.toNatClampNeg u), (upd (xbk (m3 M)) x.toNatClampNeg d)), (m4 M), (m5 M))) H := hP
        have hD : va_D A (wMo g a ((m1 M), (m2 M), ((xau (m3 M)), (xas (m3 M)), (xsr (m3 M)), (xst (m3 M)), (xrs (m3 M)), (upd (xup (m3 M)) x.toNatClampNeg u), (upd (xbk (m3 M)) x.toNatClampNeg d)), (m4 M), (m5 M))) := hD
        refine lv_iconst (v := 1) hx hb dMo_radio_43 (by decide) ?_
        have hE : wMo g a (yRadio M x u d).2 = wMo g a ((m1 M), (m2 M), ((xau (m3 M)), (xas (m3 M)), (xsr (m3 M)), (xst (m3 M)), (xrs (m3 M)), (upd (xup (m3 M)) x.toNatClampNeg u), (upd (xbk (m3 M)) x.toNatClampNeg d)), (m4 M), (m5 M)) := (by first | (simp only [yRadio, if_pos c_1, if_neg c_2, if_neg c_3] <;> rfl) | exact ((if_pos c_1).trans ((if_neg c_2).trans ((if_neg c_3).trans (rfl)))).symm)
        exact W.iret (v := 1) hx hb hr (fun t9 ht hW => ⟨⟨1, (), rfl, (by first | (simp only [yRadio, if_pos c_1, if_neg c_2, if_neg c_3] <;> rfl) | exact ((if_pos c_1).trans ((if_neg c_2).trans ((if_neg c_3).trans (rfl)))).symm), mk_end ht hE hP⟩, hS.F ht⟩) hS.2.2 dMo_radio_44
      · refine lv_ldc (v := (-1000000)) hx hb hown (htB _ b_475) dMo_radio_26 ?_
        have hE : wMo g a (yRadio M x u d).2 = wMo g a M := (by first | (simp only [yRadio, if_pos c_1, if_neg c_2, if_pos c_3] <;> rfl) | exact ((if_pos c_1).trans ((if_neg c_2).trans ((if_pos c_3).trans (rfl)))).symm)
        exact W.iret (v := (-1000000)) hx hb hr (fun t9 ht hW => ⟨⟨(-1000000), (), rfl, (by first | (simp only [yRadio, if_pos c_1, if_neg c_2, if_pos c_3] <;> rfl) | exact ((if_pos c_1).trans ((if_neg c_2).trans ((if_pos c_3).trans (rfl)))).symm), mk_end ht hE hP⟩, hS.F ht⟩) hS.2.2 dMo_radio_28
