set_option maxHeartbeats 4000000 in
set_option maxRecDepth 100000 in
/-- isOutside -/
theorem c_isOutside (l : Launch) (D : va_G) (g : Nat → ClassId) (x lo hi : Int32) : mk_Rd l yMB_isOutside wsMB_isOutside ({ frames := 0, cells := 0, slots := 0, locals := 0 }) D vwCl (zty g) [.int x, .int lo, .int hi] ([]) (bI (jOut x lo hi)) := by
  intro sz
  refine Met.ofW (cc := cMB_isOutside) (maxL := 3) (ret := (some .boolean)) (by decide) rfl ?_
  intro p e s m args below meth cd s₁ B hml hv
  obtain ⟨rfl, hsz, hP, hK, hD0⟩ := hv
  have hx := B.exec
  have hb := B.bytes
  have hr := B.returns
  have hts := atoms_spec (ws := wsMB_isOutside) B.pre
  have htB := fun (w : Cond) (h : w ∈ BIG) => hts w (List.mem_cons_of_mem _ h)
  have hown : s.vm.findClass RMB = some m.cls := findClass_of_methodNamed B.named
  have hlocks := B.notSynchronized
  subst hsz
  have hD := hD0
  have hA : ∀ q : Nat, s.heap.size ≤ q → (fun q => s.heap.size ≤ q) q := fun _ h => h
  have hS : va_S (fun q => s.heap.size ≤ q) s.heap s.heap [] := va_S.rf
  have hl := lv_entry ([.int x, .int lo, .int hi]) (n := 3) (Nat.le_of_ble_eq_true rfl)
  rw [lg_entry_eq]
  generalize (lg_sl ([.int x, .int lo, .int hi]) ++ List.replicate (3 - (lg_sl ([.int x, .int lo, .int hi])).length) Slot.unset).toArray = ls at hl ⊢
  have hl : lv_has ls 3 [(0, .int x), (1, .int lo), (2, .int hi)] := hl
  have hP : va_P D vwCl ([]) s.heap := hP
  refine lv_iload_n hx hb dMB_isOutside_0 rfl (lv_at hl 0 rfl) ?_
  refine lv_iload_n hx hb dMB_isOutside_1 rfl (lv_at hl 1 rfl) ?_
  refine lv_icmp_lt (tgt := 10) hx hb dMB_isOutside_2 (by decide) (fun c_1 => ?_) (fun c_1 => ?_)
  · refine lv_iconst (v := 1) hx hb dMB_isOutside_10 (by decide) ?_
    refine lv_goto (tgt := 15) hx hb dMB_isOutside_11 (by decide) ?_
    exact W.zret (v := 1) hx hb hr rfl (fun t9 ht hW => ⟨⟨1, (), rfl, (by simp only [jOut, if_pos c_1] <;> rfl), trivial⟩, hS.F ht⟩) hS.2.2 dMB_isOutside_15
  · refine lv_iload_n hx hb dMB_isOutside_5 rfl (lv_at hl 0 rfl) ?_
    refine lv_iload_n hx hb dMB_isOutside_6 rfl (lv_at hl 2 rfl) ?_
    refine lv_icmp_le (tgt := 14) hx hb dMB_isOutside_7 (by decide) (fun c_2 => ?_) (fun c_2 => ?_)
    · refine lv_iconst (v := 0) hx hb dMB_isOutside_14 (by decide) ?_
      exact W.zret (v := 0) hx hb hr rfl (fun t9 ht hW => ⟨⟨0, (), rfl, (by simp only [jOut, if_neg c_1, if_pos c_2] <;> rfl), trivial⟩, hS.F ht⟩) hS.2.2 dMB_isOutside_15
    · refine lv_iconst (v := 1) hx hb dMB_isOutside_10 (by decide) ?_
      refine lv_goto (tgt := 15) hx hb dMB_isOutside_11 (by decide) ?_
      exact W.zret (v := 1) hx hb hr rfl (fun t9 ht hW => ⟨⟨1, (), rfl, (by simp only [jOut, if_neg c_1, if_neg c_2] <;> rfl), trivial⟩, hS.F ht⟩) hS.2.2 dMB_isOutside_15
set_option maxHeartbeats 4000000 in
set_option maxRecDepth 100000 in
/-- isNoTrain -/
theorem c_isNoTrain (l : Launch) (D : va_G) (g : Nat → ClassId) (G : zAd) (S : zMB) (hG : gOK G) (hm : sm S ≤ 4) (x : Int32) : mk_Rd l yMB_isNoTrain wsMB_isNoTrain ({ frames := 1, cells := 0, slots := 0, locals := 22 }) D vwCl (zty g) [.ref (go G 0), .int x] (wMB g G S) (bI (sNo S x)) := by
  intro sz
  refine Met.ofW (cc := cMB_isNoTrain) (maxL := 2) (ret := (some .boolean)) (by decide) rfl ?_
  intro p e s m args below meth cd s₁ B hml hv
  obtain ⟨rfl, hsz, hP, hK, hD0⟩ := hv
  have hx := B.exec
  have hb := B.bytes
  have hr := B.returns
  have hts := atoms_spec (ws := wsMB_isNoTrain) B.pre
  have htB := fun (w : Cond) (h : w ∈ BIG) => hts w (List.mem_cons_of_mem _ h)
  have hown : s.vm.findClass RMB = some m.cls := findClass_of_methodNamed B.named
  have hlocks := B.notSynchronized
  subst hsz
  have hD := hD0
  have hA : ∀ q : Nat, s.heap.size ≤ q → (fun q => s.heap.size ≤ q) q := fun _ h => h
  have hS : va_S (fun q => s.heap.size ≤ q) s.heap s.heap [] := va_S.rf
  have hl := lv_entry ([.ref (go G 0), .int x]) (n := 2) (Nat.le_of_ble_eq_true rfl)
  rw [lg_entry_eq]
  generalize (lg_sl ([.ref (go G 0), .int x]) ++ List.replicate (2 - (lg_sl ([.ref (go G 0), .int x])).length) Slot.unset).toArray = ls at hl ⊢
  have hl : lv_has ls 2 [(0, .ref (go G 0)), (1, .int x)] := hl
  have hP : va_P D vwCl (wMB g G S) s.heap := hP
  refine lv_iload_n hx hb dMB_isNoTrain_0 rfl (lv_at hl 1 rfl) ?_
  refine lv_iconst (v := 0) hx hb dMB_isNoTrain_1 (by decide) ?_
  refine lv_aload_n hx hb dMB_isNoTrain_2 rfl (lv_at hl 0 rfl) ?_
  refine va_get (D := D) (ci := iMB) (v := .int (nI (sm S))) (C := RMB) (T := TMB) (N := 5) hx hb htB inBMB hown hK hP 0 rfl rfl 3 (by decide) (htB _ b_153) (fun _ h9 => h9) rfl dMB_isNoTrain_3 ?_
  refine lv_iconst (v := 1) hx hb dMB_isNoTrain_6 (by decide) ?_
  refine lv_isub hx hb dMB_isNoTrain_7 ?_
  refine mk_rdS (As := [.int x, .int 0, .int ((nI (sm S)) - 1)]) (rest := []) (w := []) ⟨hx, hb, hml, hown, hts⟩ (c_isOutside l D g x 0 ((nI (sm S)) - 1)) (va_cwS 3 hts (gd_S b_170 b_171 b_1 b_172) rfl rfl rfl (by decide +kernel) ⟨Nat.le_of_ble_eq_true rfl, Nat.le_of_ble_eq_true rfl⟩) hK hP hD hS hA [] rfl rfl rfl hl.1 rfl (Nat.le_of_ble_eq_true rfl) dMB_isNoTrain_8 ⟨Nat.zero_le _, Nat.zero_le _⟩ (fun H locs hP hS => ?_)
  exact W.zret (v := bI (jOut x 0 ((nI (sm S)) - 1))) hx hb hr (bI_ret _) (fun t9 ht hW => ⟨⟨bI (jOut x 0 ((nI (sm S)) - 1)), (), rfl, (by first | rfl | (simp only [sNo] <;> rfl)), trivial⟩, hS.F ht⟩) hS.2.2 dMB_isNoTrain_11
set_option maxHeartbeats 4000000 in
set_option maxRecDepth 100000 in
/-- piece -/
theorem c_piece (l : Launch) (D : va_G) (g : Nat → ClassId) (G : zAd) (S : zMB) (hG : gOK G) (hm : sm S ≤ 4) (pi li gr : Int32) : mk_Wi l yMB_piece wsMB_piece ({ frames := 1, cells := 0, slots := 0, locals := 22 }) D vwCl (zty g) [.ref (go G 0), .int pi, .int li, .int gr] (wMB g G S) (wMB g G (xPiece S pi li gr).2) ((xPiece S pi li gr).1) := by
  intro sz
  refine Met.ofW (cc := cMB_piece) (maxL := 4) (ret := (some .int)) (by decide) rfl ?_
  intro p e s m args below meth cd s₁ B hml hv
  obtain ⟨rfl, hsz, hP, hK, hD0⟩ := hv
  have hx := B.exec
  have hb := B.bytes
  have hr := B.returns
  have hts := atoms_spec (ws := wsMB_piece) B.pre
  have htB := fun (w : Cond) (h : w ∈ BIG) => hts w (List.mem_cons_of_mem _ h)
  have hown : s.vm.findClass RMB = some m.cls := findClass_of_methodNamed B.named
  have hlocks := B.notSynchronized
  subst hsz
  have hD := hD0.self (sz := s.heap.size)
  generalize hAe : va_A (wMB g G S) s.heap.size = A at hD ⊢
  have hA : ∀ q : Nat, s.heap.size ≤ q → A q := fun q h => by rw [← hAe]; exact Or.inr h
  have hS : va_S A s.heap s.heap [] := va_S.rf
  have hl := lv_entry ([.ref (go G 0), .int pi, .int li, .int gr]) (n := 4) (Nat.le_of_ble_eq_true rfl)
  rw [lg_entry_eq]
  generalize (lg_sl ([.ref (go G 0), .int pi, .int li, .int gr]) ++ List.replicate (4 - (lg_sl ([.ref (go G 0), .int pi, .int li, .int gr])).length) Slot.unset).toArray = ls at hl ⊢
  have hl : lv_has ls 4 [(0, .ref (go G 0)), (1, .int pi), (2, .int li), (3, .int gr)] := hl
  have hP : va_P D vwCl (wMB g G S) s.heap := hP
  refine lv_iload_n hx hb dMB_piece_0 rfl (lv_at hl 1 rfl) ?_
  refine lv_iconst (v := 0) hx hb dMB_piece_1 (by decide) ?_
  refine lv_bipush (v := 7) hx hb dMB_piece_2 (by decide) ?_
  refine mk_rdS (As := [.int pi, .int 0, .int 7]) (rest := []) (w := []) ⟨hx, hb, hml, hown, hts⟩ (c_isOutside l D g pi 0 7) (va_cwS 3 hts (gd_S b_170 b_171 b_1 b_172) rfl rfl rfl (by decide +kernel) ⟨Nat.le_of_ble_eq_true rfl, Nat.le_of_ble_eq_true rfl⟩) hK hP hD hS hA [] rfl rfl rfl hl.1 rfl (Nat.le_of_ble_eq_true rfl) dMB_piece_4 ⟨Nat.zero_le _, Nat.zero_le _⟩ (fun H locs hP hS => ?_)
  refine lv_if_ne (tgt := 29) hx hb dMB_piece_7 (by decide) (fun c_1 => ?_) (fun c_1 => ?_)
  · refine lv_ldc (v := (-1000000)) hx hb hown (htB _ b_173) dMB_piece_29 ?_
    have hE : wMB g G (xPiece S pi li gr).2 = wMB g G S := (by simp only [xPiece, if_neg c_1] <;> rfl)
    exact W.iret (v := (-1000000)) hx hb hr (fun t9 ht hW => ⟨⟨(-1000000), (), rfl, (by simp only [xPiece, if_neg c_1] <;> rfl), mk_end ht hE hP⟩, hS.F ht⟩) hS.2.2 dMB_piece_31
  · refine lv_iload_n hx hb dMB_piece_10 rfl (lv_at hl 2 rfl) ?_
    refine lv_iconst (v := 1) hx hb dMB_piece_11 (by decide) ?_
    refine lv_bipush (v := 40) hx hb dMB_piece_12 (by decide) ?_
    refine mk_rdS (As := [.int li, .int 1, .int 40]) (rest := []) (w := []) ⟨hx, hb, hml, hown, hts⟩ (c_isOutside l D g li 1 40) (va_cwS 3 hts (gd_S b_170 b_171 b_1 b_172) rfl rfl rfl (by decide +kernel) ⟨Nat.le_of_ble_eq_true rfl, Nat.le_of_ble_eq_true rfl⟩) hK hP hD hS hA [] rfl rfl rfl hl.1 rfl (Nat.le_of_ble_eq_true rfl) dMB_piece_14 ⟨Nat.zero_le _, Nat.zero_le _⟩ (fun H locs hP hS => ?_)
    refine lv_if_ne (tgt := 29) hx hb dMB_piece_17 (by decide) (fun c_2 => ?_) (fun c_2 => ?_)
    · refine lv_ldc (v := (-1000000)) hx hb hown (htB _ b_173) dMB_piece_29 ?_
      have hE : wMB g G (xPiece S pi li gr).2 = wMB g G S := (by simp only [xPiece, if_pos c_1, if_neg c_2] <;> rfl)
      exact W.iret (v := (-1000000)) hx hb hr (fun t9 ht hW => ⟨⟨(-1000000), (), rfl, (by simp only [xPiece, if_pos c_1, if_neg c_2] <;> rfl), mk_end ht hE hP⟩, hS.F ht⟩) hS.2.2 dMB_piece_31
    · refine lv_iload_n hx hb dMB_piece_20 rfl (lv_at hl 3 rfl) ?_
      refine lv_iconst (v := (-1)) hx hb dMB_piece_21 (by decide) ?_
      refine lv_iconst (v := 1) hx hb dMB_piece_22 (by decide) ?_
      refine mk_rdS (As := [.int gr, .int (-1), .int 1]) (rest := []) (w := []) ⟨hx, hb, hml, hown, hts⟩ (c_isOutside l D g gr (-1) 1) (va_cwS 3 hts (gd_S b_170 b_171 b_1 b_172) rfl rfl rfl (by decide +kernel) ⟨Nat.le_of_ble_eq_true rfl, Nat.le_of_ble_eq_true rfl⟩) hK hP hD hS hA [] rfl rfl rfl hl.1 rfl (Nat.le_of_ble_eq_true rfl) dMB_piece_23 ⟨Nat.zero_le _, Nat.zero_le _⟩ (fun H locs hP hS => ?_)
      refine lv_if_eq (tgt := 32) hx hb dMB_piece_26 (by decide) (fun c_3 => ?_) (fun c_3 => ?_)
      · refine lv_aload_n hx hb dMB_piece_32 rfl (lv_at hl 0 rfl) ?_
        refine va_get (D := D) (ci := iMB) (v := .ref (gb G 0)) (C := RMB) (T := TMB) (N := 5) hx hb htB inBMB hown hK hP 0 rfl rfl 0 (by decide) (htB _ b_150) (fun _ h9 => h9) rfl dMB_piece_33 ?_
        refine va_get (D := D) (ci := iTk) (v := .ref (gb G 1)) (C := RTk) (T := TTk) (N := 2) hx hb htB inBTk hown hK hP 1 rfl rfl 0 (by decide) (htB _ b_23) (fun _ h9 => h9) rfl dMB_piece_36 ?_
        refine lv_iload_n hx hb dMB_piece_39 rfl (lv_at hl 1 rfl) ?_
        refine lv_iload_n hx hb dMB_piece_40 rfl (lv_at hl 2 rfl) ?_
        refine lv_bipush (v := 8) hx hb dMB_piece_41 (by decide) ?_
        refine lv_imul hx hb dMB_piece_43 ?_
        refine mk_iast (k := pi.toNatClampNeg) hx hb hK hP hD hS 2 0 rfl rfl (jOut_ix c_1) ⟨jOut_lt (n := 8) c_1 (by decide) rfl, by decide⟩ dMB_piece_44 (fun H locs hP hD hS => ?_)
        have hP : va_P D vwCl (wMB g G ((sT S), ((upd (kli (sk S)) pi.toNatClampNeg (li * 8)), (kgr (sk S))), (sy S), (sm S), (sn S))) H := hP
        have hD : va_D A (wMB g G ((sT S), ((upd (kli (sk S)) pi.toNatClampNeg (li * 8)), (kgr (sk S))), (sy S), (sm S), (sn S))) := hD
        refine lv_aload_n hx hb dMB_piece_45 rfl (lv_at hl 0 rfl) ?_
        refine va_get (D := D) (ci := iMB) (v := .ref (gb G 0)) (C := RMB) (T := TMB) (N := 5) hx hb htB inBMB hown hK hP 0 rfl rfl 0 (by decide) (htB _ b_150) (fun _ h9 => h9) rfl dMB_piece_46 ?_
        refine va_get (D := D) (ci := iTk) (v := .ref (gb G 2)) (C := RTk) (T := TTk) (N := 2) hx hb htB inBTk hown hK hP 1 rfl rfl 1 (by decide) (htB _ b_25) (fun _ h9 => h9) rfl dMB_piece_49 ?_
        refine lv_iload_n hx hb dMB_piece_52 rfl (lv_at hl 1 rfl) ?_
        refine lv_iload_n hx hb dMB_piece_53 rfl (lv_at hl 3 rfl) ?_
        refine mk_iast (k := pi.toNatClampNeg) hx hb hK hP hD hS 3 0 rfl rfl (jOut_ix c_1) ⟨jOut_lt (n := 8) c_1 (by decide) rfl, by decide⟩ dMB_piece_54 (fun H locs hP hD hS => ?_)
        have hP : va_P D vwCl (wMB g G ((sT S), ((upd (kli (sk S)) pi.toNatClampNeg (li * 8)), (upd (kgr (sk S)) pi.toNatClampNeg gr)), (sy S), (sm S), (sn S))) H := hP
        have hD : va_D A (wMB g G ((sT S), ((upd (kli (sk S)) pi.toNatClampNeg (li * 8)), (upd (kgr (sk S)) pi.toNatClampNeg gr)), (sy S), (sm S), (sn S))) := hD
        refine lv_iconst (v := 1) hx hb dMB_piece_55 (by decide) ?_
        have hE : wMB g G (xPiece S pi li gr).2 = wMB g G ((sT S), ((upd (kli (sk S)) pi.toNatClampNeg (li * 8)), (upd (kgr (sk S)) pi.toNatClampNeg gr)), (sy S), (sm S), (sn S)) := (by simp only [xPiece, if_pos c_1, if_pos c_2, if_pos c_3] <;> rfl)
        exact W.iret (v := 1) hx hb hr (fun t9 ht hW => ⟨⟨1, (), rfl, (by simp only [xPiece, if_pos c_1, if_pos c_2, if_pos c_3] <;> rfl), mk_end ht hE hP⟩, hS.F ht⟩) hS.2.2 dMB_piece_56
      · refine lv_ldc (v := (-1000000)) hx hb hown (htB _ b_173) dMB_piece_29 ?_
        have hE : wMB g G (xPiece S pi li gr).2 = wMB g G S := (by simp only [xPiece, if_pos c_1, if_pos c_2, if_neg c_3] <;> rfl)
        exact W.iret (v := (-1000000)) hx hb hr (fun t9 ht hW => ⟨⟨(-1000000), (), rfl, (by simp only [xPiece, if_pos c_1, if_pos c_2, if_neg c_3] <;> rfl), mk_end ht hE hP⟩, hS.F ht⟩) hS.2.2 dMB_piece_31
set_option maxHeartbeats 4000000 in
set_option maxRecDepth 100000 in
/-- hold -/
theorem c_hold (l : Launch) (D : va_G) (g : Nat → ClassId) (G : zAd) (S : zMB) (hG : gOK G) (hm : sm S ≤ 4) (h pl : Int32) (z : Bool) : mk_Wi l yMB_hold wsMB_hold ({ frames := 1, cells := 0, slots := 0, locals := 22 }) D vwCl (zty g) [.ref (go G 0), .int h, .int pl, .int (bI z)] (wMB g G S) (wMB g G (xHold S h pl z).2) ((xHold S h pl z).1) := by
  intro sz
  refine Met.ofW (cc := cMB_hold) (maxL := 4) (ret := (some .int)) (by decide) rfl ?_
  intro p e s m args below meth cd s₁ B hml hv
  obtain ⟨rfl, hsz, hP, hK, hD0⟩ := hv
  have hx := B.exec
  have hb := B.bytes
  have hr := B.returns
  have hts := atoms_spec (ws := wsMB_hold) B.pre
  have htB := fun (w : Cond) (h : w ∈ BIG) => hts w (List.mem_cons_of_mem _ h)
  have hown : s.vm.findClass RMB = some m.cls := findClass_of_methodNamed B.named
  have hlocks := B.notSynchronized
  subst hsz
  have hD := hD0.self (sz := s.heap.size)
  generalize hAe : va_A (wMB g G S) s.heap.size = A at hD ⊢
  have hA : ∀ q : Nat, s.heap.size ≤ q → A q := fun q h => by rw [← hAe]; exact Or.inr h
  have hS : va_S A s.heap s.heap [] := va_S.rf
  have hl := lv_entry ([.ref (go G 0), .int h, .int pl, .int (bI z)]) (n := 4) (Nat.le_of_ble_eq_true rfl)
  rw [lg_entry_eq]
  generalize (lg_sl ([.ref (go G 0), .int h, .int pl, .int (bI z)]) ++ List.replicate (4 - (lg_sl ([.ref (go G 0), .int h, .int pl, .int (bI z)])).length) Slot.unset).toArray = ls at hl ⊢
  have hl : lv_has ls 4 [(0, .ref (go G 0)), (1, .int h), (2, .int pl), (3, .int (bI z))] := hl
  have hP : va_P D vwCl (wMB g G S) s.heap := hP
  refine lv_iload_n hx hb dMB_hold_0 rfl (lv_at hl 1 rfl) ?_
  refine lv_iconst (v := 0) hx hb dMB_hold_1 (by decide) ?_
  refine lv_iconst (v := 3) hx hb dMB_hold_2 (by decide) ?_
  refine mk_rdS (As := [.int h, .int 0, .int 3]) (rest := []) (w := []) ⟨hx, hb, hml, hown, hts⟩ (c_isOutside l D g h 0 3) (va_cwS 3 hts (gd_S b_170 b_171 b_1 b_172) rfl rfl rfl (by decide +kernel) ⟨Nat.le_of_ble_eq_true rfl, Nat.le_of_ble_eq_true rfl⟩) hK hP hD hS hA [] rfl rfl rfl hl.1 rfl (Nat.le_of_ble_eq_true rfl) dMB_hold_3 ⟨Nat.zero_le _, Nat.zero_le _⟩ (fun H locs hP hS => ?_)
  refine lv_if_ne (tgt := 20) hx hb dMB_hold_6 (by decide) (fun c_1 => ?_) (fun c_1 => ?_)
  · refine lv_ldc (v := (-1000000)) hx hb hown (htB _ b_173) dMB_hold_20 ?_
    have hE : wMB g G (xHold S h pl z).2 = wMB g G S := (by simp only [xHold, if_neg c_1] <;> rfl)
    exact W.iret (v := (-1000000)) hx hb hr (fun t9 ht hW => ⟨⟨(-1000000), (), rfl, (by simp only [xHold, if_neg c_1] <;> rfl), mk_end ht hE hP⟩, hS.F ht⟩) hS.2.2 dMB_hold_22
  · refine lv_iload_n hx hb dMB_hold_9 rfl (lv_at hl 2 rfl) ?_
    refine lv_iconst (v := 0) hx hb dMB_hold_10 (by decide) ?_
    refine lv_sipush (v := 4096) hx hb dMB_hold_11 (by decide) ?_
    refine mk_rdS (As := [.int pl, .int 0, .int 4096]) (rest := []) (w := []) ⟨hx, hb, hml, hown, hts⟩ (c_isOutside l D g pl 0 4096) (va_cwS 3 hts (gd_S b_170 b_171 b_1 b_172) rfl rfl rfl (by decide +kernel) ⟨Nat.le_of_ble_eq_true rfl, Nat.le_of_ble_eq_true rfl⟩) hK hP hD hS hA [] rfl rfl rfl hl.1 rfl (Nat.le_of_ble_eq_true rfl) dMB_hold_14 ⟨Nat.zero_le _, Nat.zero_le _⟩ (fun H locs hP hS => ?_)
    refine lv_if_eq (tgt := 23) hx hb dMB_hold_17 (by decide) (fun c_2 => ?_) (fun c_2 => ?_)
    · refine lv_aload_n hx hb dMB_hold_23 rfl (lv_at hl 0 rfl) ?_
      refine va_get (D := D) (ci := iMB) (v := .ref (gd G 0)) (C := RMB) (T := TMB) (N := 5) hx hb htB inBMB hown hK hP 0 rfl rfl 1 (by decide) (htB _ b_151) (fun _ h9 => h9) rfl dMB_hold_24 ?_
      refine va_get (D := D) (ci := iWy) (v := .ref (gd G 1)) (C := RWy) (T := TWy) (N := 3) hx hb htB inBWy hown hK hP 4 rfl rfl 0 (by decide) (htB _ b_41) (fun _ h9 => h9) rfl dMB_hold_27 ?_
      refine lv_iload_n hx hb dMB_hold_30 rfl (lv_at hl 1 rfl) ?_
      refine lv_iload_n hx hb dMB_hold_31 rfl (lv_at hl 2 rfl) ?_
      refine lv_bipush (v := 8) hx hb dMB_hold_32 (by decide) ?_
      refine lv_imul hx hb dMB_hold_34 ?_
      refine mk_iast (k := h.toNatClampNeg) hx hb hK hP hD hS 5 0 rfl rfl (jOut_ix c_1) ⟨jOut_lt (n := 4) c_1 (by decide) rfl, by decide⟩ dMB_hold_35 (fun H locs hP hD hS => ?_)
      have hP : va_P D vwCl (wMB g G ((sT S), (sk S), ((upd (ypl (sy S)) h.toNatClampNeg (pl * 8)), (ycl (sy S)), (yup (sy S))), (sm S), (sn S))) H := hP
      have hD : va_D A (wMB g G ((sT S), (sk S), ((upd (ypl (sy S)) h.toNatClampNeg (pl * 8)), (ycl (sy S)), (yup (sy S))), (sm S), (sn S))) := hD
      refine lv_aload_n hx hb dMB_hold_36 rfl (lv_at hl 0 rfl) ?_
      refine va_get (D := D) (ci := iMB) (v := .ref (gd G 0)) (C := RMB) (T := TMB) (N := 5) hx hb htB inBMB hown hK hP 0 rfl rfl 1 (by decide) (htB _ b_151) (fun _ h9 => h9) rfl dMB_hold_37 ?_
      refine va_get (D := D) (ci := iWy) (v := .ref (gd G 2)) (C := RWy) (T := TWy) (N := 3) hx hb htB inBWy hown hK hP 4 rfl rfl 1 (by decide) (htB _ b_43) (fun _ h9 => h9) rfl dMB_hold_40 ?_
      refine lv_iload_n hx hb dMB_hold_43 rfl (lv_at hl 1 rfl) ?_
      refine lv_iload_n hx hb dMB_hold_44 rfl (lv_at hl 3 rfl) ?_
      refine mk_zast (k := h.toNatClampNeg) hx hb hK hP hD hS 6 1 rfl rfl (jOut_ix c_1) ⟨jOut_lt (n := 4) c_1 (by decide) rfl, by decide⟩ dMB_hold_45 (fun H locs hP hD hS => ?_)
      have hP : va_P D vwCl (wMB g G ((sT S), (sk S), ((upd (ypl (sy S)) h.toNatClampNeg (pl * 8)), (va_up (ycl (sy S)) h.toNatClampNeg z), (yup (sy S))), (sm S), (sn S))) H := hP
      have hD : va_D A (wMB g G ((sT S), (sk S), ((upd (ypl (sy S)) h.toNatClampNeg (pl * 8)), (va_up (ycl (sy S)) h.toNatClampNeg z), (yup (sy S))), (sm S), (sn S))) := hD
      refine lv_iconst (v := 1) hx hb dMB_hold_46 (by decide) ?_
      have hE : wMB g G (xHold S h pl z).2 = wMB g G ((sT S), (sk S), ((upd (ypl (sy S)) h.toNatClampNeg (pl * 8)), (va_up (ycl (sy S)) h.toNatClampNeg z), (yup (sy S))), (sm S), (sn S)) := (by simp only [xHold, if_pos c_1, if_pos c_2] <;> rfl)
      exact W.iret (v := 1) hx hb hr (fun t9 ht hW => ⟨⟨1, (), rfl, (by simp only [xHold, if_pos c_1, if_pos c_2] <;> rfl), mk_end ht hE hP⟩, hS.F ht⟩) hS.2.2 dMB_hold_47
    · refine lv_ldc (v := (-1000000)) hx hb hown (htB _ b_173) dMB_hold_20 ?_
      have hE : wMB g G (xHold S h pl z).2 = wMB g G S := (by simp only [xHold, if_pos c_1, if_neg c_2] <;> rfl)
      exact W.iret (v := (-1000000)) hx hb hr (fun t9 ht hW => ⟨⟨(-1000000), (), rfl, (by simp only [xHold, if_pos c_1, if_neg c_2] <;> rfl), mk_end ht hE hP⟩, hS.F ht⟩) hS.2.2 dMB_hold_22
set_option maxHeartbeats 4000000 in
set_option maxRecDepth 100000 in
/-- controller -/
theorem c_controller (l : Launch) (D : va_G) (g : Nat → ClassId) (G : zAd) (S : zMB) (hG : gOK G) (hm : sm S ≤ 4) (o : Int32) (z : Bool) : mk_Wi l yMB_controller wsMB_controller ({ frames := 1, cells := 0, slots := 0, locals := 22 }) D vwCl (zty g) [.ref (go G 0), .int o, .int (bI z)] (wMB g G S) (wMB g G (xCtl S o z).2) ((xCtl S o z).1) := by
  intro sz
  refine Met.ofW (cc := cMB_controller) (maxL := 3) (ret := (some .int)) (by decide) rfl ?_
  intro p e s m args below meth cd s₁ B hml hv
  obtain ⟨rfl, hsz, hP, hK, hD0⟩ := hv
  have hx := B.exec
  have hb := B.bytes
  have hr := B.returns
  have hts := atoms_spec (ws := wsMB_controller) B.pre
  have htB := fun (w : Cond) (h : w ∈ BIG) => hts w (List.mem_cons_of_mem _ h)
  have hown : s.vm.findClass RMB = some m.cls := findClass_of_methodNamed B.named
  have hlocks := B.notSynchronized
  subst hsz
  have hD := hD0.self (sz := s.heap.size)
  generalize hAe : va_A (wMB g G S) s.heap.size = A at hD ⊢
  have hA : ∀ q : Nat, s.heap.size ≤ q → A q := fun q h => by rw [← hAe]; exact Or.inr h
  have hS : va_S A s.heap s.heap [] := va_S.rf
  have hl := lv_entry ([.ref (go G 0), .int o, .int (bI z)]) (n := 3) (Nat.le_of_ble_eq_true rfl)
  rw [lg_entry_eq]
  generalize (lg_sl ([.ref (go G 0), .int o, .int (bI z)]) ++ List.replicate (3 - (lg_sl ([.ref (go G 0), .int o, .int (bI z)])).length) Slot.unset).toArray = ls at hl ⊢
  have hl : lv_has ls 3 [(0, .ref (go G 0)), (1, .int o), (2, .int (bI z))] := hl
  have hP : va_P D vwCl (wMB g G S) s.heap := hP
  refine lv_iload_n hx hb dMB_controller_0 rfl (lv_at hl 1 rfl) ?_
  refine lv_iconst (v := 0) hx hb dMB_controller_1 (by decide) ?_
  refine lv_iconst (v := 1) hx hb dMB_controller_2 (by decide) ?_
  refine mk_rdS (As := [.int o, .int 0, .int 1]) (rest := []) (w := []) ⟨hx, hb, hml, hown, hts⟩ (c_isOutside l D g o 0 1) (va_cwS 3 hts (gd_S b_170 b_171 b_1 b_172) rfl rfl rfl (by decide +kernel) ⟨Nat.le_of_ble_eq_true rfl, Nat.le_of_ble_eq_true rfl⟩) hK hP hD hS hA [] rfl rfl rfl hl.1 rfl (Nat.le_of_ble_eq_true rfl) dMB_controller_3 ⟨Nat.zero_le _, Nat.zero_le _⟩ (fun H locs hP hS => ?_)
  refine lv_if_eq (tgt := 12) hx hb dMB_controller_6 (by decide) (fun c_1 => ?_) (fun c_1 => ?_)
  · refine lv_aload_n hx hb dMB_controller_12 rfl (lv_at hl 0 rfl) ?_
    refine va_get (D := D) (ci := iMB) (v := .ref (gd G 0)) (C := RMB) (T := TMB) (N := 5) hx hb htB inBMB hown hK hP 0 rfl rfl 1 (by decide) (htB _ b_151) (fun _ h9 => h9) rfl dMB_controller_13 ?_
    refine va_get (D := D) (ci := iWy) (v := .ref (gd G 3)) (C := RWy) (T := TWy) (N := 3) hx hb htB inBWy hown hK hP 4 rfl rfl 2 (by decide) (htB _ b_45) (fun _ h9 => h9) rfl dMB_controller_16 ?_
    refine lv_iload_n hx hb dMB_controller_19 rfl (lv_at hl 1 rfl) ?_
    refine mk_zald (k := o.toNatClampNeg) hx hb hK hP 7 1 rfl rfl (jOut_ix c_1) ⟨jOut_lt (n := 2) c_1 (by decide) rfl, by decide⟩ dMB_controller_20 ?_
    refine lv_iload_n hx hb dMB_controller_21 rfl (lv_at hl 2 rfl) ?_
    refine lv_icmp_ne (tgt := 27) hx hb dMB_controller_22 (by decide) (fun c_2 => ?_) (fun c_2 => ?_)
    · refine lv_aload_n hx hb dMB_controller_27 rfl (lv_at hl 0 rfl) ?_
      refine va_get (D := D) (ci := iMB) (v := .ref (gd G 0)) (C := RMB) (T := TMB) (N := 5) hx hb htB inBMB hown hK hP 0 rfl rfl 1 (by decide) (htB _ b_151) (fun _ h9 => h9) rfl dMB_controller_28 ?_
      refine va_get (D := D) (ci := iWy) (v := .ref (gd G 3)) (C := RWy) (T := TWy) (N := 3) hx hb htB inBWy hown hK hP 4 rfl rfl 2 (by decide) (htB _ b_45) (fun _ h9 => h9) rfl dMB_controller_31 ?_
      refine lv_iload_n hx hb dMB_controller_34 rfl (lv_at hl 1 rfl) ?_
      refine lv_iload_n hx hb dMB_controller_35 rfl (lv_at hl 2 rfl) ?_
      refine mk_zast (k := o.toNatClampNeg) hx hb hK hP hD hS 7 1 rfl rfl (jOut_ix c_1) ⟨jOut_lt (n := 2) c_1 (by decide) rfl, by decide⟩ dMB_controller_36 (fun H locs hP hD hS => ?_)
      have hP : va_P D vwCl (wMB g G ((sT S), (sk S), ((ypl (sy S)), (ycl (sy S)), (va_up (yup (sy S)) o.toNatClampNeg z)), (sm S), (sn S))) H := hP
      have hD : va_D A (wMB g G ((sT S), (sk S), ((ypl (sy S)), (ycl (sy S)), (va_up (yup (sy S)) o.toNatClampNeg z)), (sm S), (sn S))) := hD
      refine lv_iconst (v := 1) hx hb dMB_controller_37 (by decide) ?_
      have hE : wMB g G (xCtl S o z).2 = wMB g G ((sT S), (sk S), ((ypl (sy S)), (ycl (sy S)), (va_up (yup (sy S)) o.toNatClampNeg z)), (sm S), (sn S)) := (by simp only [xCtl, if_pos c_1, if_neg c_2] <;> rfl)
      exact W.iret (v := 1) hx hb hr (fun t9 ht hW => ⟨⟨1, (), rfl, (by simp only [xCtl, if_pos c_1, if_neg c_2] <;> rfl), mk_end ht hE hP⟩, hS.F ht⟩) hS.2.2 dMB_controller_38
    · refine lv_iconst (v := 0) hx hb dMB_controller_25 (by decide) ?_
      have hE : wMB g G (xCtl S o z).2 = wMB g G S := (by simp only [xCtl, if_pos c_1, if_pos c_2] <;> rfl)
      exact W.iret (v := 0) hx hb hr (fun t9 ht hW => ⟨⟨0, (), rfl, (by simp only [xCtl, if_pos c_1, if_pos c_2] <;> rfl), mk_end ht hE hP⟩, hS.F ht⟩) hS.2.2 dMB_controller_26
  · refine lv_ldc (v := (-1000000)) hx hb hown (htB _ b_173) dMB_controller_9 ?_
    have hE : wMB g G (xCtl S o z).2 = wMB g G S := (by simp only [xCtl, if_neg c_1] <;> rfl)
    exact W.iret (v := (-1000000)) hx hb hr (fun t9 ht hW => ⟨⟨(-1000000), (), rfl, (by simp only [xCtl, if_neg c_1] <;> rfl), mk_end ht hE hP⟩, hS.F ht⟩) hS.2.2 dMB_controller_11
set_option maxHeartbeats 4000000 in
set_option maxRecDepth 100000 in
/-- demand -/
theorem c_demand (l : Launch) (D : va_G) (g : Nat → ClassId) (G : zAd) (S : zMB) (hG : gOK G) (hm : sm S ≤ 4) (x de : Int32) : mk_Wi l yMB_demand wsMB_demand ({ frames := 2, cells := 0, slots := 0, locals := 43 }) D vwCl (zty g) [.ref (go G 0), .int x, .int de] (wMB g G S) (wMB g G (xDemand S x de).2) ((xDemand S x de).1) := by
  intro sz
  refine Met.ofW (cc := cMB_demand) (maxL := 3) (ret := (some .int)) (by decide) rfl ?_
  intro p e s m args below meth cd s₁ B hml hv
  obtain ⟨rfl, hsz, hP, hK, hD0⟩ := hv
  have hx := B.exec
  have hb := B.bytes
  have hr := B.returns
  have hts := atoms_spec (ws := wsMB_demand) B.pre
  have htB := fun (w : Cond) (h : w ∈ BIG) => hts w (List.mem_cons_of_mem _ h)
  have hown : s.vm.findClass RMB = some m.cls := findClass_of_methodNamed B.named
  have hlocks := B.notSynchronized
  subst hsz
  have hD := hD0.self (sz := s.heap.size)
  generalize hAe : va_A (wMB g G S) s.heap.size = A at hD ⊢
  have hA : ∀ q : Nat, s.heap.size ≤ q → A q := fun q h => by rw [← hAe]; exact Or.inr h
  have hS : va_S A s.heap s.heap [] := va_S.rf
  have hl := lv_entry ([.ref (go G 0), .int x, .int de]) (n := 3) (Nat.le_of_ble_eq_true rfl)
  rw [lg_entry_eq]
  generalize (lg_sl ([.ref (go G 0), .int x, .int de]) ++ List.replicate (3 - (lg_sl ([.ref (go G 0), .int x, .int de])).length) Slot.unset).toArray = ls at hl ⊢
  have hl : lv_has ls 3 [(0, .ref (go G 0)), (1, .int x), (2, .int de)] := hl
  have hP : va_P D vwCl (wMB g G S) s.heap := hP
  refine lv_aload_n hx hb dMB_demand_0 rfl (lv_at hl 0 rfl) ?_
  refine lv_iload_n hx hb dMB_demand_1 rfl (lv_at hl 1 rfl) ?_
  refine mk_rdV (As := [.int x]) (rest := []) (w := (wMB g G S)) (q0 := (RMB, TMB, 5)) (ci := iMB) ⟨hx, hb, hml, hown, hts⟩ (c_isNoTrain l D g G S hG hm x) (cwV 1 hts (gd_V b_198 b_200 bp_0 b_1 b_201) rfl rfl rfl (by decide +kernel) ⟨Nat.le_of_ble_eq_true rfl, Nat.le_of_ble_eq_true rfl⟩) hK hP hD hS hA (List.range 53) mb_cutAll mb_ndAll rfl rfl rfl hl.1 rfl (Nat.le_of_ble_eq_true rfl) dMB_demand_2 ⟨Nat.zero_le _, Nat.zero_le _⟩ (fun H locs hP hS => ?_)
  refine lv_if_ne (tgt := 17) hx hb dMB_demand_5 (by decide) (fun c_1 => ?_) (fun c_1 => ?_)
  · refine lv_ldc (v := (-1000000)) hx hb hown (htB _ b_173) dMB_demand_17 ?_
    have hE : wMB g G (xDemand S x de).2 = wMB g G S := (by simp only [xDemand, sSetT, tSetDe, if_neg c_1] <;> rfl)
    exact W.iret (v := (-1000000)) hx hb hr (fun t9 ht hW => ⟨⟨(-1000000), (), rfl, (by simp only [xDemand, sSetT, tSetDe, if_neg c_1] <;> rfl), mk_end ht hE hP⟩, hS.F ht⟩) hS.2.2 dMB_demand_19
  · refine lv_iload_n hx hb dMB_demand_8 rfl (lv_at hl 2 rfl) ?_
    refine lv_iconst (v := (-1)) hx hb dMB_demand_9 (by decide) ?_
    refine lv_iconst (v := 1) hx hb dMB_demand_10 (by decide) ?_
    refine mk_rdS (As := [.int de, .int (-1), .int 1]) (rest := []) (w := []) ⟨hx, hb, hml, hown, hts⟩ (c_isOutside l D g de (-1) 1) (va_cwS 3 hts (gd_S b_170 b_171 b_1 b_172) rfl rfl rfl (by decide +kernel) ⟨Nat.le_of_ble_eq_true rfl, Nat.le_of_ble_eq_true rfl⟩) hK hP hD hS hA [] rfl rfl rfl hl.1 rfl (Nat.le_of_ble_eq_true rfl) dMB_demand_11 ⟨Nat.zero_le _, Nat.zero_le _⟩ (fun H locs hP hS => ?_)
    refine lv_if_eq (tgt := 20) hx hb dMB_demand_14 (by decide) (fun c_2 => ?_) (fun c_2 => ?_)
    · refine lv_aload_n hx hb dMB_demand_20 rfl (lv_at hl 0 rfl) ?_
      refine va_get (D := D) (ci := iMB) (v := .ref (go G 1)) (C := RMB) (T := TMB) (N := 5) hx hb htB inBMB hown hK hP 0 rfl rfl 2 (by decide) (htB _ b_152) (fun _ h9 => h9) rfl dMB_demand_21 ?_
      refine lv_iload_n hx hb dMB_demand_24 rfl (lv_at hl 1 rfl) ?_
      refine mk_aald (k := x.toNatClampNeg) hx hb hK hP 8 2 rfl rfl (sNo_ix c_1) ⟨(sNo_lt hm c_1), by decide⟩ (hG _ (sNo_lt hm c_1)) dMB_demand_25 ?_
      refine lv_iload_n hx hb dMB_demand_26 rfl (lv_at hl 2 rfl) ?_
      refine va_put (D := D) (ci := iTr) (v := .int de) (ty := .int) (C := RTr) (T := TTr) (N := 11) hx hb htB inBTr tyTr tyTr_ok nmTr hown hK hP hD hS (9 + 11 * x.toNatClampNeg) (mb_atTr (sNo_lt hm c_1)) rfl 7 (by decide) (htB _ b_119) (fun _ h9 => h9) rfl (by decide +kernel) rfl rfl (Nat.le_of_ble_eq_true rfl) dMB_demand_27 (fun H locs hP hD hS => ?_)
      have hP : va_P D vwCl (wMB g G ((va_up (sT S) x.toNatClampNeg ((trp ((sT S) x.toNatClampNeg)), (tau ((sT S) x.toNatClampNeg)), (tle ((sT S) x.toNatClampNeg)), (tfr ((sT S) x.toNatClampNeg)), (tsp ((sT S) x.toNatClampNeg)), (tes ((sT S) x.toNatClampNeg)), (tdo ((sT S) x.toNatClampNeg)), de, (tdr ((sT S) x.toNatClampNeg)), (tem ((sT S) x.toNatClampNeg)), (tec ((sT S) x.toNatClampNeg)))), (sk S), (sy S), (sm S), (sn S))) H := mk_eqP (mb_setTr (g := g) (G := G) (S := S) (i := x.toNatClampNeg) (sNo_lt hm c_1) (tle ((sT S) x.toNatClampNeg)) (tfr ((sT S) x.toNatClampNeg)) (tsp ((sT S) x.toNatClampNeg)) (tes ((sT S) x.toNatClampNeg)) (tdo ((sT S) x.toNatClampNeg)) de (tdr ((sT S) x.toNatClampNeg)) (tem ((sT S) x.toNatClampNeg)) (tec ((sT S) x.toNatClampNeg))) hP
      have hD : va_D A (wMB g G ((va_up (sT S) x.toNatClampNeg ((trp ((sT S) x.toNatClampNeg)), (tau ((sT S) x.toNatClampNeg)), (tle ((sT S) x.toNatClampNeg)), (tfr ((sT S) x.toNatClampNeg)), (tsp ((sT S) x.toNatClampNeg)), (tes ((sT S) x.toNatClampNeg)), (tdo ((sT S) x.toNatClampNeg)), de, (tdr ((sT S) x.toNatClampNeg)), (tem ((sT S) x.toNatClampNeg)), (tec ((sT S) x.toNatClampNeg)))), (sk S), (sy S), (sm S), (sn S))) := mk_eqD (mb_setTr (g := g) (G := G) (S := S) (i := x.toNatClampNeg) (sNo_lt hm c_1) (tle ((sT S) x.toNatClampNeg)) (tfr ((sT S) x.toNatClampNeg)) (tsp ((sT S) x.toNatClampNeg)) (tes ((sT S) x.toNatClampNeg)) (tdo ((sT S) x.toNatClampNeg)) de (tdr ((sT S) x.toNatClampNeg)) (tem ((sT S) x.toNatClampNeg)) (tec ((sT S) x.toNatClampNeg))) hD
      refine lv_iconst (v := 1) hx hb dMB_demand_30 (by decide) ?_
      have hE : wMB g G (xDemand S x de).2 = wMB g G ((va_up (sT S) x.toNatClampNeg ((trp ((sT S) x.toNatClampNeg)), (tau ((sT S) x.toNatClampNeg)), (tle ((sT S) x.toNatClampNeg)), (tfr ((sT S) x.toNatClampNeg)), (tsp ((sT S) x.toNatClampNeg)), (tes ((sT S) x.toNatClampNeg)), (tdo ((sT S) x.toNatClampNeg)), de, (tdr ((sT S) x.toNatClampNeg)), (tem ((sT S) x.toNatClampNeg)), (tec ((sT S) x.toNatClampNeg)))), (sk S), (sy S), (sm S), (sn S)) := (by simp only [xDemand, sSetT, tSetDe, if_pos c_1, if_pos c_2] <;> rfl)
      exact W.iret (v := 1) hx hb hr (fun t9 ht hW => ⟨⟨1, (), rfl, (by simp only [xDemand, sSetT, tSetDe, if_pos c_1, if_pos c_2] <;> rfl), mk_end ht hE hP⟩, hS.F ht⟩) hS.2.2 dMB_demand_31
    · refine lv_ldc (v := (-1000000)) hx hb hown (htB _ b_173) dMB_demand_17 ?_
      have hE : wMB g G (xDemand S x de).2 = wMB g G S := (by simp only [xDemand, sSetT, tSetDe, if_pos c_1, if_neg c_2] <;> rfl)
      exact W.iret (v := (-1000000)) hx hb hr (fun t9 ht hW => ⟨⟨(-1000000), (), rfl, (by simp only [xDemand, sSetT, tSetDe, if_pos c_1, if_neg c_2] <;> rfl), mk_end ht hE hP⟩, hS.F ht⟩) hS.2.2 dMB_demand_19
set_option maxHeartbeats 4000000 in
set_option maxRecDepth 100000 in
/-- drift -/
theorem c_drift (l : Launch) (D : va_G) (g : Nat → ClassId) (G : zAd) (S : zMB) (hG : gOK G) (hm : sm S ≤ 4) (x dr : Int32) : mk_Wi l yMB_drift wsMB_drift ({ frames := 2, cells := 0, slots := 0, locals := 43 }) D vwCl (zty g) [.ref (go G 0), .int x, .int dr] (wMB g G S) (wMB g G (xDrift S x dr).2) ((xDrift S x dr).1) := by
  intro sz
  refine Met.ofW (cc := cMB_drift) (maxL := 3) (ret := (some .int)) (by decide) rfl ?_
  intro p e s m args below meth cd s₁ B hml hv
  obtain ⟨rfl, hsz, hP, hK, hD0⟩ := hv
  have hx := B.exec
  have hb := B.bytes
  have hr := B.returns
  have hts := atoms_spec (ws := wsMB_drift) B.pre
  have htB := fun (w : Cond) (h : w ∈ BIG) => hts w (List.mem_cons_of_mem _ h)
  have hown : s.vm.findClass RMB = some m.cls := findClass_of_methodNamed B.named
  have hlocks := B.notSynchronized
  subst hsz
  have hD := hD0.self (sz := s.heap.size)
  generalize hAe : va_A (wMB g G S) s.heap.size = A at hD ⊢
  have hA : ∀ q : Nat, s.heap.size ≤ q → A q := fun q h => by rw [← hAe]; exact Or.inr h
  have hS : va_S A s.heap s.heap [] := va_S.rf
  have hl := lv_entry ([.ref (go G 0), .int x, .int dr]) (n := 3) (Nat.le_of_ble_eq_true rfl)
  rw [lg_entry_eq]
  generalize (lg_sl ([.ref (go G 0), .int x, .int dr]) ++ List.replicate (3 - (lg_sl ([.ref (go G 0), .int x, .int dr])).length) Slot.unset).toArray = ls at hl ⊢
  have hl : lv_has ls 3 [(0, .ref (go G 0)), (1, .int x), (2, .int dr)] := hl
  have hP : va_P D vwCl (wMB g G S) s.heap := hP
  refine lv_aload_n hx hb dMB_drift_0 rfl (lv_at hl 0 rfl) ?_
  refine lv_iload_n hx hb dMB_drift_1 rfl (lv_at hl 1 rfl) ?_
  refine mk_rdV (As := [.int x]) (rest := []) (w := (wMB g G S)) (q0 := (RMB, TMB, 5)) (ci := iMB) ⟨hx, hb, hml, hown, hts⟩ (c_isNoTrain l D g G S hG hm x) (cwV 1 hts (gd_V b_198 b_200 bp_0 b_1 b_201) rfl rfl rfl (by decide +kernel) ⟨Nat.le_of_ble_eq_true rfl, Nat.le_of_ble_eq_true rfl⟩) hK hP hD hS hA (List.range 53) mb_cutAll mb_ndAll rfl rfl rfl hl.1 rfl (Nat.le_of_ble_eq_true rfl) dMB_drift_2 ⟨Nat.zero_le _, Nat.zero_le _⟩ (fun H locs hP hS => ?_)
  refine lv_if_ne (tgt := 18) hx hb dMB_drift_5 (by decide) (fun c_1 => ?_) (fun c_1 => ?_)
  · refine lv_ldc (v := (-1000000)) hx hb hown (htB _ b_173) dMB_drift_18 ?_
    have hE : wMB g G (xDrift S x dr).2 = wMB g G S := (by simp only [xDrift, sSetT, tSetDr, if_neg c_1] <;> rfl)
    exact W.iret (v := (-1000000)) hx hb hr (fun t9 ht hW => ⟨⟨(-1000000), (), rfl, (by simp only [xDrift, sSetT, tSetDr, if_neg c_1] <;> rfl), mk_end ht hE hP⟩, hS.F ht⟩) hS.2.2 dMB_drift_20
  · refine lv_iload_n hx hb dMB_drift_8 rfl (lv_at hl 2 rfl) ?_
    refine lv_bipush (v := (-2)) hx hb dMB_drift_9 (by decide) ?_
    refine lv_iconst (v := 2) hx hb dMB_drift_11 (by decide) ?_
    refine mk_rdS (As := [.int dr, .int (-2), .int 2]) (rest := []) (w := []) ⟨hx, hb, hml, hown, hts⟩ (c_isOutside l D g dr (-2) 2) (va_cwS 3 hts (gd_S b_170 b_171 b_1 b_172) rfl rfl rfl (by decide +kernel) ⟨Nat.le_of_ble_eq_true rfl, Nat.le_of_ble_eq_true rfl⟩) hK hP hD hS hA [] rfl rfl rfl hl.1 rfl (Nat.le_of_ble_eq_true rfl) dMB_drift_12 ⟨Nat.zero_le _, Nat.zero_le _⟩ (fun H locs hP hS => ?_)
    refine lv_if_eq (tgt := 21) hx hb dMB_drift_15 (by decide) (fun c_2 => ?_) (fun c_2 => ?_)
    · refine lv_aload_n hx hb dMB_drift_21 rfl (lv_at hl 0 rfl) ?_
      refine va_get (D := D) (ci := iMB) (v := .ref (go G 1)) (C := RMB) (T := TMB) (N := 5) hx hb htB inBMB hown hK hP 0 rfl rfl 2 (by decide) (htB _ b_152) (fun _ h9 => h9) rfl dMB_drift_22 ?_
      refine lv_iload_n hx hb dMB_drift_25 rfl (lv_at hl 1 rfl) ?_
      refine mk_aald (k := x.toNatClampNeg) hx hb hK hP 8 2 rfl rfl (sNo_ix c_1) ⟨(sNo_lt hm c_1), by decide⟩ (hG _ (sNo_lt hm c_1)) dMB_drift_26 ?_
      refine lv_iload_n hx hb dMB_drift_27 rfl (lv_at hl 2 rfl) ?_
      refine va_put (D := D) (ci := iTr) (v := .int dr) (ty := .int) (C := RTr) (T := TTr) (N := 11) hx hb htB inBTr tyTr tyTr_ok nmTr hown hK hP hD hS (9 + 11 * x.toNatClampNeg) (mb_atTr (sNo_lt hm c_1)) rfl 8 (by decide) (htB _ b_121) (fun _ h9 => h9) rfl (by decide +kernel) rfl rfl (Nat.le_of_ble_eq_true rfl) dMB_drift_28 (fun H locs hP hD hS => ?_)
      have hP : va_P D vwCl (wMB g G ((va_up (sT S) x.toNatClampNeg ((trp ((sT S) x.toNatClampNeg)), (tau ((sT S) x.toNatClampNeg)), (tle ((sT S) x.toNatClampNeg)), (tfr ((sT S) x.toNatClampNeg)), (tsp ((sT S) x.toNatClampNeg)), (tes ((sT S) x.toNatClampNeg)), (tdo ((sT S) x.toNatClampNeg)), (tde ((sT S) x.toNatClampNeg)), dr, (tem ((sT S) x.toNatClampNeg)), (tec ((sT S) x.toNatClampNeg)))), (sk S), (sy S), (sm S), (sn S))) H := mk_eqP (mb_setTr (g := g) (G := G) (S := S) (i := x.toNatClampNeg) (sNo_lt hm c_1) (tle ((sT S) x.toNatClampNeg)) (tfr ((sT S) x.toNatClampNeg)) (tsp ((sT S) x.toNatClampNeg)) (tes ((sT S) x.toNatClampNeg)) (tdo ((sT S) x.toNatClampNeg)) (tde ((sT S) x.toNatClampNeg)) dr (tem ((sT S) x.toNatClampNeg)) (tec ((sT S) x.toNatClampNeg))) hP
      have hD : va_D A (wMB g G ((va_up (sT S) x.toNatClampNeg ((trp ((sT S) x.toNatClampNeg)), (tau ((sT S) x.toNatClampNeg)), (tle ((sT S) x.toNatClampNeg)), (tfr ((sT S) x.toNatClampNeg)), (tsp ((sT S) x.toNatClampNeg)), (tes ((sT S) x.toNatClampNeg)), (tdo ((sT S) x.toNatClampNeg)), (tde ((sT S) x.toNatClampNeg)), dr, (tem ((sT S) x.toNatClampNeg)), (tec ((sT S) x.toNatClampNeg)))), (sk S), (sy S), (sm S), (sn S))) := mk_eqD (mb_setTr (g := g) (G := G) (S := S) (i := x.toNatClampNeg) (sNo_lt hm c_1) (tle ((sT S) x.toNatClampNeg)) (tfr ((sT S) x.toNatClampNeg)) (tsp ((sT S) x.toNatClampNeg)) (tes ((sT S) x.toNatClampNeg)) (tdo ((sT S) x.toNatClampNeg)) (tde ((sT S) x.toNatClampNeg)) dr (tem ((sT S) x.toNatClampNeg)) (tec ((sT S) x.toNatClampNeg))) hD
      refine lv_iconst (v := 1) hx hb dMB_drift_31 (by decide) ?_
      have hE : wMB g G (xDrift S x dr).2 = wMB g G ((va_up (sT S) x.toNatClampNeg ((trp ((sT S) x.toNatClampNeg)), (tau ((sT S) x.toNatClampNeg)), (tle ((sT S) x.toNatClampNeg)), (tfr ((sT S) x.toNatClampNeg)), (tsp ((sT S) x.toNatClampNeg)), (tes ((sT S) x.toNatClampNeg)), (tdo ((sT S) x.toNatClampNeg)), (tde ((sT S) x.toNatClampNeg)), dr, (tem ((sT S) x.toNatClampNeg)), (tec ((sT S) x.toNatClampNeg)))), (sk S), (sy S), (sm S), (sn S)) := (by simp only [xDrift, sSetT, tSetDr, if_pos c_1, if_pos c_2] <;> rfl)
      exact W.iret (v := 1) hx hb hr (fun t9 ht hW => ⟨⟨1, (), rfl, (by simp only [xDrift, sSetT, tSetDr, if_pos c_1, if_pos c_2] <;> rfl), mk_end ht hE hP⟩, hS.F ht⟩) hS.2.2 dMB_drift_32
    · refine lv_ldc (v := (-1000000)) hx hb hown (htB _ b_173) dMB_drift_18 ?_
      have hE : wMB g G (xDrift S x dr).2 = wMB g G S := (by simp only [xDrift, sSetT, tSetDr, if_pos c_1, if_neg c_2] <;> rfl)
      exact W.iret (v := (-1000000)) hx hb hr (fun t9 ht hW => ⟨⟨(-1000000), (), rfl, (by simp only [xDrift, sSetT, tSetDr, if_pos c_1, if_neg c_2] <;> rfl), mk_end ht hE hP⟩, hS.F ht⟩) hS.2.2 dMB_drift_20
set_option maxHeartbeats 4000000 in
set_option maxRecDepth 100000 in
/-- radio -/
theorem c_radio (l : Launch) (D : va_G) (g : Nat → ClassId) (G : zAd) (S : zMB) (hG : gOK G) (hm : sm S ≤ 4) (x u d : Int32) : mk_Wi l yMB_radio wsMB_radio ({ frames := 2, cells := 0, slots := 0, locals := 43 }) D vwCl (zty g) [.ref (go G 0), .int x, .int u, .int d] (wMB g G S) (wMB g G (xRadio S x u d).2) ((xRadio S x u d).1) := by
  intro sz
  refine Met.ofW (cc := cMB_radio) (maxL := 4) (ret := (some .int)) (by decide) rfl ?_
  intro p e s m args below meth cd s₁ B hml hv
  obtain ⟨rfl, hsz, hP, hK, hD0⟩ := hv
  have hx := B.exec
  have hb := B.bytes
  have hr := B.returns
  have hts := atoms_spec (ws := wsMB_radio) B.pre
  have htB := fun (w : Cond) (h : w ∈ BIG) => hts w (List.mem_cons_of_mem _ h)
  have hown : s.vm.findClass RMB = some m.cls := findClass_of_methodNamed B.named
  have hlocks := B.notSynchronized
  subst hsz
  have hD := hD0.self (sz := s.heap.size)
  generalize hAe : va_A (wMB g G S) s.heap.size = A at hD ⊢
  have hA : ∀ q : Nat, s.heap.size ≤ q → A q := fun q h => by rw [← hAe]; exact Or.inr h
  have hS : va_S A s.heap s.heap [] := va_S.rf
  have hl := lv_entry ([.ref (go G 0), .int x, .int u, .int d]) (n := 4) (Nat.le_of_ble_eq_true rfl)
  rw [lg_entry_eq]
  generalize (lg_sl ([.ref (go G 0), .int x, .int u, .int d]) ++ List.replicate (4 - (lg_sl ([.ref (go G 0), .int x, .int u, .int d])).length) Slot.unset).toArray = ls at hl ⊢
  have hl : lv_has ls 4 [(0, .ref (go G 0)), (1, .int x), (2, .int u), (3, .int d)] := hl
  have hP : va_P D vwCl (wMB g G S) s.heap := hP
  refine lv_aload_n hx hb dMB_radio_0 rfl (lv_at hl 0 rfl) ?_
  refine lv_iload_n hx hb dMB_radio_1 rfl (lv_at hl 1 rfl) ?_
  refine mk_rdV (As := [.int x]) (rest := []) (w := (wMB g G S)) (q0 := (RMB, TMB, 5)) (ci := iMB) ⟨hx, hb, hml, hown, hts⟩ (c_isNoTrain l D g G S hG hm x) (cwV 1 hts (gd_V b_198 b_200 bp_0 b_1 b_201) rfl rfl rfl (by decide +kernel) ⟨Nat.le_of_ble_eq_true rfl, Nat.le_of_ble_eq_true rfl⟩) hK hP hD hS hA (List.range 53) mb_cutAll mb_ndAll rfl rfl rfl hl.1 rfl (Nat.le_of_ble_eq_true rfl) dMB_radio_2 ⟨Nat.zero_le _, Nat.zero_le _⟩ (fun H locs hP hS => ?_)
  refine lv_if_ne (tgt := 26) hx hb dMB_radio_5 (by decide) (fun c_1 => ?_) (fun c_1 => ?_)
  · refine lv_ldc (v := (-1000000)) hx hb hown (htB _ b_173) dMB_radio_26 ?_
    have hE : wMB g G (xRadio S x u d).2 = wMB g G S := (by simp only [xRadio, sSetT, tSetDl, tSetR, tSetA, cSetD, va_up_self, bx_uu, if_neg c_1] <;> rfl)
    exact W.iret (v := (-1000000)) hx hb hr (fun t9 ht hW => ⟨⟨(-1000000), (), rfl, (by simp only [xRadio, sSetT, tSetDl, tSetR, tSetA, cSetD, va_up_self, bx_uu, if_neg c_1] <;> rfl), mk_end ht hE hP⟩, hS.F ht⟩) hS.2.2 dMB_radio_28
  · refine lv_iload_n hx hb dMB_radio_8 rfl (lv_at hl 2 rfl) ?_
    refine lv_iconst (v := 0) hx hb dMB_radio_9 (by decide) ?_
    refine lv_iconst (v := 5) hx hb dMB_radio_10 (by decide) ?_
    refine mk_rdS (As := [.int u, .int 0, .int 5]) (rest := []) (w := []) ⟨hx, hb, hml, hown, hts⟩ (c_isOutside l D g u 0 5) (va_cwS 3 hts (gd_S b_170 b_171 b_1 b_172) rfl rfl rfl (by decide +kernel) ⟨Nat.le_of_ble_eq_true rfl, Nat.le_of_ble_eq_true rfl⟩) hK hP hD hS hA [] rfl rfl rfl hl.1 rfl (Nat.le_of_ble_eq_true rfl) dMB_radio_11 ⟨Nat.zero_le _, Nat.zero_le _⟩ (fun H locs hP hS => ?_)
    refine lv_if_ne (tgt := 26) hx hb dMB_radio_14 (by decide) (fun c_2 => ?_) (fun c_2 => ?_)
    · refine lv_ldc (v := (-1000000)) hx hb hown (htB _ b_173) dMB_radio_26 ?_
      have hE : wMB g G (xRadio S x u d).2 = wMB g G S := (by simp only [xRadio, sSetT, tSetDl, tSetR, tSetA, cSetD, va_up_self, bx_uu, if_pos c_1, if_neg c_2] <;> rfl)
      exact W.iret (v := (-1000000)) hx hb hr (fun t9 ht hW => ⟨⟨(-1000000), (), rfl, (by simp only [xRadio, sSetT, tSetDl, tSetR, tSetA, cSetD, va_up_self, bx_uu, if_pos c_1, if_neg c_2] <;> rfl), mk_end ht hE hP⟩, hS.F ht⟩) hS.2.2 dMB_radio_28
    · refine lv_iload_n hx hb dMB_radio_17 rfl (lv_at hl 3 rfl) ?_
      refine lv_iconst (v := 0) hx hb dMB_radio_18 (by decide) ?_
      refine lv_iconst (v := 5) hx hb dMB_radio_19 (by decide) ?_
      refine mk_rdS (As := [.int d, .int 0, .int 5]) (rest := []) (w := []) ⟨hx, hb, hml, hown, hts⟩ (c_isOutside l D g d 0 5) (va_cwS 3 hts (gd_S b_170 b_171 b_1 b_172) rfl rfl rfl (by decide +kernel) ⟨Nat.le_of_ble_eq_true rfl, Nat.le_of_ble_eq_true rfl⟩) hK hP hD hS hA [] rfl rfl rfl hl.1 rfl (Nat.le_of_ble_eq_true rfl) dMB_radio_20 ⟨Nat.zero_le _, Nat.zero_le _⟩ (fun H locs hP hS => ?_)
      refine lv_if_eq (tgt := 29) hx hb dMB_radio_23 (by decide) (fun c_3 => ?_) (fun c_3 => ?_)
      · refine lv_aload_n hx hb dMB_radio_29 rfl (lv_at hl 0 rfl) ?_
        refine va_get (D := D) (ci := iMB) (v := .ref (go G 1)) (C := RMB) (T := TMB) (N := 5) hx hb htB inBMB hown hK hP 0 rfl rfl 2 (by decide) (htB _ b_152) (fun _ h9 => h9) rfl dMB_radio_30 ?_
        refine lv_iload_n hx hb dMB_radio_33 rfl (lv_at hl 1 rfl) ?_
        refine mk_aald (k := x.toNatClampNeg) hx hb hK hP 8 2 rfl rfl (sNo_ix c_1) ⟨(sNo_lt hm c_1), by decide⟩ (hG _ (sNo_lt hm c_1)) dMB_radio_34 ?_
        refine va_get (D := D) (ci := iTr) (v := .ref (ga G x.toNatClampNeg 1 0)) (C := RTr) (T := TTr) (N := 11) hx hb htB inBTr hown hK hP (9 + 11 * x.toNatClampNeg) (mb_atTr (sNo_lt hm c_1)) rfl 0 (by decide) (htB _ b_107) (fun _ h9 => h9) rfl dMB_radio_35 ?_
        refine lv_iload_n hx hb dMB_radio_38 rfl (lv_at hl 2 rfl) ?_
        refine va_put (D := D) (ci := iCh) (v := .int u) (ty := .int) (C := RCh) (T := TCh) (N := 10) hx hb htB inBCh tyCh tyCh_ok nmCh hown hK hP hD hS (9 + 11 * x.toNatClampNeg + 1) (mb_atRp (sNo_lt hm c_1)) rfl 4 (by decide) (htB _ b_72) (fun _ h9 => h9) rfl (by decide +kernel) rfl rfl (Nat.le_of_ble_eq_true rfl) dMB_radio_39 (fun H locs hP hD hS => ?_)
        have hP : va_P D vwCl (wMB g G ((va_up (sT S) x.toNatClampNeg (((cst (trp ((sT S) x.toNatClampNeg))), (car (trp ((sT S) x.toNatClampNeg))), (cfi (trp ((sT S) x.toNatClampNeg))), (cse (trp ((sT S) x.toNatClampNeg))), u, (csp (trp ((sT S) x.toNatClampNeg))), (cf1 (trp ((sT S) x.toNatClampNeg))), (cf2 (trp ((sT S) x.toNatClampNeg))), (clo (trp ((sT S) x.toNatClampNeg))), (cnt (trp ((sT S) x.toNatClampNeg)))), (tau ((sT S) x.toNatClampNeg)), (tle ((sT S) x.toNatClampNeg)), (tfr ((sT S) x.toNatClampNeg)), (tsp ((sT S) x.toNatClampNeg)), (tes ((sT S) x.toNatClampNeg)), (tdo ((sT S) x.toNatClampNeg)), (tde ((sT S) x.toNatClampNeg)), (tdr ((sT S) x.toNatClampNeg)), (tem ((sT S) x.toNatClampNeg)), (tec ((sT S) x.toNatClampNeg)))), (sk S), (sy S), (sm S), (sn S))) H := mk_eqP (mb_setRp (g := g) (G := G) (S := S) (i := x.toNatClampNeg) (sNo_lt hm c_1) u) hP
        have hD : va_D A (wMB g G ((va_up (sT S) x.toNatClampNeg (((cst (trp ((sT S) x.toNatClampNeg))), (car (trp ((sT S) x.toNatClampNeg))), (cfi (trp ((sT S) x.toNatClampNeg))), (cse (trp ((sT S) x.toNatClampNeg))), u, (csp (trp ((sT S) x.toNatClampNeg))), (cf1 (trp ((sT S) x.toNatClampNeg))), (cf2 (trp ((sT S) x.toNatClampNeg))), (clo (trp ((sT S) x.toNatClampNeg))), (cnt (trp ((sT S) x.toNatClampNeg)))), (tau ((sT S) x.toNatClampNeg)), (tle ((sT S) x.toNatClampNeg)), (tfr ((sT S) x.toNatClampNeg)), (tsp ((sT S) x.toNatClampNeg)), (tes ((sT S) x.toNatClampNeg)), (tdo ((sT S) x.toNatClampNeg)), (tde ((sT S) x.toNatClampNeg)), (tdr ((sT S) x.toNatClampNeg)), (tem ((sT S) x.toNatClampNeg)), (tec ((sT S) x.toNatClampNeg)))), (sk S), (sy S), (sm S), (sn S))) := mk_eqD (mb_setRp (g := g) (G := G) (S := S) (i := x.toNatClampNeg) (sNo_lt hm c_1) u) hD
        refine lv_aload_n hx hb dMB_radio_42 rfl (lv_at hl 0 rfl) ?_
        refine va_get (D := D) (ci := iMB) (v := .ref (go G 1)) (C := RMB) (T := TMB) (N := 5) hx hb htB inBMB hown hK hP 0 rfl rfl 2 (by decide) (htB _ b_152) (fun _ h9 => h9) rfl dMB_radio_43 ?_
        refine lv_iload_n hx hb dMB_radio_46 rfl (lv_at hl 1 rfl) ?_
        refine mk_aald (k := x.toNatClampNeg) hx hb hK hP 8 2 rfl rfl (sNo_ix c_1) ⟨(sNo_lt hm c_1), by decide⟩ (hG _ (sNo_lt hm c_1)) dMB_radio_47 ?_
        refine va_get (D := D) (ci := iTr) (v := .ref (ga G x.toNatClampNeg 2 0)) (C := RTr) (T := TTr) (N := 11) hx hb htB inBTr hown hK hP (9 + 11 * x.toNatClampNeg) (mb_atTr (sNo_lt hm c_1)) rfl 1 (by decide) (htB _ b_109) (fun _ h9 => h9) rfl dMB_radio_48 ?_
        refine lv_iload_n hx hb dMB_radio_51 rfl (lv_at hl 3 rfl) ?_
        refine va_put (D := D) (ci := iCh) (v := .int d) (ty := .int) (C := RCh) (T := TCh) (N := 10) hx hb htB inBCh tyCh tyCh_ok nmCh hown hK hP hD hS (9 + 11 * x.toNatClampNeg + 6) (mb_atAu (sNo_lt hm c_1)) rfl 4 (by decide) (htB _ b_72) (fun _ h9 => h9) rfl (by decide +kernel) rfl rfl (Nat.le_of_ble_eq_true rfl) dMB_radio_52 (fun H locs hP hD hS => ?_)
        have hP : va_P D vwCl (wMB g G ((va_up (va_up (sT S) x.toNatClampNeg (((cst (trp ((sT S) x.toNatClampNeg))), (car (trp ((sT S) x.toNatClampNeg))), (cfi (trp ((sT S) x.toNatClampNeg))), (cse (trp ((sT S) x.toNatClampNeg))), u, (csp (trp ((sT S) x.toNatClampNeg))), (cf1 (trp ((sT S) x.toNatClampNeg))), (cf2 (trp ((sT S) x.toNatClampNeg))), (clo (trp ((sT S) x.toNatClampNeg))), (cnt (trp ((sT S) x.toNatClampNeg)))), (tau ((sT S) x.toNatClampNeg)), (tle ((sT S) x.toNatClampNeg)), (tfr ((sT S) x.toNatClampNeg)), (tsp ((sT S) x.toNatClampNeg)), (tes ((sT S) x.toNatClampNeg)), (tdo ((sT S) x.toNatClampNeg)), (tde ((sT S) x.toNatClampNeg)), (tdr ((sT S) x.toNatClampNeg)), (tem ((sT S) x.toNatClampNeg)), (tec ((sT S) x.toNatClampNeg)))) x.toNatClampNeg ((trp ((va_up (sT S) x.toNatClampNeg (((cst (trp ((sT S) x.toNatClampNeg))), (car (trp ((sT S) x.toNatClampNeg))), (cfi (trp ((sT S) x.toNatClampNeg))), (cse (trp ((sT S) x.toNatClampNeg))), u, (csp (trp ((sT S) x.toNatClampNeg))), (cf1 (trp ((sT S) x.toNatClampNeg))), (cf2 (trp ((sT S) x.toNatClampNeg))), (clo (trp ((sT S) x.toNatClampNeg))), (cnt (trp ((sT S) x.toNatClampNeg)))), (tau ((sT S) x.toNatClampNeg)), (tle ((sT S) x.toNatClampNeg)), (tfr ((sT S) x.toNatClampNeg)), (tsp ((sT S) x.toNatClampNeg)), (tes ((sT S) x.toNatClampNeg)), (tdo ((sT S) x.toNatClampNeg)), (tde ((sT S) x.toNatClampNeg)), (tdr ((sT S) x.toNatClampNeg)), (tem ((sT S) x.toNatClampNeg)), (tec ((sT S) x.toNatClampNeg)))) x.toNatClampNeg)), ((cst (tau ((va_up (sT S) x.toNatClampNeg (((cst (trp ((sT S) x.toNatClampNeg))), (car (trp ((sT S) x.toNatClampNeg))), (cfi (trp ((sT S) x.toNatClampNeg))), (cse (trp ((sT S) x.toNatClampNeg))), u, (csp (trp ((sT S) x.toNatClampNeg))), (cf1 (trp ((sT S) x.toNatClampNeg))), (cf2 (trp ((sT S) x.toNatClampNeg))), (clo (trp ((sT S) x.toNatClampNeg))), (cnt (trp ((sT S) x.toNatClampNeg)))), (tau ((sT S) x.toNatClampNeg)), (tle ((sT S) x.toNatClampNeg)), (tfr ((sT S) x.toNatClampNeg)), (tsp ((sT S) x.toNatClampNeg)), (tes ((sT S) x.toNatClampNeg)), (tdo ((sT S) x.toNatClampNeg)), (tde ((sT S) x.toNatClampNeg)), (tdr ((sT S) x.toNatClampNeg)), (tem ((sT S) x.toNatClampNeg)), (tec ((sT S) x.toNatClampNeg)))) x.toNatClampNeg))), (car (tau ((va_up (sT S) x.toNatClampNeg (((cst (trp ((sT S) x.toNatClampNeg))), (car (trp ((sT S) x.toNatClampNeg))), (cfi (trp ((sT S) x.toNatClampNeg))), (cse (trp ((sT S) x.toNatClampNeg))), u, (csp (trp ((sT S) x.toNatClampNeg))), (cf1 (trp ((sT S) x.toNatClampNeg))), (cf2 (trp ((sT S) x.toNatClampNeg))), (clo (trp ((sT S) x.toNatClampNeg))), (cnt (trp ((sT S) x.toNatClampNeg)))), (tau ((sT S) x.toNatClampNeg)), (tle ((sT S) x.toNatClampNeg)), (tfr ((sT S) x.toNatClampNeg)), (tsp ((sT S) x.toNatClampNeg)), (tes ((sT S) x.toNatClampNeg)), (tdo ((sT S) x.toNatClampNeg)), (tde ((sT S) x.toNatClampNeg)), (tdr ((sT S) x.toNatClampNeg)), (tem ((sT S) x.toNatClampNeg)), (tec ((sT S) x.toNatClampNeg)))) x.toNatClampNeg))), (cfi (tau ((va_up (sT S) x.toNatClampNeg (((cst (trp ((sT S) x.toNatClampNeg))), (car (trp ((sT S) x.toNatClampNeg))), (cfi (trp ((sT S) x.toNatClampNeg))), (cse (trp ((sT S) x.toNatClampNeg))), u, (csp (trp ((sT S) x.toNatClampNeg))), (cf1 (trp ((sT S) x.toNatClampNeg))), (cf2 (trp ((sT S) x.toNatClampNeg))), (clo (trp ((sT S) x.toNatClampNeg))), (cnt (trp ((sT S) x.toNatClampNeg)))), (tau ((sT S) x.toNatClampNeg)), (tle ((sT S) x.toNatClampNeg)), (tfr ((sT S) x.toNatClampNeg)), (tsp ((sT S) x.toNatClampNeg)), (tes ((sT S) x.toNatClampNeg)), (tdo ((sT S) x.toNatClampNeg)), (tde ((sT S) x.toNatClampNeg)), (tdr ((sT S) x.toNatClampNeg)), (tem ((sT S) x.toNatClampNeg)), (tec ((sT S) x.toNatClampNeg)))) x.toNatClampNeg))), (cse (tau ((va_up (sT S) x.toNatClampNeg (((cst (trp ((sT S) x.toNatClampNeg))), (car (trp ((sT S) x.toNatClampNeg))), (cfi (trp ((sT S) x.toNatClampNeg))), (cse (trp ((sT S) x.toNatClampNeg))), u, (csp (trp ((sT S) x.toNatClampNeg))), (cf1 (trp ((sT S) x.toNatClampNeg))), (cf2 (trp ((sT S) x.toNatClampNeg))), (clo (trp ((sT S) x.toNatClampNeg))), (cnt (trp ((sT S) x.toNatClampNeg)))), (tau ((sT S) x.toNatClampNeg)), (tle ((sT S) x.toNatClampNeg)), (tfr ((sT S) x.toNatClampNeg)), (tsp ((sT S) x.toNatClampNeg)), (tes ((sT S) x.toNatClampNeg)), (tdo ((sT S) x.toNatClampNeg)), (tde ((sT S) x.toNatClampNeg)), (tdr ((sT S) x.toNatClampNeg)), (tem ((sT S) x.toNatClampNeg)), (tec ((sT S) x.toNatClampNeg)))) x.toNatClampNeg))), d, (csp (tau ((va_up (sT S) x.toNatClampNeg (((cst (trp ((sT S) x.toNatClampNeg))), (car (trp ((sT S) x.toNatClampNeg))), (cfi (trp ((sT S) x.toNatClampNeg))), (cse (trp ((sT S) x.toNatClampNeg))), u, (csp (trp ((sT S) x.toNatClampNeg))), (cf1 (trp ((sT S) x.toNatClampNeg))), (cf2 (trp ((sT S) x.toNatClampNeg))), (clo (trp ((sT S) x.toNatClampNeg))), (cnt (trp ((sT S) x.toNatClampNeg)))), (tau ((sT S) x.toNatClampNeg)), (tle ((sT S) x.toNatClampNeg)), (tfr ((sT S) x.toNatClampNeg)), (tsp ((sT S) x.toNatClampNeg)), (tes ((sT S) x.toNatClampNeg)), (tdo ((sT S) x.toNatClampNeg)), (tde ((sT S) x.toNatClampNeg)), (tdr ((sT S) x.toNatClampNeg)), (tem ((sT S) x.toNatClampNeg)), (tec ((sT S) x.toNatClampNeg)))) x.toNatClampNeg))), (cf1 (tau ((va_up (sT S) x.toNatClampNeg (((cst (trp ((sT S) x.toNatClampNeg))), (car (trp ((sT S) x.toNatClampNeg))), (cfi (trp ((sT S) x.toNatClampNeg))), (cse (trp ((sT S) x.toNatClampNeg))), u, (csp (trp ((sT S) x.toNatClampNeg))), (cf1 (trp ((sT S) x.toNatClampNeg))), (cf2 (trp ((sT S) x.toNatClampNeg))), (clo (trp ((sT S) x.toNatClampNeg))), (cnt (trp ((sT S) x.toNatClampNeg)))), (tau ((sT S) x.toNatClampNeg)), (tle ((sT S) x.toNatClampNeg)), (tfr ((sT S) x.toNatClampNeg)), (tsp ((sT S) x.toNatClampNeg)), (tes ((sT S) x.toNatClampNeg)), (tdo ((sT S) x.toNatClampNeg)), (tde ((sT S) x.toNatClampNeg)), (tdr ((sT S) x.toNatClampNeg)), (tem ((sT S) x.toNatClampNeg)), (tec ((sT S) x.toNatClampNeg)))) x.toNatClampNeg))), (cf2 (tau ((va_up (sT S) x.toNatClampNeg (((cst (trp ((sT S) x.toNatClampNeg))), (car (trp ((sT S) x.toNatClampNeg))), (cfi (trp ((sT S) x.toNatClampNeg))), (cse (trp ((sT S) x.toNatClampNeg))), u, (csp (trp ((sT S) x.toNatClampNeg))), (cf1 (trp ((sT S) x.toNatClampNeg))), (cf2 (trp ((sT S) x.toNatClampNeg))), (clo (trp ((sT S) x.toNatClampNeg))), (cnt (trp ((sT S) x.toNatClampNeg)))), (tau ((sT S) x.toNatClampNeg)), (tle ((sT S) x.toNatClampNeg)), (tfr ((sT S) x.toNatClampNeg)), (tsp ((sT S) x.toNatClampNeg)), (tes ((sT S) x.toNatClampNeg)), (tdo ((sT S) x.toNatClampNeg)), (tde ((sT S) x.toNatClampNeg)), (tdr ((sT S) x.toNatClampNeg)), (tem ((sT S) x.toNatClampNeg)), (tec ((sT S) x.toNatClampNeg)))) x.toNatClampNeg))), (clo (tau ((va_up (sT S) x.toNatClampNeg (((cst (trp ((sT S) x.toNatClampNeg))), (car (trp ((sT S) x.toNatClampNeg))), (cfi (trp ((sT S) x.toNatClampNeg))), (cse (trp ((sT S) x.toNatClampNeg))), u, (csp (trp ((sT S) x.toNatClampNeg))), (cf1 (trp ((sT S) x.toNatClampNeg))), (cf2 (trp ((sT S) x.toNatClampNeg))), (clo (trp ((sT S) x.toNatClampNeg))), (cnt (trp ((sT S) x.toNatClampNeg)))), (tau ((sT S) x.toNatClampNeg)), (tle ((sT S) x.toNatClampNeg)), (tfr ((sT S) x.toNatClampNeg)), (tsp ((sT S) x.toNatClampNeg)), (tes ((sT S) x.toNatClampNeg)), (tdo ((sT S) x.toNatClampNeg)), (tde ((sT S) x.toNatClampNeg)), (tdr ((sT S) x.toNatClampNeg)), (tem ((sT S) x.toNatClampNeg)), (tec ((sT S) x.toNatClampNeg)))) x.toNatClampNeg))), (cnt (tau ((va_up (sT S) x.toNatClampNeg (((cst (trp ((sT S) x.toNatClampNeg))), (car (trp ((sT S) x.toNatClampNeg))), (cfi (trp ((sT S) x.toNatClampNeg))), (cse (trp ((sT S) x.toNatClampNeg))), u, (csp (trp ((sT S) x.toNatClampNeg))), (cf1 (trp ((sT S) x.toNatClampNeg))), (cf2 (trp ((sT S) x.toNatClampNeg))), (clo (trp ((sT S) x.toNatClampNeg))), (cnt (trp ((sT S) x.toNatClampNeg)))), (tau ((sT S) x.toNatClampNeg)), (tle ((sT S) x.toNatClampNeg)), (tfr ((sT S) x.toNatClampNeg)), (tsp ((sT S) x.toNatClampNeg)), (tes ((sT S) x.toNatClampNeg)), (tdo ((sT S) x.toNatClampNeg)), (tde ((sT S) x.toNatClampNeg)), (tdr ((sT S) x.toNatClampNeg)), (tem ((sT S) x.toNatClampNeg)), (tec ((sT S) x.toNatClampNeg)))) x.toNatClampNeg)))), (tle ((va_up (sT S) x.toNatClampNeg (((cst (trp ((sT S) x.toNatClampNeg))), (car (trp ((sT S) x.toNatClampNeg))), (cfi (trp ((sT S) x.toNatClampNeg))), (cse (trp ((sT S) x.toNatClampNeg))), u, (csp (trp ((sT S) x.toNatClampNeg))), (cf1 (trp ((sT S) x.toNatClampNeg))), (cf2 (trp ((sT S) x.toNatClampNeg))), (clo (trp ((sT S) x.toNatClampNeg))), (cnt (trp ((sT S) x.toNatClampNeg)))), (tau ((sT S) x.toNatClampNeg)), (tle ((sT S) x.toNatClampNeg)), (tfr ((sT S) x.toNatClampNeg)), (tsp ((sT S) x.toNatClampNeg)), (tes ((sT S) x.toNatClampNeg)), (tdo ((sT S) x.toNatClampNeg)), (tde ((sT S) x.toNatClampNeg)), (tdr ((sT S) x.toNatClampNeg)), (tem ((sT S) x.toNatClampNeg)), (tec ((sT S) x.toNatClampNeg)))) x.toNatClampNeg)), (tfr ((va_up (sT S) x.toNatClampNeg (((cst (trp ((sT S) x.toNatClampNeg))), (car (trp ((sT S) x.toNatClampNeg))), (cfi (trp ((sT S) x.toNatClampNeg))), (cse (trp ((sT S) x.toNatClampNeg))), u, (csp (trp ((sT S) x.toNatClampNeg))), (cf1 (trp ((sT S) x.toNatClampNeg))), (cf2 (trp ((sT S) x.toNatClampNeg))), (clo (trp ((sT S) x.toNatClampNeg))), (cnt (trp ((sT S) x.toNatClampNeg)))), (tau ((sT S) x.toNatClampNeg)), (tle ((sT S) x.toNatClampNeg)), (tfr ((sT S) x.toNatClampNeg)), (tsp ((sT S) x.toNatClampNeg)), (tes ((sT S) x.toNatClampNeg)), (tdo ((sT S) x.toNatClampNeg)), (tde ((sT S) x.toNatClampNeg)), (tdr ((sT S) x.toNatClampNeg)), (tem ((sT S) x.toNatClampNeg)), (tec ((sT S) x.toNatClampNeg)))) x.toNatClampNeg)), (tsp ((va_up (sT S) x.toNatClampNeg (((cst (trp ((sT S) x.toNatClampNeg))), (car (trp ((sT S) x.toNatClampNeg))), (cfi (trp ((sT S) x.toNatClampNeg))), (cse (trp ((sT S) x.toNatClampNeg))), u, (csp (trp ((sT S) x.toNatClampNeg))), (cf1 (trp ((sT S) x.toNatClampNeg))), (cf2 (trp ((sT S) x.toNatClampNeg))), (clo (trp ((sT S) x.toNatClampNeg))), (cnt (trp ((sT S) x.toNatClampNeg)))), (tau ((sT S) x.toNatClampNeg)), (tle ((sT S) x.toNatClampNeg)), (tfr ((sT S) x.toNatClampNeg)), (tsp ((sT S) x.toNatClampNeg)), (tes ((sT S) x.toNatClampNeg)), (tdo ((sT S) x.toNatClampNeg)), (tde ((sT S) x.toNatClampNeg)), (tdr ((sT S) x.toNatClampNeg)), (tem ((sT S) x.toNatClampNeg)), (tec ((sT S) x.toNatClampNeg)))) x.toNatClampNeg)), (tes ((va_up (sT S) x.toNatClampNeg (((cst (trp ((sT S) x.toNatClampNeg))), (car (trp ((sT S) x.toNatClampNeg))), (cfi (trp ((sT S) x.toNatClampNeg))), (cse (trp ((sT S) x.toNatClampNeg))), u, (csp (trp ((sT S) x.toNatClampNeg))), (cf1 (trp ((sT S) x.toNatClampNeg))), (cf2 (trp ((sT S) x.toNatClampNeg))), (clo (trp ((sT S) x.toNatClampNeg))), (cnt (trp ((sT S) x.toNatClampNeg)))), (tau ((sT S) x.toNatClampNeg)), (tle ((sT S) x.toNatClampNeg)), (tfr ((sT S) x.toNatClampNeg)), (tsp ((sT S) x.toNatClampNeg)), (tes ((sT S) x.toNatClampNeg)), (tdo ((sT S) x.toNatClampNeg)), (tde ((sT S) x.toNatClampNeg)), (tdr ((sT S) x.toNatClampNeg)), (tem ((sT S) x.toNatClampNeg)), (tec ((sT S) x.toNatClampNeg)))) x.toNatClampNeg)), (tdo ((va_up (sT S) x.toNatClampNeg (((cst (trp ((sT S) x.toNatClampNeg))), (car (trp ((sT S) x.toNatClampNeg))), (cfi (trp ((sT S) x.toNatClampNeg))), (cse (trp ((sT S) x.toNatClampNeg))), u, (csp (trp ((sT S) x.toNatClampNeg))), (cf1 (trp ((sT S) x.toNatClampNeg))), (cf2 (trp ((sT S) x.toNatClampNeg))), (clo (trp ((sT S) x.toNatClampNeg))), (cnt (trp ((sT S) x.toNatClampNeg)))), (tau ((sT S) x.toNatClampNeg)), (tle ((sT S) x.toNatClampNeg)), (tfr ((sT S) x.toNatClampNeg)), (tsp ((sT S) x.toNatClampNeg)), (tes ((sT S) x.toNatClampNeg)), (tdo ((sT S) x.toNatClampNeg)), (tde ((sT S) x.toNatClampNeg)), (tdr ((sT S) x.toNatClampNeg)), (tem ((sT S) x.toNatClampNeg)), (tec ((sT S) x.toNatClampNeg)))) x.toNatClampNeg)), (tde ((va_up (sT S) x.toNatClampNeg (((cst (trp ((sT S) x.toNatClampNeg))), (car (trp ((sT S) x.toNatClampNeg))), (cfi (trp ((sT S) x.toNatClampNeg))), (cse (trp ((sT S) x.toNatClampNeg))), u, (csp (trp ((sT S) x.toNatClampNeg))), (cf1 (trp ((sT S) x.toNatClampNeg))), (cf2 (trp ((sT S) x.toNatClampNeg))), (clo (trp ((sT S) x.toNatClampNeg))), (cnt (trp ((sT S) x.toNatClampNeg)))), (tau ((sT S) x.toNatClampNeg)), (tle ((sT S) x.toNatClampNeg)), (tfr ((sT S) x.toNatClampNeg)), (tsp ((sT S) x.toNatClampNeg)), (tes ((sT S) x.toNatClampNeg)), (tdo ((sT S) x.toNatClampNeg)), (tde ((sT S) x.toNatClampNeg)), (tdr ((sT S) x.toNatClampNeg)), (tem ((sT S) x.toNatClampNeg)), (tec ((sT S) x.toNatClampNeg)))) x.toNatClampNeg)), (tdr ((va_up (sT S) x.toNatClampNeg (((cst (trp ((sT S) x.toNatClampNeg))), (car (trp ((sT S) x.toNatClampNeg))), (cfi (trp ((sT S) x.toNatClampNeg))), (cse (trp ((sT S) x.toNatClampNeg))), u, (csp (trp ((sT S) x.toNatClampNeg))), (cf1 (trp ((sT S) x.toNatClampNeg))), (cf2 (trp ((sT S) x.toNatClampNeg))), (clo (trp ((sT S) x.toNatClampNeg))), (cnt (trp ((sT S) x.toNatClampNeg)))), (tau ((sT S) x.toNatClampNeg)), (tle ((sT S) x.toNatClampNeg)), (tfr ((sT S) x.toNatClampNeg)), (tsp ((sT S) x.toNatClampNeg)), (tes ((sT S) x.toNatClampNeg)), (tdo ((sT S) x.toNatClampNeg)), (tde ((sT S) x.toNatClampNeg)), (tdr ((sT S) x.toNatClampNeg)), (tem ((sT S) x.toNatClampNeg)), (tec ((sT S) x.toNatClampNeg)))) x.toNatClampNeg)), (tem ((va_up (sT S) x.toNatClampNeg (((cst (trp ((sT S) x.toNatClampNeg))), (car (trp ((sT S) x.toNatClampNeg))), (cfi (trp ((sT S) x.toNatClampNeg))), (cse (trp ((sT S) x.toNatClampNeg))), u, (csp (trp ((sT S) x.toNatClampNeg))), (cf1 (trp ((sT S) x.toNatClampNeg))), (cf2 (trp ((sT S) x.toNatClampNeg))), (clo (trp ((sT S) x.toNatClampNeg))), (cnt (trp ((sT S) x.toNatClampNeg)))), (tau ((sT S) x.toNatClampNeg)), (tle ((sT S) x.toNatClampNeg)), (tfr ((sT S) x.toNatClampNeg)), (tsp ((sT S) x.toNatClampNeg)), (tes ((sT S) x.toNatClampNeg)), (tdo ((sT S) x.toNatClampNeg)), (tde ((sT S) x.toNatClampNeg)), (tdr ((sT S) x.toNatClampNeg)), (tem ((sT S) x.toNatClampNeg)), (tec ((sT S) x.toNatClampNeg)))) x.toNatClampNeg)), (tec ((va_up (sT S) x.toNatClampNeg (((cst (trp ((sT S) x.toNatClampNeg))), (car (trp ((sT S) x.toNatClampNeg))), (cfi (trp ((sT S) x.toNatClampNeg))), (cse (trp ((sT S) x.toNatClampNeg))), u, (csp (trp ((sT S) x.toNatClampNeg))), (cf1 (trp ((sT S) x.toNatClampNeg))), (cf2 (trp ((sT S) x.toNatClampNeg))), (clo (trp ((sT S) x.toNatClampNeg))), (cnt (trp ((sT S) x.toNatClampNeg)))), (tau ((sT S) x.toNatClampNeg)), (tle ((sT S) x.toNatClampNeg)), (tfr ((sT S) x.toNatClampNeg)), (tsp ((sT S) x.toNatClampNeg)), (tes ((sT S) x.toNatClampNeg)), (tdo ((sT S) x.toNatClampNeg)), (tde ((sT S) x.toNatClampNeg)), (tdr ((sT S) x.toNatClampNeg)), (tem ((sT S) x.toNatClampNeg)), (tec ((sT S) x.toNatClampNeg)))) x.toNatClampNeg)))), (sk S), (sy S), (sm S), (sn S))) H := mk_eqP (mb_setAu (g := g) (G := G) (S := ((va_up (sT S) x.toNatClampNeg (((cst (trp ((sT S) x.toNatClampNeg))), (car (trp ((sT S) x.toNatClampNeg))), (cfi (trp ((sT S) x.toNatClampNeg))), (cse (trp ((sT S) x.toNatClampNeg))), u, (csp (trp ((sT S) x.toNatClampNeg))), (cf1 (trp ((sT S) x.toNatClampNeg))), (cf2 (trp ((sT S) x.toNatClampNeg))), (clo (trp ((sT S) x.toNatClampNeg))), (cnt (trp ((sT S) x.toNatClampNeg)))), (tau ((sT S) x.toNatClampNeg)), (tle ((sT S) x.toNatClampNeg)), (tfr ((sT S) x.toNatClampNeg)), (tsp ((sT S) x.toNatClampNeg)), (tes ((sT S) x.toNatClampNeg)), (tdo ((sT S) x.toNatClampNeg)), (tde ((sT S) x.toNatClampNeg)), (tdr ((sT S) x.toNatClampNeg)), (tem ((sT S) x.toNatClampNeg)), (tec ((sT S) x.toNatClampNeg)))), (sk S), (sy S), (sm S), (sn S))) (i := x.toNatClampNeg) (sNo_lt hm c_1) d) hP
        have hD : va_D A (wMB g G ((va_up (va_up (sT S) x.toNatClampNeg (((cst (trp ((sT S) x.toNatClampNeg))), (car (trp ((sT S) x.toNatClampNeg))), (cfi (trp ((sT S) x.toNatClampNeg))), (cse (trp ((sT S) x.toNatClampNeg))), u, (csp (trp ((sT S) x.toNatClampNeg))), (cf1 (trp ((sT S) x.toNatClampNeg))), (cf2 (trp ((sT S) x.toNatClampNeg))), (clo (trp ((sT S) x.toNatClampNeg))), (cnt (trp ((sT S) x.toNatClampNeg)))), (tau ((sT S) x.toNatClampNeg)), (tle ((sT S) x.toNatClampNeg)), (tfr ((sT S) x.toNatClampNeg)), (tsp ((sT S) x.toNatClampNeg)), (tes ((sT S) x.toNatClampNeg)), (tdo ((sT S) x.toNatClampNeg)), (tde ((sT S) x.toNatClampNeg)), (tdr ((sT S) x.toNatClampNeg)), (tem ((sT S) x.toNatClampNeg)), (tec ((sT S) x.toNatClampNeg)))) x.toNatClampNeg ((trp ((va_up (sT S) x.toNatClampNeg (((cst (trp ((sT S) x.toNatClampNeg))), (car (trp ((sT S) x.toNatClampNeg))), (cfi (trp ((sT S) x.toNatClampNeg))), (cse (trp ((sT S) x.toNatClampNeg))), u, (csp (trp ((sT S) x.toNatClampNeg))), (cf1 (trp ((sT S) x.toNatClampNeg))), (cf2 (trp ((sT S) x.toNatClampNeg))), (clo (trp ((sT S) x.toNatClampNeg))), (cnt (trp ((sT S) x.toNatClampNeg)))), (tau ((sT S) x.toNatClampNeg)), (tle ((sT S) x.toNatClampNeg)), (tfr ((sT S) x.toNatClampNeg)), (tsp ((sT S) x.toNatClampNeg)), (tes ((sT S) x.toNatClampNeg)), (tdo ((sT S) x.toNatClampNeg)), (tde ((sT S) x.toNatClampNeg)), (tdr ((sT S) x.toNatClampNeg)), (tem ((sT S) x.toNatClampNeg)), (tec ((sT S) x.toNatClampNeg)))) x.toNatClampNeg)), ((cst (tau ((va_up (sT S) x.toNatClampNeg (((cst (trp ((sT S) x.toNatClampNeg))), (car (trp ((sT S) x.toNatClampNeg))), (cfi (trp ((sT S) x.toNatClampNeg))), (cse (trp ((sT S) x.toNatClampNeg))), u, (csp (trp ((sT S) x.toNatClampNeg))), (cf1 (trp ((sT S) x.toNatClampNeg))), (cf2 (trp ((sT S) x.toNatClampNeg))), (clo (trp ((sT S) x.toNatClampNeg))), (cnt (trp ((sT S) x.toNatClampNeg)))), (tau ((sT S) x.toNatClampNeg)), (tle ((sT S) x.toNatClampNeg)), (tfr ((sT S) x.toNatClampNeg)), (tsp ((sT S) x.toNatClampNeg)), (tes ((sT S) x.toNatClampNeg)), (tdo ((sT S) x.toNatClampNeg)), (tde ((sT S) x.toNatClampNeg)), (tdr ((sT S) x.toNatClampNeg)), (tem ((sT S) x.toNatClampNeg)), (tec ((sT S) x.toNatClampNeg)))) x.toNatClampNeg))), (car (tau ((va_up (sT S) x.toNatClampNeg (((cst (trp ((sT S) x.toNatClampNeg))), (car (trp ((sT S) x.toNatClampNeg))), (cfi (trp ((sT S) x.toNatClampNeg))), (cse (trp ((sT S) x.toNatClampNeg))), u, (csp (trp ((sT S) x.toNatClampNeg))), (cf1 (trp ((sT S) x.toNatClampNeg))), (cf2 (trp ((sT S) x.toNatClampNeg))), (clo (trp ((sT S) x.toNatClampNeg))), (cnt (trp ((sT S) x.toNatClampNeg)))), (tau ((sT S) x.toNatClampNeg)), (tle ((sT S) x.toNatClampNeg)), (tfr ((sT S) x.toNatClampNeg)), (tsp ((sT S) x.toNatClampNeg)), (tes ((sT S) x.toNatClampNeg)), (tdo ((sT S) x.toNatClampNeg)), (tde ((sT S) x.toNatClampNeg)), (tdr ((sT S) x.toNatClampNeg)), (tem ((sT S) x.toNatClampNeg)), (tec ((sT S) x.toNatClampNeg)))) x.toNatClampNeg))), (cfi (tau ((va_up (sT S) x.toNatClampNeg (((cst (trp ((sT S) x.toNatClampNeg))), (car (trp ((sT S) x.toNatClampNeg))), (cfi (trp ((sT S) x.toNatClampNeg))), (cse (trp ((sT S) x.toNatClampNeg))), u, (csp (trp ((sT S) x.toNatClampNeg))), (cf1 (trp ((sT S) x.toNatClampNeg))), (cf2 (trp ((sT S) x.toNatClampNeg))), (clo (trp ((sT S) x.toNatClampNeg))), (cnt (trp ((sT S) x.toNatClampNeg)))), (tau ((sT S) x.toNatClampNeg)), (tle ((sT S) x.toNatClampNeg)), (tfr ((sT S) x.toNatClampNeg)), (tsp ((sT S) x.toNatClampNeg)), (tes ((sT S) x.toNatClampNeg)), (tdo ((sT S) x.toNatClampNeg)), (tde ((sT S) x.toNatClampNeg)), (tdr ((sT S) x.toNatClampNeg)), (tem ((sT S) x.toNatClampNeg)), (tec ((sT S) x.toNatClampNeg)))) x.toNatClampNeg))), (cse (tau ((va_up (sT S) x.toNatClampNeg (((cst (trp ((sT S) x.toNatClampNeg))), (car (trp ((sT S) x.toNatClampNeg))), (cfi (trp ((sT S) x.toNatClampNeg))), (cse (trp ((sT S) x.toNatClampNeg))), u, (csp (trp ((sT S) x.toNatClampNeg))), (cf1 (trp ((sT S) x.toNatClampNeg))), (cf2 (trp ((sT S) x.toNatClampNeg))), (clo (trp ((sT S) x.toNatClampNeg))), (cnt (trp ((sT S) x.toNatClampNeg)))), (tau ((sT S) x.toNatClampNeg)), (tle ((sT S) x.toNatClampNeg)), (tfr ((sT S) x.toNatClampNeg)), (tsp ((sT S) x.toNatClampNeg)), (tes ((sT S) x.toNatClampNeg)), (tdo ((sT S) x.toNatClampNeg)), (tde ((sT S) x.toNatClampNeg)), (tdr ((sT S) x.toNatClampNeg)), (tem ((sT S) x.toNatClampNeg)), (tec ((sT S) x.toNatClampNeg)))) x.toNatClampNeg))), d, (csp (tau ((va_up (sT S) x.toNatClampNeg (((cst (trp ((sT S) x.toNatClampNeg))), (car (trp ((sT S) x.toNatClampNeg))), (cfi (trp ((sT S) x.toNatClampNeg))), (cse (trp ((sT S) x.toNatClampNeg))), u, (csp (trp ((sT S) x.toNatClampNeg))), (cf1 (trp ((sT S) x.toNatClampNeg))), (cf2 (trp ((sT S) x.toNatClampNeg))), (clo (trp ((sT S) x.toNatClampNeg))), (cnt (trp ((sT S) x.toNatClampNeg)))), (tau ((sT S) x.toNatClampNeg)), (tle ((sT S) x.toNatClampNeg)), (tfr ((sT S) x.toNatClampNeg)), (tsp ((sT S) x.toNatClampNeg)), (tes ((sT S) x.toNatClampNeg)), (tdo ((sT S) x.toNatClampNeg)), (tde ((sT S) x.toNatClampNeg)), (tdr ((sT S) x.toNatClampNeg)), (tem ((sT S) x.toNatClampNeg)), (tec ((sT S) x.toNatClampNeg)))) x.toNatClampNeg))), (cf1 (tau ((va_up (sT S) x.toNatClampNeg (((cst (trp ((sT S) x.toNatClampNeg))), (car (trp ((sT S) x.toNatClampNeg))), (cfi (trp ((sT S) x.toNatClampNeg))), (cse (trp ((sT S) x.toNatClampNeg))), u, (csp (trp ((sT S) x.toNatClampNeg))), (cf1 (trp ((sT S) x.toNatClampNeg))), (cf2 (trp ((sT S) x.toNatClampNeg))), (clo (trp ((sT S) x.toNatClampNeg))), (cnt (trp ((sT S) x.toNatClampNeg)))), (tau ((sT S) x.toNatClampNeg)), (tle ((sT S) x.toNatClampNeg)), (tfr ((sT S) x.toNatClampNeg)), (tsp ((sT S) x.toNatClampNeg)), (tes ((sT S) x.toNatClampNeg)), (tdo ((sT S) x.toNatClampNeg)), (tde ((sT S) x.toNatClampNeg)), (tdr ((sT S) x.toNatClampNeg)), (tem ((sT S) x.toNatClampNeg)), (tec ((sT S) x.toNatClampNeg)))) x.toNatClampNeg))), (cf2 (tau ((va_up (sT S) x.toNatClampNeg (((cst (trp ((sT S) x.toNatClampNeg))), (car (trp ((sT S) x.toNatClampNeg))), (cfi (trp ((sT S) x.toNatClampNeg))), (cse (trp ((sT S) x.toNatClampNeg))), u, (csp (trp ((sT S) x.toNatClampNeg))), (cf1 (trp ((sT S) x.toNatClampNeg))), (cf2 (trp ((sT S) x.toNatClampNeg))), (clo (trp ((sT S) x.toNatClampNeg))), (cnt (trp ((sT S) x.toNatClampNeg)))), (tau ((sT S) x.toNatClampNeg)), (tle ((sT S) x.toNatClampNeg)), (tfr ((sT S) x.toNatClampNeg)), (tsp ((sT S) x.toNatClampNeg)), (tes ((sT S) x.toNatClampNeg)), (tdo ((sT S) x.toNatClampNeg)), (tde ((sT S) x.toNatClampNeg)), (tdr ((sT S) x.toNatClampNeg)), (tem ((sT S) x.toNatClampNeg)), (tec ((sT S) x.toNatClampNeg)))) x.toNatClampNeg))), (clo (tau ((va_up (sT S) x.toNatClampNeg (((cst (trp ((sT S) x.toNatClampNeg))), (car (trp ((sT S) x.toNatClampNeg))), (cfi (trp ((sT S) x.toNatClampNeg))), (cse (trp ((sT S) x.toNatClampNeg))), u, (csp (trp ((sT S) x.toNatClampNeg))), (cf1 (trp ((sT S) x.toNatClampNeg))), (cf2 (trp ((sT S) x.toNatClampNeg))), (clo (trp ((sT S) x.toNatClampNeg))), (cnt (trp ((sT S) x.toNatClampNeg)))), (tau ((sT S) x.toNatClampNeg)), (tle ((sT S) x.toNatClampNeg)), (tfr ((sT S) x.toNatClampNeg)), (tsp ((sT S) x.toNatClampNeg)), (tes ((sT S) x.toNatClampNeg)), (tdo ((sT S) x.toNatClampNeg)), (tde ((sT S) x.toNatClampNeg)), (tdr ((sT S) x.toNatClampNeg)), (tem ((sT S) x.toNatClampNeg)), (tec ((sT S) x.toNatClampNeg)))) x.toNatClampNeg))), (cnt (tau ((va_up (sT S) x.toNatClampNeg (((cst (trp ((sT S) x.toNatClampNeg))), (car (trp ((sT S) x.toNatClampNeg))), (cfi (trp ((sT S) x.toNatClampNeg))), (cse (trp ((sT S) x.toNatClampNeg))), u, (csp (trp ((sT S) x.toNatClampNeg))), (cf1 (trp ((sT S) x.toNatClampNeg))), (cf2 (trp ((sT S) x.toNatClampNeg))), (clo (trp ((sT S) x.toNatClampNeg))), (cnt (trp ((sT S) x.toNatClampNeg)))), (tau ((sT S) x.toNatClampNeg)), (tle ((sT S) x.toNatClampNeg)), (tfr ((sT S) x.toNatClampNeg)), (tsp ((sT S) x.toNatClampNeg)), (tes ((sT S) x.toNatClampNeg)), (tdo ((sT S) x.toNatClampNeg)), (tde ((sT S) x.toNatClampNeg)), (tdr ((sT S) x.toNatClampNeg)), (tem ((sT S) x.toNatClampNeg)), (tec ((sT S) x.toNatClampNeg)))) x.toNatClampNeg)))), (tle ((va_up (sT S) x.toNatClampNeg (((cst (trp ((sT S) x.toNatClampNeg))), (car (trp ((sT S) x.toNatClampNeg))), (cfi (trp ((sT S) x.toNatClampNeg))), (cse (trp ((sT S) x.toNatClampNeg))), u, (csp (trp ((sT S) x.toNatClampNeg))), (cf1 (trp ((sT S) x.toNatClampNeg))), (cf2 (trp ((sT S) x.toNatClampNeg))), (clo (trp ((sT S) x.toNatClampNeg))), (cnt (trp ((sT S) x.toNatClampNeg)))), (tau ((sT S) x.toNatClampNeg)), (tle ((sT S) x.toNatClampNeg)), (tfr ((sT S) x.toNatClampNeg)), (tsp ((sT S) x.toNatClampNeg)), (tes ((sT S) x.toNatClampNeg)), (tdo ((sT S) x.toNatClampNeg)), (tde ((sT S) x.toNatClampNeg)), (tdr ((sT S) x.toNatClampNeg)), (tem ((sT S) x.toNatClampNeg)), (tec ((sT S) x.toNatClampNeg)))) x.toNatClampNeg)), (tfr ((va_up (sT S) x.toNatClampNeg (((cst (trp ((sT S) x.toNatClampNeg))), (car (trp ((sT S) x.toNatClampNeg))), (cfi (trp ((sT S) x.toNatClampNeg))), (cse (trp ((sT S) x.toNatClampNeg))), u, (csp (trp ((sT S) x.toNatClampNeg))), (cf1 (trp ((sT S) x.toNatClampNeg))), (cf2 (trp ((sT S) x.toNatClampNeg))), (clo (trp ((sT S) x.toNatClampNeg))), (cnt (trp ((sT S) x.toNatClampNeg)))), (tau ((sT S) x.toNatClampNeg)), (tle ((sT S) x.toNatClampNeg)), (tfr ((sT S) x.toNatClampNeg)), (tsp ((sT S) x.toNatClampNeg)), (tes ((sT S) x.toNatClampNeg)), (tdo ((sT S) x.toNatClampNeg)), (tde ((sT S) x.toNatClampNeg)), (tdr ((sT S) x.toNatClampNeg)), (tem ((sT S) x.toNatClampNeg)), (tec ((sT S) x.toNatClampNeg)))) x.toNatClampNeg)), (tsp ((va_up (sT S) x.toNatClampNeg (((cst (trp ((sT S) x.toNatClampNeg))), (car (trp ((sT S) x.toNatClampNeg))), (cfi (trp ((sT S) x.toNatClampNeg))), (cse (trp ((sT S) x.toNatClampNeg))), u, (csp (trp ((sT S) x.toNatClampNeg))), (cf1 (trp ((sT S) x.toNatClampNeg))), (cf2 (trp ((sT S) x.toNatClampNeg))), (clo (trp ((sT S) x.toNatClampNeg))), (cnt (trp ((sT S) x.toNatClampNeg)))), (tau ((sT S) x.toNatClampNeg)), (tle ((sT S) x.toNatClampNeg)), (tfr ((sT S) x.toNatClampNeg)), (tsp ((sT S) x.toNatClampNeg)), (tes ((sT S) x.toNatClampNeg)), (tdo ((sT S) x.toNatClampNeg)), (tde ((sT S) x.toNatClampNeg)), (tdr ((sT S) x.toNatClampNeg)), (tem ((sT S) x.toNatClampNeg)), (tec ((sT S) x.toNatClampNeg)))) x.toNatClampNeg)), (tes ((va_up (sT S) x.toNatClampNeg (((cst (trp ((sT S) x.toNatClampNeg))), (car (trp ((sT S) x.toNatClampNeg))), (cfi (trp ((sT S) x.toNatClampNeg))), (cse (trp ((sT S) x.toNatClampNeg))), u, (csp (trp ((sT S) x.toNatClampNeg))), (cf1 (trp ((sT S) x.toNatClampNeg))), (cf2 (trp ((sT S) x.toNatClampNeg))), (clo (trp ((sT S) x.toNatClampNeg))), (cnt (trp ((sT S) x.toNatClampNeg)))), (tau ((sT S) x.toNatClampNeg)), (tle ((sT S) x.toNatClampNeg)), (tfr ((sT S) x.toNatClampNeg)), (tsp ((sT S) x.toNatClampNeg)), (tes ((sT S) x.toNatClampNeg)), (tdo ((sT S) x.toNatClampNeg)), (tde ((sT S) x.toNatClampNeg)), (tdr ((sT S) x.toNatClampNeg)), (tem ((sT S) x.toNatClampNeg)), (tec ((sT S) x.toNatClampNeg)))) x.toNatClampNeg)), (tdo ((va_up (sT S) x.toNatClampNeg (((cst (trp ((sT S) x.toNatClampNeg))), (car (trp ((sT S) x.toNatClampNeg))), (cfi (trp ((sT S) x.toNatClampNeg))), (cse (trp ((sT S) x.toNatClampNeg))), u, (csp (trp ((sT S) x.toNatClampNeg))), (cf1 (trp ((sT S) x.toNatClampNeg))), (cf2 (trp ((sT S) x.toNatClampNeg))), (clo (trp ((sT S) x.toNatClampNeg))), (cnt (trp ((sT S) x.toNatClampNeg)))), (tau ((sT S) x.toNatClampNeg)), (tle ((sT S) x.toNatClampNeg)), (tfr ((sT S) x.toNatClampNeg)), (tsp ((sT S) x.toNatClampNeg)), (tes ((sT S) x.toNatClampNeg)), (tdo ((sT S) x.toNatClampNeg)), (tde ((sT S) x.toNatClampNeg)), (tdr ((sT S) x.toNatClampNeg)), (tem ((sT S) x.toNatClampNeg)), (tec ((sT S) x.toNatClampNeg)))) x.toNatClampNeg)), (tde ((va_up (sT S) x.toNatClampNeg (((cst (trp ((sT S) x.toNatClampNeg))), (car (trp ((sT S) x.toNatClampNeg))), (cfi (trp ((sT S) x.toNatClampNeg))), (cse (trp ((sT S) x.toNatClampNeg))), u, (csp (trp ((sT S) x.toNatClampNeg))), (cf1 (trp ((sT S) x.toNatClampNeg))), (cf2 (trp ((sT S) x.toNatClampNeg))), (clo (trp ((sT S) x.toNatClampNeg))), (cnt (trp ((sT S) x.toNatClampNeg)))), (tau ((sT S) x.toNatClampNeg)), (tle ((sT S) x.toNatClampNeg)), (tfr ((sT S) x.toNatClampNeg)), (tsp ((sT S) x.toNatClampNeg)), (tes ((sT S) x.toNatClampNeg)), (tdo ((sT S) x.toNatClampNeg)), (tde ((sT S) x.toNatClampNeg)), (tdr ((sT S) x.toNatClampNeg)), (tem ((sT S) x.toNatClampNeg)), (tec ((sT S) x.toNatClampNeg)))) x.toNatClampNeg)), (tdr ((va_up (sT S) x.toNatClampNeg (((cst (trp ((sT S) x.toNatClampNeg))), (car (trp ((sT S) x.toNatClampNeg))), (cfi (trp ((sT S) x.toNatClampNeg))), (cse (trp ((sT S) x.toNatClampNeg))), u, (csp (trp ((sT S) x.toNatClampNeg))), (cf1 (trp ((sT S) x.toNatClampNeg))), (cf2 (trp ((sT S) x.toNatClampNeg))), (clo (trp ((sT S) x.toNatClampNeg))), (cnt (trp ((sT S) x.toNatClampNeg)))), (tau ((sT S) x.toNatClampNeg)), (tle ((sT S) x.toNatClampNeg)), (tfr ((sT S) x.toNatClampNeg)), (tsp ((sT S) x.toNatClampNeg)), (tes ((sT S) x.toNatClampNeg)), (tdo ((sT S) x.toNatClampNeg)), (tde ((sT S) x.toNatClampNeg)), (tdr ((sT S) x.toNatClampNeg)), (tem ((sT S) x.toNatClampNeg)), (tec ((sT S) x.toNatClampNeg)))) x.toNatClampNeg)), (tem ((va_up (sT S) x.toNatClampNeg (((cst (trp ((sT S) x.toNatClampNeg))), (car (trp ((sT S) x.toNatClampNeg))), (cfi (trp ((sT S) x.toNatClampNeg))), (cse (trp ((sT S) x.toNatClampNeg))), u, (csp (trp ((sT S) x.toNatClampNeg))), (cf1 (trp ((sT S) x.toNatClampNeg))), (cf2 (trp ((sT S) x.toNatClampNeg))), (clo (trp ((sT S) x.toNatClampNeg))), (cnt (trp ((sT S) x.toNatClampNeg)))), (tau ((sT S) x.toNatClampNeg)), (tle ((sT S) x.toNatClampNeg)), (tfr ((sT S) x.toNatClampNeg)), (tsp ((sT S) x.toNatClampNeg)), (tes ((sT S) x.toNatClampNeg)), (tdo ((sT S) x.toNatClampNeg)), (tde ((sT S) x.toNatClampNeg)), (tdr ((sT S) x.toNatClampNeg)), (tem ((sT S) x.toNatClampNeg)), (tec ((sT S) x.toNatClampNeg)))) x.toNatClampNeg)), (tec ((va_up (sT S) x.toNatClampNeg (((cst (trp ((sT S) x.toNatClampNeg))), (car (trp ((sT S) x.toNatClampNeg))), (cfi (trp ((sT S) x.toNatClampNeg))), (cse (trp ((sT S) x.toNatClampNeg))), u, (csp (trp ((sT S) x.toNatClampNeg))), (cf1 (trp ((sT S) x.toNatClampNeg))), (cf2 (trp ((sT S) x.toNatClampNeg))), (clo (trp ((sT S) x.toNatClampNeg))), (cnt (trp ((sT S) x.toNatClampNeg)))), (tau ((sT S) x.toNatClampNeg)), (tle ((sT S) x.toNatClampNeg)), (tfr ((sT S) x.toNatClampNeg)), (tsp ((sT S) x.toNatClampNeg)), (tes ((sT S) x.toNatClampNeg)), (tdo ((sT S) x.toNatClampNeg)), (tde ((sT S) x.toNatClampNeg)), (tdr ((sT S) x.toNatClampNeg)), (tem ((sT S) x.toNatClampNeg)), (tec ((sT S) x.toNatClampNeg)))) x.toNatClampNeg)))), (sk S), (sy S), (sm S), (sn S))) := mk_eqD (mb_setAu (g := g) (G := G) (S := ((va_up (sT S) x.toNatClampNeg (((cst (trp ((sT S) x.toNatClampNeg))), (car (trp ((sT S) x.toNatClampNeg))), (cfi (trp ((sT S) x.toNatClampNeg))), (cse (trp ((sT S) x.toNatClampNeg))), u, (csp (trp ((sT S) x.toNatClampNeg))), (cf1 (trp ((sT S) x.toNatClampNeg))), (cf2 (trp ((sT S) x.toNatClampNeg))), (clo (trp ((sT S) x.toNatClampNeg))), (cnt (trp ((sT S) x.toNatClampNeg)))), (tau ((sT S) x.toNatClampNeg)), (tle ((sT S) x.toNatClampNeg)), (tfr ((sT S) x.toNatClampNeg)), (tsp ((sT S) x.toNatClampNeg)), (tes ((sT S) x.toNatClampNeg)), (tdo ((sT S) x.toNatClampNeg)), (tde ((sT S) x.toNatClampNeg)), (tdr ((sT S) x.toNatClampNeg)), (tem ((sT S) x.toNatClampNeg)), (tec ((sT S) x.toNatClampNeg)))), (sk S), (sy S), (sm S), (sn S))) (i := x.toNatClampNeg) (sNo_lt hm c_1) d) hD
        refine lv_iconst (v := 1) hx hb dMB_radio_55 (by decide) ?_
        have hE : wMB g G (xRadio S x u d).2 = wMB g G ((va_up (va_up (sT S) x.toNatClampNeg (((cst (trp ((sT S) x.toNatClampNeg))), (car (trp ((sT S) x.toNatClampNeg))), (cfi (trp ((sT S) x.toNatClampNeg))), (cse (trp ((sT S) x.toNatClampNeg))), u, (csp (trp ((sT S) x.toNatClampNeg))), (cf1 (trp ((sT S) x.toNatClampNeg))), (cf2 (trp ((sT S) x.toNatClampNeg))), (clo (trp ((sT S) x.toNatClampNeg))), (cnt (trp ((sT S) x.toNatClampNeg)))), (tau ((sT S) x.toNatClampNeg)), (tle ((sT S) x.toNatClampNeg)), (tfr ((sT S) x.toNatClampNeg)), (tsp ((sT S) x.toNatClampNeg)), (tes ((sT S) x.toNatClampNeg)), (tdo ((sT S) x.toNatClampNeg)), (tde ((sT S) x.toNatClampNeg)), (tdr ((sT S) x.toNatClampNeg)), (tem ((sT S) x.toNatClampNeg)), (tec ((sT S) x.toNatClampNeg)))) x.toNatClampNeg ((trp ((va_up (sT S) x.toNatClampNeg (((cst (trp ((sT S) x.toNatClampNeg))), (car (trp ((sT S) x.toNatClampNeg))), (cfi (trp ((sT S) x.toNatClampNeg))), (cse (trp ((sT S) x.toNatClampNeg))), u, (csp (trp ((sT S) x.toNatClampNeg))), (cf1 (trp ((sT S) x.toNatClampNeg))), (cf2 (trp ((sT S) x.toNatClampNeg))), (clo (trp ((sT S) x.toNatClampNeg))), (cnt (trp ((sT S) x.toNatClampNeg)))), (tau ((sT S) x.toNatClampNeg)), (tle ((sT S) x.toNatClampNeg)), (tfr ((sT S) x.toNatClampNeg)), (tsp ((sT S) x.toNatClampNeg)), (tes ((sT S) x.toNatClampNeg)), (tdo ((sT S) x.toNatClampNeg)), (tde ((sT S) x.toNatClampNeg)), (tdr ((sT S) x.toNatClampNeg)), (tem ((sT S) x.toNatClampNeg)), (tec ((sT S) x.toNatClampNeg)))) x.toNatClampNeg)), ((cst (tau ((va_up (sT S) x.toNatClampNeg (((cst (trp ((sT S) x.toNatClampNeg))), (car (trp ((sT S) x.toNatClampNeg))), (cfi (trp ((sT S) x.toNatClampNeg))), (cse (trp ((sT S) x.toNatClampNeg))), u, (csp (trp ((sT S) x.toNatClampNeg))), (cf1 (trp ((sT S) x.toNatClampNeg))), (cf2 (trp ((sT S) x.toNatClampNeg))), (clo (trp ((sT S) x.toNatClampNeg))), (cnt (trp ((sT S) x.toNatClampNeg)))), (tau ((sT S) x.toNatClampNeg)), (tle ((sT S) x.toNatClampNeg)), (tfr ((sT S) x.toNatClampNeg)), (tsp ((sT S) x.toNatClampNeg)), (tes ((sT S) x.toNatClampNeg)), (tdo ((sT S) x.toNatClampNeg)), (tde ((sT S) x.toNatClampNeg)), (tdr ((sT S) x.toNatClampNeg)), (tem ((sT S) x.toNatClampNeg)), (tec ((sT S) x.toNatClampNeg)))) x.toNatClampNeg))), (car (tau ((va_up (sT S) x.toNatClampNeg (((cst (trp ((sT S) x.toNatClampNeg))), (car (trp ((sT S) x.toNatClampNeg))), (cfi (trp ((sT S) x.toNatClampNeg))), (cse (trp ((sT S) x.toNatClampNeg))), u, (csp (trp ((sT S) x.toNatClampNeg))), (cf1 (trp ((sT S) x.toNatClampNeg))), (cf2 (trp ((sT S) x.toNatClampNeg))), (clo (trp ((sT S) x.toNatClampNeg))), (cnt (trp ((sT S) x.toNatClampNeg)))), (tau ((sT S) x.toNatClampNeg)), (tle ((sT S) x.toNatClampNeg)), (tfr ((sT S) x.toNatClampNeg)), (tsp ((sT S) x.toNatClampNeg)), (tes ((sT S) x.toNatClampNeg)), (tdo ((sT S) x.toNatClampNeg)), (tde ((sT S) x.toNatClampNeg)), (tdr ((sT S) x.toNatClampNeg)), (tem ((sT S) x.toNatClampNeg)), (tec ((sT S) x.toNatClampNeg)))) x.toNatClampNeg))), (cfi (tau ((va_up (sT S) x.toNatClampNeg (((cst (trp ((sT S) x.toNatClampNeg))), (car (trp ((sT S) x.toNatClampNeg))), (cfi (trp ((sT S) x.toNatClampNeg))), (cse (trp ((sT S) x.toNatClampNeg))), u, (csp (trp ((sT S) x.toNatClampNeg))), (cf1 (trp ((sT S) x.toNatClampNeg))), (cf2 (trp ((sT S) x.toNatClampNeg))), (clo (trp ((sT S) x.toNatClampNeg))), (cnt (trp ((sT S) x.toNatClampNeg)))), (tau ((sT S) x.toNatClampNeg)), (tle ((sT S) x.toNatClampNeg)), (tfr ((sT S) x.toNatClampNeg)), (tsp ((sT S) x.toNatClampNeg)), (tes ((sT S) x.toNatClampNeg)), (tdo ((sT S) x.toNatClampNeg)), (tde ((sT S) x.toNatClampNeg)), (tdr ((sT S) x.toNatClampNeg)), (tem ((sT S) x.toNatClampNeg)), (tec ((sT S) x.toNatClampNeg)))) x.toNatClampNeg))), (cse (tau ((va_up (sT S) x.toNatClampNeg (((cst (trp ((sT S) x.toNatClampNeg))), (car (trp ((sT S) x.toNatClampNeg))), (cfi (trp ((sT S) x.toNatClampNeg))), (cse (trp ((sT S) x.toNatClampNeg))), u, (csp (trp ((sT S) x.toNatClampNeg))), (cf1 (trp ((sT S) x.toNatClampNeg))), (cf2 (trp ((sT S) x.toNatClampNeg))), (clo (trp ((sT S) x.toNatClampNeg))), (cnt (trp ((sT S) x.toNatClampNeg)))), (tau ((sT S) x.toNatClampNeg)), (tle ((sT S) x.toNatClampNeg)), (tfr ((sT S) x.toNatClampNeg)), (tsp ((sT S) x.toNatClampNeg)), (tes ((sT S) x.toNatClampNeg)), (tdo ((sT S) x.toNatClampNeg)), (tde ((sT S) x.toNatClampNeg)), (tdr ((sT S) x.toNatClampNeg)), (tem ((sT S) x.toNatClampNeg)), (tec ((sT S) x.toNatClampNeg)))) x.toNatClampNeg))), d, (csp (tau ((va_up (sT S) x.toNatClampNeg (((cst (trp ((sT S) x.toNatClampNeg))), (car (trp ((sT S) x.toNatClampNeg))), (cfi (trp ((sT S) x.toNatClampNeg))), (cse (trp ((sT S) x.toNatClampNeg))), u, (csp (trp ((sT S) x.toNatClampNeg))), (cf1 (trp ((sT S) x.toNatClampNeg))), (cf2 (trp ((sT S) x.toNatClampNeg))), (clo (trp ((sT S) x.toNatClampNeg))), (cnt (trp ((sT S) x.toNatClampNeg)))), (tau ((sT S) x.toNatClampNeg)), (tle ((sT S) x.toNatClampNeg)), (tfr ((sT S) x.toNatClampNeg)), (tsp ((sT S) x.toNatClampNeg)), (tes ((sT S) x.toNatClampNeg)), (tdo ((sT S) x.toNatClampNeg)), (tde ((sT S) x.toNatClampNeg)), (tdr ((sT S) x.toNatClampNeg)), (tem ((sT S) x.toNatClampNeg)), (tec ((sT S) x.toNatClampNeg)))) x.toNatClampNeg))), (cf1 (tau ((va_up (sT S) x.toNatClampNeg (((cst (trp ((sT S) x.toNatClampNeg))), (car (trp ((sT S) x.toNatClampNeg))), (cfi (trp ((sT S) x.toNatClampNeg))), (cse (trp ((sT S) x.toNatClampNeg))), u, (csp (trp ((sT S) x.toNatClampNeg))), (cf1 (trp ((sT S) x.toNatClampNeg))), (cf2 (trp ((sT S) x.toNatClampNeg))), (clo (trp ((sT S) x.toNatClampNeg))), (cnt (trp ((sT S) x.toNatClampNeg)))), (tau ((sT S) x.toNatClampNeg)), (tle ((sT S) x.toNatClampNeg)), (tfr ((sT S) x.toNatClampNeg)), (tsp ((sT S) x.toNatClampNeg)), (tes ((sT S) x.toNatClampNeg)), (tdo ((sT S) x.toNatClampNeg)), (tde ((sT S) x.toNatClampNeg)), (tdr ((sT S) x.toNatClampNeg)), (tem ((sT S) x.toNatClampNeg)), (tec ((sT S) x.toNatClampNeg)))) x.toNatClampNeg))), (cf2 (tau ((va_up (sT S) x.toNatClampNeg (((cst (trp ((sT S) x.toNatClampNeg))), (car (trp ((sT S) x.toNatClampNeg))), (cfi (trp ((sT S) x.toNatClampNeg))), (cse (trp ((sT S) x.toNatClampNeg))), u, (csp (trp ((sT S) x.toNatClampNeg))), (cf1 (trp ((sT S) x.toNatClampNeg))), (cf2 (trp ((sT S) x.toNatClampNeg))), (clo (trp ((sT S) x.toNatClampNeg))), (cnt (trp ((sT S) x.toNatClampNeg)))), (tau ((sT S) x.toNatClampNeg)), (tle ((sT S) x.toNatClampNeg)), (tfr ((sT S) x.toNatClampNeg)), (tsp ((sT S) x.toNatClampNeg)), (tes ((sT S) x.toNatClampNeg)), (tdo ((sT S) x.toNatClampNeg)), (tde ((sT S) x.toNatClampNeg)), (tdr ((sT S) x.toNatClampNeg)), (tem ((sT S) x.toNatClampNeg)), (tec ((sT S) x.toNatClampNeg)))) x.toNatClampNeg))), (clo (tau ((va_up (sT S) x.toNatClampNeg (((cst (trp ((sT S) x.toNatClampNeg))), (car (trp ((sT S) x.toNatClampNeg))), (cfi (trp ((sT S) x.toNatClampNeg))), (cse (trp ((sT S) x.toNatClampNeg))), u, (csp (trp ((sT S) x.toNatClampNeg))), (cf1 (trp ((sT S) x.toNatClampNeg))), (cf2 (trp ((sT S) x.toNatClampNeg))), (clo (trp ((sT S) x.toNatClampNeg))), (cnt (trp ((sT S) x.toNatClampNeg)))), (tau ((sT S) x.toNatClampNeg)), (tle ((sT S) x.toNatClampNeg)), (tfr ((sT S) x.toNatClampNeg)), (tsp ((sT S) x.toNatClampNeg)), (tes ((sT S) x.toNatClampNeg)), (tdo ((sT S) x.toNatClampNeg)), (tde ((sT S) x.toNatClampNeg)), (tdr ((sT S) x.toNatClampNeg)), (tem ((sT S) x.toNatClampNeg)), (tec ((sT S) x.toNatClampNeg)))) x.toNatClampNeg))), (cnt (tau ((va_up (sT S) x.toNatClampNeg (((cst (trp ((sT S) x.toNatClampNeg))), (car (trp ((sT S) x.toNatClampNeg))), (cfi (trp ((sT S) x.toNatClampNeg))), (cse (trp ((sT S) x.toNatClampNeg))), u, (csp (trp ((sT S) x.toNatClampNeg))), (cf1 (trp ((sT S) x.toNatClampNeg))), (cf2 (trp ((sT S) x.toNatClampNeg))), (clo (trp ((sT S) x.toNatClampNeg))), (cnt (trp ((sT S) x.toNatClampNeg)))), (tau ((sT S) x.toNatClampNeg)), (tle ((sT S) x.toNatClampNeg)), (tfr ((sT S) x.toNatClampNeg)), (tsp ((sT S) x.toNatClampNeg)), (tes ((sT S) x.toNatClampNeg)), (tdo ((sT S) x.toNatClampNeg)), (tde ((sT S) x.toNatClampNeg)), (tdr ((sT S) x.toNatClampNeg)), (tem ((sT S) x.toNatClampNeg)), (tec ((sT S) x.toNatClampNeg)))) x.toNatClampNeg)))), (tle ((va_up (sT S) x.toNatClampNeg (((cst (trp ((sT S) x.toNatClampNeg))), (car (trp ((sT S) x.toNatClampNeg))), (cfi (trp ((sT S) x.toNatClampNeg))), (cse (trp ((sT S) x.toNatClampNeg))), u, (csp (trp ((sT S) x.toNatClampNeg))), (cf1 (trp ((sT S) x.toNatClampNeg))), (cf2 (trp ((sT S) x.toNatClampNeg))), (clo (trp ((sT S) x.toNatClampNeg))), (cnt (trp ((sT S) x.toNatClampNeg)))), (tau ((sT S) x.toNatClampNeg)), (tle ((sT S) x.toNatClampNeg)), (tfr ((sT S) x.toNatClampNeg)), (tsp ((sT S) x.toNatClampNeg)), (tes ((sT S) x.toNatClampNeg)), (tdo ((sT S) x.toNatClampNeg)), (tde ((sT S) x.toNatClampNeg)), (tdr ((sT S) x.toNatClampNeg)), (tem ((sT S) x.toNatClampNeg)), (tec ((sT S) x.toNatClampNeg)))) x.toNatClampNeg)), (tfr ((va_up (sT S) x.toNatClampNeg (((cst (trp ((sT S) x.toNatClampNeg))), (car (trp ((sT S) x.toNatClampNeg))), (cfi (trp ((sT S) x.toNatClampNeg))), (cse (trp ((sT S) x.toNatClampNeg))), u, (csp (trp ((sT S) x.toNatClampNeg))), (cf1 (trp ((sT S) x.toNatClampNeg))), (cf2 (trp ((sT S) x.toNatClampNeg))), (clo (trp ((sT S) x.toNatClampNeg))), (cnt (trp ((sT S) x.toNatClampNeg)))), (tau ((sT S) x.toNatClampNeg)), (tle ((sT S) x.toNatClampNeg)), (tfr ((sT S) x.toNatClampNeg)), (tsp ((sT S) x.toNatClampNeg)), (tes ((sT S) x.toNatClampNeg)), (tdo ((sT S) x.toNatClampNeg)), (tde ((sT S) x.toNatClampNeg)), (tdr ((sT S) x.toNatClampNeg)), (tem ((sT S) x.toNatClampNeg)), (tec ((sT S) x.toNatClampNeg)))) x.toNatClampNeg)), (tsp ((va_up (sT S) x.toNatClampNeg (((cst (trp ((sT S) x.toNatClampNeg))), (car (trp ((sT S) x.toNatClampNeg))), (cfi (trp ((sT S) x.toNatClampNeg))), (cse (trp ((sT S) x.toNatClampNeg))), u, (csp (trp ((sT S) x.toNatClampNeg))), (cf1 (trp ((sT S) x.toNatClampNeg))), (cf2 (trp ((sT S) x.toNatClampNeg))), (clo (trp ((sT S) x.toNatClampNeg))), (cnt (trp ((sT S) x.toNatClampNeg)))), (tau ((sT S) x.toNatClampNeg)), (tle ((sT S) x.toNatClampNeg)), (tfr ((sT S) x.toNatClampNeg)), (tsp ((sT S) x.toNatClampNeg)), (tes ((sT S) x.toNatClampNeg)), (tdo ((sT S) x.toNatClampNeg)), (tde ((sT S) x.toNatClampNeg)), (tdr ((sT S) x.toNatClampNeg)), (tem ((sT S) x.toNatClampNeg)), (tec ((sT S) x.toNatClampNeg)))) x.toNatClampNeg)), (tes ((va_up (sT S) x.toNatClampNeg (((cst (trp ((sT S) x.toNatClampNeg))), (car (trp ((sT S) x.toNatClampNeg))), (cfi (trp ((sT S) x.toNatClampNeg))), (cse (trp ((sT S) x.toNatClampNeg))), u, (csp (trp ((sT S) x.toNatClampNeg))), (cf1 (trp ((sT S) x.toNatClampNeg))), (cf2 (trp ((sT S) x.toNatClampNeg))), (clo (trp ((sT S) x.toNatClampNeg))), (cnt (trp ((sT S) x.toNatClampNeg)))), (tau ((sT S) x.toNatClampNeg)), (tle ((sT S) x.toNatClampNeg)), (tfr ((sT S) x.toNatClampNeg)), (tsp ((sT S) x.toNatClampNeg)), (tes ((sT S) x.toNatClampNeg)), (tdo ((sT S) x.toNatClampNeg)), (tde ((sT S) x.toNatClampNeg)), (tdr ((sT S) x.toNatClampNeg)), (tem ((sT S) x.toNatClampNeg)), (tec ((sT S) x.toNatClampNeg)))) x.toNatClampNeg)), (tdo ((va_up (sT S) x.toNatClampNeg (((cst (trp ((sT S) x.toNatClampNeg))), (car (trp ((sT S) x.toNatClampNeg))), (cfi (trp ((sT S) x.toNatClampNeg))), (cse (trp ((sT S) x.toNatClampNeg))), u, (csp (trp ((sT S) x.toNatClampNeg))), (cf1 (trp ((sT S) x.toNatClampNeg))), (cf2 (trp ((sT S) x.toNatClampNeg))), (clo (trp ((sT S) x.toNatClampNeg))), (cnt (trp ((sT S) x.toNatClampNeg)))), (tau ((sT S) x.toNatClampNeg)), (tle ((sT S) x.toNatClampNeg)), (tfr ((sT S) x.toNatClampNeg)), (tsp ((sT S) x.toNatClampNeg)), (tes ((sT S) x.toNatClampNeg)), (tdo ((sT S) x.toNatClampNeg)), (tde ((sT S) x.toNatClampNeg)), (tdr ((sT S) x.toNatClampNeg)), (tem ((sT S) x.toNatClampNeg)), (tec ((sT S) x.toNatClampNeg)))) x.toNatClampNeg)), (tde ((va_up (sT S) x.toNatClampNeg (((cst (trp ((sT S) x.toNatClampNeg))), (car (trp ((sT S) x.toNatClampNeg))), (cfi (trp ((sT S) x.toNatClampNeg))), (cse (trp ((sT S) x.toNatClampNeg))), u, (csp (trp ((sT S) x.toNatClampNeg))), (cf1 (trp ((sT S) x.toNatClampNeg))), (cf2 (trp ((sT S) x.toNatClampNeg))), (clo (trp ((sT S) x.toNatClampNeg))), (cnt (trp ((sT S) x.toNatClampNeg)))), (tau ((sT S) x.toNatClampNeg)), (tle ((sT S) x.toNatClampNeg)), (tfr ((sT S) x.toNatClampNeg)), (tsp ((sT S) x.toNatClampNeg)), (tes ((sT S) x.toNatClampNeg)), (tdo ((sT S) x.toNatClampNeg)), (tde ((sT S) x.toNatClampNeg)), (tdr ((sT S) x.toNatClampNeg)), (tem ((sT S) x.toNatClampNeg)), (tec ((sT S) x.toNatClampNeg)))) x.toNatClampNeg)), (tdr ((va_up (sT S) x.toNatClampNeg (((cst (trp ((sT S) x.toNatClampNeg))), (car (trp ((sT S) x.toNatClampNeg))), (cfi (trp ((sT S) x.toNatClampNeg))), (cse (trp ((sT S) x.toNatClampNeg))), u, (csp (trp ((sT S) x.toNatClampNeg))), (cf1 (trp ((sT S) x.toNatClampNeg))), (cf2 (trp ((sT S) x.toNatClampNeg))), (clo (trp ((sT S) x.toNatClampNeg))), (cnt (trp ((sT S) x.toNatClampNeg)))), (tau ((sT S) x.toNatClampNeg)), (tle ((sT S) x.toNatClampNeg)), (tfr ((sT S) x.toNatClampNeg)), (tsp ((sT S) x.toNatClampNeg)), (tes ((sT S) x.toNatClampNeg)), (tdo ((sT S) x.toNatClampNeg)), (tde ((sT S) x.toNatClampNeg)), (tdr ((sT S) x.toNatClampNeg)), (tem ((sT S) x.toNatClampNeg)), (tec ((sT S) x.toNatClampNeg)))) x.toNatClampNeg)), (tem ((va_up (sT S) x.toNatClampNeg (((cst (trp ((sT S) x.toNatClampNeg))), (car (trp ((sT S) x.toNatClampNeg))), (cfi (trp ((sT S) x.toNatClampNeg))), (cse (trp ((sT S) x.toNatClampNeg))), u, (csp (trp ((sT S) x.toNatClampNeg))), (cf1 (trp ((sT S) x.toNatClampNeg))), (cf2 (trp ((sT S) x.toNatClampNeg))), (clo (trp ((sT S) x.toNatClampNeg))), (cnt (trp ((sT S) x.toNatClampNeg)))), (tau ((sT S) x.toNatClampNeg)), (tle ((sT S) x.toNatClampNeg)), (tfr ((sT S) x.toNatClampNeg)), (tsp ((sT S) x.toNatClampNeg)), (tes ((sT S) x.toNatClampNeg)), (tdo ((sT S) x.toNatClampNeg)), (tde ((sT S) x.toNatClampNeg)), (tdr ((sT S) x.toNatClampNeg)), (tem ((sT S) x.toNatClampNeg)), (tec ((sT S) x.toNatClampNeg)))) x.toNatClampNeg)), (tec ((va_up (sT S) x.toNatClampNeg (((cst (trp ((sT S) x.toNatClampNeg))), (car (trp ((sT S) x.toNatClampNeg))), (cfi (trp ((sT S) x.toNatClampNeg))), (cse (trp ((sT S) x.toNatClampNeg))), u, (csp (trp ((sT S) x.toNatClampNeg))), (cf1 (trp ((sT S) x.toNatClampNeg))), (cf2 (trp ((sT S) x.toNatClampNeg))), (clo (trp ((sT S) x.toNatClampNeg))), (cnt (trp ((sT S) x.toNatClampNeg)))), (tau ((sT S) x.toNatClampNeg)), (tle ((sT S) x.toNatClampNeg)), (tfr ((sT S) x.toNatClampNeg)), (tsp ((sT S) x.toNatClampNeg)), (tes ((sT S) x.toNatClampNeg)), (tdo ((sT S) x.toNatClampNeg)), (tde ((sT S) x.toNatClampNeg)), (tdr ((sT S) x.toNatClampNeg)), (tem ((sT S) x.toNatClampNeg)), (tec ((sT S) x.toNatClampNeg)))) x.toNatClampNeg)))), (sk S), (sy S), (sm S), (sn S)) := (by simp only [xRadio, sSetT, tSetDl, tSetR, tSetA, cSetD, va_up_self, bx_uu, if_pos c_1, if_pos c_2, if_pos c_3] <;> rfl)
        exact W.iret (v := 1) hx hb hr (fun t9 ht hW => ⟨⟨1, (), rfl, (by simp only [xRadio, sSetT, tSetDl, tSetR, tSetA, cSetD, va_up_self, bx_uu, if_pos c_1, if_pos c_2, if_pos c_3] <;> rfl), mk_end ht hE hP⟩, hS.F ht⟩) hS.2.2 dMB_radio_56
      · refine lv_ldc (v := (-1000000)) hx hb hown (htB _ b_173) dMB_radio_26 ?_
        have hE : wMB g G (xRadio S x u d).2 = wMB g G S := (by simp only [xRadio, sSetT, tSetDl, tSetR, tSetA, cSetD, va_up_self, bx_uu, if_pos c_1, if_pos c_2, if_neg c_3] <;> rfl)
        exact W.iret (v := (-1000000)) hx hb hr (fun t9 ht hW => ⟨⟨(-1000000), (), rfl, (by simp only [xRadio, sSetT, tSetDl, tSetR, tSetA, cSetD, va_up_self, bx_uu, if_pos c_1, if_pos c_2, if_neg c_3] <;> rfl), mk_end ht hE hP⟩, hS.F ht⟩) hS.2.2 dMB_radio_28
set_option maxHeartbeats 4000000 in
set_option maxRecDepth 100000 in
theorem lp_behind {p : Program} {l : Launch} {e : Env} {s : State} {m : MethodId} {args : Array Value} {below : List Frame} {meth : Method} {cd : Code} {Q : State → Prop} {D : va_G} {g : Nat → ClassId} {A : Nat → Prop} {Ad : Nat → Prop} {G : zAd} {S : zMB} (hG : gOK G) (hm : sm S ≤ 4) {r : Nat} (hr : r ≤ 4) (hx : p.tables.exec = Jvm.exec) (hb : cd.code = cMB_endBehindTrainsAhead) (hml : cd.maxLocals = 5) (hown : s.vm.findClass RMB = some m.cls) (hts : ∀ w ∈ wsMB_endBehindTrainsAhead, w.before args s = true) (hK : va_K D vwCl (zty g) s) (hA : ∀ q : Nat, s.heap.size ≤ q → A q) : ∀ (j i : Nat) (q : Int32) (H : Heap) (locs : List Loc) (ls : Array Slot), i + j = r → va_P D vwCl (wMB g G S) H → va_D Ad (wMB g G S) → va_S A s.heap H locs → lv_has ls 5 [(3, .int (nI i)), (2, .int q), (0, .ref (go G 0)), (1, .int (nI r))] → (∀ (H : Heap) (locs : List Loc) (ls : Array Slot), va_P D vwCl (wMB g G S) H → va_D Ad (wMB g G S) → va_S A s.heap H locs → lv_has ls 5 [(2, .int (behL S j i q)), (0, .ref (go G 0)), (1, .int (nI r))] → W p l e ({ frames := 1, cells := 0, slots := 0, locals := 21 }) s m args below meth cd H locs 0 0 Q (F0 m 52 ls [])) → W p l e ({ frames := 1, cells := 0, slots := 0, locals := 21 }) s m args below meth cd H locs 0 0 Q (F0 m 5 ls []) := by
  have htB : ∀ w ∈ BIG, w.before args s = true := fun w h => hts w (List.mem_cons_of_mem _ h)
  intro j
  induction j with
  | zero =>
    intro i q H locs ls hi hP hD hS hl kk
    refine lv_iload_n hx hb dMB_endBehindTrainsAhead_5 rfl (lv_at hl 0 rfl) ?_
    refine lv_iload_n hx hb dMB_endBehindTrainsAhead_6 rfl (lv_at hl 3 rfl) ?_
    refine lv_icmp_ge (tgt := 52) hx hb dMB_endBehindTrainsAhead_7 (by decide) (fun _ => ?_) (fun c_1 => absurd (nI_le (a := r) (b := i) (by omega) (by omega)) c_1)
    exact kk H locs ls hP hD hS (lv_sub hl [1, 2, 3] rfl)
  | succ j ih =>
    intro i q H locs ls hi hP hD hS hl kk
    refine lv_iload_n hx hb dMB_endBehindTrainsAhead_5 rfl (lv_at hl 0 rfl) ?_
    refine lv_iload_n hx hb dMB_endBehindTrainsAhead_6 rfl (lv_at hl 3 rfl) ?_
    refine lv_icmp_ge (tgt := 52) hx hb dMB_endBehindTrainsAhead_7 (by decide) (fun c_1 => absurd c_1 (nI_ge (a := i) (b := r) (by omega) (by omega))) (fun _ => ?_)
    refine lv_aload_n hx hb dMB_endBehindTrainsAhead_10 rfl (lv_at hl 2 rfl) ?_
    refine va_get (D := D) (ci := iMB) (v := .ref (go G 1)) (C := RMB) (T := TMB) (N := 5) hx hb htB inBMB hown hK hP 0 rfl rfl 2 (by decide) (htB _ b_152) (fun _ h9 => h9) rfl dMB_endBehindTrainsAhead_11 ?_
    refine lv_iload_n hx hb dMB_endBehindTrainsAhead_14 rfl (lv_at hl 0 rfl) ?_
    refine mk_aald (k := i) hx hb hK hP 8 2 rfl rfl rfl ⟨(by omega), by decide⟩ (hG _ (by omega)) dMB_endBehindTrainsAhead_15 ?_
    refine va_get (D := D) (ci := iTr) (v := .ref (ga G i 1 0)) (C := RTr) (T := TTr) (N := 11) hx hb htB inBTr hown hK hP (9 + 11 * i) (mb_atTr (by omega)) rfl 0 (by decide) (htB _ b_107) (fun _ h9 => h9) rfl dMB_endBehindTrainsAhead_16 ?_
    refine lv_astore (lv' := [(4, .ref (ga G i 1 0)), (3, .int (nI i)), (2, .int q), (0, .ref (go G 0)), (1, .int (nI r))]) hx hb dMB_endBehindTrainsAhead_19 hl (by decide) rfl (fun ls hl => ?_)
    refine lv_iload_n hx hb dMB_endBehindTrainsAhead_21 rfl (lv_at hl 2 rfl) ?_
    refine lv_aload hx hb dMB_endBehindTrainsAhead_22 (lv_at hl 0 rfl) ?_
    refine mk_rdV (As := []) (rest := [.int q]) (w := (wCh g (ga G i 1) (trp ((sT S) i)))) (q0 := (RCh, TCh, 10)) (ci := iCh) ⟨hx, hb, hml, hown, hts⟩ (c_Ch_wasTaken l D g (ga G i 1) (trp ((sT S) i)) ) (cwV 0 hts (gd_V b_249 b_250 b_251 b_5 b_252) rfl rfl rfl (by decide +kernel) ⟨Nat.le_of_ble_eq_true rfl, Nat.le_of_ble_eq_true rfl⟩) hK hP hD hS hA (pRp i) (mb_cutRp (by omega)) (pRp_nd (by omega)) rfl rfl rfl hl.1 rfl (Nat.le_of_ble_eq_true rfl) dMB_endBehindTrainsAhead_24 ⟨Nat.zero_le _, Nat.zero_le _⟩ (fun H locs hP hS => ?_)
    refine lv_if_eq (tgt := 41) hx hb dMB_endBehindTrainsAhead_27 (by decide) (fun c_2 => ?_) (fun c_2 => ?_)
    · refine lv_iconst (v := 0) hx hb dMB_endBehindTrainsAhead_41 (by decide) ?_
      refine va_mmin hx hb (by rw [hml]; exact hl.1.symm) hown (htB _ b_269) (htB _ b_262) (htB _ b_7) (htB _ b_263) (Nat.le_of_ble_eq_true rfl) (Nat.le_of_ble_eq_true rfl) (Nat.zero_le _) (Nat.zero_le _) dMB_endBehindTrainsAhead_42 ?_
      refine lv_istore_n (lv' := [(2, .int (mn q 0)), (4, .ref (ga G i 1 0)), (3, .int (nI i)), (0, .ref (go G 0)), (1, .int (nI r))]) hx hb dMB_endBehindTrainsAhead_45 rfl hl (by decide) rfl (fun ls hl => ?_)
      refine lv_iinc (v := nI (i + 1)) (lv' := [(3, .int (nI (i + 1))), (2, .int (mn q 0)), (4, .ref (ga G i 1 0)), (0, .ref (go G 0)), (1, .int (nI r))]) hx hb dMB_endBehindTrainsAhead_46 hl (k := 2) rfl (nI_1 _) (by decide) rfl (fun ls hl => ?_)
      refine lv_goto (tgt := 5) hx hb dMB_endBehindTrainsAhead_49 (by decide) ?_
      have hE : behL S (j + 1) i q = behL S j (i + 1) (mn q 0) := (by simp only [behL, if_pos c_2] <;> rfl)
      rw [hE] at kk
      exact ih (i + 1) (mn q 0) H locs ls (by omega) hP hD hS (lv_sub hl [0, 1, 3, 4] rfl) kk
    · refine lv_aload hx hb dMB_endBehindTrainsAhead_30 (lv_at hl 0 rfl) ?_
      refine va_get (D := D) (ci := iCh) (v := .int (cf2 (trp ((sT S) i)))) (C := RCh) (T := TCh) (N := 10) hx hb htB inBCh hown hK hP (9 + 11 * i + 1) (mb_atRp (by omega)) rfl 7 (by decide) (htB _ b_80) (fun _ h9 => h9) rfl dMB_endBehindTrainsAhead_32 ?_
      refine lv_bipush (v := 64) hx hb dMB_endBehindTrainsAhead_35 (by decide) ?_
      refine lv_isub hx hb dMB_endBehindTrainsAhead_37 ?_
      refine lv_goto (tgt := 42) hx hb dMB_endBehindTrainsAhead_38 (by decide) ?_
      refine va_mmin hx hb (by rw [hml]; exact hl.1.symm) hown (htB _ b_269) (htB _ b_262) (htB _ b_7) (htB _ b_263) (Nat.le_of_ble_eq_true rfl) (Nat.le_of_ble_eq_true rfl) (Nat.zero_le _) (Nat.zero_le _) dMB_endBehindTrainsAhead_42 ?_
      refine lv_istore_n (lv' := [(2, .int (mn q ((cf2 (trp ((sT S) i))) - 64))), (4, .ref (ga G i 1 0)), (3, .int (nI i)), (0, .ref (go G 0)), (1, .int (nI r))]) hx hb dMB_endBehindTrainsAhead_45 rfl hl (by decide) rfl (fun ls hl => ?_)
      refine lv_iinc (v := nI (i + 1)) (lv' := [(3, .int (nI (i + 1))), (2, .int (mn q ((cf2 (trp ((sT S) i))) - 64))), (4, .ref (ga G i 1 0)), (0, .ref (go G 0)), (1, .int (nI r))]) hx hb dMB_endBehindTrainsAhead_46 hl (k := 2) rfl (nI_1 _) (by decide) rfl (fun ls hl => ?_)
      refine lv_goto (tgt := 5) hx hb dMB_endBehindTrainsAhead_49 (by decide) ?_
      have hE : behL S (j + 1) i q = behL S j (i + 1) (mn q ((cf2 (trp ((sT S) i))) - 64)) := (by simp only [behL, if_neg c_2] <;> rfl)
      rw [hE] at kk
      exact ih (i + 1) (mn q ((cf2 (trp ((sT S) i))) - 64)) H locs ls (by omega) hP hD hS (lv_sub hl [0, 1, 3, 4] rfl) kk
set_option maxHeartbeats 4000000 in
set_option maxRecDepth 100000 in
/-- endBehindTrainsAhead -/
theorem c_behind (l : Launch) (D : va_G) (g : Nat → ClassId) (G : zAd) (S : zMB) (hG : gOK G) (hm : sm S ≤ 4) (i : Nat) (hi : i ≤ 4) : mk_Rd l yMB_endBehindTrainsAhead wsMB_endBehindTrainsAhead ({ frames := 1, cells := 0, slots := 0, locals := 21 }) D vwCl (zty g) [.ref (go G 0), .int (nI i)] (wMB g G S) (sBehind S i) := by
  intro sz
  refine Met.ofW (cc := cMB_endBehindTrainsAhead) (maxL := 5) (ret := (some .int)) (by decide) rfl ?_
  intro p e s m args below meth cd s₁ B hml hv
  obtain ⟨rfl, hsz, hP, hK, hD0⟩ := hv
  have hx := B.exec
  have hb := B.bytes
  have hr := B.returns
  have hts := atoms_spec (ws := wsMB_endBehindTrainsAhead) B.pre
  have htB := fun (w : Cond) (h : w ∈ BIG) => hts w (List.mem_cons_of_mem _ h)
  have hown : s.vm.findClass RMB = some m.cls := findClass_of_methodNamed B.named
  have hlocks := B.notSynchronized
  subst hsz
  have hD := hD0
  have hA : ∀ q : Nat, s.heap.size ≤ q → (fun q => s.heap.size ≤ q) q := fun _ h => h
  have hS : va_S (fun q => s.heap.size ≤ q) s.heap s.heap [] := va_S.rf
  have hl := lv_entry ([.ref (go G 0), .int (nI i)]) (n := 5) (Nat.le_of_ble_eq_true rfl)
  rw [lg_entry_eq]
  generalize (lg_sl ([.ref (go G 0), .int (nI i)]) ++ List.replicate (5 - (lg_sl ([.ref (go G 0), .int (nI i)])).length) Slot.unset).toArray = ls at hl ⊢
  have hl : lv_has ls 5 [(0, .ref (go G 0)), (1, .int (nI i))] := hl
  have hP : va_P D vwCl (wMB g G S) s.heap := hP
  refine lv_ldc (v := 32768) hx hb hown (htB _ b_268) dMB_endBehindTrainsAhead_0 ?_
  refine lv_istore_n (lv' := [(2, .int 32768), (0, .ref (go G 0)), (1, .int (nI i))]) hx hb dMB_endBehindTrainsAhead_2 rfl hl (by decide) rfl (fun ls hl => ?_)
  refine lv_iconst (v := 0) hx hb dMB_endBehindTrainsAhead_3 (by decide) ?_
  refine lv_istore_n (lv' := [(3, .int 0), (2, .int 32768), (0, .ref (go G 0)), (1, .int (nI i))]) hx hb dMB_endBehindTrainsAhead_4 rfl hl (by decide) rfl (fun ls hl => ?_)
  refine lp_behind (G := G) (S := S) hG hm (r := i) hi hx hb hml hown hts hK hA i 0 32768 _ _ ls (by omega) hP hD hS (lv_sub hl [0, 1, 2, 3] rfl) (fun H locs ls hP hD hS hl => ?_)
  refine lv_iload_n hx hb dMB_endBehindTrainsAhead_52 rfl (lv_at hl 0 rfl) ?_
  exact W.iret (v := behL S i 0 32768) hx hb hr (fun t9 ht hW => ⟨⟨behL S i 0 32768, (), rfl, (by first | rfl | (simp only [sBehind] <;> rfl)), trivial⟩, hS.F ht⟩) hS.2.2 dMB_endBehindTrainsAhead_53
set_option maxHeartbeats 4000000 in
set_option maxRecDepth 100000 in
theorem lp_cotw {p : Program} {l : Launch} {e : Env} {s : State} {m : MethodId} {args : Array Value} {below : List Frame} {meth : Method} {cd : Code} {Q : State → Prop} {D : va_G} {g : Nat → ClassId} {A : Nat → Prop} {Ad : Nat → Prop} {G : zAd} {S : zMB} (hG : gOK G) (hm : sm S ≤ 4) (hx : p.tables.exec = Jvm.exec) (hb : cd.code = cMB_messagesOnTheWay) (hml : cd.maxLocals = 3) (hown : s.vm.findClass RMB = some m.cls) (hts : ∀ w ∈ wsMB_messagesOnTheWay, w.before args s = true) (hK : va_K D vwCl (zty g) s) (hA : ∀ q : Nat, s.heap.size ≤ q → A q) : ∀ (j i : Nat) (q : Int32) (H : Heap) (locs : List Loc) (ls : Array Slot), i + j = sm S → va_P D vwCl (wMB g G S) H → va_D Ad (wMB g G S) → va_S A s.heap H locs → lv_has ls 3 [(2, .int (nI i)), (1, .int q), (0, .ref (go G 0))] → (∀ (H : Heap) (locs : List Loc) (ls : Array Slot), va_P D vwCl (wMB g G S) H → va_D Ad (wMB g G S) → va_S A s.heap H locs → lv_has ls 3 [(1, .int (otwL S j i q)), (0, .ref (go G 0))] → W p l e ({ frames := 2, cells := 0, slots := 0, locals := 44 }) s m args below meth cd H locs 0 0 Q (F0 m 34 ls [])) → W p l e ({ frames := 2, cells := 0, slots := 0, locals := 44 }) s m args below meth cd H locs 0 0 Q (F0 m 4 ls []) := by
  have htB : ∀ w ∈ BIG, w.before args s = true := fun w h => hts w (List.mem_cons_of_mem _ h)
  intro j
  induction j with
  | zero =>
    intro i q H locs ls hi hP hD hS hl kk
    refine lv_iload_n hx hb dMB_messagesOnTheWay_4 rfl (lv_at hl 0 rfl) ?_
    refine lv_aload_n hx hb dMB_messagesOnTheWay_5 rfl (lv_at hl 2 rfl) ?_
    refine va_get (D := D) (ci := iMB) (v := .int (nI (sm S))) (C := RMB) (T := TMB) (N := 5) hx hb htB inBMB hown hK hP 0 rfl rfl 3 (by decide) (htB _ b_153) (fun _ h9 => h9) rfl dMB_messagesOnTheWay_6 ?_
    refine lv_icmp_ge (tgt := 34) hx hb dMB_messagesOnTheWay_9 (by decide) (fun _ => ?_) (fun c_1 => absurd (nI_le (a := sm S) (b := i) (by omega) (by omega)) c_1)
    exact kk H locs ls hP hD hS (lv_sub hl [1, 2] rfl)
  | succ j ih =>
    intro i q H locs ls hi hP hD hS hl kk
    refine lv_iload_n hx hb dMB_messagesOnTheWay_4 rfl (lv_at hl 0 rfl) ?_
    refine lv_aload_n hx hb dMB_messagesOnTheWay_5 rfl (lv_at hl 2 rfl) ?_
    refine va_get (D := D) (ci := iMB) (v := .int (nI (sm S))) (C := RMB) (T := TMB) (N := 5) hx hb htB inBMB hown hK hP 0 rfl rfl 3 (by decide) (htB _ b_153) (fun _ h9 => h9) rfl dMB_messagesOnTheWay_6 ?_
    refine lv_icmp_ge (tgt := 34) hx hb dMB_messagesOnTheWay_9 (by decide) (fun c_1 => absurd c_1 (nI_ge (a := i) (b := sm S) (by omega) (by omega))) (fun _ => ?_)
    refine lv_iload_n hx hb dMB_messagesOnTheWay_12 rfl (lv_at hl 1 rfl) ?_
    refine lv_aload_n hx hb dMB_messagesOnTheWay_13 rfl (lv_at hl 2 rfl) ?_
    refine va_get (D := D) (ci := iMB) (v := .ref (go G 1)) (C := RMB) (T := TMB) (N := 5) hx hb htB inBMB hown hK hP 0 rfl rfl 2 (by decide) (htB _ b_152) (fun _ h9 => h9) rfl dMB_messagesOnTheWay_14 ?_
    refine lv_iload_n hx hb dMB_messagesOnTheWay_17 rfl (lv_at hl 0 rfl) ?_
    refine mk_aald (k := i) hx hb hK hP 8 2 rfl rfl rfl ⟨(by omega), by decide⟩ (hG _ (by omega)) dMB_messagesOnTheWay_18 ?_
    refine lv_aload_n hx hb dMB_messagesOnTheWay_19 rfl (lv_at hl 2 rfl) ?_
    refine va_get (D := D) (ci := iMB) (v := .int (nI (sn S))) (C := RMB) (T := TMB) (N := 5) hx hb htB inBMB hown hK hP 0 rfl rfl 4 (by decide) (htB _ b_154) (fun _ h9 => h9) rfl dMB_messagesOnTheWay_20 ?_
    refine mk_rdV (As := [.int (nI (sn S))]) (rest := [.int q]) (w := (wTr g (ga G i) ((sT S) i))) (q0 := (RTr, TTr, 11)) (ci := iTr) ⟨hx, hb, hml, hown, hts⟩ (c_Tr_otw l D g (ga G i) ((sT S) i) (sn S)) (cwV 1 hts (gd_V b_325 b_326 b_327 b_4 b_328) rfl rfl rfl (by decide +kernel) ⟨Nat.le_of_ble_eq_true rfl, Nat.le_of_ble_eq_true rfl⟩) hK hP hD hS hA (pTr i) (mb_cutTr (by omega)) (pTr_nd (by omega)) rfl rfl rfl hl.1 rfl (Nat.le_of_ble_eq_true rfl) dMB_messagesOnTheWay_23 ⟨Nat.zero_le _, Nat.zero_le _⟩ (fun H locs hP hS => ?_)
    refine lv_iadd hx hb dMB_messagesOnTheWay_26 ?_
    refine lv_istore_n (lv' := [(1, .int (q + (tOtw ((sT S) i) (sn S)))), (2, .int (nI i)), (0, .ref (go G 0))]) hx hb dMB_messagesOnTheWay_27 rfl hl (by decide) rfl (fun ls hl => ?_)
    refine lv_iinc (v := nI (i + 1)) (lv' := [(2, .int (nI (i + 1))), (1, .int (q + (tOtw ((sT S) i) (sn S)))), (0, .ref (go G 0))]) hx hb dMB_messagesOnTheWay_28 hl (k := 1) rfl (nI_1 _) (by decide) rfl (fun ls hl => ?_)
    refine lv_goto (tgt := 4) hx hb dMB_messagesOnTheWay_31 (by decide) ?_
    have hE : otwL S (j + 1) i q = otwL S j (i + 1) (q + (tOtw ((sT S) i) (sn S))) := (by first | rfl | (simp only [otwL] <;> rfl))
    rw [hE] at kk
    exact ih (i + 1) (q + (tOtw ((sT S) i) (sn S))) H locs ls (by omega) hP hD hS (lv_sub hl [0, 1, 2] rfl) kk
set_option maxHeartbeats 4000000 in
set_option maxRecDepth 100000 in
/-- messagesOnTheWay -/
theorem c_cotw (l : Launch) (D : va_G) (g : Nat → ClassId) (G : zAd) (S : zMB) (hG : gOK G) (hm : sm S ≤ 4) : mk_Rd l yMB_messagesOnTheWay wsMB_messagesOnTheWay ({ frames := 2, cells := 0, slots := 0, locals := 44 }) D vwCl (zty g) [.ref (go G 0)] (wMB g G S) (otwL S (sm S) 0 0) := by
  intro sz
  refine Met.ofW (cc := cMB_messagesOnTheWay) (maxL := 3) (ret := (some .int)) (by decide) rfl ?_
  intro p e s m args below meth cd s₁ B hml hv
  obtain ⟨rfl, hsz, hP, hK, hD0⟩ := hv
  have hx := B.exec
  have hb := B.bytes
  have hr := B.returns
  have hts := atoms_spec (ws := wsMB_messagesOnTheWay) B.pre
  have htB := fun (w : Cond) (h : w ∈ BIG) => hts w (List.mem_cons_of_mem _ h)
  have hown : s.vm.findClass RMB = some m.cls := findClass_of_methodNamed B.named
  have hlocks := B.notSynchronized
  subst hsz
  have hD := hD0
  have hA : ∀ q : Nat, s.heap.size ≤ q → (fun q => s.heap.size ≤ q) q := fun _ h => h
  have hS : va_S (fun q => s.heap.size ≤ q) s.heap s.heap [] := va_S.rf
  have hl := lv_entry ([.ref (go G 0)]) (n := 3) (Nat.le_of_ble_eq_true rfl)
  rw [lg_entry_eq]
  generalize (lg_sl ([.ref (go G 0)]) ++ List.replicate (3 - (lg_sl ([.ref (go G 0)])).length) Slot.unset).toArray = ls at hl ⊢
  have hl : lv_has ls 3 [(0, .ref (go G 0))] := hl
  have hP : va_P D vwCl (wMB g G S) s.heap := hP
  refine lv_iconst (v := 0) hx hb dMB_messagesOnTheWay_0 (by decide) ?_
  refine lv_istore_n (lv' := [(1, .int 0), (0, .ref (go G 0))]) hx hb dMB_messagesOnTheWay_1 rfl hl (by decide) rfl (fun ls hl => ?_)
  refine lv_iconst (v := 0) hx hb dMB_messagesOnTheWay_2 (by decide) ?_
  refine lv_istore_n (lv' := [(2, .int 0), (1, .int 0), (0, .ref (go G 0))]) hx hb dMB_messagesOnTheWay_3 rfl hl (by decide) rfl (fun ls hl => ?_)
  refine lp_cotw (G := G) (S := S) hG hm hx hb hml hown hts hK hA (sm S) 0 0 _ _ ls (by omega) hP hD hS (lv_sub hl [0, 1, 2] rfl) (fun H locs ls hP hD hS hl => ?_)
  refine lv_iload_n hx hb dMB_messagesOnTheWay_34 rfl (lv_at hl 0 rfl) ?_
  exact W.iret (v := otwL S (sm S) 0 0) hx hb hr (fun t9 ht hW => ⟨⟨otwL S (sm S) 0 0, (), rfl, (by first | rfl | (simp only [otwL] <;> rfl)), trivial⟩, hS.F ht⟩) hS.2.2 dMB_messagesOnTheWay_35
set_option maxHeartbeats 4000000 in
set_option maxRecDepth 100000 in
theorem lp_clos {p : Program} {l : Launch} {e : Env} {s : State} {m : MethodId} {args : Array Value} {below : List Frame} {meth : Method} {cd : Code} {Q : State → Prop} {D : va_G} {g : Nat → ClassId} {A : Nat → Prop} {Ad : Nat → Prop} {G : zAd} {S : zMB} (hG : gOK G) (hm : sm S ≤ 4) (hx : p.tables.exec = Jvm.exec) (hb : cd.code = cMB_messagesLost) (hml : cd.maxLocals = 3) (hown : s.vm.findClass RMB = some m.cls) (hts : ∀ w ∈ wsMB_messagesLost, w.before args s = true) (hK : va_K D vwCl (zty g) s) (hA : ∀ q : Nat, s.heap.size ≤ q → A q) : ∀ (j i : Nat) (q : Int32) (H : Heap) (locs : List Loc) (ls : Array Slot), i + j = sm S → va_P D vwCl (wMB g G S) H → va_D Ad (wMB g G S) → va_S A s.heap H locs → lv_has ls 3 [(2, .int (nI i)), (1, .int q), (0, .ref (go G 0))] → (∀ (H : Heap) (locs : List Loc) (ls : Array Slot), va_P D vwCl (wMB g G S) H → va_D Ad (wMB g G S) → va_S A s.heap H locs → lv_has ls 3 [(1, .int (losL S j i q)), (0, .ref (go G 0))] → W p l e ({ frames := 0, cells := 0, slots := 0, locals := 0 }) s m args below meth cd H locs 0 0 Q (F0 m 46 ls [])) → W p l e ({ frames := 0, cells := 0, slots := 0, locals := 0 }) s m args below meth cd H locs 0 0 Q (F0 m 4 ls []) := by
  have htB : ∀ w ∈ BIG, w.before args s = true := fun w h => hts w (List.mem_cons_of_mem _ h)
  intro j
  induction j with
  | zero =>
    intro i q H locs ls hi hP hD hS hl kk
    refine lv_iload_n hx hb dMB_messagesLost_4 rfl (lv_at hl 0 rfl) ?_
    refine lv_aload_n hx hb dMB_messagesLost_5 rfl (lv_at hl 2 rfl) ?_
    refine va_get (D := D) (ci := iMB) (v := .int (nI (sm S))) (C := RMB) (T := TMB) (N := 5) hx hb htB inBMB hown hK hP 0 rfl rfl 3 (by decide) (htB _ b_153) (fun _ h9 => h9) rfl dMB_messagesLost_6 ?_
    refine lv_icmp_ge (tgt := 46) hx hb dMB_messagesLost_9 (by decide) (fun _ => ?_) (fun c_1 => absurd (nI_le (a := sm S) (b := i) (by omega) (by omega)) c_1)
    exact kk H locs ls hP hD hS (lv_sub hl [1, 2] rfl)
  | succ j ih =>
    intro i q H locs ls hi hP hD hS hl kk
    refine lv_iload_n hx hb dMB_messagesLost_4 rfl (lv_at hl 0 rfl) ?_
    refine lv_aload_n hx hb dMB_messagesLost_5 rfl (lv_at hl 2 rfl) ?_
    refine va_get (D := D) (ci := iMB) (v := .int (nI (sm S))) (C := RMB) (T := TMB) (N := 5) hx hb htB inBMB hown hK hP 0 rfl rfl 3 (by decide) (htB _ b_153) (fun _ h9 => h9) rfl dMB_messagesLost_6 ?_
    refine lv_icmp_ge (tgt := 46) hx hb dMB_messagesLost_9 (by decide) (fun c_1 => absurd c_1 (nI_ge (a := i) (b := sm S) (by omega) (by omega))) (fun _ => ?_)
    refine lv_iload_n hx hb dMB_messagesLost_12 rfl (lv_at hl 1 rfl) ?_
    refine lv_aload_n hx hb dMB_messagesLost_13 rfl (lv_at hl 2 rfl) ?_
    refine va_get (D := D) (ci := iMB) (v := .ref (go G 1)) (C := RMB) (T := TMB) (N := 5) hx hb htB inBMB hown hK hP 0 rfl rfl 2 (by decide) (htB _ b_152) (fun _ h9 => h9) rfl dMB_messagesLost_14 ?_
    refine lv_iload_n hx hb dMB_messagesLost_17 rfl (lv_at hl 0 rfl) ?_
    refine mk_aald (k := i) hx hb hK hP 8 2 rfl rfl rfl ⟨(by omega), by decide⟩ (hG _ (by omega)) dMB_messagesLost_18 ?_
    refine va_get (D := D) (ci := iTr) (v := .ref (ga G i 1 0)) (C := RTr) (T := TTr) (N := 11) hx hb htB inBTr hown hK hP (9 + 11 * i) (mb_atTr (by omega)) rfl 0 (by decide) (htB _ b_107) (fun _ h9 => h9) rfl dMB_messagesLost_19 ?_
    refine va_get (D := D) (ci := iCh) (v := .int (clo (trp ((sT S) i)))) (C := RCh) (T := TCh) (N := 10) hx hb htB inBCh hown hK hP (9 + 11 * i + 1) (mb_atRp (by omega)) rfl 8 (by decide) (htB _ b_82) (fun _ h9 => h9) rfl dMB_messagesLost_22 ?_
    refine lv_aload_n hx hb dMB_messagesLost_25 rfl (lv_at hl 2 rfl) ?_
    refine va_get (D := D) (ci := iMB) (v := .ref (go G 1)) (C := RMB) (T := TMB) (N := 5) hx hb htB inBMB hown hK hP 0 rfl rfl 2 (by decide) (htB _ b_152) (fun _ h9 => h9) rfl dMB_messagesLost_26 ?_
    refine lv_iload_n hx hb dMB_messagesLost_29 rfl (lv_at hl 0 rfl) ?_
    refine mk_aald (k := i) hx hb hK hP 8 2 rfl rfl rfl ⟨(by omega), by decide⟩ (hG _ (by omega)) dMB_messagesLost_30 ?_
    refine va_get (D := D) (ci := iTr) (v := .ref (ga G i 2 0)) (C := RTr) (T := TTr) (N := 11) hx hb htB inBTr hown hK hP (9 + 11 * i) (mb_atTr (by omega)) rfl 1 (by decide) (htB _ b_109) (fun _ h9 => h9) rfl dMB_messagesLost_31 ?_
    refine va_get (D := D) (ci := iCh) (v := .int (clo (tau ((sT S) i)))) (C := RCh) (T := TCh) (N := 10) hx hb htB inBCh hown hK hP (9 + 11 * i + 6) (mb_atAu (by omega)) rfl 8 (by decide) (htB _ b_82) (fun _ h9 => h9) rfl dMB_messagesLost_34 ?_
    refine lv_iadd hx hb dMB_messagesLost_37 ?_
    refine lv_iadd hx hb dMB_messagesLost_38 ?_
    refine lv_istore_n (lv' := [(1, .int (q + ((clo (trp ((sT S) i))) + (clo (tau ((sT S) i)))))), (2, .int (nI i)), (0, .ref (go G 0))]) hx hb dMB_messagesLost_39 rfl hl (by decide) rfl (fun ls hl => ?_)
    refine lv_iinc (v := nI (i + 1)) (lv' := [(2, .int (nI (i + 1))), (1, .int (q + ((clo (trp ((sT S) i))) + (clo (tau ((sT S) i)))))), (0, .ref (go G 0))]) hx hb dMB_messagesLost_40 hl (k := 1) rfl (nI_1 _) (by decide) rfl (fun ls hl => ?_)
    refine lv_goto (tgt := 4) hx hb dMB_messagesLost_43 (by decide) ?_
    have hE : losL S (j + 1) i q = losL S j (i + 1) (q + ((clo (trp ((sT S) i))) + (clo (tau ((sT S) i))))) := (by first | rfl | (simp only [losL] <;> rfl))
    rw [hE] at kk
    exact ih (i + 1) (q + ((clo (trp ((sT S) i))) + (clo (tau ((sT S) i))))) H locs ls (by omega) hP hD hS (lv_sub hl [0, 1, 2] rfl) kk
set_option maxHeartbeats 4000000 in
set_option maxRecDepth 100000 in
/-- messagesLost -/
theorem c_clos (l : Launch) (D : va_G) (g : Nat → ClassId) (G : zAd) (S : zMB) (hG : gOK G) (hm : sm S ≤ 4) : mk_Rd l yMB_messagesLost wsMB_messagesLost ({ frames := 0, cells := 0, slots := 0, locals := 0 }) D vwCl (zty g) [.ref (go G 0)] (wMB g G S) (losL S (sm S) 0 0) := by
  intro sz
  refine Met.ofW (cc := cMB_messagesLost) (maxL := 3) (ret := (some .int)) (by decide) rfl ?_
  intro p e s m args below meth cd s₁ B hml hv
  obtain ⟨rfl, hsz, hP, hK, hD0⟩ := hv
  have hx := B.exec
  have hb := B.bytes
  have hr := B.returns
  have hts := atoms_spec (ws := wsMB_messagesLost) B.pre
  have htB := fun (w : Cond) (h : w ∈ BIG) => hts w (List.mem_cons_of_mem _ h)
  have hown : s.vm.findClass RMB = some m.cls := findClass_of_methodNamed B.named
  have hlocks := B.notSynchronized
  subst hsz
  have hD := hD0
  have hA : ∀ q : Nat, s.heap.size ≤ q → (fun q => s.heap.size ≤ q) q := fun _ h => h
  have hS : va_S (fun q => s.heap.size ≤ q) s.heap s.heap [] := va_S.rf
  have hl := lv_entry ([.ref (go G 0)]) (n := 3) (Nat.le_of_ble_eq_true rfl)
  rw [lg_entry_eq]
  generalize (lg_sl ([.ref (go G 0)]) ++ List.replicate (3 - (lg_sl ([.ref (go G 0)])).length) Slot.unset).toArray = ls at hl ⊢
  have hl : lv_has ls 3 [(0, .ref (go G 0))] := hl
  have hP : va_P D vwCl (wMB g G S) s.heap := hP
  refine lv_iconst (v := 0) hx hb dMB_messagesLost_0 (by decide) ?_
  refine lv_istore_n (lv' := [(1, .int 0), (0, .ref (go G 0))]) hx hb dMB_messagesLost_1 rfl hl (by decide) rfl (fun ls hl => ?_)
  refine lv_iconst (v := 0) hx hb dMB_messagesLost_2 (by decide) ?_
  refine lv_istore_n (lv' := [(2, .int 0), (1, .int 0), (0, .ref (go G 0))]) hx hb dMB_messagesLost_3 rfl hl (by decide) rfl (fun ls hl => ?_)
  refine lp_clos (G := G) (S := S) hG hm hx hb hml hown hts hK hA (sm S) 0 0 _ _ ls (by omega) hP hD hS (lv_sub hl [0, 1, 2] rfl) (fun H locs ls hP hD hS hl => ?_)
  refine lv_iload_n hx hb dMB_messagesLost_46 rfl (lv_at hl 0 rfl) ?_
  exact W.iret (v := losL S (sm S) 0 0) hx hb hr (fun t9 ht hW => ⟨⟨losL S (sm S) 0 0, (), rfl, (by first | rfl | (simp only [losL] <;> rfl)), trivial⟩, hS.F ht⟩) hS.2.2 dMB_messagesLost_47
set_option maxHeartbeats 4000000 in
set_option maxRecDepth 100000 in
theorem lp_cnot {p : Program} {l : Launch} {e : Env} {s : State} {m : MethodId} {args : Array Value} {below : List Frame} {meth : Method} {cd : Code} {Q : State → Prop} {D : va_G} {g : Nat → ClassId} {A : Nat → Prop} {Ad : Nat → Prop} {G : zAd} {S : zMB} (hG : gOK G) (hm : sm S ≤ 4) (hx : p.tables.exec = Jvm.exec) (hb : cd.code = cMB_messagesNotTaken) (hml : cd.maxLocals = 3) (hown : s.vm.findClass RMB = some m.cls) (hts : ∀ w ∈ wsMB_messagesNotTaken, w.before args s = true) (hK : va_K D vwCl (zty g) s) (hA : ∀ q : Nat, s.heap.size ≤ q → A q) : ∀ (j i : Nat) (q : Int32) (H : Heap) (locs : List Loc) (ls : Array Slot), i + j = sm S → va_P D vwCl (wMB g G S) H → va_D Ad (wMB g G S) → va_S A s.heap H locs → lv_has ls 3 [(2, .int (nI i)), (1, .int q), (0, .ref (go G 0))] → (∀ (H : Heap) (locs : List Loc) (ls : Array Slot), va_P D vwCl (wMB g G S) H → va_D Ad (wMB g G S) → va_S A s.heap H locs → lv_has ls 3 [(1, .int (notL S j i q)), (0, .ref (go G 0))] → W p l e ({ frames := 0, cells := 0, slots := 0, locals := 0 }) s m args below meth cd H locs 0 0 Q (F0 m 46 ls [])) → W p l e ({ frames := 0, cells := 0, slots := 0, locals := 0 }) s m args below meth cd H locs 0 0 Q (F0 m 4 ls []) := by
  have htB : ∀ w ∈ BIG, w.before args s = true := fun w h => hts w (List.mem_cons_of_mem _ h)
  intro j
  induction j with
  | zero =>
    intro i q H locs ls hi hP hD hS hl kk
    refine lv_iload_n hx hb dMB_messagesNotTaken_4 rfl (lv_at hl 0 rfl) ?_
    refine lv_aload_n hx hb dMB_messagesNotTaken_5 rfl (lv_at hl 2 rfl) ?_
    refine va_get (D := D) (ci := iMB) (v := .int (nI (sm S))) (C := RMB) (T := TMB) (N := 5) hx hb htB inBMB hown hK hP 0 rfl rfl 3 (by decide) (htB _ b_153) (fun _ h9 => h9) rfl dMB_messagesNotTaken_6 ?_
    refine lv_icmp_ge (tgt := 46) hx hb dMB_messagesNotTaken_9 (by decide) (fun _ => ?_) (fun c_1 => absurd (nI_le (a := sm S) (b := i) (by omega) (by omega)) c_1)
    exact kk H locs ls hP hD hS (lv_sub hl [1, 2] rfl)
  | succ j ih =>
    intro i q H locs ls hi hP hD hS hl kk
    refine lv_iload_n hx hb dMB_messagesNotTaken_4 rfl (lv_at hl 0 rfl) ?_
    refine lv_aload_n hx hb dMB_messagesNotTaken_5 rfl (lv_at hl 2 rfl) ?_
    refine va_get (D := D) (ci := iMB) (v := .int (nI (sm S))) (C := RMB) (T := TMB) (N := 5) hx hb htB inBMB hown hK hP 0 rfl rfl 3 (by decide) (htB _ b_153) (fun _ h9 => h9) rfl dMB_messagesNotTaken_6 ?_
    refine lv_icmp_ge (tgt := 46) hx hb dMB_messagesNotTaken_9 (by decide) (fun c_1 => absurd c_1 (nI_ge (a := i) (b := sm S) (by omega) (by omega))) (fun _ => ?_)
    refine lv_iload_n hx hb dMB_messagesNotTaken_12 rfl (lv_at hl 1 rfl) ?_
    refine lv_aload_n hx hb dMB_messagesNotTaken_13 rfl (lv_at hl 2 rfl) ?_
    refine va_get (D := D) (ci := iMB) (v := .ref (go G 1)) (C := RMB) (T := TMB) (N := 5) hx hb htB inBMB hown hK hP 0 rfl rfl 2 (by decide) (htB _ b_152) (fun _ h9 => h9) rfl dMB_messagesNotTaken_14 ?_
    refine lv_iload_n hx hb dMB_messagesNotTaken_17 rfl (lv_at hl 0 rfl) ?_
    refine mk_aald (k := i) hx hb hK hP 8 2 rfl rfl rfl ⟨(by omega), by decide⟩ (hG _ (by omega)) dMB_messagesNotTaken_18 ?_
    refine va_get (D := D) (ci := iTr) (v := .ref (ga G i 1 0)) (C := RTr) (T := TTr) (N := 11) hx hb htB inBTr hown hK hP (9 + 11 * i) (mb_atTr (by omega)) rfl 0 (by decide) (htB _ b_107) (fun _ h9 => h9) rfl dMB_messagesNotTaken_19 ?_
    refine va_get (D := D) (ci := iCh) (v := .int (cnt (trp ((sT S) i)))) (C := RCh) (T := TCh) (N := 10) hx hb htB inBCh hown hK hP (9 + 11 * i + 1) (mb_atRp (by omega)) rfl 9 (by decide) (htB _ b_84) (fun _ h9 => h9) rfl dMB_messagesNotTaken_22 ?_
    refine lv_aload_n hx hb dMB_messagesNotTaken_25 rfl (lv_at hl 2 rfl) ?_
    refine va_get (D := D) (ci := iMB) (v := .ref (go G 1)) (C := RMB) (T := TMB) (N := 5) hx hb htB inBMB hown hK hP 0 rfl rfl 2 (by decide) (htB _ b_152) (fun _ h9 => h9) rfl dMB_messagesNotTaken_26 ?_
    refine lv_iload_n hx hb dMB_messagesNotTaken_29 rfl (lv_at hl 0 rfl) ?_
    refine mk_aald (k := i) hx hb hK hP 8 2 rfl rfl rfl ⟨(by omega), by decide⟩ (hG _ (by omega)) dMB_messagesNotTaken_30 ?_
    refine va_get (D := D) (ci := iTr) (v := .ref (ga G i 2 0)) (C := RTr) (T := TTr) (N := 11) hx hb htB inBTr hown hK hP (9 + 11 * i) (mb_atTr (by omega)) rfl 1 (by decide) (htB _ b_109) (fun _ h9 => h9) rfl dMB_messagesNotTaken_31 ?_
    refine va_get (D := D) (ci := iCh) (v := .int (cnt (tau ((sT S) i)))) (C := RCh) (T := TCh) (N := 10) hx hb htB inBCh hown hK hP (9 + 11 * i + 6) (mb_atAu (by omega)) rfl 9 (by decide) (htB _ b_84) (fun _ h9 => h9) rfl dMB_messagesNotTaken_34 ?_
    refine lv_iadd hx hb dMB_messagesNotTaken_37 ?_
    refine lv_iadd hx hb dMB_messagesNotTaken_38 ?_
    refine lv_istore_n (lv' := [(1, .int (q + ((cnt (trp ((sT S) i))) + (cnt (tau ((sT S) i)))))), (2, .int (nI i)), (0, .ref (go G 0))]) hx hb dMB_messagesNotTaken_39 rfl hl (by decide) rfl (fun ls hl => ?_)
    refine lv_iinc (v := nI (i + 1)) (lv' := [(2, .int (nI (i + 1))), (1, .int (q + ((cnt (trp ((sT S) i))) + (cnt (tau ((sT S) i)))))), (0, .ref (go G 0))]) hx hb dMB_messagesNotTaken_40 hl (k := 1) rfl (nI_1 _) (by decide) rfl (fun ls hl => ?_)
    refine lv_goto (tgt := 4) hx hb dMB_messagesNotTaken_43 (by decide) ?_
    have hE : notL S (j + 1) i q = notL S j (i + 1) (q + ((cnt (trp ((sT S) i))) + (cnt (tau ((sT S) i))))) := (by first | rfl | (simp only [notL] <;> rfl))
    rw [hE] at kk
    exact ih (i + 1) (q + ((cnt (trp ((sT S) i))) + (cnt (tau ((sT S) i))))) H locs ls (by omega) hP hD hS (lv_sub hl [0, 1, 2] rfl) kk
set_option maxHeartbeats 4000000 in
set_option maxRecDepth 100000 in
/-- messagesNotTaken -/
theorem c_cnot (l : Launch) (D : va_G) (g : Nat → ClassId) (G : zAd) (S : zMB) (hG : gOK G) (hm : sm S ≤ 4) : mk_Rd l yMB_messagesNotTaken wsMB_messagesNotTaken ({ frames := 0, cells := 0, slots := 0, locals := 0 }) D vwCl (zty g) [.ref (go G 0)] (wMB g G S) (notL S (sm S) 0 0) := by
  intro sz
  refine Met.ofW (cc := cMB_messagesNotTaken) (maxL := 3) (ret := (some .int)) (by decide) rfl ?_
  intro p e s m args below meth cd s₁ B hml hv
  obtain ⟨rfl, hsz, hP, hK, hD0⟩ := hv
  have hx := B.exec
  have hb := B.bytes
  have hr := B.returns
  have hts := atoms_spec (ws := wsMB_messagesNotTaken) B.pre
  have htB := fun (w : Cond) (h : w ∈ BIG) => hts w (List.mem_cons_of_mem _ h)
  have hown : s.vm.findClass RMB = some m.cls := findClass_of_methodNamed B.named
  have hlocks := B.notSynchronized
  subst hsz
  have hD := hD0
  have hA : ∀ q : Nat, s.heap.size ≤ q → (fun q => s.heap.size ≤ q) q := fun _ h => h
  have hS : va_S (fun q => s.heap.size ≤ q) s.heap s.heap [] := va_S.rf
  have hl := lv_entry ([.ref (go G 0)]) (n := 3) (Nat.le_of_ble_eq_true rfl)
  rw [lg_entry_eq]
  generalize (lg_sl ([.ref (go G 0)]) ++ List.replicate (3 - (lg_sl ([.ref (go G 0)])).length) Slot.unset).toArray = ls at hl ⊢
  have hl : lv_has ls 3 [(0, .ref (go G 0))] := hl
  have hP : va_P D vwCl (wMB g G S) s.heap := hP
  refine lv_iconst (v := 0) hx hb dMB_messagesNotTaken_0 (by decide) ?_
  refine lv_istore_n (lv' := [(1, .int 0), (0, .ref (go G 0))]) hx hb dMB_messagesNotTaken_1 rfl hl (by decide) rfl (fun ls hl => ?_)
  refine lv_iconst (v := 0) hx hb dMB_messagesNotTaken_2 (by decide) ?_
  refine lv_istore_n (lv' := [(2, .int 0), (1, .int 0), (0, .ref (go G 0))]) hx hb dMB_messagesNotTaken_3 rfl hl (by decide) rfl (fun ls hl => ?_)
  refine lp_cnot (G := G) (S := S) hG hm hx hb hml hown hts hK hA (sm S) 0 0 _ _ ls (by omega) hP hD hS (lv_sub hl [0, 1, 2] rfl) (fun H locs ls hP hD hS hl => ?_)
  refine lv_iload_n hx hb dMB_messagesNotTaken_46 rfl (lv_at hl 0 rfl) ?_
  exact W.iret (v := notL S (sm S) 0 0) hx hb hr (fun t9 ht hW => ⟨⟨notL S (sm S) 0 0, (), rfl, (by first | rfl | (simp only [notL] <;> rfl)), trivial⟩, hS.F ht⟩) hS.2.2 dMB_messagesNotTaken_47
set_option maxHeartbeats 4000000 in
set_option maxRecDepth 100000 in
theorem lp_cbey {p : Program} {l : Launch} {e : Env} {s : State} {m : MethodId} {args : Array Value} {below : List Frame} {meth : Method} {cd : Code} {Q : State → Prop} {D : va_G} {g : Nat → ClassId} {A : Nat → Prop} {Ad : Nat → Prop} {G : zAd} {S : zMB} (hG : gOK G) (hm : sm S ≤ 4) (hx : p.tables.exec = Jvm.exec) (hb : cd.code = cMB_trainsBeyondTheOneBefore) (hml : cd.maxLocals = 3) (hown : s.vm.findClass RMB = some m.cls) (hts : ∀ w ∈ wsMB_trainsBeyondTheOneBefore, w.before args s = true) (hK : va_K D vwCl (zty g) s) (hA : ∀ q : Nat, s.heap.size ≤ q → A q) : ∀ (j i : Nat) (q : Int32) (H : Heap) (locs : List Loc) (ls : Array Slot), (1 ≤ i ∧ (i + j = sm S ∨ (sm S = 0 ∧ i = 1 ∧ j = 0))) → va_P D vwCl (wMB g G S) H → va_D Ad (wMB g G S) → va_S A s.heap H locs → lv_has ls 3 [(2, .int (nI i)), (1, .int q), (0, .ref (go G 0))] → (∀ (H : Heap) (locs : List Loc) (ls : Array Slot), va_P D vwCl (wMB g G S) H → va_D Ad (wMB g G S) → va_S A s.heap H locs → lv_has ls 3 [(1, .int (beyL S j i q)), (0, .ref (go G 0))] → W p l e ({ frames := 1, cells := 0, slots := 0, locals := 20 }) s m args below meth cd H locs 0 0 Q (F0 m 44 ls [])) → W p l e ({ frames := 1, cells := 0, slots := 0, locals := 20 }) s m args below meth cd H locs 0 0 Q (F0 m 4 ls []) := by
  have htB : ∀ w ∈ BIG, w.before args s = true := fun w h => hts w (List.mem_cons_of_mem _ h)
  intro j
  induction j with
  | zero =>
    intro i q H locs ls hi hP hD hS hl kk
    refine lv_iload_n hx hb dMB_trainsBeyondTheOneBefore_4 rfl (lv_at hl 0 rfl) ?_
    refine lv_aload_n hx hb dMB_trainsBeyondTheOneBefore_5 rfl (lv_at hl 2 rfl) ?_
    refine va_get (D := D) (ci := iMB) (v := .int (nI (sm S))) (C := RMB) (T := TMB) (N := 5) hx hb htB inBMB hown hK hP 0 rfl rfl 3 (by decide) (htB _ b_153) (fun _ h9 => h9) rfl dMB_trainsBeyondTheOneBefore_6 ?_
    refine lv_icmp_ge (tgt := 44) hx hb dMB_trainsBeyondTheOneBefore_9 (by decide) (fun _ => ?_) (fun c_1 => absurd (nI_le (a := sm S) (b := i) (by omega) (by omega)) c_1)
    exact kk H locs ls hP hD hS (lv_sub hl [1, 2] rfl)
  | succ j ih =>
    intro i q H locs ls hi hP hD hS hl kk
    refine lv_iload_n hx hb dMB_trainsBeyondTheOneBefore_4 rfl (lv_at hl 0 rfl) ?_
    refine lv_aload_n hx hb dMB_trainsBeyondTheOneBefore_5 rfl (lv_at hl 2 rfl) ?_
    refine va_get (D := D) (ci := iMB) (v := .int (nI (sm S))) (C := RMB) (T := TMB) (N := 5) hx hb htB inBMB hown hK hP 0 rfl rfl 3 (by decide) (htB _ b_153) (fun _ h9 => h9) rfl dMB_trainsBeyondTheOneBefore_6 ?_
    refine lv_icmp_ge (tgt := 44) hx hb dMB_trainsBeyondTheOneBefore_9 (by decide) (fun c_1 => absurd c_1 (nI_ge (a := i) (b := sm S) (by omega) (by omega))) (fun _ => ?_)
    refine lv_aload_n hx hb dMB_trainsBeyondTheOneBefore_12 rfl (lv_at hl 2 rfl) ?_
    refine va_get (D := D) (ci := iMB) (v := .ref (go G 1)) (C := RMB) (T := TMB) (N := 5) hx hb htB inBMB hown hK hP 0 rfl rfl 2 (by decide) (htB _ b_152) (fun _ h9 => h9) rfl dMB_trainsBeyondTheOneBefore_13 ?_
    refine lv_iload_n hx hb dMB_trainsBeyondTheOneBefore_16 rfl (lv_at hl 0 rfl) ?_
    refine mk_aald (k := i) hx hb hK hP 8 2 rfl rfl rfl ⟨(by omega), by decide⟩ (hG _ (by omega)) dMB_trainsBeyondTheOneBefore_17 ?_
    refine va_get (D := D) (ci := iTr) (v := .int (tfr ((sT S) i))) (C := RTr) (T := TTr) (N := 11) hx hb htB inBTr hown hK hP (9 + 11 * i) (mb_atTr (by omega)) rfl 3 (by decide) (htB _ b_112) (fun _ h9 => h9) rfl dMB_trainsBeyondTheOneBefore_18 ?_
    refine lv_aload_n hx hb dMB_trainsBeyondTheOneBefore_21 rfl (lv_at hl 2 rfl) ?_
    refine va_get (D := D) (ci := iMB) (v := .ref (go G 1)) (C := RMB) (T := TMB) (N := 5) hx hb htB inBMB hown hK hP 0 rfl rfl 2 (by decide) (htB _ b_152) (fun _ h9 => h9) rfl dMB_trainsBeyondTheOneBefore_22 ?_
    refine lv_iload_n hx hb dMB_trainsBeyondTheOneBefore_25 rfl (lv_at hl 0 rfl) ?_
    refine lv_iconst (v := 1) hx hb dMB_trainsBeyondTheOneBefore_26 (by decide) ?_
    refine lv_isub hx hb dMB_trainsBeyondTheOneBefore_27 ?_
    refine lv_topi (fun z_2 e_2 => ?_)
    have e_2 : z_2 = nI (i - 1) := e_2.trans (pk_sub (a := i) (b := 1) (by omega))
    subst e_2
    refine mk_aald (k := (i - 1)) hx hb hK hP 8 2 rfl rfl rfl ⟨(by omega), by decide⟩ (hG _ (by omega)) dMB_trainsBeyondTheOneBefore_28 ?_
    refine mk_rdV (As := []) (rest := [.int (tfr ((sT S) i))]) (w := (wTr g (ga G (i - 1)) ((sT S) (i - 1)))) (q0 := (RTr, TTr, 11)) (ci := iTr) ⟨hx, hb, hml, hown, hts⟩ (c_Tr_rear l D g (ga G (i - 1)) ((sT S) (i - 1)) ) (cwV 0 hts (gd_V b_186 b_187 b_188 b_4 b_189) rfl rfl rfl (by decide +kernel) ⟨Nat.le_of_ble_eq_true rfl, Nat.le_of_ble_eq_true rfl⟩) hK hP hD hS hA (pTr (i - 1)) (mb_cutTr (by omega)) (pTr_nd (by omega)) rfl rfl rfl hl.1 rfl (Nat.le_of_ble_eq_true rfl) dMB_trainsBeyondTheOneBefore_29 ⟨Nat.zero_le _, Nat.zero_le _⟩ (fun H locs hP hS => ?_)
    refine lv_icmp_le (tgt := 38) hx hb dMB_trainsBeyondTheOneBefore_32 (by decide) (fun c_3 => ?_) (fun c_3 => ?_)
    · refine lv_iinc (v := nI (i + 1)) (lv' := [(2, .int (nI (i + 1))), (1, .int q), (0, .ref (go G 0))]) hx hb dMB_trainsBeyondTheOneBefore_38 hl (k := 0) rfl (nI_1 _) (by decide) rfl (fun ls hl => ?_)
      refine lv_goto (tgt := 4) hx hb dMB_trainsBeyondTheOneBefore_41 (by decide) ?_
      have hE : beyL S (j + 1) i q = beyL S j (i + 1) q := (by simp only [beyL, if_pos c_3] <;> rfl)
      rw [hE] at kk
      exact ih (i + 1) q H locs ls (by omega) hP hD hS (lv_sub hl [0, 1, 2] rfl) kk
    · refine lv_iinc (v := q + 1) (lv' := [(1, .int (q + 1)), (2, .int (nI i)), (0, .ref (go G 0))]) hx hb dMB_trainsBeyondTheOneBefore_35 hl (k := 1) rfl rfl (by decide) rfl (fun ls hl => ?_)
      refine lv_iinc (v := nI (i + 1)) (lv' := [(2, .int (nI (i + 1))), (1, .int (q + 1)), (0, .ref (go G 0))]) hx hb dMB_trainsBeyondTheOneBefore_38 hl (k := 1) rfl (nI_1 _) (by decide) rfl (fun ls hl => ?_)
      refine lv_goto (tgt := 4) hx hb dMB_trainsBeyondTheOneBefore_41 (by decide) ?_
      have hE : beyL S (j + 1) i q = beyL S j (i + 1) (q + 1) := (by simp only [beyL, if_neg c_3] <;> rfl)
      rw [hE] at kk
      exact ih (i + 1) (q + 1) H locs ls (by omega) hP hD hS (lv_sub hl [0, 1, 2] rfl) kk
set_option maxHeartbeats 4000000 in
set_option maxRecDepth 100000 in
/-- trainsBeyondTheOneBefore -/
theorem c_cbey (l : Launch) (D : va_G) (g : Nat → ClassId) (G : zAd) (S : zMB) (hG : gOK G) (hm : sm S ≤ 4) : mk_Rd l yMB_trainsBeyondTheOneBefore wsMB_trainsBeyondTheOneBefore ({ frames := 1, cells := 0, slots := 0, locals := 20 }) D vwCl (zty g) [.ref (go G 0)] (wMB g G S) (beyL S (sm S - 1) 1 0) := by
  intro sz
  refine Met.ofW (cc := cMB_trainsBeyondTheOneBefore) (maxL := 3) (ret := (some .int)) (by decide) rfl ?_
  intro p e s m args below meth cd s₁ B hml hv
  obtain ⟨rfl, hsz, hP, hK, hD0⟩ := hv
  have hx := B.exec
  have hb := B.bytes
  have hr := B.returns
  have hts := atoms_spec (ws := wsMB_trainsBeyondTheOneBefore) B.pre
  have htB := fun (w : Cond) (h : w ∈ BIG) => hts w (List.mem_cons_of_mem _ h)
  have hown : s.vm.findClass RMB = some m.cls := findClass_of_methodNamed B.named
  have hlocks := B.notSynchronized
  subst hsz
  have hD := hD0
  have hA : ∀ q : Nat, s.heap.size ≤ q → (fun q => s.heap.size ≤ q) q := fun _ h => h
  have hS : va_S (fun q => s.heap.size ≤ q) s.heap s.heap [] := va_S.rf
  have hl := lv_entry ([.ref (go G 0)]) (n := 3) (Nat.le_of_ble_eq_true rfl)
  rw [lg_entry_eq]
  generalize (lg_sl ([.ref (go G 0)]) ++ List.replicate (3 - (lg_sl ([.ref (go G 0)])).length) Slot.unset).toArray = ls at hl ⊢
  have hl : lv_has ls 3 [(0, .ref (go G 0))] := hl
  have hP : va_P D vwCl (wMB g G S) s.heap := hP
  refine lv_iconst (v := 0) hx hb dMB_trainsBeyondTheOneBefore_0 (by decide) ?_
  refine lv_istore_n (lv' := [(1, .int 0), (0, .ref (go G 0))]) hx hb dMB_trainsBeyondTheOneBefore_1 rfl hl (by decide) rfl (fun ls hl => ?_)
  refine lv_iconst (v := 1) hx hb dMB_trainsBeyondTheOneBefore_2 (by decide) ?_
  refine lv_istore_n (lv' := [(2, .int 1), (1, .int 0), (0, .ref (go G 0))]) hx hb dMB_trainsBeyondTheOneBefore_3 rfl hl (by decide) rfl (fun ls hl => ?_)
  refine lp_cbey (G := G) (S := S) hG hm hx hb hml hown hts hK hA (sm S - 1) 1 0 _ _ ls (by omega) hP hD hS (lv_sub hl [0, 1, 2] rfl) (fun H locs ls hP hD hS hl => ?_)
  refine lv_iload_n hx hb dMB_trainsBeyondTheOneBefore_44 rfl (lv_at hl 0 rfl) ?_
  exact W.iret (v := beyL S (sm S - 1) 1 0) hx hb hr (fun t9 ht hW => ⟨⟨beyL S (sm S - 1) 1 0, (), rfl, (by first | rfl | (simp only [beyL] <;> rfl)), trivial⟩, hS.F ht⟩) hS.2.2 dMB_trainsBeyondTheOneBefore_45
set_option maxHeartbeats 4000000 in
set_option maxRecDepth 100000 in
/-- measure -/
theorem c_measure (l : Launch) (D : va_G) (g : Nat → ClassId) (G : zAd) (S : zMB) (hG : gOK G) (hm : sm S ≤ 4) (x w : Int32) : mk_Rd l yMB_measure wsMB_measure ({ frames := 2, cells := 0, slots := 0, locals := 43 }) D vwCl (zty g) [.ref (go G 0), .int x, .int w] (wMB g G S) (xMeasure S x w) := by
  intro sz
  refine Met.ofW (cc := cMB_measure) (maxL := 4) (ret := (some .int)) (by decide) rfl ?_
  intro p e s m args below meth cd s₁ B hml hv
  obtain ⟨rfl, hsz, hP, hK, hD0⟩ := hv
  have hx := B.exec
  have hb := B.bytes
  have hr := B.returns
  have hts := atoms_spec (ws := wsMB_measure) B.pre
  have htB := fun (w : Cond) (h : w ∈ BIG) => hts w (List.mem_cons_of_mem _ h)
  have hown : s.vm.findClass RMB = some m.cls := findClass_of_methodNamed B.named
  have hlocks := B.notSynchronized
  subst hsz
  have hD := hD0
  have hA : ∀ q : Nat, s.heap.size ≤ q → (fun q => s.heap.size ≤ q) q := fun _ h => h
  have hS : va_S (fun q => s.heap.size ≤ q) s.heap s.heap [] := va_S.rf
  have hl := lv_entry ([.ref (go G 0), .int x, .int w]) (n := 4) (Nat.le_of_ble_eq_true rfl)
  rw [lg_entry_eq]
  generalize (lg_sl ([.ref (go G 0), .int x, .int w]) ++ List.replicate (4 - (lg_sl ([.ref (go G 0), .int x, .int w])).length) Slot.unset).toArray = ls at hl ⊢
  have hl : lv_has ls 4 [(0, .ref (go G 0)), (1, .int x), (2, .int w)] := hl
  have hP : va_P D vwCl (wMB g G S) s.heap := hP
  refine lv_aload_n hx hb dMB_measure_0 rfl (lv_at hl 0 rfl) ?_
  refine lv_iload_n hx hb dMB_measure_1 rfl (lv_at hl 1 rfl) ?_
  refine mk_rdV (As := [.int x]) (rest := []) (w := (wMB g G S)) (q0 := (RMB, TMB, 5)) (ci := iMB) ⟨hx, hb, hml, hown, hts⟩ (c_isNoTrain l D g G S hG hm x) (cwV 1 hts (gd_V b_198 b_200 bp_0 b_1 b_201) rfl rfl rfl (by decide +kernel) ⟨Nat.le_of_ble_eq_true rfl, Nat.le_of_ble_eq_true rfl⟩) hK hP hD hS hA (List.range 53) mb_cutAll mb_ndAll rfl rfl rfl hl.1 rfl (Nat.le_of_ble_eq_true rfl) dMB_measure_2 ⟨Nat.zero_le _, Nat.zero_le _⟩ (fun H locs hP hS => ?_)
  refine lv_if_eq (tgt := 11) hx hb dMB_measure_5 (by decide) (fun c_1 => ?_) (fun c_1 => ?_)
  · refine lv_aload_n hx hb dMB_measure_11 rfl (lv_at hl 0 rfl) ?_
    refine va_get (D := D) (ci := iMB) (v := .ref (go G 1)) (C := RMB) (T := TMB) (N := 5) hx hb htB inBMB hown hK hP 0 rfl rfl 2 (by decide) (htB _ b_152) (fun _ h9 => h9) rfl dMB_measure_12 ?_
    refine lv_iload_n hx hb dMB_measure_15 rfl (lv_at hl 1 rfl) ?_
    refine mk_aald (k := x.toNatClampNeg) hx hb hK hP 8 2 rfl rfl (sNo_ix c_1) ⟨(sNo_lt hm c_1), by decide⟩ (hG _ (sNo_lt hm c_1)) dMB_measure_16 ?_
    refine lv_astore_n (lv' := [(3, .ref (ga G x.toNatClampNeg 0 0)), (0, .ref (go G 0)), (1, .int x), (2, .int w)]) hx hb dMB_measure_17 rfl hl (by decide) rfl (fun ls hl => ?_)
    refine lv_iload_n hx hb dMB_measure_18 rfl (lv_at hl 3 rfl) ?_
    by_cases c_2 : w = 0
    · refine lv_tableIn (tgt := 64) hx hb dMB_measure_19 (by rw [c_2]; decide +kernel) (by rw [c_2]; decide +kernel) (off := 45) (by rw [c_2]; decide +kernel) (by decide) ?_
      refine lv_aload_n hx hb dMB_measure_64 rfl (lv_at hl 0 rfl) ?_
      refine va_get (D := D) (ci := iTr) (v := .int (tfr ((sT S) x.toNatClampNeg))) (C := RTr) (T := TTr) (N := 11) hx hb htB inBTr hown hK hP (9 + 11 * x.toNatClampNeg) (mb_atTr (sNo_lt hm c_1)) rfl 3 (by decide) (htB _ b_112) (fun _ h9 => h9) rfl dMB_measure_65 ?_
      exact W.iret (v := (tfr ((sT S) x.toNatClampNeg))) hx hb hr (fun t9 ht hW => ⟨⟨(tfr ((sT S) x.toNatClampNeg)), (), rfl, (by simp only [xMeasure, if_pos c_1, if_pos c_2] <;> rfl), trivial⟩, hS.F ht⟩) hS.2.2 dMB_measure_68
    by_cases c_3 : w = 1
    · refine lv_tableIn (tgt := 69) hx hb dMB_measure_19 (by rw [c_3]; decide +kernel) (by rw [c_3]; decide +kernel) (off := 50) (by rw [c_3]; decide +kernel) (by decide) ?_
      refine lv_aload_n hx hb dMB_measure_69 rfl (lv_at hl 0 rfl) ?_
      refine va_get (D := D) (ci := iTr) (v := .int (tsp ((sT S) x.toNatClampNeg))) (C := RTr) (T := TTr) (N := 11) hx hb htB inBTr hown hK hP (9 + 11 * x.toNatClampNeg) (mb_atTr (sNo_lt hm c_1)) rfl 4 (by decide) (htB _ b_114) (fun _ h9 => h9) rfl dMB_measure_70 ?_
      exact W.iret (v := (tsp ((sT S) x.toNatClampNeg))) hx hb hr (fun t9 ht hW => ⟨⟨(tsp ((sT S) x.toNatClampNeg)), (), rfl, (by simp only [xMeasure, if_pos c_1, if_neg c_2, if_pos c_3] <;> rfl), trivial⟩, hS.F ht⟩) hS.2.2 dMB_measure_73
    by_cases c_4 : w = 2
    · refine lv_tableIn (tgt := 74) hx hb dMB_measure_19 (by rw [c_4]; decide +kernel) (by rw [c_4]; decide +kernel) (off := 55) (by rw [c_4]; decide +kernel) (by decide) ?_
      refine lv_aload_n hx hb dMB_measure_74 rfl (lv_at hl 0 rfl) ?_
      refine va_get (D := D) (ci := iTr) (v := .int (tes ((sT S) x.toNatClampNeg))) (C := RTr) (T := TTr) (N := 11) hx hb htB inBTr hown hK hP (9 + 11 * x.toNatClampNeg) (mb_atTr (sNo_lt hm c_1)) rfl 5 (by decide) (htB _ b_116) (fun _ h9 => h9) rfl dMB_measure_75 ?_
      exact W.iret (v := (tes ((sT S) x.toNatClampNeg))) hx hb hr (fun t9 ht hW => ⟨⟨(tes ((sT S) x.toNatClampNeg)), (), rfl, (by simp only [xMeasure, if_pos c_1, if_neg c_2, if_neg c_3, if_pos c_4] <;> rfl), trivial⟩, hS.F ht⟩) hS.2.2 dMB_measure_78
    by_cases c_5 : w = 3
    · refine lv_tableIn (tgt := 79) hx hb dMB_measure_19 (by rw [c_5]; decide +kernel) (by rw [c_5]; decide +kernel) (off := 60) (by rw [c_5]; decide +kernel) (by decide) ?_
      refine lv_aload_n hx hb dMB_measure_79 rfl (lv_at hl 0 rfl) ?_
      refine va_get (D := D) (ci := iTr) (v := .int (tdo ((sT S) x.toNatClampNeg))) (C := RTr) (T := TTr) (N := 11) hx hb htB inBTr hown hK hP (9 + 11 * x.toNatClampNeg) (mb_atTr (sNo_lt hm c_1)) rfl 6 (by decide) (htB _ b_118) (fun _ h9 => h9) rfl dMB_measure_80 ?_
      exact W.iret (v := (tdo ((sT S) x.toNatClampNeg))) hx hb hr (fun t9 ht hW => ⟨⟨(tdo ((sT S) x.toNatClampNeg)), (), rfl, (by simp only [xMeasure, if_pos c_1, if_neg c_2, if_neg c_3, if_neg c_4, if_pos c_5] <;> rfl), trivial⟩, hS.F ht⟩) hS.2.2 dMB_measure_83
    by_cases c_6 : w = 4
    · refine lv_tableIn (tgt := 84) hx hb dMB_measure_19 (by rw [c_6]; decide +kernel) (by rw [c_6]; decide +kernel) (off := 65) (by rw [c_6]; decide +kernel) (by decide) ?_
      refine lv_aload_n hx hb dMB_measure_84 rfl (lv_at hl 0 rfl) ?_
      refine va_get (D := D) (ci := iTr) (v := .ref (ga G x.toNatClampNeg 2 0)) (C := RTr) (T := TTr) (N := 11) hx hb htB inBTr hown hK hP (9 + 11 * x.toNatClampNeg) (mb_atTr (sNo_lt hm c_1)) rfl 1 (by decide) (htB _ b_109) (fun _ h9 => h9) rfl dMB_measure_85 ?_
      refine mk_rdV (As := []) (rest := []) (w := (wCh g (ga G x.toNatClampNeg 2) (tau ((sT S) x.toNatClampNeg)))) (q0 := (RCh, TCh, 10)) (ci := iCh) ⟨hx, hb, hml, hown, hts⟩ (c_Ch_wasTaken l D g (ga G x.toNatClampNeg 2) (tau ((sT S) x.toNatClampNeg)) ) (cwV 0 hts (gd_V b_249 b_250 b_251 b_5 b_252) rfl rfl rfl (by decide +kernel) ⟨Nat.le_of_ble_eq_true rfl, Nat.le_of_ble_eq_true rfl⟩) hK hP hD hS hA (pAu x.toNatClampNeg) (mb_cutAu (sNo_lt hm c_1)) (pAu_nd (sNo_lt hm c_1)) rfl rfl rfl hl.1 rfl (Nat.le_of_ble_eq_true rfl) dMB_measure_88 ⟨Nat.zero_le _, Nat.zero_le _⟩ (fun H locs hP hS => ?_)
      refine lv_if_eq (tgt := 104) hx hb dMB_measure_91 (by decide) (fun c_7 => ?_) (fun c_7 => ?_)
      · refine lv_iconst (v := (-1)) hx hb dMB_measure_104 (by decide) ?_
        exact W.iret (v := (-1)) hx hb hr (fun t9 ht hW => ⟨⟨(-1), (), rfl, (by simp only [xMeasure, if_pos c_1, if_neg c_2, if_neg c_3, if_neg c_4, if_neg c_5, if_pos c_6, if_pos c_7] <;> rfl), trivial⟩, hS.F ht⟩) hS.2.2 dMB_measure_105
      · refine lv_aload_n hx hb dMB_measure_94 rfl (lv_at hl 0 rfl) ?_
        refine va_get (D := D) (ci := iTr) (v := .ref (ga G x.toNatClampNeg 2 0)) (C := RTr) (T := TTr) (N := 11) hx hb htB inBTr hown hK hP (9 + 11 * x.toNatClampNeg) (mb_atTr (sNo_lt hm c_1)) rfl 1 (by decide) (htB _ b_109) (fun _ h9 => h9) rfl dMB_measure_95 ?_
        refine va_get (D := D) (ci := iCh) (v := .int (cf1 (tau ((sT S) x.toNatClampNeg)))) (C := RCh) (T := TCh) (N := 10) hx hb htB inBCh hown hK hP (9 + 11 * x.toNatClampNeg + 6) (mb_atAu (sNo_lt hm c_1)) rfl 6 (by decide) (htB _ b_78) (fun _ h9 => h9) rfl dMB_measure_98 ?_
        refine lv_goto (tgt := 105) hx hb dMB_measure_101 (by decide) ?_
        exact W.iret (v := (cf1 (tau ((sT S) x.toNatClampNeg)))) hx hb hr (fun t9 ht hW => ⟨⟨(cf1 (tau ((sT S) x.toNatClampNeg))), (), rfl, (by simp only [xMeasure, if_pos c_1, if_neg c_2, if_neg c_3, if_neg c_4, if_neg c_5, if_pos c_6, if_neg c_7] <;> rfl), trivial⟩, hS.F ht⟩) hS.2.2 dMB_measure_105
    by_cases c_8 : w = 5
    · refine lv_tableIn (tgt := 106) hx hb dMB_measure_19 (by rw [c_8]; decide +kernel) (by rw [c_8]; decide +kernel) (off := 87) (by rw [c_8]; decide +kernel) (by decide) ?_
      refine lv_aload_n hx hb dMB_measure_106 rfl (lv_at hl 0 rfl) ?_
      refine va_get (D := D) (ci := iTr) (v := .ref (ga G x.toNatClampNeg 1 0)) (C := RTr) (T := TTr) (N := 11) hx hb htB inBTr hown hK hP (9 + 11 * x.toNatClampNeg) (mb_atTr (sNo_lt hm c_1)) rfl 0 (by decide) (htB _ b_107) (fun _ h9 => h9) rfl dMB_measure_107 ?_
      refine mk_rdV (As := []) (rest := []) (w := (wCh g (ga G x.toNatClampNeg 1) (trp ((sT S) x.toNatClampNeg)))) (q0 := (RCh, TCh, 10)) (ci := iCh) ⟨hx, hb, hml, hown, hts⟩ (c_Ch_wasTaken l D g (ga G x.toNatClampNeg 1) (trp ((sT S) x.toNatClampNeg)) ) (cwV 0 hts (gd_V b_249 b_250 b_251 b_5 b_252) rfl rfl rfl (by decide +kernel) ⟨Nat.le_of_ble_eq_true rfl, Nat.le_of_ble_eq_true rfl⟩) hK hP hD hS hA (pRp x.toNatClampNeg) (mb_cutRp (sNo_lt hm c_1)) (pRp_nd (sNo_lt hm c_1)) rfl rfl rfl hl.1 rfl (Nat.le_of_ble_eq_true rfl) dMB_measure_110 ⟨Nat.zero_le _, Nat.zero_le _⟩ (fun H locs hP hS => ?_)
      refine lv_if_eq (tgt := 126) hx hb dMB_measure_113 (by decide) (fun c_9 => ?_) (fun c_9 => ?_)
      · refine lv_iconst (v := (-1)) hx hb dMB_measure_126 (by decide) ?_
        exact W.iret (v := (-1)) hx hb hr (fun t9 ht hW => ⟨⟨(-1), (), rfl, (by simp only [xMeasure, if_pos c_1, if_neg c_2, if_neg c_3, if_neg c_4, if_neg c_5, if_neg c_6, if_pos c_8, if_pos c_9] <;> rfl), trivial⟩, hS.F ht⟩) hS.2.2 dMB_measure_127
      · refine lv_aload_n hx hb dMB_measure_116 rfl (lv_at hl 0 rfl) ?_
        refine va_get (D := D) (ci := iTr) (v := .ref (ga G x.toNatClampNeg 1 0)) (C := RTr) (T := TTr) (N := 11) hx hb htB inBTr hown hK hP (9 + 11 * x.toNatClampNeg) (mb_atTr (sNo_lt hm c_1)) rfl 0 (by decide) (htB _ b_107) (fun _ h9 => h9) rfl dMB_measure_117 ?_
        refine va_get (D := D) (ci := iCh) (v := .int (cf1 (trp ((sT S) x.toNatClampNeg)))) (C := RCh) (T := TCh) (N := 10) hx hb htB inBCh hown hK hP (9 + 11 * x.toNatClampNeg + 1) (mb_atRp (sNo_lt hm c_1)) rfl 6 (by decide) (htB _ b_78) (fun _ h9 => h9) rfl dMB_measure_120 ?_
        refine lv_goto (tgt := 127) hx hb dMB_measure_123 (by decide) ?_
        exact W.iret (v := (cf1 (trp ((sT S) x.toNatClampNeg)))) hx hb hr (fun t9 ht hW => ⟨⟨(cf1 (trp ((sT S) x.toNatClampNeg))), (), rfl, (by simp only [xMeasure, if_pos c_1, if_neg c_2, if_neg c_3, if_neg c_4, if_neg c_5, if_neg c_6, if_pos c_8, if_neg c_9] <;> rfl), trivial⟩, hS.F ht⟩) hS.2.2 dMB_measure_127
    by_cases c_10 : w = 6
    · refine lv_tableIn (tgt := 128) hx hb dMB_measure_19 (by rw [c_10]; decide +kernel) (by rw [c_10]; decide +kernel) (off := 109) (by rw [c_10]; decide +kernel) (by decide) ?_
      refine lv_aload_n hx hb dMB_measure_128 rfl (lv_at hl 0 rfl) ?_
      refine va_get (D := D) (ci := iTr) (v := .ref (ga G x.toNatClampNeg 1 0)) (C := RTr) (T := TTr) (N := 11) hx hb htB inBTr hown hK hP (9 + 11 * x.toNatClampNeg) (mb_atTr (sNo_lt hm c_1)) rfl 0 (by decide) (htB _ b_107) (fun _ h9 => h9) rfl dMB_measure_129 ?_
      refine mk_rdV (As := []) (rest := []) (w := (wCh g (ga G x.toNatClampNeg 1) (trp ((sT S) x.toNatClampNeg)))) (q0 := (RCh, TCh, 10)) (ci := iCh) ⟨hx, hb, hml, hown, hts⟩ (c_Ch_wasTaken l D g (ga G x.toNatClampNeg 1) (trp ((sT S) x.toNatClampNeg)) ) (cwV 0 hts (gd_V b_249 b_250 b_251 b_5 b_252) rfl rfl rfl (by decide +kernel) ⟨Nat.le_of_ble_eq_true rfl, Nat.le_of_ble_eq_true rfl⟩) hK hP hD hS hA (pRp x.toNatClampNeg) (mb_cutRp (sNo_lt hm c_1)) (pRp_nd (sNo_lt hm c_1)) rfl rfl rfl hl.1 rfl (Nat.le_of_ble_eq_true rfl) dMB_measure_132 ⟨Nat.zero_le _, Nat.zero_le _⟩ (fun H locs hP hS => ?_)
      refine lv_if_eq (tgt := 148) hx hb dMB_measure_135 (by decide) (fun c_11 => ?_) (fun c_11 => ?_)
      · refine lv_iconst (v := (-1)) hx hb dMB_measure_148 (by decide) ?_
        exact W.iret (v := (-1)) hx hb hr (fun t9 ht hW => ⟨⟨(-1), (), rfl, (by simp only [xMeasure, if_pos c_1, if_neg c_2, if_neg c_3, if_neg c_4, if_neg c_5, if_neg c_6, if_neg c_8, if_pos c_10, if_pos c_11] <;> rfl), trivial⟩, hS.F ht⟩) hS.2.2 dMB_measure_149
      · refine lv_aload_n hx hb dMB_measure_138 rfl (lv_at hl 0 rfl) ?_
        refine va_get (D := D) (ci := iTr) (v := .ref (ga G x.toNatClampNeg 1 0)) (C := RTr) (T := TTr) (N := 11) hx hb htB inBTr hown hK hP (9 + 11 * x.toNatClampNeg) (mb_atTr (sNo_lt hm c_1)) rfl 0 (by decide) (htB _ b_107) (fun _ h9 => h9) rfl dMB_measure_139 ?_
        refine va_get (D := D) (ci := iCh) (v := .int (cf2 (trp ((sT S) x.toNatClampNeg)))) (C := RCh) (T := TCh) (N := 10) hx hb htB inBCh hown hK hP (9 + 11 * x.toNatClampNeg + 1) (mb_atRp (sNo_lt hm c_1)) rfl 7 (by decide) (htB _ b_80) (fun _ h9 => h9) rfl dMB_measure_142 ?_
        refine lv_goto (tgt := 149) hx hb dMB_measure_145 (by decide) ?_
        exact W.iret (v := (cf2 (trp ((sT S) x.toNatClampNeg)))) hx hb hr (fun t9 ht hW => ⟨⟨(cf2 (trp ((sT S) x.toNatClampNeg))), (), rfl, (by simp only [xMeasure, if_pos c_1, if_neg c_2, if_neg c_3, if_neg c_4, if_neg c_5, if_neg c_6, if_neg c_8, if_pos c_10, if_neg c_11] <;> rfl), trivial⟩, hS.F ht⟩) hS.2.2 dMB_measure_149
    by_cases c_12 : w = 7
    · refine lv_tableIn (tgt := 150) hx hb dMB_measure_19 (by rw [c_12]; decide +kernel) (by rw [c_12]; decide +kernel) (off := 131) (by rw [c_12]; decide +kernel) (by decide) ?_
      refine lv_aload_n hx hb dMB_measure_150 rfl (lv_at hl 0 rfl) ?_
      refine mk_rdV (As := []) (rest := []) (w := (wTr g (ga G x.toNatClampNeg) ((sT S) x.toNatClampNeg))) (q0 := (RTr, TTr, 11)) (ci := iTr) ⟨hx, hb, hml, hown, hts⟩ (c_Tr_rear l D g (ga G x.toNatClampNeg) ((sT S) x.toNatClampNeg) ) (cwV 0 hts (gd_V b_186 b_187 b_188 b_4 b_189) rfl rfl rfl (by decide +kernel) ⟨Nat.le_of_ble_eq_true rfl, Nat.le_of_ble_eq_true rfl⟩) hK hP hD hS hA (pTr x.toNatClampNeg) (mb_cutTr (sNo_lt hm c_1)) (pTr_nd (sNo_lt hm c_1)) rfl rfl rfl hl.1 rfl (Nat.le_of_ble_eq_true rfl) dMB_measure_151 ⟨Nat.zero_le _, Nat.zero_le _⟩ (fun H locs hP hS => ?_)
      exact W.iret (v := tRear ((sT S) x.toNatClampNeg)) hx hb hr (fun t9 ht hW => ⟨⟨tRear ((sT S) x.toNatClampNeg), (), rfl, (by simp only [xMeasure, if_pos c_1, if_neg c_2, if_neg c_3, if_neg c_4, if_neg c_5, if_neg c_6, if_neg c_8, if_neg c_10, if_pos c_12] <;> rfl), trivial⟩, hS.F ht⟩) hS.2.2 dMB_measure_154
    refine lv_tableOut (tgt := 155) hx hb dMB_measure_19 (mk_tab8 c_2 c_3 c_4 c_5 c_6 c_8 c_10 c_12) (by decide) ?_
    refine lv_ldc (v := (-1000000)) hx hb hown (htB _ b_173) dMB_measure_155 ?_
    exact W.iret (v := (-1000000)) hx hb hr (fun t9 ht hW => ⟨⟨(-1000000), (), rfl, (by simp only [xMeasure, if_pos c_1, if_neg c_2, if_neg c_3, if_neg c_4, if_neg c_5, if_neg c_6, if_neg c_8, if_neg c_10, if_neg c_12] <;> rfl), trivial⟩, hS.F ht⟩) hS.2.2 dMB_measure_157
  · refine lv_ldc (v := (-1000000)) hx hb hown (htB _ b_173) dMB_measure_8 ?_
    exact W.iret (v := (-1000000)) hx hb hr (fun t9 ht hW => ⟨⟨(-1000000), (), rfl, (by simp only [xMeasure, if_neg c_1] <;> rfl), trivial⟩, hS.F ht⟩) hS.2.2 dMB_measure_10
set_option maxHeartbeats 4000000 in
set_option maxRecDepth 100000 in
/-- state -/
theorem c_state (l : Launch) (D : va_G) (g : Nat → ClassId) (G : zAd) (S : zMB) (hG : gOK G) (hm : sm S ≤ 4) (x w : Int32) : mk_Rd l yMB_state wsMB_state ({ frames := 2, cells := 0, slots := 0, locals := 44 }) D vwCl (zty g) [.ref (go G 0), .int x, .int w] (wMB g G S) (xState S x w) := by
  intro sz
  refine Met.ofW (cc := cMB_state) (maxL := 4) (ret := (some .int)) (by decide) rfl ?_
  intro p e s m args below meth cd s₁ B hml hv
  obtain ⟨rfl, hsz, hP, hK, hD0⟩ := hv
  have hx := B.exec
  have hb := B.bytes
  have hr := B.returns
  have hts := atoms_spec (ws := wsMB_state) B.pre
  have htB := fun (w : Cond) (h : w ∈ BIG) => hts w (List.mem_cons_of_mem _ h)
  have hown : s.vm.findClass RMB = some m.cls := findClass_of_methodNamed B.named
  have hlocks := B.notSynchronized
  subst hsz
  have hD := hD0
  have hA : ∀ q : Nat, s.heap.size ≤ q → (fun q => s.heap.size ≤ q) q := fun _ h => h
  have hS : va_S (fun q => s.heap.size ≤ q) s.heap s.heap [] := va_S.rf
  have hl := lv_entry ([.ref (go G 0), .int x, .int w]) (n := 4) (Nat.le_of_ble_eq_true rfl)
  rw [lg_entry_eq]
  generalize (lg_sl ([.ref (go G 0), .int x, .int w]) ++ List.replicate (4 - (lg_sl ([.ref (go G 0), .int x, .int w])).length) Slot.unset).toArray = ls at hl ⊢
  have hl : lv_has ls 4 [(0, .ref (go G 0)), (1, .int x), (2, .int w)] := hl
  have hP : va_P D vwCl (wMB g G S) s.heap := hP
  refine lv_aload_n hx hb dMB_state_0 rfl (lv_at hl 0 rfl) ?_
  refine lv_iload_n hx hb dMB_state_1 rfl (lv_at hl 1 rfl) ?_
  refine mk_rdV (As := [.int x]) (rest := []) (w := (wMB g G S)) (q0 := (RMB, TMB, 5)) (ci := iMB) ⟨hx, hb, hml, hown, hts⟩ (c_isNoTrain l D g G S hG hm x) (cwV 1 hts (gd_V b_198 b_200 bp_0 b_1 b_201) rfl rfl rfl (by decide +kernel) ⟨Nat.le_of_ble_eq_true rfl, Nat.le_of_ble_eq_true rfl⟩) hK hP hD hS hA (List.range 53) mb_cutAll mb_ndAll rfl rfl rfl hl.1 rfl (Nat.le_of_ble_eq_true rfl) dMB_state_2 ⟨Nat.zero_le _, Nat.zero_le _⟩ (fun H locs hP hS => ?_)
  refine lv_if_eq (tgt := 11) hx hb dMB_state_5 (by decide) (fun c_1 => ?_) (fun c_1 => ?_)
  · refine lv_aload_n hx hb dMB_state_11 rfl (lv_at hl 0 rfl) ?_
    refine va_get (D := D) (ci := iMB) (v := .ref (go G 1)) (C := RMB) (T := TMB) (N := 5) hx hb htB inBMB hown hK hP 0 rfl rfl 2 (by decide) (htB _ b_152) (fun _ h9 => h9) rfl dMB_state_12 ?_
    refine lv_iload_n hx hb dMB_state_15 rfl (lv_at hl 1 rfl) ?_
    refine mk_aald (k := x.toNatClampNeg) hx hb hK hP 8 2 rfl rfl (sNo_ix c_1) ⟨(sNo_lt hm c_1), by decide⟩ (hG _ (sNo_lt hm c_1)) dMB_state_16 ?_
    refine lv_astore_n (lv' := [(3, .ref (ga G x.toNatClampNeg 0 0)), (0, .ref (go G 0)), (1, .int x), (2, .int w)]) hx hb dMB_state_17 rfl hl (by decide) rfl (fun ls hl => ?_)
    refine lv_iload_n hx hb dMB_state_18 rfl (lv_at hl 3 rfl) ?_
    by_cases c_2 : w = 0
    · refine lv_tableIn (tgt := 56) hx hb dMB_state_19 (by rw [c_2]; decide +kernel) (by rw [c_2]; decide +kernel) (off := 37) (by rw [c_2]; decide +kernel) (by decide) ?_
      refine lv_aload_n hx hb dMB_state_56 rfl (lv_at hl 0 rfl) ?_
      refine va_get (D := D) (ci := iTr) (v := .int (bI (tem ((sT S) x.toNatClampNeg)))) (C := RTr) (T := TTr) (N := 11) hx hb htB inBTr hown hK hP (9 + 11 * x.toNatClampNeg) (mb_atTr (sNo_lt hm c_1)) rfl 9 (by decide) (htB _ b_124) (fun _ h9 => h9) rfl dMB_state_57 ?_
      refine lv_if_eq (tgt := 67) hx hb dMB_state_60 (by decide) (fun c_3 => ?_) (fun c_3 => ?_)
      · refine lv_iconst (v := 0) hx hb dMB_state_67 (by decide) ?_
        exact W.iret (v := 0) hx hb hr (fun t9 ht hW => ⟨⟨0, (), rfl, (by simp only [xState, if_pos c_1, if_pos c_2, if_pos c_3] <;> rfl), trivial⟩, hS.F ht⟩) hS.2.2 dMB_state_68
      · refine lv_iconst (v := 1) hx hb dMB_state_63 (by decide) ?_
        refine lv_goto (tgt := 68) hx hb dMB_state_64 (by decide) ?_
        exact W.iret (v := 1) hx hb hr (fun t9 ht hW => ⟨⟨1, (), rfl, (by simp only [xState, if_pos c_1, if_pos c_2, if_neg c_3] <;> rfl), trivial⟩, hS.F ht⟩) hS.2.2 dMB_state_68
    by_cases c_4 : w = 1
    · refine lv_tableIn (tgt := 69) hx hb dMB_state_19 (by rw [c_4]; decide +kernel) (by rw [c_4]; decide +kernel) (off := 50) (by rw [c_4]; decide +kernel) (by decide) ?_
      refine lv_aload_n hx hb dMB_state_69 rfl (lv_at hl 0 rfl) ?_
      refine va_get (D := D) (ci := iTr) (v := .ref (ga G x.toNatClampNeg 1 0)) (C := RTr) (T := TTr) (N := 11) hx hb htB inBTr hown hK hP (9 + 11 * x.toNatClampNeg) (mb_atTr (sNo_lt hm c_1)) rfl 0 (by decide) (htB _ b_107) (fun _ h9 => h9) rfl dMB_state_70 ?_
      refine va_get (D := D) (ci := iCh) (v := .int (csp (trp ((sT S) x.toNatClampNeg)))) (C := RCh) (T := TCh) (N := 10) hx hb htB inBCh hown hK hP (9 + 11 * x.toNatClampNeg + 1) (mb_atRp (sNo_lt hm c_1)) rfl 5 (by decide) (htB _ b_75) (fun _ h9 => h9) rfl dMB_state_73 ?_
      exact W.iret (v := (csp (trp ((sT S) x.toNatClampNeg)))) hx hb hr (fun t9 ht hW => ⟨⟨(csp (trp ((sT S) x.toNatClampNeg))), (), rfl, (by simp only [xState, if_pos c_1, if_neg c_2, if_pos c_4] <;> rfl), trivial⟩, hS.F ht⟩) hS.2.2 dMB_state_76
    by_cases c_5 : w = 2
    · refine lv_tableIn (tgt := 77) hx hb dMB_state_19 (by rw [c_5]; decide +kernel) (by rw [c_5]; decide +kernel) (off := 58) (by rw [c_5]; decide +kernel) (by decide) ?_
      refine lv_aload_n hx hb dMB_state_77 rfl (lv_at hl 0 rfl) ?_
      refine va_get (D := D) (ci := iTr) (v := .ref (ga G x.toNatClampNeg 2 0)) (C := RTr) (T := TTr) (N := 11) hx hb htB inBTr hown hK hP (9 + 11 * x.toNatClampNeg) (mb_atTr (sNo_lt hm c_1)) rfl 1 (by decide) (htB _ b_109) (fun _ h9 => h9) rfl dMB_state_78 ?_
      refine va_get (D := D) (ci := iCh) (v := .int (csp (tau ((sT S) x.toNatClampNeg)))) (C := RCh) (T := TCh) (N := 10) hx hb htB inBCh hown hK hP (9 + 11 * x.toNatClampNeg + 6) (mb_atAu (sNo_lt hm c_1)) rfl 5 (by decide) (htB _ b_75) (fun _ h9 => h9) rfl dMB_state_81 ?_
      exact W.iret (v := (csp (tau ((sT S) x.toNatClampNeg)))) hx hb hr (fun t9 ht hW => ⟨⟨(csp (tau ((sT S) x.toNatClampNeg))), (), rfl, (by simp only [xState, if_pos c_1, if_neg c_2, if_neg c_4, if_pos c_5] <;> rfl), trivial⟩, hS.F ht⟩) hS.2.2 dMB_state_84
    by_cases c_6 : w = 3
    · refine lv_tableIn (tgt := 85) hx hb dMB_state_19 (by rw [c_6]; decide +kernel) (by rw [c_6]; decide +kernel) (off := 66) (by rw [c_6]; decide +kernel) (by decide) ?_
      refine lv_aload_n hx hb dMB_state_85 rfl (lv_at hl 0 rfl) ?_
      refine va_get (D := D) (ci := iTr) (v := .int (tec ((sT S) x.toNatClampNeg))) (C := RTr) (T := TTr) (N := 11) hx hb htB inBTr hown hK hP (9 + 11 * x.toNatClampNeg) (mb_atTr (sNo_lt hm c_1)) rfl 10 (by decide) (htB _ b_126) (fun _ h9 => h9) rfl dMB_state_86 ?_
      exact W.iret (v := (tec ((sT S) x.toNatClampNeg))) hx hb hr (fun t9 ht hW => ⟨⟨(tec ((sT S) x.toNatClampNeg)), (), rfl, (by simp only [xState, if_pos c_1, if_neg c_2, if_neg c_4, if_neg c_5, if_pos c_6] <;> rfl), trivial⟩, hS.F ht⟩) hS.2.2 dMB_state_89
    by_cases c_7 : w = 4
    · refine lv_tableIn (tgt := 90) hx hb dMB_state_19 (by rw [c_7]; decide +kernel) (by rw [c_7]; decide +kernel) (off := 71) (by rw [c_7]; decide +kernel) (by decide) ?_
      refine lv_aload_n hx hb dMB_state_90 rfl (lv_at hl 0 rfl) ?_
      refine lv_aload_n hx hb dMB_state_91 rfl (lv_at hl 1 rfl) ?_
      refine va_get (D := D) (ci := iMB) (v := .int (nI (sn S))) (C := RMB) (T := TMB) (N := 5) hx hb htB inBMB hown hK hP 0 rfl rfl 4 (by decide) (htB _ b_154) (fun _ h9 => h9) rfl dMB_state_92 ?_
      refine mk_rdV (As := [.int (nI (sn S))]) (rest := []) (w := (wTr g (ga G x.toNatClampNeg) ((sT S) x.toNatClampNeg))) (q0 := (RTr, TTr, 11)) (ci := iTr) ⟨hx, hb, hml, hown, hts⟩ (c_Tr_otw l D g (ga G x.toNatClampNeg) ((sT S) x.toNatClampNeg) (sn S)) (cwV 1 hts (gd_V b_325 b_326 b_327 b_4 b_328) rfl rfl rfl (by decide +kernel) ⟨Nat.le_of_ble_eq_true rfl, Nat.le_of_ble_eq_true rfl⟩) hK hP hD hS hA (pTr x.toNatClampNeg) (mb_cutTr (sNo_lt hm c_1)) (pTr_nd (sNo_lt hm c_1)) rfl rfl rfl hl.1 rfl (Nat.le_of_ble_eq_true rfl) dMB_state_95 ⟨Nat.zero_le _, Nat.zero_le _⟩ (fun H locs hP hS => ?_)
      exact W.iret (v := tOtw ((sT S) x.toNatClampNeg) (sn S)) hx hb hr (fun t9 ht hW => ⟨⟨tOtw ((sT S) x.toNatClampNeg) (sn S), (), rfl, (by simp only [xState, if_pos c_1, if_neg c_2, if_neg c_4, if_neg c_5, if_neg c_6, if_pos c_7] <;> rfl), trivial⟩, hS.F ht⟩) hS.2.2 dMB_state_98
    by_cases c_8 : w = 5
    · refine lv_tableIn (tgt := 99) hx hb dMB_state_19 (by rw [c_8]; decide +kernel) (by rw [c_8]; decide +kernel) (off := 80) (by rw [c_8]; decide +kernel) (by decide) ?_
      refine lv_aload_n hx hb dMB_state_99 rfl (lv_at hl 0 rfl) ?_
      refine va_get (D := D) (ci := iTr) (v := .int (tfr ((sT S) x.toNatClampNeg))) (C := RTr) (T := TTr) (N := 11) hx hb htB inBTr hown hK hP (9 + 11 * x.toNatClampNeg) (mb_atTr (sNo_lt hm c_1)) rfl 3 (by decide) (htB _ b_112) (fun _ h9 => h9) rfl dMB_state_100 ?_
      refine mk_rdS (As := [.int (tfr ((sT S) x.toNatClampNeg))]) (rest := []) (w := []) ⟨hx, hb, hml, hown, hts⟩ (c_Tk_pieceAt l D g (tfr ((sT S) x.toNatClampNeg))) (va_cwS 1 hts (gd_S b_333 b_289 b_2 b_290) rfl rfl rfl (by decide +kernel) ⟨Nat.le_of_ble_eq_true rfl, Nat.le_of_ble_eq_true rfl⟩) hK hP hD hS hA [] rfl rfl rfl hl.1 rfl (Nat.le_of_ble_eq_true rfl) dMB_state_103 ⟨Nat.zero_le _, Nat.zero_le _⟩ (fun H locs hP hS => ?_)
      exact W.iret (v := nI (nPiece (tfr ((sT S) x.toNatClampNeg)))) hx hb hr (fun t9 ht hW => ⟨⟨nI (nPiece (tfr ((sT S) x.toNatClampNeg))), (), rfl, (by simp only [xState, if_pos c_1, if_neg c_2, if_neg c_4, if_neg c_5, if_neg c_6, if_neg c_7, if_pos c_8] <;> rfl), trivial⟩, hS.F ht⟩) hS.2.2 dMB_state_106
    refine lv_tableOut (tgt := 107) hx hb dMB_state_19 (mk_tab6 c_2 c_4 c_5 c_6 c_7 c_8) (by decide) ?_
    refine lv_ldc (v := (-1000000)) hx hb hown (htB _ b_173) dMB_state_107 ?_
    exact W.iret (v := (-1000000)) hx hb hr (fun t9 ht hW => ⟨⟨(-1000000), (), rfl, (by simp only [xState, if_pos c_1, if_neg c_2, if_neg c_4, if_neg c_5, if_neg c_6, if_neg c_7, if_neg c_8] <;> rfl), trivial⟩, hS.F ht⟩) hS.2.2 dMB_state_109
  · refine lv_ldc (v := (-1000000)) hx hb hown (htB _ b_173) dMB_state_8 ?_
    exact W.iret (v := (-1000000)) hx hb hr (fun t9 ht hW => ⟨⟨(-1000000), (), rfl, (by simp only [xState, if_neg c_1] <;> rfl), trivial⟩, hS.F ht⟩) hS.2.2 dMB_state_10
set_option maxHeartbeats 4000000 in
set_option maxRecDepth 100000 in
/-- permitted -/
theorem c_permitted (l : Launch) (D : va_G) (g : Nat → ClassId) (G : zAd) (S : zMB) (hG : gOK G) (hm : sm S ≤ 4) (x : Int32) : mk_Rd l yMB_permitted wsMB_permitted ({ frames := 4, cells := 0, slots := 0, locals := 92 }) D vwCl (zty g) [.ref (go G 0), .int x] (wMB g G S) (xPermitted S x) := by
  intro sz
  refine Met.ofW (cc := cMB_permitted) (maxL := 2) (ret := (some .int)) (by decide) rfl ?_
  intro p e s m args below meth cd s₁ B hml hv
  obtain ⟨rfl, hsz, hP, hK, hD0⟩ := hv
  have hx := B.exec
  have hb := B.bytes
  have hr := B.returns
  have hts := atoms_spec (ws := wsMB_permitted) B.pre
  have htB := fun (w : Cond) (h : w ∈ BIG) => hts w (List.mem_cons_of_mem _ h)
  have hown : s.vm.findClass RMB = some m.cls := findClass_of_methodNamed B.named
  have hlocks := B.notSynchronized
  subst hsz
  have hD := hD0
  have hA : ∀ q : Nat, s.heap.size ≤ q → (fun q => s.heap.size ≤ q) q := fun _ h => h
  have hS : va_S (fun q => s.heap.size ≤ q) s.heap s.heap [] := va_S.rf
  have hl := lv_entry ([.ref (go G 0), .int x]) (n := 2) (Nat.le_of_ble_eq_true rfl)
  rw [lg_entry_eq]
  generalize (lg_sl ([.ref (go G 0), .int x]) ++ List.replicate (2 - (lg_sl ([.ref (go G 0), .int x])).length) Slot.unset).toArray = ls at hl ⊢
  have hl : lv_has ls 2 [(0, .ref (go G 0)), (1, .int x)] := hl
  have hP : va_P D vwCl (wMB g G S) s.heap := hP
  refine lv_aload_n hx hb dMB_permitted_0 rfl (lv_at hl 0 rfl) ?_
  refine lv_iload_n hx hb dMB_permitted_1 rfl (lv_at hl 1 rfl) ?_
  refine mk_rdV (As := [.int x]) (rest := []) (w := (wMB g G S)) (q0 := (RMB, TMB, 5)) (ci := iMB) ⟨hx, hb, hml, hown, hts⟩ (c_isNoTrain l D g G S hG hm x) (cwV 1 hts (gd_V b_198 b_200 bp_0 b_1 b_201) rfl rfl rfl (by decide +kernel) ⟨Nat.le_of_ble_eq_true rfl, Nat.le_of_ble_eq_true rfl⟩) hK hP hD hS hA (List.range 53) mb_cutAll mb_ndAll rfl rfl rfl hl.1 rfl (Nat.le_of_ble_eq_true rfl) dMB_permitted_2 ⟨Nat.zero_le _, Nat.zero_le _⟩ (fun H locs hP hS => ?_)
  refine lv_if_eq (tgt := 11) hx hb dMB_permitted_5 (by decide) (fun c_1 => ?_) (fun c_1 => ?_)
  · refine lv_aload_n hx hb dMB_permitted_11 rfl (lv_at hl 0 rfl) ?_
    refine va_get (D := D) (ci := iMB) (v := .ref (go G 1)) (C := RMB) (T := TMB) (N := 5) hx hb htB inBMB hown hK hP 0 rfl rfl 2 (by decide) (htB _ b_152) (fun _ h9 => h9) rfl dMB_permitted_12 ?_
    refine lv_iload_n hx hb dMB_permitted_15 rfl (lv_at hl 1 rfl) ?_
    refine mk_aald (k := x.toNatClampNeg) hx hb hK hP 8 2 rfl rfl (sNo_ix c_1) ⟨(sNo_lt hm c_1), by decide⟩ (hG _ (sNo_lt hm c_1)) dMB_permitted_16 ?_
    refine lv_aload_n hx hb dMB_permitted_17 rfl (lv_at hl 0 rfl) ?_
    refine va_get (D := D) (ci := iMB) (v := .ref (gb G 0)) (C := RMB) (T := TMB) (N := 5) hx hb htB inBMB hown hK hP 0 rfl rfl 0 (by decide) (htB _ b_150) (fun _ h9 => h9) rfl dMB_permitted_18 ?_
    refine mk_rdV (As := [.ref (gb G 0)]) (rest := []) (w := (wTr g (ga G x.toNatClampNeg) ((sT S) x.toNatClampNeg) ++ wTk g (gb G) (sk S))) (q0 := (RTr, TTr, 11)) (ci := iTr) ⟨hx, hb, hml, hown, hts⟩ (c_Tr_best l D g (ga G x.toNatClampNeg) ((sT S) x.toNatClampNeg) (gb G) (sk S) ) (cwV 1 hts (gd_V b_338 b_339 b_340 b_4 b_341) rfl rfl rfl (by decide +kernel) ⟨Nat.le_of_ble_eq_true rfl, Nat.le_of_ble_eq_true rfl⟩) hK hP hD hS hA (pTk x.toNatClampNeg) (mb_cutTk (sNo_lt hm c_1)) (pTk_nd (sNo_lt hm c_1)) rfl rfl rfl hl.1 rfl (Nat.le_of_ble_eq_true rfl) dMB_permitted_21 ⟨Nat.zero_le _, Nat.zero_le _⟩ (fun H locs hP hS => ?_)
    exact W.iret (v := tBest ((sT S) x.toNatClampNeg) (sk S)) hx hb hr (fun t9 ht hW => ⟨⟨tBest ((sT S) x.toNatClampNeg) (sk S), (), rfl, (by simp only [xPermitted, if_pos c_1] <;> rfl), trivial⟩, hS.F ht⟩) hS.2.2 dMB_permitted_24
  · refine lv_ldc (v := (-1000000)) hx hb hown (htB _ b_173) dMB_permitted_8 ?_
    exact W.iret (v := (-1000000)) hx hb hr (fun t9 ht hW => ⟨⟨(-1000000), (), rfl, (by simp only [xPermitted, if_neg c_1] <;> rfl), trivial⟩, hS.F ht⟩) hS.2.2 dMB_permitted_10
set_option maxHeartbeats 4000000 in
set_option maxRecDepth 100000 in
/-- count -/
theorem c_count (l : Launch) (D : va_G) (g : Nat → ClassId) (G : zAd) (S : zMB) (hG : gOK G) (hm : sm S ≤ 4) (w : Int32) : mk_Rd l yMB_count wsMB_count ({ frames := 3, cells := 0, slots := 0, locals := 66 }) D vwCl (zty g) [.ref (go G 0), .int w] (wMB g G S) (xCount S w) := by
  intro sz
  refine Met.ofW (cc := cMB_count) (maxL := 2) (ret := (some .int)) (by decide) rfl ?_
  intro p e s m args below meth cd s₁ B hml hv
  obtain ⟨rfl, hsz, hP, hK, hD0⟩ := hv
  have hx := B.exec
  have hb := B.bytes
  have hr := B.returns
  have hts := atoms_spec (ws := wsMB_count) B.pre
  have htB := fun (w : Cond) (h : w ∈ BIG) => hts w (List.mem_cons_of_mem _ h)
  have hown : s.vm.findClass RMB = some m.cls := findClass_of_methodNamed B.named
  have hlocks := B.notSynchronized
  subst hsz
  have hD := hD0
  have hA : ∀ q : Nat, s.heap.size ≤ q → (fun q => s.heap.size ≤ q) q := fun _ h => h
  have hS : va_S (fun q => s.heap.size ≤ q) s.heap s.heap [] := va_S.rf
  have hl := lv_entry ([.ref (go G 0), .int w]) (n := 2) (Nat.le_of_ble_eq_true rfl)
  rw [lg_entry_eq]
  generalize (lg_sl ([.ref (go G 0), .int w]) ++ List.replicate (2 - (lg_sl ([.ref (go G 0), .int w])).length) Slot.unset).toArray = ls at hl ⊢
  have hl : lv_has ls 2 [(0, .ref (go G 0)), (1, .int w)] := hl
  have hP : va_P D vwCl (wMB g G S) s.heap := hP
  refine lv_iload_n hx hb dMB_count_0 rfl (lv_at hl 1 rfl) ?_
  by_cases c_1 : w = 0
  · refine lv_tableIn (tgt := 40) hx hb dMB_count_1 (by rw [c_1]; decide +kernel) (by rw [c_1]; decide +kernel) (off := 39) (by rw [c_1]; decide +kernel) (by decide) ?_
    refine lv_aload_n hx hb dMB_count_40 rfl (lv_at hl 0 rfl) ?_
    refine va_get (D := D) (ci := iMB) (v := .int (nI (sn S))) (C := RMB) (T := TMB) (N := 5) hx hb htB inBMB hown hK hP 0 rfl rfl 4 (by decide) (htB _ b_154) (fun _ h9 => h9) rfl dMB_count_41 ?_
    exact W.iret (v := nI (sn S)) hx hb hr (fun t9 ht hW => ⟨⟨nI (sn S), (), rfl, (by simp only [xCount, if_pos c_1] <;> rfl), trivial⟩, hS.F ht⟩) hS.2.2 dMB_count_44
  by_cases c_2 : w = 1
  · refine lv_tableIn (tgt := 45) hx hb dMB_count_1 (by rw [c_2]; decide +kernel) (by rw [c_2]; decide +kernel) (off := 44) (by rw [c_2]; decide +kernel) (by decide) ?_
    refine lv_aload_n hx hb dMB_count_45 rfl (lv_at hl 0 rfl) ?_
    refine va_get (D := D) (ci := iMB) (v := .int (nI (sm S))) (C := RMB) (T := TMB) (N := 5) hx hb htB inBMB hown hK hP 0 rfl rfl 3 (by decide) (htB _ b_153) (fun _ h9 => h9) rfl dMB_count_46 ?_
    exact W.iret (v := nI (sm S)) hx hb hr (fun t9 ht hW => ⟨⟨nI (sm S), (), rfl, (by simp only [xCount, if_neg c_1, if_pos c_2] <;> rfl), trivial⟩, hS.F ht⟩) hS.2.2 dMB_count_49
  by_cases c_3 : w = 2
  · refine lv_tableIn (tgt := 50) hx hb dMB_count_1 (by rw [c_3]; decide +kernel) (by rw [c_3]; decide +kernel) (off := 49) (by rw [c_3]; decide +kernel) (by decide) ?_
    refine lv_aload_n hx hb dMB_count_50 rfl (lv_at hl 0 rfl) ?_
    refine mk_rdV (As := []) (rest := []) (w := (wMB g G S)) (q0 := (RMB, TMB, 5)) (ci := iMB) ⟨hx, hb, hml, hown, hts⟩ (c_cbey l D g G S hG hm ) (cwV 0 hts (gd_V b_346 b_348 bp_4 b_1 b_349) rfl rfl rfl (by decide +kernel) ⟨Nat.le_of_ble_eq_true rfl, Nat.le_of_ble_eq_true rfl⟩) hK hP hD hS hA (List.range 53) mb_cutAll mb_ndAll rfl rfl rfl hl.1 rfl (Nat.le_of_ble_eq_true rfl) dMB_count_51 ⟨Nat.zero_le _, Nat.zero_le _⟩ (fun H locs hP hS => ?_)
    exact W.iret (v := beyL S (sm S - 1) 1 0) hx hb hr (fun t9 ht hW => ⟨⟨beyL S (sm S - 1) 1 0, (), rfl, (by simp only [xCount, if_neg c_1, if_neg c_2, if_pos c_3] <;> rfl), trivial⟩, hS.F ht⟩) hS.2.2 dMB_count_54
  by_cases c_4 : w = 3
  · refine lv_tableIn (tgt := 55) hx hb dMB_count_1 (by rw [c_4]; decide +kernel) (by rw [c_4]; decide +kernel) (off := 54) (by rw [c_4]; decide +kernel) (by decide) ?_
    refine lv_aload_n hx hb dMB_count_55 rfl (lv_at hl 0 rfl) ?_
    refine mk_rdV (As := []) (rest := []) (w := (wMB g G S)) (q0 := (RMB, TMB, 5)) (ci := iMB) ⟨hx, hb, hml, hown, hts⟩ (c_cotw l D g G S hG hm ) (cwV 0 hts (gd_V b_350 b_352 bp_5 b_1 b_353) rfl rfl rfl (by decide +kernel) ⟨Nat.le_of_ble_eq_true rfl, Nat.le_of_ble_eq_true rfl⟩) hK hP hD hS hA (List.range 53) mb_cutAll mb_ndAll rfl rfl rfl hl.1 rfl (Nat.le_of_ble_eq_true rfl) dMB_count_56 ⟨Nat.zero_le _, Nat.zero_le _⟩ (fun H locs hP hS => ?_)
    exact W.iret (v := otwL S (sm S) 0 0) hx hb hr (fun t9 ht hW => ⟨⟨otwL S (sm S) 0 0, (), rfl, (by simp only [xCount, if_neg c_1, if_neg c_2, if_neg c_3, if_pos c_4] <;> rfl), trivial⟩, hS.F ht⟩) hS.2.2 dMB_count_59
  by_cases c_5 : w = 4
  · refine lv_tableIn (tgt := 60) hx hb dMB_count_1 (by rw [c_5]; decide +kernel) (by rw [c_5]; decide +kernel) (off := 59) (by rw [c_5]; decide +kernel) (by decide) ?_
    refine lv_aload_n hx hb dMB_count_60 rfl (lv_at hl 0 rfl) ?_
    refine mk_rdV (As := []) (rest := []) (w := (wMB g G S)) (q0 := (RMB, TMB, 5)) (ci := iMB) ⟨hx, hb, hml, hown, hts⟩ (c_clos l D g G S hG hm ) (cwV 0 hts (gd_V b_354 b_356 bp_6 b_1 b_357) rfl rfl rfl (by decide +kernel) ⟨Nat.le_of_ble_eq_true rfl, Nat.le_of_ble_eq_true rfl⟩) hK hP hD hS hA (List.range 53) mb_cutAll mb_ndAll rfl rfl rfl hl.1 rfl (Nat.le_of_ble_eq_true rfl) dMB_count_61 ⟨Nat.zero_le _, Nat.zero_le _⟩ (fun H locs hP hS => ?_)
    exact W.iret (v := losL S (sm S) 0 0) hx hb hr (fun t9 ht hW => ⟨⟨losL S (sm S) 0 0, (), rfl, (by simp only [xCount, if_neg c_1, if_neg c_2, if_neg c_3, if_neg c_4, if_pos c_5] <;> rfl), trivial⟩, hS.F ht⟩) hS.2.2 dMB_count_64
  by_cases c_6 : w = 5
  · refine lv_tableIn (tgt := 65) hx hb dMB_count_1 (by rw [c_6]; decide +kernel) (by rw [c_6]; decide +kernel) (off := 64) (by rw [c_6]; decide +kernel) (by decide) ?_
    refine lv_aload_n hx hb dMB_count_65 rfl (lv_at hl 0 rfl) ?_
    refine mk_rdV (As := []) (rest := []) (w := (wMB g G S)) (q0 := (RMB, TMB, 5)) (ci := iMB) ⟨hx, hb, hml, hown, hts⟩ (c_cnot l D g G S hG hm ) (cwV 0 hts (gd_V b_358 b_360 bp_7 b_1 b_361) rfl rfl rfl (by decide +kernel) ⟨Nat.le_of_ble_eq_true rfl, Nat.le_of_ble_eq_true rfl⟩) hK hP hD hS hA (List.range 53) mb_cutAll mb_ndAll rfl rfl rfl hl.1 rfl (Nat.le_of_ble_eq_true rfl) dMB_count_66 ⟨Nat.zero_le _, Nat.zero_le _⟩ (fun H locs hP hS => ?_)
    exact W.iret (v := notL S (sm S) 0 0) hx hb hr (fun t9 ht hW => ⟨⟨notL S (sm S) 0 0, (), rfl, (by simp only [xCount, if_neg c_1, if_neg c_2, if_neg c_3, if_neg c_4, if_neg c_5, if_pos c_6] <;> rfl), trivial⟩, hS.F ht⟩) hS.2.2 dMB_count_69
  refine lv_tableOut (tgt := 70) hx hb dMB_count_1 (mk_tab6 c_1 c_2 c_3 c_4 c_5 c_6) (by decide) ?_
  refine lv_ldc (v := (-1000000)) hx hb hown (htB _ b_173) dMB_count_70 ?_
  exact W.iret (v := (-1000000)) hx hb hr (fun t9 ht hW => ⟨⟨(-1000000), (), rfl, (by simp only [xCount, if_neg c_1, if_neg c_2, if_neg c_3, if_neg c_4, if_neg c_5, if_neg c_6] <;> rfl), trivial⟩, hS.F ht⟩) hS.2.2 dMB_count_72
set_option maxHeartbeats 4000000 in
set_option maxRecDepth 100000 in
/-- enter -/
theorem c_enter (l : Launch) (D : va_G) (g : Nat → ClassId) (G : zAd) (S : zMB) (hG : gOK G) (hm : sm S ≤ 4) (le fr : Int32) : mk_Wi l yMB_enter wsMB_enter ({ frames := 1, cells := 0, slots := 0, locals := 22 }) D vwCl (zty g) [.ref (go G 0), .int le, .int fr] (wMB g G S) (wMB g G (xEnter S le fr).2) ((xEnter S le fr).1) := by
  intro sz
  refine Met.ofW (cc := cMB_enter) (maxL := 3) (ret := (some .int)) (by decide) rfl ?_
  intro p e s m args below meth cd s₁ B hml hv
  obtain ⟨rfl, hsz, hP, hK, hD0⟩ := hv
  have hx := B.exec
  have hb := B.bytes
  have hr := B.returns
  have hts := atoms_spec (ws := wsMB_enter) B.pre
  have htB := fun (w : Cond) (h : w ∈ BIG) => hts w (List.mem_cons_of_mem _ h)
  have hown : s.vm.findClass RMB = some m.cls := findClass_of_methodNamed B.named
  have hlocks := B.notSynchronized
  subst hsz
  have hD := hD0.self (sz := s.heap.size)
  generalize hAe : va_A (wMB g G S) s.heap.size = A at hD ⊢
  have hA : ∀ q : Nat, s.heap.size ≤ q → A q := fun q h => by rw [← hAe]; exact Or.inr h
  have hS : va_S A s.heap s.heap [] := va_S.rf
  have hl := lv_entry ([.ref (go G 0), .int le, .int fr]) (n := 3) (Nat.le_of_ble_eq_true rfl)
  rw [lg_entry_eq]
  generalize (lg_sl ([.ref (go G 0), .int le, .int fr]) ++ List.replicate (3 - (lg_sl ([.ref (go G 0), .int le, .int fr])).length) Slot.unset).toArray = ls at hl ⊢
  have hl : lv_has ls 3 [(0, .ref (go G 0)), (1, .int le), (2, .int fr)] := hl
  have hP : va_P D vwCl (wMB g G S) s.heap := hP
  refine lv_iload_n hx hb dMB_enter_0 rfl (lv_at hl 1 rfl) ?_
  refine lv_bipush (v := 20) hx hb dMB_enter_1 (by decide) ?_
  refine lv_sipush (v := 200) hx hb dMB_enter_3 (by decide) ?_
  refine mk_rdS (As := [.int le, .int 20, .int 200]) (rest := []) (w := []) ⟨hx, hb, hml, hown, hts⟩ (c_isOutside l D g le 20 200) (va_cwS 3 hts (gd_S b_170 b_171 b_1 b_172) rfl rfl rfl (by decide +kernel) ⟨Nat.le_of_ble_eq_true rfl, Nat.le_of_ble_eq_true rfl⟩) hK hP hD hS hA [] rfl rfl rfl hl.1 rfl (Nat.le_of_ble_eq_true rfl) dMB_enter_6 ⟨Nat.zero_le _, Nat.zero_le _⟩ (fun H locs hP hS => ?_)
  refine lv_if_ne (tgt := 31) hx hb dMB_enter_9 (by decide) (fun c_1 => ?_) (fun c_1 => ?_)
  · refine lv_ldc (v := (-1000000)) hx hb hown (htB _ b_173) dMB_enter_31 ?_
    have hE : wMB g G (xEnter S le fr).2 = wMB g G S := (by simp only [xEnter, xEnt2, if_neg c_1] <;> rfl)
    exact W.iret (v := (-1000000)) hx hb hr (fun t9 ht hW => ⟨⟨(-1000000), (), rfl, (by simp only [xEnter, xEnt2, if_neg c_1] <;> rfl), mk_end ht hE hP⟩, hS.F ht⟩) hS.2.2 dMB_enter_33
  · refine lv_iload_n hx hb dMB_enter_12 rfl (lv_at hl 2 rfl) ?_
    refine lv_iload_n hx hb dMB_enter_13 rfl (lv_at hl 1 rfl) ?_
    refine lv_sipush (v := 4000) hx hb dMB_enter_14 (by decide) ?_
    refine mk_rdS (As := [.int fr, .int le, .int 4000]) (rest := []) (w := []) ⟨hx, hb, hml, hown, hts⟩ (c_isOutside l D g fr le 4000) (va_cwS 3 hts (gd_S b_170 b_171 b_1 b_172) rfl rfl rfl (by decide +kernel) ⟨Nat.le_of_ble_eq_true rfl, Nat.le_of_ble_eq_true rfl⟩) hK hP hD hS hA [] rfl rfl rfl hl.1 rfl (Nat.le_of_ble_eq_true rfl) dMB_enter_17 ⟨Nat.zero_le _, Nat.zero_le _⟩ (fun H locs hP hS => ?_)
    refine lv_if_ne (tgt := 31) hx hb dMB_enter_20 (by decide) (fun c_2 => ?_) (fun c_2 => ?_)
    · refine lv_ldc (v := (-1000000)) hx hb hown (htB _ b_173) dMB_enter_31 ?_
      have hE : wMB g G (xEnter S le fr).2 = wMB g G S := (by simp only [xEnter, xEnt2, if_pos c_1, if_neg c_2] <;> rfl)
      exact W.iret (v := (-1000000)) hx hb hr (fun t9 ht hW => ⟨⟨(-1000000), (), rfl, (by simp only [xEnter, xEnt2, if_pos c_1, if_neg c_2] <;> rfl), mk_end ht hE hP⟩, hS.F ht⟩) hS.2.2 dMB_enter_33
    · refine lv_aload_n hx hb dMB_enter_23 rfl (lv_at hl 0 rfl) ?_
      refine va_get (D := D) (ci := iMB) (v := .int (nI (sm S))) (C := RMB) (T := TMB) (N := 5) hx hb htB inBMB hown hK hP 0 rfl rfl 3 (by decide) (htB _ b_153) (fun _ h9 => h9) rfl dMB_enter_24 ?_
      refine lv_iconst (v := 4) hx hb dMB_enter_27 (by decide) ?_
      refine lv_icmp_lt (tgt := 34) hx hb dMB_enter_28 (by decide) (fun c_3 => ?_) (fun c_3 => ?_)
      · refine lv_aload_n hx hb dMB_enter_34 rfl (lv_at hl 0 rfl) ?_
        refine va_get (D := D) (ci := iMB) (v := .int (nI (sm S))) (C := RMB) (T := TMB) (N := 5) hx hb htB inBMB hown hK hP 0 rfl rfl 3 (by decide) (htB _ b_153) (fun _ h9 => h9) rfl dMB_enter_35 ?_
        refine lv_if_le (tgt := 68) hx hb dMB_enter_38 (by decide) (fun c_4 => ?_) (fun c_4 => ?_)
        · refine lv_aload_n hx hb dMB_enter_68 rfl (lv_at hl 0 rfl) ?_
          refine va_get (D := D) (ci := iMB) (v := .ref (go G 1)) (C := RMB) (T := TMB) (N := 5) hx hb htB inBMB hown hK hP 0 rfl rfl 2 (by decide) (htB _ b_152) (fun _ h9 => h9) rfl dMB_enter_69 ?_
          refine lv_aload_n hx hb dMB_enter_72 rfl (lv_at hl 0 rfl) ?_
          refine va_get (D := D) (ci := iMB) (v := .int (nI (sm S))) (C := RMB) (T := TMB) (N := 5) hx hb htB inBMB hown hK hP 0 rfl rfl 3 (by decide) (htB _ b_153) (fun _ h9 => h9) rfl dMB_enter_73 ?_
          refine mk_aald (k := (sm S)) hx hb hK hP 8 2 rfl rfl rfl ⟨(lt4_of c_3 hm), by decide⟩ (hG _ (lt4_of c_3 hm)) dMB_enter_76 ?_
          refine lv_iload_n hx hb dMB_enter_77 rfl (lv_at hl 1 rfl) ?_
          refine lv_bipush (v := 8) hx hb dMB_enter_78 (by decide) ?_
          refine lv_imul hx hb dMB_enter_80 ?_
          refine lv_iload_n hx hb dMB_enter_81 rfl (lv_at hl 2 rfl) ?_
          refine lv_bipush (v := 8) hx hb dMB_enter_82 (by decide) ?_
          refine lv_imul hx hb dMB_enter_84 ?_
          refine mk_wrV (As := [.int (le * 8), .int (fr * 8)]) (rest := []) (w := (wTr g (ga G (sm S)) ((sT S) (sm S)))) (q0 := (RTr, TTr, 11)) (ci := iTr) (w2 := (wTr g (ga G (sm S)) (tPlace ((sT S) (sm S)) (le * 8) (fr * 8)))) ⟨hx, hb, hml, hown, hts⟩ (c_Tr_place l D g (ga G (sm S)) ((sT S) (sm S)) (le * 8) (fr * 8)) (cwV 2 hts (gd_V b_190 b_191 b_192 b_4 b_193) rfl rfl rfl (by decide +kernel) ⟨Nat.le_of_ble_eq_true rfl, Nat.le_of_ble_eq_true rfl⟩) hK hP hD hS hA (pTr (sm S)) (mb_cutTr (lt4_of c_3 hm)) (pTr_nd (lt4_of c_3 hm)) fst_Tr rfl rfl rfl hl.1 rfl (Nat.le_of_ble_eq_true rfl) dMB_enter_85 ⟨Nat.zero_le _, Nat.zero_le _⟩ (fun H locs hP hD hS => ?_)
          rw [mb_putTr (g := g) (G := G) (S := S) (i := (sm S)) (lt4_of c_3 hm)] at hP hD
          have hP : va_P D vwCl (wMB g G ((va_up (sT S) (sm S) (tPlace ((sT S) (sm S)) (le * 8) (fr * 8))), (sk S), (sy S), (sm S), (sn S))) H := hP
          have hD : va_D A (wMB g G ((va_up (sT S) (sm S) (tPlace ((sT S) (sm S)) (le * 8) (fr * 8))), (sk S), (sy S), (sm S), (sn S))) := hD
          refine lv_aload_n hx hb dMB_enter_88 rfl (lv_at hl 0 rfl) ?_
          refine lv_dup hx hb dMB_enter_89 rfl ?_
          refine va_get (D := D) (ci := iMB) (v := .int (nI (sm S))) (C := RMB) (T := TMB) (N := 5) hx hb htB inBMB hown hK hP 0 rfl rfl 3 (by decide) (htB _ b_153) (fun _ h9 => h9) rfl dMB_enter_90 ?_
          refine lv_iconst (v := 1) hx hb dMB_enter_93 (by decide) ?_
          refine lv_iadd hx hb dMB_enter_94 ?_
          refine lv_topi (fun z_5 e_5 => ?_)
          have e_5 : z_5 = nI ((sm S) + 1) := e_5.trans (nI_add (sm S) 1)
          subst e_5
          refine va_put (D := D) (ci := iMB) (v := .int (nI ((sm S) + 1))) (ty := .int) (C := RMB) (T := TMB) (N := 5) hx hb htB inBMB tyMB tyMB_ok nmMB hown hK hP hD hS 0 rfl rfl 3 (by decide) (htB _ b_153) (fun _ h9 => h9) rfl (by decide +kernel) rfl rfl (Nat.le_of_ble_eq_true rfl) dMB_enter_95 (fun H locs hP hD hS => ?_)
          have hP : va_P D vwCl (wMB g G ((va_up (sT S) (sm S) (tPlace ((sT S) (sm S)) (le * 8) (fr * 8))), (sk S), (sy S), ((sm S) + 1), (sn S))) H := hP
          have hD : va_D A (wMB g G ((va_up (sT S) (sm S) (tPlace ((sT S) (sm S)) (le * 8) (fr * 8))), (sk S), (sy S), ((sm S) + 1), (sn S))) := hD
          refine lv_aload_n hx hb dMB_enter_98 rfl (lv_at hl 0 rfl) ?_
          refine va_get (D := D) (ci := iMB) (v := .int (nI ((sm S) + 1))) (C := RMB) (T := TMB) (N := 5) hx hb htB inBMB hown hK hP 0 rfl rfl 3 (by decide) (htB _ b_153) (fun _ h9 => h9) rfl dMB_enter_99 ?_
          refine lv_iconst (v := 1) hx hb dMB_enter_102 (by decide) ?_
          refine lv_isub hx hb dMB_enter_103 ?_
          refine lv_topi (fun z_6 e_6 => ?_)
          have e_6 : z_6 = nI ((sm S)) := e_6.trans (nI_pred (sm S))
          subst e_6
          have hE : wMB g G (xEnter S le fr).2 = wMB g G ((va_up (sT S) (sm S) (tPlace ((sT S) (sm S)) (le * 8) (fr * 8))), (sk S), (sy S), ((sm S) + 1), (sn S)) := (by simp only [xEnter, xEnt2, if_pos c_1, if_pos c_2, if_pos c_3, if_pos c_4] <;> rfl)
          exact W.iret (v := nI ((sm S))) hx hb hr (fun t9 ht hW => ⟨⟨nI ((sm S)), (), rfl, (by simp only [xEnter, xEnt2, if_pos c_1, if_pos c_2, if_pos c_3, if_pos c_4] <;> rfl), mk_end ht hE hP⟩, hS.F ht⟩) hS.2.2 dMB_enter_104
        · refine lv_iload_n hx hb dMB_enter_41 rfl (lv_at hl 2 rfl) ?_
          refine lv_bipush (v := 8) hx hb dMB_enter_42 (by decide) ?_
          refine lv_imul hx hb dMB_enter_44 ?_
          refine lv_aload_n hx hb dMB_enter_45 rfl (lv_at hl 0 rfl) ?_
          refine va_get (D := D) (ci := iMB) (v := .ref (go G 1)) (C := RMB) (T := TMB) (N := 5) hx hb htB inBMB hown hK hP 0 rfl rfl 2 (by decide) (htB _ b_152) (fun _ h9 => h9) rfl dMB_enter_46 ?_
          refine lv_aload_n hx hb dMB_enter_49 rfl (lv_at hl 0 rfl) ?_
          refine va_get (D := D) (ci := iMB) (v := .int (nI (sm S))) (C := RMB) (T := TMB) (N := 5) hx hb htB inBMB hown hK hP 0 rfl rfl 3 (by decide) (htB _ b_153) (fun _ h9 => h9) rfl dMB_enter_50 ?_
          refine lv_iconst (v := 1) hx hb dMB_enter_53 (by decide) ?_
          refine lv_isub hx hb dMB_enter_54 ?_
          refine lv_topi (fun z_7 e_7 => ?_)
          have e_7 : z_7 = nI ((sm S) - 1) := e_7.trans (pk_sub (a := (sm S)) (b := 1) (pos_of c_4))
          subst e_7
          refine mk_aald (k := ((sm S) - 1)) hx hb hK hP 8 2 rfl rfl rfl ⟨(lt4_of1 c_3 hm), by decide⟩ (hG _ (lt4_of1 c_3 hm)) dMB_enter_55 ?_
          refine mk_rdV (As := []) (rest := [.int (fr * 8)]) (w := (wTr g (ga G ((sm S) - 1)) ((sT S) ((sm S) - 1)))) (q0 := (RTr, TTr, 11)) (ci := iTr) ⟨hx, hb, hml, hown, hts⟩ (c_Tr_rear l D g (ga G ((sm S) - 1)) ((sT S) ((sm S) - 1)) ) (cwV 0 hts (gd_V b_186 b_187 b_188 b_4 b_189) rfl rfl rfl (by decide +kernel) ⟨Nat.le_of_ble_eq_true rfl, Nat.le_of_ble_eq_true rfl⟩) hK hP hD hS hA (pTr ((sm S) - 1)) (mb_cutTr (lt4_of1 c_3 hm)) (pTr_nd (lt4_of1 c_3 hm)) rfl rfl rfl hl.1 rfl (Nat.le_of_ble_eq_true rfl) dMB_enter_56 ⟨Nat.zero_le _, Nat.zero_le _⟩ (fun H locs hP hS => ?_)
          refine lv_bipush (v := 64) hx hb dMB_enter_59 (by decide) ?_
          refine lv_isub hx hb dMB_enter_61 ?_
          refine lv_icmp_le (tgt := 68) hx hb dMB_enter_62 (by decide) (fun c_8 => ?_) (fun c_8 => ?_)
          · refine lv_aload_n hx hb dMB_enter_68 rfl (lv_at hl 0 rfl) ?_
            refine va_get (D := D) (ci := iMB) (v := .ref (go G 1)) (C := RMB) (T := TMB) (N := 5) hx hb htB inBMB hown hK hP 0 rfl rfl 2 (by decide) (htB _ b_152) (fun _ h9 => h9) rfl dMB_enter_69 ?_
            refine lv_aload_n hx hb dMB_enter_72 rfl (lv_at hl 0 rfl) ?_
            refine va_get (D := D) (ci := iMB) (v := .int (nI (sm S))) (C := RMB) (T := TMB) (N := 5) hx hb htB inBMB hown hK hP 0 rfl rfl 3 (by decide) (htB _ b_153) (fun _ h9 => h9) rfl dMB_enter_73 ?_
            refine mk_aald (k := (sm S)) hx hb hK hP 8 2 rfl rfl rfl ⟨(lt4_of c_3 hm), by decide⟩ (hG _ (lt4_of c_3 hm)) dMB_enter_76 ?_
            refine lv_iload_n hx hb dMB_enter_77 rfl (lv_at hl 1 rfl) ?_
            refine lv_bipush (v := 8) hx hb dMB_enter_78 (by decide) ?_
            refine lv_imul hx hb dMB_enter_80 ?_
            refine lv_iload_n hx hb dMB_enter_81 rfl (lv_at hl 2 rfl) ?_
            refine lv_bipush (v := 8) hx hb dMB_enter_82 (by decide) ?_
            refine lv_imul hx hb dMB_enter_84 ?_
            refine mk_wrV (As := [.int (le * 8), .int (fr * 8)]) (rest := []) (w := (wTr g (ga G (sm S)) ((sT S) (sm S)))) (q0 := (RTr, TTr, 11)) (ci := iTr) (w2 := (wTr g (ga G (sm S)) (tPlace ((sT S) (sm S)) (le * 8) (fr * 8)))) ⟨hx, hb, hml, hown, hts⟩ (c_Tr_place l D g (ga G (sm S)) ((sT S) (sm S)) (le * 8) (fr * 8)) (cwV 2 hts (gd_V b_190 b_191 b_192 b_4 b_193) rfl rfl rfl (by decide +kernel) ⟨Nat.le_of_ble_eq_true rfl, Nat.le_of_ble_eq_true rfl⟩) hK hP hD hS hA (pTr (sm S)) (mb_cutTr (lt4_of c_3 hm)) (pTr_nd (lt4_of c_3 hm)) fst_Tr rfl rfl rfl hl.1 rfl (Nat.le_of_ble_eq_true rfl) dMB_enter_85 ⟨Nat.zero_le _, Nat.zero_le _⟩ (fun H locs hP hD hS => ?_)
            rw [mb_putTr (g := g) (G := G) (S := S) (i := (sm S)) (lt4_of c_3 hm)] at hP hD
            have hP : va_P D vwCl (wMB g G ((va_up (sT S) (sm S) (tPlace ((sT S) (sm S)) (le * 8) (fr * 8))), (sk S), (sy S), (sm S), (sn S))) H := hP
            have hD : va_D A (wMB g G ((va_up (sT S) (sm S) (tPlace ((sT S) (sm S)) (le * 8) (fr * 8))), (sk S), (sy S), (sm S), (sn S))) := hD
            refine lv_aload_n hx hb dMB_enter_88 rfl (lv_at hl 0 rfl) ?_
            refine lv_dup hx hb dMB_enter_89 rfl ?_
            refine va_get (D := D) (ci := iMB) (v := .int (nI (sm S))) (C := RMB) (T := TMB) (N := 5) hx hb htB inBMB hown hK hP 0 rfl rfl 3 (by decide) (htB _ b_153) (fun _ h9 => h9) rfl dMB_enter_90 ?_
            refine lv_iconst (v := 1) hx hb dMB_enter_93 (by decide) ?_
            refine lv_iadd hx hb dMB_enter_94 ?_
            refine lv_topi (fun z_9 e_9 => ?_)
            have e_9 : z_9 = nI ((sm S) + 1) := e_9.trans (nI_add (sm S) 1)
            subst e_9
            refine va_put (D := D) (ci := iMB) (v := .int (nI ((sm S) + 1))) (ty := .int) (C := RMB) (T := TMB) (N := 5) hx hb htB inBMB tyMB tyMB_ok nmMB hown hK hP hD hS 0 rfl rfl 3 (by decide) (htB _ b_153) (fun _ h9 => h9) rfl (by decide +kernel) rfl rfl (Nat.le_of_ble_eq_true rfl) dMB_enter_95 (fun H locs hP hD hS => ?_)
            have hP : va_P D vwCl (wMB g G ((va_up (sT S) (sm S) (tPlace ((sT S) (sm S)) (le * 8) (fr * 8))), (sk S), (sy S), ((sm S) + 1), (sn S))) H := hP
            have hD : va_D A (wMB g G ((va_up (sT S) (sm S) (tPlace ((sT S) (sm S)) (le * 8) (fr * 8))), (sk S), (sy S), ((sm S) + 1), (sn S))) := hD
            refine lv_aload_n hx hb dMB_enter_98 rfl (lv_at hl 0 rfl) ?_
            refine va_get (D := D) (ci := iMB) (v := .int (nI ((sm S) + 1))) (C := RMB) (T := TMB) (N := 5) hx hb htB inBMB hown hK hP 0 rfl rfl 3 (by decide) (htB _ b_153) (fun _ h9 => h9) rfl dMB_enter_99 ?_
            refine lv_iconst (v := 1) hx hb dMB_enter_102 (by decide) ?_
            refine lv_isub hx hb dMB_enter_103 ?_
            refine lv_topi (fun z_10 e_10 => ?_)
            have e_10 : z_10 = nI ((sm S)) := e_10.trans (nI_pred (sm S))
            subst e_10
            have hE : wMB g G (xEnter S le fr).2 = wMB g G ((va_up (sT S) (sm S) (tPlace ((sT S) (sm S)) (le * 8) (fr * 8))), (sk S), (sy S), ((sm S) + 1), (sn S)) := (by simp only [xEnter, xEnt2, if_pos c_1, if_pos c_2, if_pos c_3, if_neg c_4, if_pos c_8] <;> rfl)
            exact W.iret (v := nI ((sm S))) hx hb hr (fun t9 ht hW => ⟨⟨nI ((sm S)), (), rfl, (by simp only [xEnter, xEnt2, if_pos c_1, if_pos c_2, if_pos c_3, if_neg c_4, if_pos c_8] <;> rfl), mk_end ht hE hP⟩, hS.F ht⟩) hS.2.2 dMB_enter_104
          · refine lv_ldc (v := (-1000000)) hx hb hown (htB _ b_173) dMB_enter_65 ?_
            have hE : wMB g G (xEnter S le fr).2 = wMB g G S := (by simp only [xEnter, xEnt2, if_pos c_1, if_pos c_2, if_pos c_3, if_neg c_4, if_neg c_8] <;> rfl)
            exact W.iret (v := (-1000000)) hx hb hr (fun t9 ht hW => ⟨⟨(-1000000), (), rfl, (by simp only [xEnter, xEnt2, if_pos c_1, if_pos c_2, if_pos c_3, if_neg c_4, if_neg c_8] <;> rfl), mk_end ht hE hP⟩, hS.F ht⟩) hS.2.2 dMB_enter_67
      · refine lv_ldc (v := (-1000000)) hx hb hown (htB _ b_173) dMB_enter_31 ?_
        have hE : wMB g G (xEnter S le fr).2 = wMB g G S := (by simp only [xEnter, xEnt2, if_pos c_1, if_pos c_2, if_neg c_3] <;> rfl)
        exact W.iret (v := (-1000000)) hx hb hr (fun t9 ht hW => ⟨⟨(-1000000), (), rfl, (by simp only [xEnter, xEnt2, if_pos c_1, if_pos c_2, if_neg c_3] <;> rfl), mk_end ht hE hP⟩, hS.F ht⟩) hS.2.2 dMB_enter_33
set_option maxHeartbeats 4000000 in
set_option maxRecDepth 100000 in
/-- sendAuthority -/
theorem c_auth (l : Launch) (D : va_G) (g : Nat → ClassId) (G : zAd) (S : zMB) (hG : gOK G) (hm : sm S ≤ 4) (i : Nat) (hi : i < 4) (hn : sn S < 1000000) : mk_Wv l yMB_sendAuthority wsMB_sendAuthority ({ frames := 2, cells := 0, slots := 0, locals := 46 }) D vwCl (zty g) [.ref (go G 0), .int (nI i)] (wMB g G S) (wMB g G (sAuth S i)) := by
  intro sz
  refine Met.ofW (cc := cMB_sendAuthority) (maxL := 4) (ret := none) (by decide) rfl ?_
  intro p e s m args below meth cd s₁ B hml hv
  obtain ⟨rfl, hsz, hP, hK, hD0⟩ := hv
  have hx := B.exec
  have hb := B.bytes
  have hr := B.returns
  have hts := atoms_spec (ws := wsMB_sendAuthority) B.pre
  have htB := fun (w : Cond) (h : w ∈ BIG) => hts w (List.mem_cons_of_mem _ h)
  have hown : s.vm.findClass RMB = some m.cls := findClass_of_methodNamed B.named
  have hlocks := B.notSynchronized
  subst hsz
  have hD := hD0.self (sz := s.heap.size)
  generalize hAe : va_A (wMB g G S) s.heap.size = A at hD ⊢
  have hA : ∀ q : Nat, s.heap.size ≤ q → A q := fun q h => by rw [← hAe]; exact Or.inr h
  have hS : va_S A s.heap s.heap [] := va_S.rf
  have hl := lv_entry ([.ref (go G 0), .int (nI i)]) (n := 4) (Nat.le_of_ble_eq_true rfl)
  rw [lg_entry_eq]
  generalize (lg_sl ([.ref (go G 0), .int (nI i)]) ++ List.replicate (4 - (lg_sl ([.ref (go G 0), .int (nI i)])).length) Slot.unset).toArray = ls at hl ⊢
  have hl : lv_has ls 4 [(0, .ref (go G 0)), (1, .int (nI i))] := hl
  have hP : va_P D vwCl (wMB g G S) s.heap := hP
  refine lv_aload_n hx hb dMB_sendAuthority_0 rfl (lv_at hl 0 rfl) ?_
  refine va_get (D := D) (ci := iMB) (v := .ref (go G 1)) (C := RMB) (T := TMB) (N := 5) hx hb htB inBMB hown hK hP 0 rfl rfl 2 (by decide) (htB _ b_152) (fun _ h9 => h9) rfl dMB_sendAuthority_1 ?_
  refine lv_iload_n hx hb dMB_sendAuthority_4 rfl (lv_at hl 1 rfl) ?_
  refine mk_aald (k := i) hx hb hK hP 8 2 rfl rfl rfl ⟨hi, by decide⟩ (hG _ hi) dMB_sendAuthority_5 ?_
  refine va_get (D := D) (ci := iTr) (v := .ref (ga G i 1 0)) (C := RTr) (T := TTr) (N := 11) hx hb htB inBTr hown hK hP (9 + 11 * i) (mb_atTr hi) rfl 0 (by decide) (htB _ b_107) (fun _ h9 => h9) rfl dMB_sendAuthority_6 ?_
  refine lv_astore_n (lv' := [(2, .ref (ga G i 1 0)), (0, .ref (go G 0)), (1, .int (nI i))]) hx hb dMB_sendAuthority_9 rfl hl (by decide) rfl (fun ls hl => ?_)
  refine lv_aload_n hx hb dMB_sendAuthority_10 rfl (lv_at hl 0 rfl) ?_
  refine mk_rdV (As := []) (rest := []) (w := (wCh g (ga G i 1) (trp ((sT S) i)))) (q0 := (RCh, TCh, 10)) (ci := iCh) ⟨hx, hb, hml, hown, hts⟩ (c_Ch_wasTaken l D g (ga G i 1) (trp ((sT S) i)) ) (cwV 0 hts (gd_V b_249 b_250 b_251 b_5 b_252) rfl rfl rfl (by decide +kernel) ⟨Nat.le_of_ble_eq_true rfl, Nat.le_of_ble_eq_true rfl⟩) hK hP hD hS hA (pRp i) (mb_cutRp hi) (pRp_nd hi) rfl rfl rfl hl.1 rfl (Nat.le_of_ble_eq_true rfl) dMB_sendAuthority_11 ⟨Nat.zero_le _, Nat.zero_le _⟩ (fun H locs hP hS => ?_)
  refine lv_if_eq (tgt := 31) hx hb dMB_sendAuthority_14 (by decide) (fun c_1 => ?_) (fun c_1 => ?_)
  · have hE : wMB g G (sAuth S i) = wMB g G S := (by simp only [sAuth, sSetT, if_pos c_1] <;> rfl)
    exact W.vret hx hb hr (fun t9 ht hW => ⟨⟨(), rfl, trivial, mk_end ht hE hP⟩, hS.F ht⟩) hS.2.2 dMB_sendAuthority_31
  · refine lv_aload_n hx hb dMB_sendAuthority_17 rfl (lv_at hl 1 rfl) ?_
    refine va_get (D := D) (ci := iMB) (v := .ref (gd G 0)) (C := RMB) (T := TMB) (N := 5) hx hb htB inBMB hown hK hP 0 rfl rfl 1 (by decide) (htB _ b_151) (fun _ h9 => h9) rfl dMB_sendAuthority_18 ?_
    refine lv_aload_n hx hb dMB_sendAuthority_21 rfl (lv_at hl 0 rfl) ?_
    refine va_get (D := D) (ci := iCh) (v := .int (cf1 (trp ((sT S) i)))) (C := RCh) (T := TCh) (N := 10) hx hb htB inBCh hown hK hP (9 + 11 * i + 1) (mb_atRp hi) rfl 6 (by decide) (htB _ b_78) (fun _ h9 => h9) rfl dMB_sendAuthority_22 ?_
    refine mk_rdV (As := [.int (cf1 (trp ((sT S) i)))]) (rest := []) (w := (wWy g (gd G) (sy S))) (q0 := (RWy, TWy, 3)) (ci := iWy) ⟨hx, hb, hml, hown, hts⟩ (c_Wy_isUpAt l D g (gd G) (sy S) (cf1 (trp ((sT S) i)))) (cwV 1 hts (gd_V b_253 b_254 b_255 b_3 b_256) rfl rfl rfl (by decide +kernel) ⟨Nat.le_of_ble_eq_true rfl, Nat.le_of_ble_eq_true rfl⟩) hK hP hD hS hA [4, 5, 6, 7] rfl (by decide) rfl rfl rfl hl.1 rfl (Nat.le_of_ble_eq_true rfl) dMB_sendAuthority_25 ⟨Nat.zero_le _, Nat.zero_le _⟩ (fun H locs hP hS => ?_)
    refine lv_if_ne (tgt := 32) hx hb dMB_sendAuthority_28 (by decide) (fun c_2 => ?_) (fun c_2 => ?_)
    · refine lv_aload_n hx hb dMB_sendAuthority_32 rfl (lv_at hl 1 rfl) ?_
      refine va_get (D := D) (ci := iMB) (v := .ref (gd G 0)) (C := RMB) (T := TMB) (N := 5) hx hb htB inBMB hown hK hP 0 rfl rfl 1 (by decide) (htB _ b_151) (fun _ h9 => h9) rfl dMB_sendAuthority_33 ?_
      refine lv_aload_n hx hb dMB_sendAuthority_36 rfl (lv_at hl 0 rfl) ?_
      refine va_get (D := D) (ci := iCh) (v := .int (cf1 (trp ((sT S) i)))) (C := RCh) (T := TCh) (N := 10) hx hb htB inBCh hown hK hP (9 + 11 * i + 1) (mb_atRp hi) rfl 6 (by decide) (htB _ b_78) (fun _ h9 => h9) rfl dMB_sendAuthority_37 ?_
      refine mk_rdV (As := [.int (cf1 (trp ((sT S) i)))]) (rest := []) (w := (wWy g (gd G) (sy S))) (q0 := (RWy, TWy, 3)) (ci := iWy) ⟨hx, hb, hml, hown, hts⟩ (c_Wy_endFor l D g (gd G) (sy S) (cf1 (trp ((sT S) i)))) (cwV 1 hts (gd_V b_257 b_258 b_259 b_3 b_260) rfl rfl rfl (by decide +kernel) ⟨Nat.le_of_ble_eq_true rfl, Nat.le_of_ble_eq_true rfl⟩) hK hP hD hS hA [4, 5, 6, 7] rfl (by decide) rfl rfl rfl hl.1 rfl (Nat.le_of_ble_eq_true rfl) dMB_sendAuthority_40 ⟨Nat.zero_le _, Nat.zero_le _⟩ (fun H locs hP hS => ?_)
      refine lv_aload_n hx hb dMB_sendAuthority_43 rfl (lv_at hl 1 rfl) ?_
      refine lv_iload_n hx hb dMB_sendAuthority_44 rfl (lv_at hl 2 rfl) ?_
      refine mk_rdV (As := [.int (nI i)]) (rest := [.int (endFor (sy S) (cf1 (trp ((sT S) i))))]) (w := (wMB g G S)) (q0 := (RMB, TMB, 5)) (ci := iMB) ⟨hx, hb, hml, hown, hts⟩ (c_behind l D g G S hG hm i (by omega)) (cwV 1 hts (gd_V b_264 b_266 bp_3 b_1 b_267) rfl rfl rfl (by decide +kernel) ⟨Nat.le_of_ble_eq_true rfl, Nat.le_of_ble_eq_true rfl⟩) hK hP hD hS hA (List.range 53) mb_cutAll mb_ndAll rfl rfl rfl hl.1 rfl (Nat.le_of_ble_eq_true rfl) dMB_sendAuthority_45 ⟨Nat.zero_le _, Nat.zero_le _⟩ (fun H locs hP hS => ?_)
      refine va_mmin hx hb (by rw [hml]; exact hl.1.symm) hown (htB _ b_269) (htB _ b_262) (htB _ b_7) (htB _ b_263) (Nat.le_of_ble_eq_true rfl) (Nat.le_of_ble_eq_true rfl) (Nat.zero_le _) (Nat.zero_le _) dMB_sendAuthority_48 ?_
      refine lv_istore_n (lv' := [(3, .int (mn (endFor (sy S) (cf1 (trp ((sT S) i)))) (sBehind S i))), (2, .ref (ga G i 1 0)), (0, .ref (go G 0)), (1, .int (nI i))]) hx hb dMB_sendAuthority_51 rfl hl (by decide) rfl (fun ls hl => ?_)
      refine lv_aload_n hx hb dMB_sendAuthority_52 rfl (lv_at hl 2 rfl) ?_
      refine va_get (D := D) (ci := iMB) (v := .ref (go G 1)) (C := RMB) (T := TMB) (N := 5) hx hb htB inBMB hown hK hP 0 rfl rfl 2 (by decide) (htB _ b_152) (fun _ h9 => h9) rfl dMB_sendAuthority_53 ?_
      refine lv_iload_n hx hb dMB_sendAuthority_56 rfl (lv_at hl 3 rfl) ?_
      refine mk_aald (k := i) hx hb hK hP 8 2 rfl rfl rfl ⟨hi, by decide⟩ (hG _ hi) dMB_sendAuthority_57 ?_
      refine va_get (D := D) (ci := iTr) (v := .ref (ga G i 2 0)) (C := RTr) (T := TTr) (N := 11) hx hb htB inBTr hown hK hP (9 + 11 * i) (mb_atTr hi) rfl 1 (by decide) (htB _ b_109) (fun _ h9 => h9) rfl dMB_sendAuthority_58 ?_
      refine lv_aload_n hx hb dMB_sendAuthority_61 rfl (lv_at hl 2 rfl) ?_
      refine va_get (D := D) (ci := iMB) (v := .int (nI (sn S))) (C := RMB) (T := TMB) (N := 5) hx hb htB inBMB hown hK hP 0 rfl rfl 4 (by decide) (htB _ b_154) (fun _ h9 => h9) rfl dMB_sendAuthority_62 ?_
      refine lv_iload_n hx hb dMB_sendAuthority_65 rfl (lv_at hl 0 rfl) ?_
      refine lv_iconst (v := 0) hx hb dMB_sendAuthority_66 (by decide) ?_
      refine mk_wrV (As := [.int (nI (sn S)), .int (mn (endFor (sy S) (cf1 (trp ((sT S) i)))) (sBehind S i)), .int 0]) (rest := []) (w := (wCh g (ga G i 2) (tau ((sT S) i)))) (q0 := (RCh, TCh, 10)) (ci := iCh) (w2 := (wCh g (ga G i 2) (cSend (tau ((sT S) i)) (sn S) (mn (endFor (sy S) (cf1 (trp ((sT S) i)))) (sBehind S i)) 0))) ⟨hx, hb, hml, hown, hts⟩ (c_Ch_send l D g (ga G i 2) (tau ((sT S) i)) (sn S) (mn (endFor (sy S) (cf1 (trp ((sT S) i)))) (sBehind S i)) 0 hn) (cwV 3 hts (gd_V b_270 b_231 b_232 b_5 b_233) rfl rfl rfl (by decide +kernel) ⟨Nat.le_of_ble_eq_true rfl, Nat.le_of_ble_eq_true rfl⟩) hK hP hD hS hA (pAu i) (mb_cutAu hi) (pAu_nd hi) fst_Ch rfl rfl rfl hl.1 rfl (Nat.le_of_ble_eq_true rfl) dMB_sendAuthority_67 ⟨Nat.zero_le _, Nat.zero_le _⟩ (fun H locs hP hD hS => ?_)
      rw [mb_putAu (g := g) (G := G) (S := S) (i := i) hi] at hP hD
      have hP : va_P D vwCl (wMB g G ((va_up (sT S) i (tSetA ((sT S) i) (cSend (tau ((sT S) i)) (sn S) (mn (endFor (sy S) (cf1 (trp ((sT S) i)))) (sBehind S i)) 0))), (sk S), (sy S), (sm S), (sn S))) H := hP
      have hD : va_D A (wMB g G ((va_up (sT S) i (tSetA ((sT S) i) (cSend (tau ((sT S) i)) (sn S) (mn (endFor (sy S) (cf1 (trp ((sT S) i)))) (sBehind S i)) 0))), (sk S), (sy S), (sm S), (sn S))) := hD
      have hE : wMB g G (sAuth S i) = wMB g G ((va_up (sT S) i (tSetA ((sT S) i) (cSend (tau ((sT S) i)) (sn S) (mn (endFor (sy S) (cf1 (trp ((sT S) i)))) (sBehind S i)) 0))), (sk S), (sy S), (sm S), (sn S)) := (by simp only [sAuth, sSetT, if_neg c_1, if_neg c_2] <;> rfl)
      exact W.vret hx hb hr (fun t9 ht hW => ⟨⟨(), rfl, trivial, mk_end ht hE hP⟩, hS.F ht⟩) hS.2.2 dMB_sendAuthority_70
    · have hE : wMB g G (sAuth S i) = wMB g G S := (by simp only [sAuth, sSetT, if_neg c_1, if_pos c_2] <;> rfl)
      exact W.vret hx hb hr (fun t9 ht hW => ⟨⟨(), rfl, trivial, mk_end ht hE hP⟩, hS.F ht⟩) hS.2.2 dMB_sendAuthority_31
set_option maxHeartbeats 4000000 in
set_option maxRecDepth 100000 in
theorem lp_sec_sF1 {p : Program} {l : Launch} {e : Env} {s : State} {m : MethodId} {args : Array Value} {below : List Frame} {meth : Method} {cd : Code} {Q : State → Prop} {D : va_G} {g : Nat → ClassId} {A : Nat → Prop} {G : zAd} (hG : gOK G) (hx : p.tables.exec = Jvm.exec) (hb : cd.code = cMB_passOneSecond) (hml : cd.maxLocals = 2) (hown : s.vm.findClass RMB = some m.cls) (hts : ∀ w ∈ wsMB_passOneSecond, w.before args s = true) (hK : va_K D vwCl (zty g) s) (hA : ∀ q : Nat, s.heap.size ≤ q → A q) : ∀ (j i : Nat) (S : zMB) (H : Heap) (locs : List Loc) (ls : Array Slot), i + j = sm S → sm S ≤ 4 → sn S < 1000000 → va_P D vwCl (wMB g G S) H → va_D A (wMB g G S) → va_S A s.heap H locs → lv_has ls 2 [(1, .int (nI i)), (0, .ref (go G 0))] → (∀ (H : Heap) (locs : List Loc) (ls : Array Slot), va_P D vwCl (wMB g G (sL sF1 j i S)) H → va_D A (wMB g G (sL sF1 j i S)) → va_S A s.heap H locs → lv_has ls 2 [(0, .ref (go G 0))] → W p l e ({ frames := 5, cells := 0, slots := 0, locals := 120 }) s m args below meth cd H locs 0 0 Q (F0 m 39 ls [])) → W p l e ({ frames := 5, cells := 0, slots := 0, locals := 120 }) s m args below meth cd H locs 0 0 Q (F0 m 12 ls []) := by
  have htB : ∀ w ∈ BIG, w.before args s = true := fun w h => hts w (List.mem_cons_of_mem _ h)
  intro j
  induction j with
  | zero =>
    intro i S H locs ls hi hm hn hP hD hS hl kk
    refine lv_iload_n hx hb dMB_passOneSecond_12 rfl (lv_at hl 0 rfl) ?_
    refine lv_aload_n hx hb dMB_passOneSecond_13 rfl (lv_at hl 1 rfl) ?_
    refine va_get (D := D) (ci := iMB) (v := .int (nI (sm S))) (C := RMB) (T := TMB) (N := 5) hx hb htB inBMB hown hK hP 0 rfl rfl 3 (by decide) (htB _ b_153) (fun _ h9 => h9) rfl dMB_passOneSecond_14 ?_
    refine lv_icmp_ge (tgt := 39) hx hb dMB_passOneSecond_17 (by decide) (fun _ => ?_) (fun c_1 => absurd (nI_le (a := sm S) (b := i) (by omega) (by omega)) c_1)
    exact kk H locs ls hP hD hS (lv_sub hl [1] rfl)
  | succ j ih =>
    intro i S H locs ls hi hm hn hP hD hS hl kk
    refine lv_iload_n hx hb dMB_passOneSecond_12 rfl (lv_at hl 0 rfl) ?_
    refine lv_aload_n hx hb dMB_passOneSecond_13 rfl (lv_at hl 1 rfl) ?_
    refine va_get (D := D) (ci := iMB) (v := .int (nI (sm S))) (C := RMB) (T := TMB) (N := 5) hx hb htB inBMB hown hK hP 0 rfl rfl 3 (by decide) (htB _ b_153) (fun _ h9 => h9) rfl dMB_passOneSecond_14 ?_
    refine lv_icmp_ge (tgt := 39) hx hb dMB_passOneSecond_17 (by decide) (fun c_1 => absurd c_1 (nI_ge (a := i) (b := sm S) (by omega) (by omega))) (fun _ => ?_)
    refine lv_aload_n hx hb dMB_passOneSecond_20 rfl (lv_at hl 1 rfl) ?_
    refine va_get (D := D) (ci := iMB) (v := .ref (go G 1)) (C := RMB) (T := TMB) (N := 5) hx hb htB inBMB hown hK hP 0 rfl rfl 2 (by decide) (htB _ b_152) (fun _ h9 => h9) rfl dMB_passOneSecond_21 ?_
    refine lv_iload_n hx hb dMB_passOneSecond_24 rfl (lv_at hl 0 rfl) ?_
    refine mk_aald (k := i) hx hb hK hP 8 2 rfl rfl rfl ⟨(by omega), by decide⟩ (hG _ (by omega)) dMB_passOneSecond_25 ?_
    refine lv_aload_n hx hb dMB_passOneSecond_26 rfl (lv_at hl 1 rfl) ?_
    refine va_get (D := D) (ci := iMB) (v := .int (nI (sn S))) (C := RMB) (T := TMB) (N := 5) hx hb htB inBMB hown hK hP 0 rfl rfl 4 (by decide) (htB _ b_154) (fun _ h9 => h9) rfl dMB_passOneSecond_27 ?_
    refine mk_wrV (As := [.int (nI (sn S))]) (rest := []) (w := (wTr g (ga G i) ((sT S) i))) (q0 := (RTr, TTr, 11)) (ci := iTr) (w2 := (wTr g (ga G i) (tSendR ((sT S) i) (sn S)))) ⟨hx, hb, hml, hown, hts⟩ (c_Tr_sendReport l D g (ga G i) ((sT S) i) (sn S) hn) (cwV 1 hts (gd_V b_218 b_219 b_220 b_4 b_221) rfl rfl rfl (by decide +kernel) ⟨Nat.le_of_ble_eq_true rfl, Nat.le_of_ble_eq_true rfl⟩) hK hP hD hS hA (pTr i) (mb_cutTr (by omega)) (pTr_nd (by omega)) fst_Tr rfl rfl rfl hl.1 rfl (Nat.le_of_ble_eq_true rfl) dMB_passOneSecond_30 ⟨Nat.zero_le _, Nat.zero_le _⟩ (fun H locs hP hD hS => ?_)
    rw [mb_putTr (g := g) (G := G) (S := S) (i := i) (by omega)] at hP hD
    have hP : va_P D vwCl (wMB g G ((va_up (sT S) i (tSendR ((sT S) i) (sn S))), (sk S), (sy S), (sm S), (sn S))) H := hP
    have hD : va_D A (wMB g G ((va_up (sT S) i (tSendR ((sT S) i) (sn S))), (sk S), (sy S), (sm S), (sn S))) := hD
    refine lv_iinc (v := nI (i + 1)) (lv' := [(1, .int (nI (i + 1))), (0, .ref (go G 0))]) hx hb dMB_passOneSecond_33 hl (k := 0) rfl (nI_1 _) (by decide) rfl (fun ls hl => ?_)
    refine lv_goto (tgt := 12) hx hb dMB_passOneSecond_36 (by decide) ?_
    have hE : sL sF1 (j + 1) i S = sL sF1 j (i + 1) ((va_up (sT S) i (tSendR ((sT S) i) (sn S))), (sk S), (sy S), (sm S), (sn S)) := (by first | rfl | (simp only [sL, sF1, sSetT] <;> rfl))
    rw [hE] at kk
    exact ih (i + 1) ((va_up (sT S) i (tSendR ((sT S) i) (sn S))), (sk S), (sy S), (sm S), (sn S)) H locs ls (by show i + 1 + j = sm S; omega) (by exact hm) (by exact hn) hP hD hS (lv_sub hl [0, 1] rfl) kk
set_option maxHeartbeats 4000000 in
set_option maxRecDepth 100000 in
theorem lp_sec_sF2 {p : Program} {l : Launch} {e : Env} {s : State} {m : MethodId} {args : Array Value} {below : List Frame} {meth : Method} {cd : Code} {Q : State → Prop} {D : va_G} {g : Nat → ClassId} {A : Nat → Prop} {G : zAd} (hG : gOK G) (hx : p.tables.exec = Jvm.exec) (hb : cd.code = cMB_passOneSecond) (hml : cd.maxLocals = 2) (hown : s.vm.findClass RMB = some m.cls) (hts : ∀ w ∈ wsMB_passOneSecond, w.before args s = true) (hK : va_K D vwCl (zty g) s) (hA : ∀ q : Nat, s.heap.size ≤ q → A q) : ∀ (j i : Nat) (S : zMB) (H : Heap) (locs : List Loc) (ls : Array Slot), i + j = sm S → sm S ≤ 4 → sn S < 1000000 → va_P D vwCl (wMB g G S) H → va_D A (wMB g G S) → va_S A s.heap H locs → lv_has ls 2 [(1, .int (nI i)), (0, .ref (go G 0))] → (∀ (H : Heap) (locs : List Loc) (ls : Array Slot), va_P D vwCl (wMB g G (sL sF2 j i S)) H → va_D A (wMB g G (sL sF2 j i S)) → va_S A s.heap H locs → lv_has ls 2 [(0, .ref (go G 0))] → W p l e ({ frames := 5, cells := 0, slots := 0, locals := 120 }) s m args below meth cd H locs 0 0 Q (F0 m 71 ls [])) → W p l e ({ frames := 5, cells := 0, slots := 0, locals := 120 }) s m args below meth cd H locs 0 0 Q (F0 m 41 ls []) := by
  have htB : ∀ w ∈ BIG, w.before args s = true := fun w h => hts w (List.mem_cons_of_mem _ h)
  intro j
  induction j with
  | zero =>
    intro i S H locs ls hi hm hn hP hD hS hl kk
    refine lv_iload_n hx hb dMB_passOneSecond_41 rfl (lv_at hl 0 rfl) ?_
    refine lv_aload_n hx hb dMB_passOneSecond_42 rfl (lv_at hl 1 rfl) ?_
    refine va_get (D := D) (ci := iMB) (v := .int (nI (sm S))) (C := RMB) (T := TMB) (N := 5) hx hb htB inBMB hown hK hP 0 rfl rfl 3 (by decide) (htB _ b_153) (fun _ h9 => h9) rfl dMB_passOneSecond_43 ?_
    refine lv_icmp_ge (tgt := 71) hx hb dMB_passOneSecond_46 (by decide) (fun _ => ?_) (fun c_1 => absurd (nI_le (a := sm S) (b := i) (by omega) (by omega)) c_1)
    exact kk H locs ls hP hD hS (lv_sub hl [1] rfl)
  | succ j ih =>
    intro i S H locs ls hi hm hn hP hD hS hl kk
    refine lv_iload_n hx hb dMB_passOneSecond_41 rfl (lv_at hl 0 rfl) ?_
    refine lv_aload_n hx hb dMB_passOneSecond_42 rfl (lv_at hl 1 rfl) ?_
    refine va_get (D := D) (ci := iMB) (v := .int (nI (sm S))) (C := RMB) (T := TMB) (N := 5) hx hb htB inBMB hown hK hP 0 rfl rfl 3 (by decide) (htB _ b_153) (fun _ h9 => h9) rfl dMB_passOneSecond_43 ?_
    refine lv_icmp_ge (tgt := 71) hx hb dMB_passOneSecond_46 (by decide) (fun c_1 => absurd c_1 (nI_ge (a := i) (b := sm S) (by omega) (by omega))) (fun _ => ?_)
    refine lv_aload_n hx hb dMB_passOneSecond_49 rfl (lv_at hl 1 rfl) ?_
    refine va_get (D := D) (ci := iMB) (v := .ref (go G 1)) (C := RMB) (T := TMB) (N := 5) hx hb htB inBMB hown hK hP 0 rfl rfl 2 (by decide) (htB _ b_152) (fun _ h9 => h9) rfl dMB_passOneSecond_50 ?_
    refine lv_iload_n hx hb dMB_passOneSecond_53 rfl (lv_at hl 0 rfl) ?_
    refine mk_aald (k := i) hx hb hK hP 8 2 rfl rfl rfl ⟨(by omega), by decide⟩ (hG _ (by omega)) dMB_passOneSecond_54 ?_
    refine va_get (D := D) (ci := iTr) (v := .ref (ga G i 1 0)) (C := RTr) (T := TTr) (N := 11) hx hb htB inBTr hown hK hP (9 + 11 * i) (mb_atTr (by omega)) rfl 0 (by decide) (htB _ b_107) (fun _ h9 => h9) rfl dMB_passOneSecond_55 ?_
    refine lv_aload_n hx hb dMB_passOneSecond_58 rfl (lv_at hl 1 rfl) ?_
    refine va_get (D := D) (ci := iMB) (v := .int (nI (sn S))) (C := RMB) (T := TMB) (N := 5) hx hb htB inBMB hown hK hP 0 rfl rfl 4 (by decide) (htB _ b_154) (fun _ h9 => h9) rfl dMB_passOneSecond_59 ?_
    refine mk_wrV (As := [.int (nI (sn S))]) (rest := []) (w := (wCh g (ga G i 1) (trp ((sT S) i)))) (q0 := (RCh, TCh, 10)) (ci := iCh) (w2 := (wCh g (ga G i 1) (cRec (trp ((sT S) i)) (sn S)))) ⟨hx, hb, hml, hown, hts⟩ (c_Ch_receive l D g (ga G i 1) (trp ((sT S) i)) (sn S) hn) (cwV 1 hts (gd_V b_237 b_238 b_239 b_5 b_240) rfl rfl rfl (by decide +kernel) ⟨Nat.le_of_ble_eq_true rfl, Nat.le_of_ble_eq_true rfl⟩) hK hP hD hS hA (pRp i) (mb_cutRp (by omega)) (pRp_nd (by omega)) fst_Ch rfl rfl rfl hl.1 rfl (Nat.le_of_ble_eq_true rfl) dMB_passOneSecond_62 ⟨Nat.zero_le _, Nat.zero_le _⟩ (fun H locs hP hD hS => ?_)
    rw [mb_putRp (g := g) (G := G) (S := S) (i := i) (by omega)] at hP hD
    have hP : va_P D vwCl (wMB g G ((va_up (sT S) i (tSetR ((sT S) i) (cRec (trp ((sT S) i)) (sn S)))), (sk S), (sy S), (sm S), (sn S))) H := hP
    have hD : va_D A (wMB g G ((va_up (sT S) i (tSetR ((sT S) i) (cRec (trp ((sT S) i)) (sn S)))), (sk S), (sy S), (sm S), (sn S))) := hD
    refine lv_iinc (v := nI (i + 1)) (lv' := [(1, .int (nI (i + 1))), (0, .ref (go G 0))]) hx hb dMB_passOneSecond_65 hl (k := 0) rfl (nI_1 _) (by decide) rfl (fun ls hl => ?_)
    refine lv_goto (tgt := 41) hx hb dMB_passOneSecond_68 (by decide) ?_
    have hE : sL sF2 (j + 1) i S = sL sF2 j (i + 1) ((va_up (sT S) i (tSetR ((sT S) i) (cRec (trp ((sT S) i)) (sn S)))), (sk S), (sy S), (sm S), (sn S)) := (by first | rfl | (simp only [sL, sF2, sSetT] <;> rfl))
    rw [hE] at kk
    exact ih (i + 1) ((va_up (sT S) i (tSetR ((sT S) i) (cRec (trp ((sT S) i)) (sn S)))), (sk S), (sy S), (sm S), (sn S)) H locs ls (by show i + 1 + j = sm S; omega) (by exact hm) (by exact hn) hP hD hS (lv_sub hl [0, 1] rfl) kk
set_option maxHeartbeats 4000000 in
set_option maxRecDepth 100000 in
theorem lp_sec_sAuth {p : Program} {l : Launch} {e : Env} {s : State} {m : MethodId} {args : Array Value} {below : List Frame} {meth : Method} {cd : Code} {Q : State → Prop} {D : va_G} {g : Nat → ClassId} {A : Nat → Prop} {G : zAd} (hG : gOK G) (hx : p.tables.exec = Jvm.exec) (hb : cd.code = cMB_passOneSecond) (hml : cd.maxLocals = 2) (hown : s.vm.findClass RMB = some m.cls) (hts : ∀ w ∈ wsMB_passOneSecond, w.before args s = true) (hK : va_K D vwCl (zty g) s) (hA : ∀ q : Nat, s.heap.size ≤ q → A q) : ∀ (j i : Nat) (S : zMB) (H : Heap) (locs : List Loc) (ls : Array Slot), i + j = sm S → sm S ≤ 4 → sn S < 1000000 → va_P D vwCl (wMB g G S) H → va_D A (wMB g G S) → va_S A s.heap H locs → lv_has ls 2 [(1, .int (nI i)), (0, .ref (go G 0))] → (∀ (H : Heap) (locs : List Loc) (ls : Array Slot), va_P D vwCl (wMB g G (sL sAuth j i S)) H → va_D A (wMB g G (sL sAuth j i S)) → va_S A s.heap H locs → lv_has ls 2 [(0, .ref (go G 0))] → W p l e ({ frames := 5, cells := 0, slots := 0, locals := 120 }) s m args below meth cd H locs 0 0 Q (F0 m 92 ls [])) → W p l e ({ frames := 5, cells := 0, slots := 0, locals := 120 }) s m args below meth cd H locs 0 0 Q (F0 m 73 ls []) := by
  have htB : ∀ w ∈ BIG, w.before args s = true := fun w h => hts w (List.mem_cons_of_mem _ h)
  intro j
  induction j with
  | zero =>
    intro i S H locs ls hi hm hn hP hD hS hl kk
    refine lv_iload_n hx hb dMB_passOneSecond_73 rfl (lv_at hl 0 rfl) ?_
    refine lv_aload_n hx hb dMB_passOneSecond_74 rfl (lv_at hl 1 rfl) ?_
    refine va_get (D := D) (ci := iMB) (v := .int (nI (sm S))) (C := RMB) (T := TMB) (N := 5) hx hb htB inBMB hown hK hP 0 rfl rfl 3 (by decide) (htB _ b_153) (fun _ h9 => h9) rfl dMB_passOneSecond_75 ?_
    refine lv_icmp_ge (tgt := 92) hx hb dMB_passOneSecond_78 (by decide) (fun _ => ?_) (fun c_1 => absurd (nI_le (a := sm S) (b := i) (by omega) (by omega)) c_1)
    exact kk H locs ls hP hD hS (lv_sub hl [1] rfl)
  | succ j ih =>
    intro i S H locs ls hi hm hn hP hD hS hl kk
    refine lv_iload_n hx hb dMB_passOneSecond_73 rfl (lv_at hl 0 rfl) ?_
    refine lv_aload_n hx hb dMB_passOneSecond_74 rfl (lv_at hl 1 rfl) ?_
    refine va_get (D := D) (ci := iMB) (v := .int (nI (sm S))) (C := RMB) (T := TMB) (N := 5) hx hb htB inBMB hown hK hP 0 rfl rfl 3 (by decide) (htB _ b_153) (fun _ h9 => h9) rfl dMB_passOneSecond_75 ?_
    refine lv_icmp_ge (tgt := 92) hx hb dMB_passOneSecond_78 (by decide) (fun c_1 => absurd c_1 (nI_ge (a := i) (b := sm S) (by omega) (by omega))) (fun _ => ?_)
    refine lv_aload_n hx hb dMB_passOneSecond_81 rfl (lv_at hl 1 rfl) ?_
    refine lv_iload_n hx hb dMB_passOneSecond_82 rfl (lv_at hl 0 rfl) ?_
    refine mk_wrV (As := [.int (nI i)]) (rest := []) (w := (wMB g G S)) (q0 := (RMB, TMB, 5)) (ci := iMB) (w2 := (wMB g G (sAuth S i))) ⟨hx, hb, hml, hown, hts⟩ (c_auth l D g G S hG hm i (by omega) hn) (cwV 1 hts (gd_V b_245 b_247 bp_2 b_1 b_248) rfl rfl rfl (by decide +kernel) ⟨Nat.le_of_ble_eq_true rfl, Nat.le_of_ble_eq_true rfl⟩) hK hP hD hS hA (List.range 53) mb_cutAll mb_ndAll fst_MB rfl rfl rfl hl.1 rfl (Nat.le_of_ble_eq_true rfl) dMB_passOneSecond_83 ⟨Nat.zero_le _, Nat.zero_le _⟩ (fun H locs hP hD hS => ?_)
    rw [mb_putAll] at hP hD
    have hP : va_P D vwCl (wMB g G (sAuth S i)) H := hP
    have hD : va_D A (wMB g G (sAuth S i)) := hD
    refine lv_iinc (v := nI (i + 1)) (lv' := [(1, .int (nI (i + 1))), (0, .ref (go G 0))]) hx hb dMB_passOneSecond_86 hl (k := 0) rfl (nI_1 _) (by decide) rfl (fun ls hl => ?_)
    refine lv_goto (tgt := 73) hx hb dMB_passOneSecond_89 (by decide) ?_
    have hE : sL sAuth (j + 1) i S = sL sAuth j (i + 1) (sAuth S i) := (by first | rfl | (simp only [sL, sAuth, sSetT] <;> rfl))
    rw [hE] at kk
    exact ih (i + 1) (sAuth S i) H locs ls (by rw [sAuth_m]; omega) (by rw [sAuth_m]; exact hm) (by rw [sAuth_n]; exact hn) hP hD hS (lv_sub hl [0, 1] rfl) kk
set_option maxHeartbeats 4000000 in
set_option maxRecDepth 100000 in
theorem lp_sec_sF4 {p : Program} {l : Launch} {e : Env} {s : State} {m : MethodId} {args : Array Value} {below : List Frame} {meth : Method} {cd : Code} {Q : State → Prop} {D : va_G} {g : Nat → ClassId} {A : Nat → Prop} {G : zAd} (hG : gOK G) (hx : p.tables.exec = Jvm.exec) (hb : cd.code = cMB_passOneSecond) (hml : cd.maxLocals = 2) (hown : s.vm.findClass RMB = some m.cls) (hts : ∀ w ∈ wsMB_passOneSecond, w.before args s = true) (hK : va_K D vwCl (zty g) s) (hA : ∀ q : Nat, s.heap.size ≤ q → A q) : ∀ (j i : Nat) (S : zMB) (H : Heap) (locs : List Loc) (ls : Array Slot), i + j = sm S → sm S ≤ 4 → sn S < 1000000 → va_P D vwCl (wMB g G S) H → va_D A (wMB g G S) → va_S A s.heap H locs → lv_has ls 2 [(1, .int (nI i)), (0, .ref (go G 0))] → (∀ (H : Heap) (locs : List Loc) (ls : Array Slot), va_P D vwCl (wMB g G (sL sF4 j i S)) H → va_D A (wMB g G (sL sF4 j i S)) → va_S A s.heap H locs → lv_has ls 2 [(0, .ref (go G 0))] → W p l e ({ frames := 5, cells := 0, slots := 0, locals := 120 }) s m args below meth cd H locs 0 0 Q (F0 m 124 ls [])) → W p l e ({ frames := 5, cells := 0, slots := 0, locals := 120 }) s m args below meth cd H locs 0 0 Q (F0 m 94 ls []) := by
  have htB : ∀ w ∈ BIG, w.before args s = true := fun w h => hts w (List.mem_cons_of_mem _ h)
  intro j
  induction j with
  | zero =>
    intro i S H locs ls hi hm hn hP hD hS hl kk
    refine lv_iload_n hx hb dMB_passOneSecond_94 rfl (lv_at hl 0 rfl) ?_
    refine lv_aload_n hx hb dMB_passOneSecond_95 rfl (lv_at hl 1 rfl) ?_
    refine va_get (D := D) (ci := iMB) (v := .int (nI (sm S))) (C := RMB) (T := TMB) (N := 5) hx hb htB inBMB hown hK hP 0 rfl rfl 3 (by decide) (htB _ b_153) (fun _ h9 => h9) rfl dMB_passOneSecond_96 ?_
    refine lv_icmp_ge (tgt := 124) hx hb dMB_passOneSecond_99 (by decide) (fun _ => ?_) (fun c_1 => absurd (nI_le (a := sm S) (b := i) (by omega) (by omega)) c_1)
    exact kk H locs ls hP hD hS (lv_sub hl [1] rfl)
  | succ j ih =>
    intro i S H locs ls hi hm hn hP hD hS hl kk
    refine lv_iload_n hx hb dMB_passOneSecond_94 rfl (lv_at hl 0 rfl) ?_
    refine lv_aload_n hx hb dMB_passOneSecond_95 rfl (lv_at hl 1 rfl) ?_
    refine va_get (D := D) (ci := iMB) (v := .int (nI (sm S))) (C := RMB) (T := TMB) (N := 5) hx hb htB inBMB hown hK hP 0 rfl rfl 3 (by decide) (htB _ b_153) (fun _ h9 => h9) rfl dMB_passOneSecond_96 ?_
    refine lv_icmp_ge (tgt := 124) hx hb dMB_passOneSecond_99 (by decide) (fun c_1 => absurd c_1 (nI_ge (a := i) (b := sm S) (by omega) (by omega))) (fun _ => ?_)
    refine lv_aload_n hx hb dMB_passOneSecond_102 rfl (lv_at hl 1 rfl) ?_
    refine va_get (D := D) (ci := iMB) (v := .ref (go G 1)) (C := RMB) (T := TMB) (N := 5) hx hb htB inBMB hown hK hP 0 rfl rfl 2 (by decide) (htB _ b_152) (fun _ h9 => h9) rfl dMB_passOneSecond_103 ?_
    refine lv_iload_n hx hb dMB_passOneSecond_106 rfl (lv_at hl 0 rfl) ?_
    refine mk_aald (k := i) hx hb hK hP 8 2 rfl rfl rfl ⟨(by omega), by decide⟩ (hG _ (by omega)) dMB_passOneSecond_107 ?_
    refine va_get (D := D) (ci := iTr) (v := .ref (ga G i 2 0)) (C := RTr) (T := TTr) (N := 11) hx hb htB inBTr hown hK hP (9 + 11 * i) (mb_atTr (by omega)) rfl 1 (by decide) (htB _ b_109) (fun _ h9 => h9) rfl dMB_passOneSecond_108 ?_
    refine lv_aload_n hx hb dMB_passOneSecond_111 rfl (lv_at hl 1 rfl) ?_
    refine va_get (D := D) (ci := iMB) (v := .int (nI (sn S))) (C := RMB) (T := TMB) (N := 5) hx hb htB inBMB hown hK hP 0 rfl rfl 4 (by decide) (htB _ b_154) (fun _ h9 => h9) rfl dMB_passOneSecond_112 ?_
    refine mk_wrV (As := [.int (nI (sn S))]) (rest := []) (w := (wCh g (ga G i 2) (tau ((sT S) i)))) (q0 := (RCh, TCh, 10)) (ci := iCh) (w2 := (wCh g (ga G i 2) (cRec (tau ((sT S) i)) (sn S)))) ⟨hx, hb, hml, hown, hts⟩ (c_Ch_receive l D g (ga G i 2) (tau ((sT S) i)) (sn S) hn) (cwV 1 hts (gd_V b_237 b_238 b_239 b_5 b_240) rfl rfl rfl (by decide +kernel) ⟨Nat.le_of_ble_eq_true rfl, Nat.le_of_ble_eq_true rfl⟩) hK hP hD hS hA (pAu i) (mb_cutAu (by omega)) (pAu_nd (by omega)) fst_Ch rfl rfl rfl hl.1 rfl (Nat.le_of_ble_eq_true rfl) dMB_passOneSecond_115 ⟨Nat.zero_le _, Nat.zero_le _⟩ (fun H locs hP hD hS => ?_)
    rw [mb_putAu (g := g) (G := G) (S := S) (i := i) (by omega)] at hP hD
    have hP : va_P D vwCl (wMB g G ((va_up (sT S) i (tSetA ((sT S) i) (cRec (tau ((sT S) i)) (sn S)))), (sk S), (sy S), (sm S), (sn S))) H := hP
    have hD : va_D A (wMB g G ((va_up (sT S) i (tSetA ((sT S) i) (cRec (tau ((sT S) i)) (sn S)))), (sk S), (sy S), (sm S), (sn S))) := hD
    refine lv_iinc (v := nI (i + 1)) (lv' := [(1, .int (nI (i + 1))), (0, .ref (go G 0))]) hx hb dMB_passOneSecond_118 hl (k := 0) rfl (nI_1 _) (by decide) rfl (fun ls hl => ?_)
    refine lv_goto (tgt := 94) hx hb dMB_passOneSecond_121 (by decide) ?_
    have hE : sL sF4 (j + 1) i S = sL sF4 j (i + 1) ((va_up (sT S) i (tSetA ((sT S) i) (cRec (tau ((sT S) i)) (sn S)))), (sk S), (sy S), (sm S), (sn S)) := (by first | rfl | (simp only [sL, sF4, sSetT] <;> rfl))
    rw [hE] at kk
    exact ih (i + 1) ((va_up (sT S) i (tSetA ((sT S) i) (cRec (tau ((sT S) i)) (sn S)))), (sk S), (sy S), (sm S), (sn S)) H locs ls (by show i + 1 + j = sm S; omega) (by exact hm) (by exact hn) hP hD hS (lv_sub hl [0, 1] rfl) kk
set_option maxHeartbeats 4000000 in
set_option maxRecDepth 100000 in
theorem lp_sec_sF5 {p : Program} {l : Launch} {e : Env} {s : State} {m : MethodId} {args : Array Value} {below : List Frame} {meth : Method} {cd : Code} {Q : State → Prop} {D : va_G} {g : Nat → ClassId} {A : Nat → Prop} {G : zAd} (hG : gOK G) (hx : p.tables.exec = Jvm.exec) (hb : cd.code = cMB_passOneSecond) (hml : cd.maxLocals = 2) (hown : s.vm.findClass RMB = some m.cls) (hts : ∀ w ∈ wsMB_passOneSecond, w.before args s = true) (hK : va_K D vwCl (zty g) s) (hA : ∀ q : Nat, s.heap.size ≤ q → A q) : ∀ (j i : Nat) (S : zMB) (H : Heap) (locs : List Loc) (ls : Array Slot), i + j = sm S → sm S ≤ 4 → sn S < 1000000 → va_P D vwCl (wMB g G S) H → va_D A (wMB g G S) → va_S A s.heap H locs → lv_has ls 2 [(1, .int (nI i)), (0, .ref (go G 0))] → (∀ (H : Heap) (locs : List Loc) (ls : Array Slot), va_P D vwCl (wMB g G (sL sF5 j i S)) H → va_D A (wMB g G (sL sF5 j i S)) → va_S A s.heap H locs → lv_has ls 2 [(0, .ref (go G 0))] → W p l e ({ frames := 5, cells := 0, slots := 0, locals := 120 }) s m args below meth cd H locs 0 0 Q (F0 m 157 ls [])) → W p l e ({ frames := 5, cells := 0, slots := 0, locals := 120 }) s m args below meth cd H locs 0 0 Q (F0 m 126 ls []) := by
  have htB : ∀ w ∈ BIG, w.before args s = true := fun w h => hts w (List.mem_cons_of_mem _ h)
  intro j
  induction j with
  | zero =>
    intro i S H locs ls hi hm hn hP hD hS hl kk
    refine lv_iload_n hx hb dMB_passOneSecond_126 rfl (lv_at hl 0 rfl) ?_
    refine lv_aload_n hx hb dMB_passOneSecond_127 rfl (lv_at hl 1 rfl) ?_
    refine va_get (D := D) (ci := iMB) (v := .int (nI (sm S))) (C := RMB) (T := TMB) (N := 5) hx hb htB inBMB hown hK hP 0 rfl rfl 3 (by decide) (htB _ b_153) (fun _ h9 => h9) rfl dMB_passOneSecond_128 ?_
    refine lv_icmp_ge (tgt := 157) hx hb dMB_passOneSecond_131 (by decide) (fun _ => ?_) (fun c_1 => absurd (nI_le (a := sm S) (b := i) (by omega) (by omega)) c_1)
    exact kk H locs ls hP hD hS (lv_sub hl [1] rfl)
  | succ j ih =>
    intro i S H locs ls hi hm hn hP hD hS hl kk
    refine lv_iload_n hx hb dMB_passOneSecond_126 rfl (lv_at hl 0 rfl) ?_
    refine lv_aload_n hx hb dMB_passOneSecond_127 rfl (lv_at hl 1 rfl) ?_
    refine va_get (D := D) (ci := iMB) (v := .int (nI (sm S))) (C := RMB) (T := TMB) (N := 5) hx hb htB inBMB hown hK hP 0 rfl rfl 3 (by decide) (htB _ b_153) (fun _ h9 => h9) rfl dMB_passOneSecond_128 ?_
    refine lv_icmp_ge (tgt := 157) hx hb dMB_passOneSecond_131 (by decide) (fun c_1 => absurd c_1 (nI_ge (a := i) (b := sm S) (by omega) (by omega))) (fun _ => ?_)
    refine lv_aload_n hx hb dMB_passOneSecond_134 rfl (lv_at hl 1 rfl) ?_
    refine va_get (D := D) (ci := iMB) (v := .ref (go G 1)) (C := RMB) (T := TMB) (N := 5) hx hb htB inBMB hown hK hP 0 rfl rfl 2 (by decide) (htB _ b_152) (fun _ h9 => h9) rfl dMB_passOneSecond_135 ?_
    refine lv_iload_n hx hb dMB_passOneSecond_138 rfl (lv_at hl 0 rfl) ?_
    refine mk_aald (k := i) hx hb hK hP 8 2 rfl rfl rfl ⟨(by omega), by decide⟩ (hG _ (by omega)) dMB_passOneSecond_139 ?_
    refine lv_aload_n hx hb dMB_passOneSecond_140 rfl (lv_at hl 1 rfl) ?_
    refine va_get (D := D) (ci := iMB) (v := .int (nI (sn S))) (C := RMB) (T := TMB) (N := 5) hx hb htB inBMB hown hK hP 0 rfl rfl 4 (by decide) (htB _ b_154) (fun _ h9 => h9) rfl dMB_passOneSecond_141 ?_
    refine lv_aload_n hx hb dMB_passOneSecond_144 rfl (lv_at hl 1 rfl) ?_
    refine va_get (D := D) (ci := iMB) (v := .ref (gb G 0)) (C := RMB) (T := TMB) (N := 5) hx hb htB inBMB hown hK hP 0 rfl rfl 0 (by decide) (htB _ b_150) (fun _ h9 => h9) rfl dMB_passOneSecond_145 ?_
    refine mk_wrV (As := [.int (nI (sn S)), .ref (gb G 0)]) (rest := []) (w := (wTr g (ga G i) ((sT S) i) ++ wTk g (gb G) (sk S))) (q0 := (RTr, TTr, 11)) (ci := iTr) (w2 := (wTr g (ga G i) (tDrive ((sT S) i) (sn S) (sk S)) ++ wTk g (gb G) (sk S))) ⟨hx, hb, hml, hown, hts⟩ (c_Tr_drive l D g (ga G i) ((sT S) i) (gb G) (sk S) (sn S)) (cwV 2 hts (gd_V b_271 b_272 b_273 b_4 b_274) rfl rfl rfl (by decide +kernel) ⟨Nat.le_of_ble_eq_true rfl, Nat.le_of_ble_eq_true rfl⟩) hK hP hD hS hA (pTk i) (mb_cutTk (by omega)) (pTk_nd (by omega)) fst_TrTk rfl rfl rfl hl.1 rfl (Nat.le_of_ble_eq_true rfl) dMB_passOneSecond_148 ⟨Nat.zero_le _, Nat.zero_le _⟩ (fun H locs hP hD hS => ?_)
    rw [mb_putTk (g := g) (G := G) (S := S) (i := i) (by omega)] at hP hD
    have hP : va_P D vwCl (wMB g G ((va_up (sT S) i (tDrive ((sT S) i) (sn S) (sk S))), (sk S), (sy S), (sm S), (sn S))) H := hP
    have hD : va_D A (wMB g G ((va_up (sT S) i (tDrive ((sT S) i) (sn S) (sk S))), (sk S), (sy S), (sm S), (sn S))) := hD
    refine lv_iinc (v := nI (i + 1)) (lv' := [(1, .int (nI (i + 1))), (0, .ref (go G 0))]) hx hb dMB_passOneSecond_151 hl (k := 0) rfl (nI_1 _) (by decide) rfl (fun ls hl => ?_)
    refine lv_goto (tgt := 126) hx hb dMB_passOneSecond_154 (by decide) ?_
    have hE : sL sF5 (j + 1) i S = sL sF5 j (i + 1) ((va_up (sT S) i (tDrive ((sT S) i) (sn S) (sk S))), (sk S), (sy S), (sm S), (sn S)) := (by first | rfl | (simp only [sL, sF5, sSetT] <;> rfl))
    rw [hE] at kk
    exact ih (i + 1) ((va_up (sT S) i (tDrive ((sT S) i) (sn S) (sk S))), (sk S), (sy S), (sm S), (sn S)) H locs ls (by show i + 1 + j = sm S; omega) (by exact hm) (by exact hn) hP hD hS (lv_sub hl [0, 1] rfl) kk
set_option maxHeartbeats 4000000 in
set_option maxRecDepth 100000 in
/-- passOneSecond -/
theorem c_sec (l : Launch) (D : va_G) (g : Nat → ClassId) (G : zAd) (S : zMB) (hG : gOK G) (hm : sm S ≤ 4) (hn : sn S + 1 < 1000000) : mk_Wv l yMB_passOneSecond wsMB_passOneSecond ({ frames := 5, cells := 0, slots := 0, locals := 120 }) D vwCl (zty g) [.ref (go G 0)] (wMB g G S) (wMB g G (sSec S)) := by
  intro sz
  refine Met.ofW (cc := cMB_passOneSecond) (maxL := 2) (ret := none) (by decide) rfl ?_
  intro p e s m args below meth cd s₁ B hml hv
  obtain ⟨rfl, hsz, hP, hK, hD0⟩ := hv
  have hx := B.exec
  have hb := B.bytes
  have hr := B.returns
  have hts := atoms_spec (ws := wsMB_passOneSecond) B.pre
  have htB := fun (w : Cond) (h : w ∈ BIG) => hts w (List.mem_cons_of_mem _ h)
  have hown : s.vm.findClass RMB = some m.cls := findClass_of_methodNamed B.named
  have hlocks := B.notSynchronized
  subst hsz
  have hD := hD0.self (sz := s.heap.size)
  generalize hAe : va_A (wMB g G S) s.heap.size = A at hD ⊢
  have hA : ∀ q : Nat, s.heap.size ≤ q → A q := fun q h => by rw [← hAe]; exact Or.inr h
  have hS : va_S A s.heap s.heap [] := va_S.rf
  have hl := lv_entry ([.ref (go G 0)]) (n := 2) (Nat.le_of_ble_eq_true rfl)
  rw [lg_entry_eq]
  generalize (lg_sl ([.ref (go G 0)]) ++ List.replicate (2 - (lg_sl ([.ref (go G 0)])).length) Slot.unset).toArray = ls at hl ⊢
  have hl : lv_has ls 2 [(0, .ref (go G 0))] := hl
  have hP : va_P D vwCl (wMB g G S) s.heap := hP
  refine lv_aload_n hx hb dMB_passOneSecond_0 rfl (lv_at hl 0 rfl) ?_
  refine lv_dup hx hb dMB_passOneSecond_1 rfl ?_
  refine va_get (D := D) (ci := iMB) (v := .int (nI (sn S))) (C := RMB) (T := TMB) (N := 5) hx hb htB inBMB hown hK hP 0 rfl rfl 4 (by decide) (htB _ b_154) (fun _ h9 => h9) rfl dMB_passOneSecond_2 ?_
  refine lv_iconst (v := 1) hx hb dMB_passOneSecond_5 (by decide) ?_
  refine lv_iadd hx hb dMB_passOneSecond_6 ?_
  refine lv_topi (fun z_1 e_1 => ?_)
  have e_1 : z_1 = nI ((sn S) + 1) := e_1.trans (nI_add (sn S) 1)
  subst e_1
  refine va_put (D := D) (ci := iMB) (v := .int (nI ((sn S) + 1))) (ty := .int) (C := RMB) (T := TMB) (N := 5) hx hb htB inBMB tyMB tyMB_ok nmMB hown hK hP hD hS 0 rfl rfl 4 (by decide) (htB _ b_154) (fun _ h9 => h9) rfl (by decide +kernel) rfl rfl (Nat.le_of_ble_eq_true rfl) dMB_passOneSecond_7 (fun H locs hP hD hS => ?_)
  have hP : va_P D vwCl (wMB g G ((sT S), (sk S), (sy S), (sm S), ((sn S) + 1))) H := hP
  have hD : va_D A (wMB g G ((sT S), (sk S), (sy S), (sm S), ((sn S) + 1))) := hD
  refine lv_iconst (v := 0) hx hb dMB_passOneSecond_10 (by decide) ?_
  refine lv_istore_n (lv' := [(1, .int 0), (0, .ref (go G 0))]) hx hb dMB_passOneSecond_11 rfl hl (by decide) rfl (fun ls hl => ?_)
  have hP : va_P D vwCl (wMB g G (sClk S)) H := hP
  have hD : va_D A (wMB g G (sClk S)) := hD
  refine lp_sec_sF1 (G := G) hG hx hb hml hown hts hK hA (sm S) 0 (sClk S) _ _ ls (by rw [Nat.zero_add]; first | rfl | (simp only [sL_m1, sL_m2, sL_m3, sL_m4]; rfl) | simp only [sL_m1, sL_m2, sL_m3, sL_m4]) (by first | exact hm | (simp only [sL_m1, sL_m2, sL_m3, sL_m4]; exact hm)) (by first | exact hn | (simp only [sL_n1, sL_n2, sL_n3, sL_n4]; exact hn)) hP hD hS (lv_sub hl [0, 1] rfl) (fun H locs ls hP hD hS hl => ?_)
  refine lv_iconst (v := 0) hx hb dMB_passOneSecond_39 (by decide) ?_
  refine lv_istore_n (lv' := [(1, .int 0), (0, .ref (go G 0))]) hx hb dMB_passOneSecond_40 rfl hl (by decide) rfl (fun ls hl => ?_)
  refine lp_sec_sF2 (G := G) hG hx hb hml hown hts hK hA (sm S) 0 (sL sF1 (sm S) 0 (sClk S)) _ _ ls (by rw [Nat.zero_add]; first | rfl | (simp only [sL_m1, sL_m2, sL_m3, sL_m4]; rfl) | simp only [sL_m1, sL_m2, sL_m3, sL_m4]) (by first | exact hm | (simp only [sL_m1, sL_m2, sL_m3, sL_m4]; exact hm)) (by first | exact hn | (simp only [sL_n1, sL_n2, sL_n3, sL_n4]; exact hn)) hP hD hS (lv_sub hl [0, 1] rfl) (fun H locs ls hP hD hS hl => ?_)
  refine lv_iconst (v := 0) hx hb dMB_passOneSecond_71 (by decide) ?_
  refine lv_istore_n (lv' := [(1, .int 0), (0, .ref (go G 0))]) hx hb dMB_passOneSecond_72 rfl hl (by decide) rfl (fun ls hl => ?_)
  refine lp_sec_sAuth (G := G) hG hx hb hml hown hts hK hA (sm S) 0 (sL sF2 (sm S) 0 (sL sF1 (sm S) 0 (sClk S))) _ _ ls (by rw [Nat.zero_add]; first | rfl | (simp only [sL_m1, sL_m2, sL_m3, sL_m4]; rfl) | simp only [sL_m1, sL_m2, sL_m3, sL_m4]) (by first | exact hm | (simp only [sL_m1, sL_m2, sL_m3, sL_m4]; exact hm)) (by first | exact hn | (simp only [sL_n1, sL_n2, sL_n3, sL_n4]; exact hn)) hP hD hS (lv_sub hl [0, 1] rfl) (fun H locs ls hP hD hS hl => ?_)
  refine lv_iconst (v := 0) hx hb dMB_passOneSecond_92 (by decide) ?_
  refine lv_istore_n (lv' := [(1, .int 0), (0, .ref (go G 0))]) hx hb dMB_passOneSecond_93 rfl hl (by decide) rfl (fun ls hl => ?_)
  refine lp_sec_sF4 (G := G) hG hx hb hml hown hts hK hA (sm S) 0 (sL sAuth (sm S) 0 (sL sF2 (sm S) 0 (sL sF1 (sm S) 0 (sClk S)))) _ _ ls (by rw [Nat.zero_add]; first | rfl | (simp only [sL_m1, sL_m2, sL_m3, sL_m4]; rfl) | simp only [sL_m1, sL_m2, sL_m3, sL_m4]) (by first | exact hm | (simp only [sL_m1, sL_m2, sL_m3, sL_m4]; exact hm)) (by first | exact hn | (simp only [sL_n1, sL_n2, sL_n3, sL_n4]; exact hn)) hP hD hS (lv_sub hl [0, 1] rfl) (fun H locs ls hP hD hS hl => ?_)
  refine lv_iconst (v := 0) hx hb dMB_passOneSecond_124 (by decide) ?_
  refine lv_istore_n (lv' := [(1, .int 0), (0, .ref (go G 0))]) hx hb dMB_passOneSecond_125 rfl hl (by decide) rfl (fun ls hl => ?_)
  refine lp_sec_sF5 (G := G) hG hx hb hml hown hts hK hA (sm S) 0 (sL sF4 (sm S) 0 (sL sAuth (sm S) 0 (sL sF2 (sm S) 0 (sL sF1 (sm S) 0 (sClk S))))) _ _ ls (by rw [Nat.zero_add]; first | rfl | (simp only [sL_m1, sL_m2, sL_m3, sL_m4]; rfl) | simp only [sL_m1, sL_m2, sL_m3, sL_m4]) (by first | exact hm | (simp only [sL_m1, sL_m2, sL_m3, sL_m4]; exact hm)) (by first | exact hn | (simp only [sL_n1, sL_n2, sL_n3, sL_n4]; exact hn)) hP hD hS (lv_sub hl [0, 1] rfl) (fun H locs ls hP hD hS hl => ?_)
  have hE : wMB g G (sSec S) = wMB g G (sL sF5 (sm S) 0 (sL sF4 (sm S) 0 (sL sAuth (sm S) 0 (sL sF2 (sm S) 0 (sL sF1 (sm S) 0 (sClk S)))))) := rfl
  exact W.vret hx hb hr (fun t9 ht hW => ⟨⟨(), rfl, trivial, mk_end ht hE hP⟩, hS.F ht⟩) hS.2.2 dMB_passOneSecond_157
set_option maxHeartbeats 4000000 in
set_option maxRecDepth 100000 in
theorem lp_tick {p : Program} {l : Launch} {e : Env} {s : State} {m : MethodId} {args : Array Value} {below : List Frame} {meth : Method} {cd : Code} {Q : State → Prop} {D : va_G} {g : Nat → ClassId} {A : Nat → Prop} {G : zAd} (hG : gOK G) {r : Nat} (hr : r ≤ 8) (hx : p.tables.exec = Jvm.exec) (hb : cd.code = cMB_tick) (hml : cd.maxLocals = 3) (hown : s.vm.findClass RMB = some m.cls) (hts : ∀ w ∈ wsMB_tick, w.before args s = true) (hK : va_K D vwCl (zty g) s) (hA : ∀ q : Nat, s.heap.size ≤ q → A q) : ∀ (j i : Nat) (S : zMB) (H : Heap) (locs : List Loc) (ls : Array Slot), i + j = r → sm S ≤ 4 → sn S + j < 1000000 → va_P D vwCl (wMB g G S) H → va_D A (wMB g G S) → va_S A s.heap H locs → lv_has ls 3 [(2, .int (nI i)), (0, .ref (go G 0)), (1, .int (nI r))] → (∀ (H : Heap) (locs : List Loc) (ls : Array Slot), va_P D vwCl (wMB g G (sTicks j S)) H → va_D A (wMB g G (sTicks j S)) → va_S A s.heap H locs → lv_has ls 3 [(0, .ref (go G 0))] → W p l e ({ frames := 6, cells := 0, slots := 0, locals := 141 }) s m args below meth cd H locs 0 0 Q (F0 m 30 ls [])) → W p l e ({ frames := 6, cells := 0, slots := 0, locals := 141 }) s m args below meth cd H locs 0 0 Q (F0 m 15 ls []) := by
  have htB : ∀ w ∈ BIG, w.before args s = true := fun w h => hts w (List.mem_cons_of_mem _ h)
  intro j
  induction j with
  | zero =>
    intro i S H locs ls hi hm hn hP hD hS hl kk
    refine lv_iload_n hx hb dMB_tick_15 rfl (lv_at hl 0 rfl) ?_
    refine lv_iload_n hx hb dMB_tick_16 rfl (lv_at hl 2 rfl) ?_
    refine lv_icmp_ge (tgt := 30) hx hb dMB_tick_17 (by decide) (fun _ => ?_) (fun c_1 => absurd (nI_le (a := r) (b := i) (by omega) (by omega)) c_1)
    exact kk H locs ls hP hD hS (lv_sub hl [1] rfl)
  | succ j ih =>
    intro i S H locs ls hi hm hn hP hD hS hl kk
    refine lv_iload_n hx hb dMB_tick_15 rfl (lv_at hl 0 rfl) ?_
    refine lv_iload_n hx hb dMB_tick_16 rfl (lv_at hl 2 rfl) ?_
    refine lv_icmp_ge (tgt := 30) hx hb dMB_tick_17 (by decide) (fun c_1 => absurd c_1 (nI_ge (a := i) (b := r) (by omega) (by omega))) (fun _ => ?_)
    refine lv_aload_n hx hb dMB_tick_20 rfl (lv_at hl 1 rfl) ?_
    refine mk_wrV (As := []) (rest := []) (w := (wMB g G S)) (q0 := (RMB, TMB, 5)) (ci := iMB) (w2 := (wMB g G (sSec S))) ⟨hx, hb, hml, hown, hts⟩ (c_sec l D g G S hG (by omega) (by omega)) (cwV 0 hts (gd_V b_214 b_216 bp_1 b_1 b_217) rfl rfl rfl (by decide +kernel) ⟨Nat.le_of_ble_eq_true rfl, Nat.le_of_ble_eq_true rfl⟩) hK hP hD hS hA (List.range 53) mb_cutAll mb_ndAll fst_MB rfl rfl rfl hl.1 rfl (Nat.le_of_ble_eq_true rfl) dMB_tick_21 ⟨Nat.zero_le _, Nat.zero_le _⟩ (fun H locs hP hD hS => ?_)
    rw [mb_putAll] at hP hD
    have hP : va_P D vwCl (wMB g G (sSec S)) H := hP
    have hD : va_D A (wMB g G (sSec S)) := hD
    refine lv_iinc (v := nI (i + 1)) (lv' := [(2, .int (nI (i + 1))), (0, .ref (go G 0)), (1, .int (nI r))]) hx hb dMB_tick_24 hl (k := 0) rfl (nI_1 _) (by decide) rfl (fun ls hl => ?_)
    refine lv_goto (tgt := 15) hx hb dMB_tick_27 (by decide) ?_
    have hE : sTicks (j + 1) S = sTicks j (sSec S) := (by first | rfl | (simp only [sTicks] <;> rfl))
    rw [hE] at kk
    exact ih (i + 1) (sSec S) H locs ls (by omega) (by rw [sSec_m]; exact hm) (by rw [sSec_n]; omega) hP hD hS (lv_sub hl [0, 1, 2] rfl) kk
set_option maxHeartbeats 4000000 in
set_option maxRecDepth 100000 in
/-- tick -/
theorem c_tick (l : Launch) (D : va_G) (g : Nat → ClassId) (G : zAd) (S : zMB) (hG : gOK G) (hm : sm S ≤ 4) (n : Int32) (hn : sn S + 9 < 1000000) : mk_Wi l yMB_tick wsMB_tick ({ frames := 6, cells := 0, slots := 0, locals := 141 }) D vwCl (zty g) [.ref (go G 0), .int n] (wMB g G S) (wMB g G (xTick S n).2) ((xTick S n).1) := by
  intro sz
  refine Met.ofW (cc := cMB_tick) (maxL := 3) (ret := (some .int)) (by decide) rfl ?_
  intro p e s m args below meth cd s₁ B hml hv
  obtain ⟨rfl, hsz, hP, hK, hD0⟩ := hv
  have hx := B.exec
  have hb := B.bytes
  have hr := B.returns
  have hts := atoms_spec (ws := wsMB_tick) B.pre
  have htB := fun (w : Cond) (h : w ∈ BIG) => hts w (List.mem_cons_of_mem _ h)
  have hown : s.vm.findClass RMB = some m.cls := findClass_of_methodNamed B.named
  have hlocks := B.notSynchronized
  subst hsz
  have hD := hD0.self (sz := s.heap.size)
  generalize hAe : va_A (wMB g G S) s.heap.size = A at hD ⊢
  have hA : ∀ q : Nat, s.heap.size ≤ q → A q := fun q h => by rw [← hAe]; exact Or.inr h
  have hS : va_S A s.heap s.heap [] := va_S.rf
  have hl := lv_entry ([.ref (go G 0), .int n]) (n := 3) (Nat.le_of_ble_eq_true rfl)
  rw [lg_entry_eq]
  generalize (lg_sl ([.ref (go G 0), .int n]) ++ List.replicate (3 - (lg_sl ([.ref (go G 0), .int n])).length) Slot.unset).toArray = ls at hl ⊢
  have hl : lv_has ls 3 [(0, .ref (go G 0)), (1, .int n)] := hl
  have hP : va_P D vwCl (wMB g G S) s.heap := hP
  refine lv_iload_n hx hb dMB_tick_0 rfl (lv_at hl 1 rfl) ?_
  refine lv_iconst (v := 1) hx hb dMB_tick_1 (by decide) ?_
  refine lv_bipush (v := 8) hx hb dMB_tick_2 (by decide) ?_
  refine mk_rdS (As := [.int n, .int 1, .int 8]) (rest := []) (w := []) ⟨hx, hb, hml, hown, hts⟩ (c_isOutside l D g n 1 8) (va_cwS 3 hts (gd_S b_170 b_171 b_1 b_172) rfl rfl rfl (by decide +kernel) ⟨Nat.le_of_ble_eq_true rfl, Nat.le_of_ble_eq_true rfl⟩) hK hP hD hS hA [] rfl rfl rfl hl.1 rfl (Nat.le_of_ble_eq_true rfl) dMB_tick_4 ⟨Nat.zero_le _, Nat.zero_le _⟩ (fun H locs hP hS => ?_)
  refine lv_if_eq (tgt := 13) hx hb dMB_tick_7 (by decide) (fun c_1 => ?_) (fun c_1 => ?_)
  · refine lv_iconst (v := 0) hx hb dMB_tick_13 (by decide) ?_
    refine lv_istore_n (lv' := [(2, .int 0), (0, .ref (go G 0)), (1, .int n)]) hx hb dMB_tick_14 rfl hl (by decide) rfl (fun ls hl => ?_)
    have hE0 : n = nI n.toNatClampNeg ∧ n.toNatClampNeg ≤ 8 := tick_ix c_1
    have hl : lv_has ls 3 [(2, .int (nI 0)), (0, .ref (go G 0)), (1, .int (nI n.toNatClampNeg))] := by rw [← hE0.1]; exact lv_sub hl [0, 1, 2] rfl
    refine lp_tick (G := G) hG (r := n.toNatClampNeg) hE0.2 hx hb hml hown hts hK hA n.toNatClampNeg 0 S _ _ ls (by omega) hm (by omega) hP hD hS hl (fun H locs ls hP hD hS hl => ?_)
    refine lv_aload_n hx hb dMB_tick_30 rfl (lv_at hl 0 rfl) ?_
    refine va_get (D := D) (ci := iMB) (v := .int (nI (sn (sTicks n.toNatClampNeg S)))) (C := RMB) (T := TMB) (N := 5) hx hb htB inBMB hown hK hP 0 rfl rfl 4 (by decide) (htB _ b_154) (fun _ h9 => h9) rfl dMB_tick_31 ?_
    have hE : wMB g G (xTick S n).2 = wMB g G (sTicks n.toNatClampNeg S) := (by simp only [xTick, if_pos c_1] <;> rfl)
    exact W.iret (v := nI (sn (sTicks n.toNatClampNeg S))) hx hb hr (fun t9 ht hW => ⟨⟨nI (sn (sTicks n.toNatClampNeg S)), (), rfl, (by simp only [xTick, if_pos c_1] <;> rfl), mk_end ht hE hP⟩, hS.F ht⟩) hS.2.2 dMB_tick_34
  · refine lv_ldc (v := (-1000000)) hx hb hown (htB _ b_173) dMB_tick_10 ?_
    have hE : wMB g G (xTick S n).2 = wMB g G S := (by simp only [xTick, if_neg c_1] <;> rfl)
    exact W.iret (v := (-1000000)) hx hb hr (fun t9 ht hW => ⟨⟨(-1000000), (), rfl, (by simp only [xTick, if_neg c_1] <;> rfl), mk_end ht hE hP⟩, hS.F ht⟩) hS.2.2 dMB_tick_12
