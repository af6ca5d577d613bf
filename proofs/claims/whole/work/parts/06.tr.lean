set_option maxHeartbeats 4000000 in
set_option maxRecDepth 100000 in
/-- rear -/
theorem c_Tr_rear (l : Launch) (D : va_G) (g : Nat → ClassId) (a : Nat → Nat → Nat) (t : zTr) : mk_Rd l yTr_rear wsTr_rear ({ frames := 0, cells := 0, slots := 0, locals := 0 }) D vwCl (zty g) [.ref (a 0 0)] (wTr g a t) (tRear t) := by
  intro sz
  refine Met.ofW (cc := cTr_rear) (maxL := 1) (ret := (some .int)) (by decide) rfl ?_
  intro p e s m args below meth cd s₁ B hml hv
  obtain ⟨rfl, hsz, hP, hK, hD0⟩ := hv
  have hx := B.exec
  have hb := B.bytes
  have hr := B.returns
  have hts := atoms_spec (ws := wsTr_rear) B.pre
  have htB := fun (w : Cond) (h : w ∈ BIG) => hts w (List.mem_cons_of_mem _ h)
  have hown : s.vm.findClass RTr = some m.cls := findClass_of_methodNamed B.named
  have hlocks := B.notSynchronized
  subst hsz
  have hD := hD0
  have hA : ∀ q : Nat, s.heap.size ≤ q → (fun q => s.heap.size ≤ q) q := fun _ h => h
  have hS : va_S (fun q => s.heap.size ≤ q) s.heap s.heap [] := va_S.rf
  have hl := lv_entry ([.ref (a 0 0)]) (n := 1) (Nat.le_of_ble_eq_true rfl)
  rw [lg_entry_eq]
  generalize (lg_sl ([.ref (a 0 0)]) ++ List.replicate (1 - (lg_sl ([.ref (a 0 0)])).length) Slot.unset).toArray = ls at hl ⊢
  have hl : lv_has ls 1 [(0, .ref (a 0 0))] := hl
  have hP : va_P D vwCl (wTr g a t) s.heap := hP
  refine lv_aload_n hx hb dTr_rear_0 rfl (lv_at hl 0 rfl) ?_
  refine va_get (D := D) (ci := iTr) (v := .int (tfr t)) (C := RTr) (T := TTr) (N := 11) hx hb htB inBTr hown hK hP 0 rfl rfl 3 (by decide) (htB _ b_111) (fun _ h9 => h9) rfl dTr_rear_1 ?_
  refine lv_aload_n hx hb dTr_rear_4 rfl (lv_at hl 0 rfl) ?_
  refine va_get (D := D) (ci := iTr) (v := .int (tle t)) (C := RTr) (T := TTr) (N := 11) hx hb htB inBTr hown hK hP 0 rfl rfl 2 (by decide) (htB _ b_110) (fun _ h9 => h9) rfl dTr_rear_5 ?_
  refine lv_isub hx hb dTr_rear_8 ?_
  exact W.iret (v := (tfr t) - (tle t)) hx hb hr (fun t9 ht hW => ⟨⟨(tfr t) - (tle t), (), rfl, (by first | rfl | (simp only [tRear] <;> rfl)), trivial⟩, hS.F ht⟩) hS.2.2 dTr_rear_9
set_option maxHeartbeats 4000000 in
set_option maxRecDepth 100000 in
/-- reach -/
theorem c_Tr_reach (l : Launch) (D : va_G) (g : Nat → ClassId) (a : Nat → Nat → Nat) (t : zTr) : mk_Rd l yTr_reach wsTr_reach ({ frames := 0, cells := 0, slots := 0, locals := 0 }) D vwCl (zty g) [.ref (a 0 0)] (wTr g a t) (tReach t) := by
  intro sz
  refine Met.ofW (cc := cTr_reach) (maxL := 1) (ret := (some .int)) (by decide) rfl ?_
  intro p e s m args below meth cd s₁ B hml hv
  obtain ⟨rfl, hsz, hP, hK, hD0⟩ := hv
  have hx := B.exec
  have hb := B.bytes
  have hr := B.returns
  have hts := atoms_spec (ws := wsTr_reach) B.pre
  have htB := fun (w : Cond) (h : w ∈ BIG) => hts w (List.mem_cons_of_mem _ h)
  have hown : s.vm.findClass RTr = some m.cls := findClass_of_methodNamed B.named
  have hlocks := B.notSynchronized
  subst hsz
  have hD := hD0
  have hA : ∀ q : Nat, s.heap.size ≤ q → (fun q => s.heap.size ≤ q) q := fun _ h => h
  have hS : va_S (fun q => s.heap.size ≤ q) s.heap s.heap [] := va_S.rf
  have hl := lv_entry ([.ref (a 0 0)]) (n := 1) (Nat.le_of_ble_eq_true rfl)
  rw [lg_entry_eq]
  generalize (lg_sl ([.ref (a 0 0)]) ++ List.replicate (1 - (lg_sl ([.ref (a 0 0)])).length) Slot.unset).toArray = ls at hl ⊢
  have hl : lv_has ls 1 [(0, .ref (a 0 0))] := hl
  have hP : va_P D vwCl (wTr g a t) s.heap := hP
  refine lv_aload_n hx hb dTr_reach_0 rfl (lv_at hl 0 rfl) ?_
  refine va_get (D := D) (ci := iTr) (v := .int (tes t)) (C := RTr) (T := TTr) (N := 11) hx hb htB inBTr hown hK hP 0 rfl rfl 5 (by decide) (htB _ b_115) (fun _ h9 => h9) rfl dTr_reach_1 ?_
  refine lv_aload_n hx hb dTr_reach_4 rfl (lv_at hl 0 rfl) ?_
  refine va_get (D := D) (ci := iTr) (v := .int (tdo t)) (C := RTr) (T := TTr) (N := 11) hx hb htB inBTr hown hK hP 0 rfl rfl 6 (by decide) (htB _ b_117) (fun _ h9 => h9) rfl dTr_reach_5 ?_
  refine lv_iadd hx hb dTr_reach_8 ?_
  exact W.iret (v := (tes t) + (tdo t)) hx hb hr (fun t9 ht hW => ⟨⟨(tes t) + (tdo t), (), rfl, (by first | rfl | (simp only [tReach] <;> rfl)), trivial⟩, hS.F ht⟩) hS.2.2 dTr_reach_9
set_option maxHeartbeats 4000000 in
set_option maxRecDepth 100000 in
/-- tail -/
theorem c_Tr_tail (l : Launch) (D : va_G) (g : Nat → ClassId) (a : Nat → Nat → Nat) (t : zTr) : mk_Rd l yTr_tail wsTr_tail ({ frames := 0, cells := 0, slots := 0, locals := 0 }) D vwCl (zty g) [.ref (a 0 0)] (wTr g a t) (tTail t) := by
  intro sz
  refine Met.ofW (cc := cTr_tail) (maxL := 1) (ret := (some .int)) (by decide) rfl ?_
  intro p e s m args below meth cd s₁ B hml hv
  obtain ⟨rfl, hsz, hP, hK, hD0⟩ := hv
  have hx := B.exec
  have hb := B.bytes
  have hr := B.returns
  have hts := atoms_spec (ws := wsTr_tail) B.pre
  have htB := fun (w : Cond) (h : w ∈ BIG) => hts w (List.mem_cons_of_mem _ h)
  have hown : s.vm.findClass RTr = some m.cls := findClass_of_methodNamed B.named
  have hlocks := B.notSynchronized
  subst hsz
  have hD := hD0
  have hA : ∀ q : Nat, s.heap.size ≤ q → (fun q => s.heap.size ≤ q) q := fun _ h => h
  have hS : va_S (fun q => s.heap.size ≤ q) s.heap s.heap [] := va_S.rf
  have hl := lv_entry ([.ref (a 0 0)]) (n := 1) (Nat.le_of_ble_eq_true rfl)
  rw [lg_entry_eq]
  generalize (lg_sl ([.ref (a 0 0)]) ++ List.replicate (1 - (lg_sl ([.ref (a 0 0)])).length) Slot.unset).toArray = ls at hl ⊢
  have hl : lv_has ls 1 [(0, .ref (a 0 0))] := hl
  have hP : va_P D vwCl (wTr g a t) s.heap := hP
  refine lv_aload_n hx hb dTr_tail_0 rfl (lv_at hl 0 rfl) ?_
  refine va_get (D := D) (ci := iTr) (v := .int (tes t)) (C := RTr) (T := TTr) (N := 11) hx hb htB inBTr hown hK hP 0 rfl rfl 5 (by decide) (htB _ b_115) (fun _ h9 => h9) rfl dTr_tail_1 ?_
  refine lv_aload_n hx hb dTr_tail_4 rfl (lv_at hl 0 rfl) ?_
  refine va_get (D := D) (ci := iTr) (v := .int (tdo t)) (C := RTr) (T := TTr) (N := 11) hx hb htB inBTr hown hK hP 0 rfl rfl 6 (by decide) (htB _ b_117) (fun _ h9 => h9) rfl dTr_tail_5 ?_
  refine lv_isub hx hb dTr_tail_8 ?_
  refine lv_aload_n hx hb dTr_tail_9 rfl (lv_at hl 0 rfl) ?_
  refine va_get (D := D) (ci := iTr) (v := .int (tle t)) (C := RTr) (T := TTr) (N := 11) hx hb htB inBTr hown hK hP 0 rfl rfl 2 (by decide) (htB _ b_110) (fun _ h9 => h9) rfl dTr_tail_10 ?_
  refine lv_isub hx hb dTr_tail_13 ?_
  exact W.iret (v := ((tes t) - (tdo t)) - (tle t)) hx hb hr (fun t9 ht hW => ⟨⟨((tes t) - (tdo t)) - (tle t), (), rfl, (by first | rfl | (simp only [tTail] <;> rfl)), trivial⟩, hS.F ht⟩) hS.2.2 dTr_tail_14
set_option maxHeartbeats 4000000 in
set_option maxRecDepth 100000 in
/-- place -/
theorem c_Tr_place (l : Launch) (D : va_G) (g : Nat → ClassId) (a : Nat → Nat → Nat) (t : zTr) (le fr : Int32) : mk_Wv l yTr_place wsTr_place ({ frames := 0, cells := 0, slots := 0, locals := 0 }) D vwCl (zty g) [.ref (a 0 0), .int le, .int fr] (wTr g a t) (wTr g a (tPlace t le fr)) := by
  intro sz
  refine Met.ofW (cc := cTr_place) (maxL := 3) (ret := none) (by decide) rfl ?_
  intro p e s m args below meth cd s₁ B hml hv
  obtain ⟨rfl, hsz, hP, hK, hD0⟩ := hv
  have hx := B.exec
  have hb := B.bytes
  have hr := B.returns
  have hts := atoms_spec (ws := wsTr_place) B.pre
  have htB := fun (w : Cond) (h : w ∈ BIG) => hts w (List.mem_cons_of_mem _ h)
  have hown : s.vm.findClass RTr = some m.cls := findClass_of_methodNamed B.named
  have hlocks := B.notSynchronized
  subst hsz
  have hD := hD0.self (sz := s.heap.size)
  generalize hAe : va_A (wTr g a t) s.heap.size = A at hD ⊢
  have hA : ∀ q : Nat, s.heap.size ≤ q → A q := fun q h => by rw [← hAe]; exact Or.inr h
  have hS : va_S A s.heap s.heap [] := va_S.rf
  have hl := lv_entry ([.ref (a 0 0), .int le, .int fr]) (n := 3) (Nat.le_of_ble_eq_true rfl)
  rw [lg_entry_eq]
  generalize (lg_sl ([.ref (a 0 0), .int le, .int fr]) ++ List.replicate (3 - (lg_sl ([.ref (a 0 0), .int le, .int fr])).length) Slot.unset).toArray = ls at hl ⊢
  have hl : lv_has ls 3 [(0, .ref (a 0 0)), (1, .int le), (2, .int fr)] := hl
  have hP : va_P D vwCl (wTr g a t) s.heap := hP
  refine lv_aload_n hx hb dTr_place_0 rfl (lv_at hl 0 rfl) ?_
  refine lv_iload_n hx hb dTr_place_1 rfl (lv_at hl 1 rfl) ?_
  refine va_put (D := D) (ci := iTr) (v := .int le) (ty := .int) (C := RTr) (T := TTr) (N := 11) hx hb htB inBTr tyTr tyTr_ok nmTr hown hK hP hD hS 0 rfl rfl 2 (by decide) (htB _ b_110) (fun _ h9 => h9) rfl (by decide +kernel) rfl rfl (Nat.le_of_ble_eq_true rfl) dTr_place_2 (fun H locs hP hD hS => ?_)
  have hP : va_P D vwCl (wTr g a ((trp t), (tau t), le, (tfr t), (tsp t), (tes t), (tdo t), (tde t), (tdr t), (tem t), (tec t))) H := hP
  have hD : va_D A (wTr g a ((trp t), (tau t), le, (tfr t), (tsp t), (tes t), (tdo t), (tde t), (tdr t), (tem t), (tec t))) := hD
  refine lv_aload_n hx hb dTr_place_5 rfl (lv_at hl 0 rfl) ?_
  refine lv_iload_n hx hb dTr_place_6 rfl (lv_at hl 2 rfl) ?_
  refine va_put (D := D) (ci := iTr) (v := .int fr) (ty := .int) (C := RTr) (T := TTr) (N := 11) hx hb htB inBTr tyTr tyTr_ok nmTr hown hK hP hD hS 0 rfl rfl 3 (by decide) (htB _ b_111) (fun _ h9 => h9) rfl (by decide +kernel) rfl rfl (Nat.le_of_ble_eq_true rfl) dTr_place_7 (fun H locs hP hD hS => ?_)
  have hP : va_P D vwCl (wTr g a ((trp t), (tau t), le, fr, (tsp t), (tes t), (tdo t), (tde t), (tdr t), (tem t), (tec t))) H := hP
  have hD : va_D A (wTr g a ((trp t), (tau t), le, fr, (tsp t), (tes t), (tdo t), (tde t), (tdr t), (tem t), (tec t))) := hD
  refine lv_aload_n hx hb dTr_place_10 rfl (lv_at hl 0 rfl) ?_
  refine lv_iload_n hx hb dTr_place_11 rfl (lv_at hl 2 rfl) ?_
  refine va_put (D := D) (ci := iTr) (v := .int fr) (ty := .int) (C := RTr) (T := TTr) (N := 11) hx hb htB inBTr tyTr tyTr_ok nmTr hown hK hP hD hS 0 rfl rfl 5 (by decide) (htB _ b_115) (fun _ h9 => h9) rfl (by decide +kernel) rfl rfl (Nat.le_of_ble_eq_true rfl) dTr_place_12 (fun H locs hP hD hS => ?_)
  have hP : va_P D vwCl (wTr g a ((trp t), (tau t), le, fr, (tsp t), fr, (tdo t), (tde t), (tdr t), (tem t), (tec t))) H := hP
  have hD : va_D A (wTr g a ((trp t), (tau t), le, fr, (tsp t), fr, (tdo t), (tde t), (tdr t), (tem t), (tec t))) := hD
  have hE : wTr g a (tPlace t le fr) = wTr g a ((trp t), (tau t), le, fr, (tsp t), fr, (tdo t), (tde t), (tdr t), (tem t), (tec t)) := (by first | rfl | (simp only [tPlace] <;> rfl))
  exact W.vret hx hb hr (fun t9 ht hW => ⟨⟨(), rfl, trivial, mk_end ht hE hP⟩, hS.F ht⟩) hS.2.2 dTr_place_15
set_option maxHeartbeats 4000000 in
set_option maxRecDepth 100000 in
/-- messagesOnTheWay -/
theorem c_Tr_otw (l : Launch) (D : va_G) (g : Nat → ClassId) (a : Nat → Nat → Nat) (t : zTr) (n : Nat) : mk_Rd l yTr_messagesOnTheWay wsTr_messagesOnTheWay ({ frames := 1, cells := 0, slots := 0, locals := 23 }) D vwCl (zty g) [.ref (a 0 0), .int (nI n)] (wTr g a t) (tOtw t n) := by
  intro sz
  refine Met.ofW (cc := cTr_messagesOnTheWay) (maxL := 2) (ret := (some .int)) (by decide) rfl ?_
  intro p e s m args below meth cd s₁ B hml hv
  obtain ⟨rfl, hsz, hP, hK, hD0⟩ := hv
  have hx := B.exec
  have hb := B.bytes
  have hr := B.returns
  have hts := atoms_spec (ws := wsTr_messagesOnTheWay) B.pre
  have htB := fun (w : Cond) (h : w ∈ BIG) => hts w (List.mem_cons_of_mem _ h)
  have hown : s.vm.findClass RTr = some m.cls := findClass_of_methodNamed B.named
  have hlocks := B.notSynchronized
  subst hsz
  have hD := hD0
  have hA : ∀ q : Nat, s.heap.size ≤ q → (fun q => s.heap.size ≤ q) q := fun _ h => h
  have hS : va_S (fun q => s.heap.size ≤ q) s.heap s.heap [] := va_S.rf
  have hl := lv_entry ([.ref (a 0 0), .int (nI n)]) (n := 2) (Nat.le_of_ble_eq_true rfl)
  rw [lg_entry_eq]
  generalize (lg_sl ([.ref (a 0 0), .int (nI n)]) ++ List.replicate (2 - (lg_sl ([.ref (a 0 0), .int (nI n)])).length) Slot.unset).toArray = ls at hl ⊢
  have hl : lv_has ls 2 [(0, .ref (a 0 0)), (1, .int (nI n))] := hl
  have hP : va_P D vwCl (wTr g a t) s.heap := hP
  refine lv_aload_n hx hb dTr_messagesOnTheWay_0 rfl (lv_at hl 0 rfl) ?_
  refine va_get (D := D) (ci := iTr) (v := .ref (a 1 0)) (C := RTr) (T := TTr) (N := 11) hx hb htB inBTr hown hK hP 0 rfl rfl 0 (by decide) (htB _ b_106) (fun _ h9 => h9) rfl dTr_messagesOnTheWay_1 ?_
  refine lv_iload_n hx hb dTr_messagesOnTheWay_4 rfl (lv_at hl 1 rfl) ?_
  refine mk_rdV (As := [.int (nI n)]) (rest := []) (w := (wCh g (a 1) (trp t))) (q0 := (RCh, TCh, 10)) (ci := iCh) ⟨hx, hb, hml, hown, hts⟩ (c_Ch_onTheWay l D g (a 1) (trp t) n) (cwV 1 hts (gd_V b_329 b_330 b_331 b_5 b_332) rfl rfl rfl (by decide +kernel) ⟨Nat.le_of_ble_eq_true rfl, Nat.le_of_ble_eq_true rfl⟩) hK hP hD hS hA [1, 2, 3, 4, 5] rfl (by decide) rfl rfl rfl hl.1 rfl (Nat.le_of_ble_eq_true rfl) dTr_messagesOnTheWay_5 ⟨Nat.zero_le _, Nat.zero_le _⟩ (fun H locs hP hS => ?_)
  refine lv_aload_n hx hb dTr_messagesOnTheWay_8 rfl (lv_at hl 0 rfl) ?_
  refine va_get (D := D) (ci := iTr) (v := .ref (a 2 0)) (C := RTr) (T := TTr) (N := 11) hx hb htB inBTr hown hK hP 0 rfl rfl 1 (by decide) (htB _ b_108) (fun _ h9 => h9) rfl dTr_messagesOnTheWay_9 ?_
  refine lv_iload_n hx hb dTr_messagesOnTheWay_12 rfl (lv_at hl 1 rfl) ?_
  refine mk_rdV (As := [.int (nI n)]) (rest := [.int (cOtw (trp t) n)]) (w := (wCh g (a 2) (tau t))) (q0 := (RCh, TCh, 10)) (ci := iCh) ⟨hx, hb, hml, hown, hts⟩ (c_Ch_onTheWay l D g (a 2) (tau t) n) (cwV 1 hts (gd_V b_329 b_330 b_331 b_5 b_332) rfl rfl rfl (by decide +kernel) ⟨Nat.le_of_ble_eq_true rfl, Nat.le_of_ble_eq_true rfl⟩) hK hP hD hS hA [6, 7, 8, 9, 10] rfl (by decide) rfl rfl rfl hl.1 rfl (Nat.le_of_ble_eq_true rfl) dTr_messagesOnTheWay_13 ⟨Nat.zero_le _, Nat.zero_le _⟩ (fun H locs hP hS => ?_)
  refine lv_iadd hx hb dTr_messagesOnTheWay_16 ?_
  exact W.iret (v := (cOtw (trp t) n) + (cOtw (tau t) n)) hx hb hr (fun t9 ht hW => ⟨⟨(cOtw (trp t) n) + (cOtw (tau t) n), (), rfl, (by first | rfl | (simp only [tOtw] <;> rfl)), trivial⟩, hS.F ht⟩) hS.2.2 dTr_messagesOnTheWay_17
set_option maxHeartbeats 4000000 in
set_option maxRecDepth 100000 in
/-- sendReport -/
theorem c_Tr_sendReport (l : Launch) (D : va_G) (g : Nat → ClassId) (a : Nat → Nat → Nat) (t : zTr) (n : Nat) (hn : n < 1000000) : mk_Wv l yTr_sendReport wsTr_sendReport ({ frames := 2, cells := 0, slots := 0, locals := 46 }) D vwCl (zty g) [.ref (a 0 0), .int (nI n)] (wTr g a t) (wTr g a (tSendR t n)) := by
  intro sz
  refine Met.ofW (cc := cTr_sendReport) (maxL := 2) (ret := none) (by decide) rfl ?_
  intro p e s m args below meth cd s₁ B hml hv
  obtain ⟨rfl, hsz, hP, hK, hD0⟩ := hv
  have hx := B.exec
  have hb := B.bytes
  have hr := B.returns
  have hts := atoms_spec (ws := wsTr_sendReport) B.pre
  have htB := fun (w : Cond) (h : w ∈ BIG) => hts w (List.mem_cons_of_mem _ h)
  have hown : s.vm.findClass RTr = some m.cls := findClass_of_methodNamed B.named
  have hlocks := B.notSynchronized
  subst hsz
  have hD := hD0.self (sz := s.heap.size)
  generalize hAe : va_A (wTr g a t) s.heap.size = A at hD ⊢
  have hA : ∀ q : Nat, s.heap.size ≤ q → A q := fun q h => by rw [← hAe]; exact Or.inr h
  have hS : va_S A s.heap s.heap [] := va_S.rf
  have hl := lv_entry ([.ref (a 0 0), .int (nI n)]) (n := 2) (Nat.le_of_ble_eq_true rfl)
  rw [lg_entry_eq]
  generalize (lg_sl ([.ref (a 0 0), .int (nI n)]) ++ List.replicate (2 - (lg_sl ([.ref (a 0 0), .int (nI n)])).length) Slot.unset).toArray = ls at hl ⊢
  have hl : lv_has ls 2 [(0, .ref (a 0 0)), (1, .int (nI n))] := hl
  have hP : va_P D vwCl (wTr g a t) s.heap := hP
  refine lv_aload_n hx hb dTr_sendReport_0 rfl (lv_at hl 0 rfl) ?_
  refine va_get (D := D) (ci := iTr) (v := .ref (a 1 0)) (C := RTr) (T := TTr) (N := 11) hx hb htB inBTr hown hK hP 0 rfl rfl 0 (by decide) (htB _ b_106) (fun _ h9 => h9) rfl dTr_sendReport_1 ?_
  refine lv_iload_n hx hb dTr_sendReport_4 rfl (lv_at hl 1 rfl) ?_
  refine lv_aload_n hx hb dTr_sendReport_5 rfl (lv_at hl 0 rfl) ?_
  refine mk_rdV (As := []) (rest := [.int (nI n), .ref (a 1 0)]) (w := (wTr g a t)) (q0 := (RTr, TTr, 11)) (ci := iTr) ⟨hx, hb, hml, hown, hts⟩ (c_Tr_reach l D g a t ) (cwV 0 hts (gd_V b_222 b_223 b_224 b_4 b_225) rfl rfl rfl (by decide +kernel) ⟨Nat.le_of_ble_eq_true rfl, Nat.le_of_ble_eq_true rfl⟩) hK hP hD hS hA [0, 1, 2, 3, 4, 5, 6, 7, 8, 9, 10] rfl (by decide) rfl rfl rfl hl.1 rfl (Nat.le_of_ble_eq_true rfl) dTr_sendReport_6 ⟨Nat.zero_le _, Nat.zero_le _⟩ (fun H locs hP hS => ?_)
  refine lv_aload_n hx hb dTr_sendReport_9 rfl (lv_at hl 0 rfl) ?_
  refine mk_rdV (As := []) (rest := [.int (tReach t), .int (nI n), .ref (a 1 0)]) (w := (wTr g a t)) (q0 := (RTr, TTr, 11)) (ci := iTr) ⟨hx, hb, hml, hown, hts⟩ (c_Tr_tail l D g a t ) (cwV 0 hts (gd_V b_226 b_227 b_228 b_4 b_229) rfl rfl rfl (by decide +kernel) ⟨Nat.le_of_ble_eq_true rfl, Nat.le_of_ble_eq_true rfl⟩) hK hP hD hS hA [0, 1, 2, 3, 4, 5, 6, 7, 8, 9, 10] rfl (by decide) rfl rfl rfl hl.1 rfl (Nat.le_of_ble_eq_true rfl) dTr_sendReport_10 ⟨Nat.zero_le _, Nat.zero_le _⟩ (fun H locs hP hS => ?_)
  refine mk_wrV (As := [.int (nI n), .int (tReach t), .int (tTail t)]) (rest := []) (w := (wCh g (a 1) (trp t))) (q0 := (RCh, TCh, 10)) (ci := iCh) (w2 := (wCh g (a 1) (cSend (trp t) n (tReach t) (tTail t)))) ⟨hx, hb, hml, hown, hts⟩ (c_Ch_send l D g (a 1) (trp t) n (tReach t) (tTail t) hn) (cwV 3 hts (gd_V b_230 b_231 b_232 b_5 b_233) rfl rfl rfl (by decide +kernel) ⟨Nat.le_of_ble_eq_true rfl, Nat.le_of_ble_eq_true rfl⟩) hK hP hD hS hA [1, 2, 3, 4, 5] rfl (by decide) fst_Ch rfl rfl rfl hl.1 rfl (Nat.le_of_ble_eq_true rfl) dTr_sendReport_13 ⟨Nat.zero_le _, Nat.zero_le _⟩ (fun H locs hP hD hS => ?_)
  have hP : va_P D vwCl (wTr g a ((cSend (trp t) n (tReach t) (tTail t)), (tau t), (tle t), (tfr t), (tsp t), (tes t), (tdo t), (tde t), (tdr t), (tem t), (tec t))) H := hP
  have hD : va_D A (wTr g a ((cSend (trp t) n (tReach t) (tTail t)), (tau t), (tle t), (tfr t), (tsp t), (tes t), (tdo t), (tde t), (tdr t), (tem t), (tec t))) := hD
  have hE : wTr g a (tSendR t n) = wTr g a ((cSend (trp t) n (tReach t) (tTail t)), (tau t), (tle t), (tfr t), (tsp t), (tes t), (tdo t), (tde t), (tdr t), (tem t), (tec t)) := (by first | rfl | (simp only [tSendR] <;> rfl))
  exact W.vret hx hb hr (fun t9 ht hW => ⟨⟨(), rfl, trivial, mk_end ht hE hP⟩, hS.F ht⟩) hS.2.2 dTr_sendReport_16
set_option maxHeartbeats 4000000 in
set_option maxRecDepth 100000 in
/-- hasFreshAuthority -/
theorem c_Tr_fresh (l : Launch) (D : va_G) (g : Nat → ClassId) (a : Nat → Nat → Nat) (t : zTr) (n : Nat) : mk_Rd l yTr_hasFreshAuthority wsTr_hasFreshAuthority ({ frames := 1, cells := 0, slots := 0, locals := 20 }) D vwCl (zty g) [.ref (a 0 0), .int (nI n)] (wTr g a t) (bI (tFresh t n)) := by
  intro sz
  refine Met.ofW (cc := cTr_hasFreshAuthority) (maxL := 2) (ret := (some .boolean)) (by decide) rfl ?_
  intro p e s m args below meth cd s₁ B hml hv
  obtain ⟨rfl, hsz, hP, hK, hD0⟩ := hv
  have hx := B.exec
  have hb := B.bytes
  have hr := B.returns
  have hts := atoms_spec (ws := wsTr_hasFreshAuthority) B.pre
  have htB := fun (w : Cond) (h : w ∈ BIG) => hts w (List.mem_cons_of_mem _ h)
  have hown : s.vm.findClass RTr = some m.cls := findClass_of_methodNamed B.named
  have hlocks := B.notSynchronized
  subst hsz
  have hD := hD0
  have hA : ∀ q : Nat, s.heap.size ≤ q → (fun q => s.heap.size ≤ q) q := fun _ h => h
  have hS : va_S (fun q => s.heap.size ≤ q) s.heap s.heap [] := va_S.rf
  have hl := lv_entry ([.ref (a 0 0), .int (nI n)]) (n := 2) (Nat.le_of_ble_eq_true rfl)
  rw [lg_entry_eq]
  generalize (lg_sl ([.ref (a 0 0), .int (nI n)]) ++ List.replicate (2 - (lg_sl ([.ref (a 0 0), .int (nI n)])).length) Slot.unset).toArray = ls at hl ⊢
  have hl : lv_has ls 2 [(0, .ref (a 0 0)), (1, .int (nI n))] := hl
  have hP : va_P D vwCl (wTr g a t) s.heap := hP
  refine lv_aload_n hx hb dTr_hasFreshAuthority_0 rfl (lv_at hl 0 rfl) ?_
  refine va_get (D := D) (ci := iTr) (v := .ref (a 2 0)) (C := RTr) (T := TTr) (N := 11) hx hb htB inBTr hown hK hP 0 rfl rfl 1 (by decide) (htB _ b_108) (fun _ h9 => h9) rfl dTr_hasFreshAuthority_1 ?_
  refine mk_rdV (As := []) (rest := []) (w := (wCh g (a 2) (tau t))) (q0 := (RCh, TCh, 10)) (ci := iCh) ⟨hx, hb, hml, hown, hts⟩ (c_Ch_wasTaken l D g (a 2) (tau t) ) (cwV 0 hts (gd_V b_279 b_250 b_251 b_5 b_252) rfl rfl rfl (by decide +kernel) ⟨Nat.le_of_ble_eq_true rfl, Nat.le_of_ble_eq_true rfl⟩) hK hP hD hS hA [6, 7, 8, 9, 10] rfl (by decide) rfl rfl rfl hl.1 rfl (Nat.le_of_ble_eq_true rfl) dTr_hasFreshAuthority_4 ⟨Nat.zero_le _, Nat.zero_le _⟩ (fun H locs hP hS => ?_)
  refine lv_if_eq (tgt := 27) hx hb dTr_hasFreshAuthority_7 (by decide) (fun c_1 => ?_) (fun c_1 => ?_)
  · refine lv_iconst (v := 0) hx hb dTr_hasFreshAuthority_27 (by decide) ?_
    exact W.zret (v := 0) hx hb hr rfl (fun t9 ht hW => ⟨⟨0, (), rfl, (by simp only [tFresh, if_pos c_1] <;> rfl), trivial⟩, hS.F ht⟩) hS.2.2 dTr_hasFreshAuthority_28
  · refine lv_iload_n hx hb dTr_hasFreshAuthority_10 rfl (lv_at hl 1 rfl) ?_
    refine lv_aload_n hx hb dTr_hasFreshAuthority_11 rfl (lv_at hl 0 rfl) ?_
    refine va_get (D := D) (ci := iTr) (v := .ref (a 2 0)) (C := RTr) (T := TTr) (N := 11) hx hb htB inBTr hown hK hP 0 rfl rfl 1 (by decide) (htB _ b_108) (fun _ h9 => h9) rfl dTr_hasFreshAuthority_12 ?_
    refine va_get (D := D) (ci := iCh) (v := .int (csp (tau t))) (C := RCh) (T := TCh) (N := 10) hx hb htB inBCh hown hK hP 6 rfl rfl 5 (by decide) (htB _ b_74) (fun _ h9 => h9) rfl dTr_hasFreshAuthority_15 ?_
    refine lv_isub hx hb dTr_hasFreshAuthority_18 ?_
    refine lv_iconst (v := 5) hx hb dTr_hasFreshAuthority_19 (by decide) ?_
    refine lv_icmp_gt (tgt := 27) hx hb dTr_hasFreshAuthority_20 (by decide) (fun c_2 => ?_) (fun c_2 => ?_)
    · refine lv_iconst (v := 0) hx hb dTr_hasFreshAuthority_27 (by decide) ?_
      exact W.zret (v := 0) hx hb hr rfl (fun t9 ht hW => ⟨⟨0, (), rfl, (by simp only [tFresh, if_neg c_1, if_pos c_2] <;> rfl), trivial⟩, hS.F ht⟩) hS.2.2 dTr_hasFreshAuthority_28
    · refine lv_iconst (v := 1) hx hb dTr_hasFreshAuthority_23 (by decide) ?_
      refine lv_goto (tgt := 28) hx hb dTr_hasFreshAuthority_24 (by decide) ?_
      exact W.zret (v := 1) hx hb hr rfl (fun t9 ht hW => ⟨⟨1, (), rfl, (by simp only [tFresh, if_neg c_1, if_neg c_2] <;> rfl), trivial⟩, hS.F ht⟩) hS.2.2 dTr_hasFreshAuthority_28
set_option maxHeartbeats 4000000 in
set_option maxRecDepth 100000 in
/-- greatestSafeSquareHere -/
theorem c_Tr_here (l : Launch) (D : va_G) (g : Nat → ClassId) (a : Nat → Nat → Nat) (t : zTr) (b : Nat → Nat) (k : zTk) : mk_Rd l yTr_greatestSafeSquareHere wsTr_greatestSafeSquareHere ({ frames := 2, cells := 0, slots := 0, locals := 48 }) D vwCl (zty g) [.ref (a 0 0), .ref (b 0)] (wTr g a t ++ wTk g b k) (tHere t k) := by
  intro sz
  refine Met.ofW (cc := cTr_greatestSafeSquareHere) (maxL := 2) (ret := (some .int)) (by decide) rfl ?_
  intro p e s m args below meth cd s₁ B hml hv
  obtain ⟨rfl, hsz, hP, hK, hD0⟩ := hv
  have hx := B.exec
  have hb := B.bytes
  have hr := B.returns
  have hts := atoms_spec (ws := wsTr_greatestSafeSquareHere) B.pre
  have htB := fun (w : Cond) (h : w ∈ BIG) => hts w (List.mem_cons_of_mem _ h)
  have hown : s.vm.findClass RTr = some m.cls := findClass_of_methodNamed B.named
  have hlocks := B.notSynchronized
  subst hsz
  have hD := hD0
  have hA : ∀ q : Nat, s.heap.size ≤ q → (fun q => s.heap.size ≤ q) q := fun _ h => h
  have hS : va_S (fun q => s.heap.size ≤ q) s.heap s.heap [] := va_S.rf
  have hl := lv_entry ([.ref (a 0 0), .ref (b 0)]) (n := 2) (Nat.le_of_ble_eq_true rfl)
  rw [lg_entry_eq]
  generalize (lg_sl ([.ref (a 0 0), .ref (b 0)]) ++ List.replicate (2 - (lg_sl ([.ref (a 0 0), .ref (b 0)])).length) Slot.unset).toArray = ls at hl ⊢
  have hl : lv_has ls 2 [(0, .ref (a 0 0)), (1, .ref (b 0))] := hl
  have hP : va_P D vwCl (wTr g a t ++ wTk g b k) s.heap := hP
  refine lv_aload_n hx hb dTr_greatestSafeSquareHere_0 rfl (lv_at hl 0 rfl) ?_
  refine va_get (D := D) (ci := iTr) (v := .ref (a 2 0)) (C := RTr) (T := TTr) (N := 11) hx hb htB inBTr hown hK hP 0 rfl rfl 1 (by decide) (htB _ b_108) (fun _ h9 => h9) rfl dTr_greatestSafeSquareHere_1 ?_
  refine mk_rdV (As := []) (rest := []) (w := (wCh g (a 2) (tau t))) (q0 := (RCh, TCh, 10)) (ci := iCh) ⟨hx, hb, hml, hown, hts⟩ (c_Ch_wasTaken l D g (a 2) (tau t) ) (cwV 0 hts (gd_V b_279 b_250 b_251 b_5 b_252) rfl rfl rfl (by decide +kernel) ⟨Nat.le_of_ble_eq_true rfl, Nat.le_of_ble_eq_true rfl⟩) hK hP hD hS hA [6, 7, 8, 9, 10] rfl (by decide) rfl rfl rfl hl.1 rfl (Nat.le_of_ble_eq_true rfl) dTr_greatestSafeSquareHere_4 ⟨Nat.zero_le _, Nat.zero_le _⟩ (fun H locs hP hS => ?_)
  refine lv_if_eq (tgt := 32) hx hb dTr_greatestSafeSquareHere_7 (by decide) (fun c_1 => ?_) (fun c_1 => ?_)
  · refine lv_iconst (v := (-1)) hx hb dTr_greatestSafeSquareHere_32 (by decide) ?_
    exact W.iret (v := (-1)) hx hb hr (fun t9 ht hW => ⟨⟨(-1), (), rfl, (by simp only [tHere, if_pos c_1] <;> rfl), trivial⟩, hS.F ht⟩) hS.2.2 dTr_greatestSafeSquareHere_33
  · refine lv_aload_n hx hb dTr_greatestSafeSquareHere_10 rfl (lv_at hl 1 rfl) ?_
    refine lv_aload_n hx hb dTr_greatestSafeSquareHere_11 rfl (lv_at hl 0 rfl) ?_
    refine va_get (D := D) (ci := iTr) (v := .ref (a 2 0)) (C := RTr) (T := TTr) (N := 11) hx hb htB inBTr hown hK hP 0 rfl rfl 1 (by decide) (htB _ b_108) (fun _ h9 => h9) rfl dTr_greatestSafeSquareHere_12 ?_
    refine va_get (D := D) (ci := iCh) (v := .int (cf1 (tau t))) (C := RCh) (T := TCh) (N := 10) hx hb htB inBCh hown hK hP 6 rfl rfl 6 (by decide) (htB _ b_77) (fun _ h9 => h9) rfl dTr_greatestSafeSquareHere_15 ?_
    refine lv_aload_n hx hb dTr_greatestSafeSquareHere_18 rfl (lv_at hl 0 rfl) ?_
    refine mk_rdV (As := []) (rest := [.int (cf1 (tau t)), .ref (b 0)]) (w := (wTr g a t)) (q0 := (RTr, TTr, 11)) (ci := iTr) ⟨hx, hb, hml, hown, hts⟩ (c_Tr_reach l D g a t ) (cwV 0 hts (gd_V b_222 b_223 b_224 b_4 b_225) rfl rfl rfl (by decide +kernel) ⟨Nat.le_of_ble_eq_true rfl, Nat.le_of_ble_eq_true rfl⟩) hK hP hD hS hA [0, 1, 2, 3, 4, 5, 6, 7, 8, 9, 10] rfl (by decide) rfl rfl rfl hl.1 rfl (Nat.le_of_ble_eq_true rfl) dTr_greatestSafeSquareHere_19 ⟨Nat.zero_le _, Nat.zero_le _⟩ (fun H locs hP hS => ?_)
    refine lv_aload_n hx hb dTr_greatestSafeSquareHere_22 rfl (lv_at hl 0 rfl) ?_
    refine mk_rdV (As := []) (rest := [.int (tReach t), .int (cf1 (tau t)), .ref (b 0)]) (w := (wTr g a t)) (q0 := (RTr, TTr, 11)) (ci := iTr) ⟨hx, hb, hml, hown, hts⟩ (c_Tr_tail l D g a t ) (cwV 0 hts (gd_V b_226 b_227 b_228 b_4 b_229) rfl rfl rfl (by decide +kernel) ⟨Nat.le_of_ble_eq_true rfl, Nat.le_of_ble_eq_true rfl⟩) hK hP hD hS hA [0, 1, 2, 3, 4, 5, 6, 7, 8, 9, 10] rfl (by decide) rfl rfl rfl hl.1 rfl (Nat.le_of_ble_eq_true rfl) dTr_greatestSafeSquareHere_23 ⟨Nat.zero_le _, Nat.zero_le _⟩ (fun H locs hP hS => ?_)
    refine mk_rdV (As := [.int (cf1 (tau t)), .int (tReach t), .int (tTail t)]) (rest := []) (w := (wTk g b k)) (q0 := (RTk, TTk, 2)) (ci := iTk) ⟨hx, hb, hml, hown, hts⟩ (c_Tk_gss l D g b k (cf1 (tau t)) (tReach t) (tTail t)) (cwV 3 hts (gd_V b_284 b_285 b_286 b_2 b_287) rfl rfl rfl (by decide +kernel) ⟨Nat.le_of_ble_eq_true rfl, Nat.le_of_ble_eq_true rfl⟩) hK hP hD hS hA [11, 12, 13] rfl (by decide) rfl rfl rfl hl.1 rfl (Nat.le_of_ble_eq_true rfl) dTr_greatestSafeSquareHere_26 ⟨Nat.zero_le _, Nat.zero_le _⟩ (fun H locs hP hS => ?_)
    refine lv_goto (tgt := 33) hx hb dTr_greatestSafeSquareHere_29 (by decide) ?_
    exact W.iret (v := gss k (cf1 (tau t)) (tReach t) (tTail t)) hx hb hr (fun t9 ht hW => ⟨⟨gss k (cf1 (tau t)) (tReach t) (tTail t), (), rfl, (by simp only [tHere, if_neg c_1] <;> rfl), trivial⟩, hS.F ht⟩) hS.2.2 dTr_greatestSafeSquareHere_33
set_option maxHeartbeats 4000000 in
set_option maxRecDepth 100000 in
/-- speedAfter -/
theorem c_Tr_after (l : Launch) (D : va_G) (g : Nat → ClassId) (a : Nat → Nat → Nat) (t : zTr) (b : Nat → Nat) (k : zTk) (pu : Int32) : mk_Rd l yTr_speedAfter wsTr_speedAfter ({ frames := 1, cells := 0, slots := 0, locals := 21 }) D vwCl (zty g) [.ref (a 0 0), .int pu, .ref (b 0)] (wTr g a t ++ wTk g b k) (tAfter t pu k) := by
  intro sz
  refine Met.ofW (cc := cTr_speedAfter) (maxL := 3) (ret := (some .int)) (by decide) rfl ?_
  intro p e s m args below meth cd s₁ B hml hv
  obtain ⟨rfl, hsz, hP, hK, hD0⟩ := hv
  have hx := B.exec
  have hb := B.bytes
  have hr := B.returns
  have hts := atoms_spec (ws := wsTr_speedAfter) B.pre
  have htB := fun (w : Cond) (h : w ∈ BIG) => hts w (List.mem_cons_of_mem _ h)
  have hown : s.vm.findClass RTr = some m.cls := findClass_of_methodNamed B.named
  have hlocks := B.notSynchronized
  subst hsz
  have hD := hD0
  have hA : ∀ q : Nat, s.heap.size ≤ q → (fun q => s.heap.size ≤ q) q := fun _ h => h
  have hS : va_S (fun q => s.heap.size ≤ q) s.heap s.heap [] := va_S.rf
  have hl := lv_entry ([.ref (a 0 0), .int pu, .ref (b 0)]) (n := 3) (Nat.le_of_ble_eq_true rfl)
  rw [lg_entry_eq]
  generalize (lg_sl ([.ref (a 0 0), .int pu, .ref (b 0)]) ++ List.replicate (3 - (lg_sl ([.ref (a 0 0), .int pu, .ref (b 0)])).length) Slot.unset).toArray = ls at hl ⊢
  have hl : lv_has ls 3 [(0, .ref (a 0 0)), (1, .int pu), (2, .ref (b 0))] := hl
  have hP : va_P D vwCl (wTr g a t ++ wTk g b k) s.heap := hP
  refine lv_iconst (v := 0) hx hb dTr_speedAfter_0 (by decide) ?_
  refine lv_aload_n hx hb dTr_speedAfter_1 rfl (lv_at hl 0 rfl) ?_
  refine va_get (D := D) (ci := iTr) (v := .int (tsp t)) (C := RTr) (T := TTr) (N := 11) hx hb htB inBTr hown hK hP 0 rfl rfl 4 (by decide) (htB _ b_113) (fun _ h9 => h9) rfl dTr_speedAfter_2 ?_
  refine lv_iload_n hx hb dTr_speedAfter_5 rfl (lv_at hl 1 rfl) ?_
  refine lv_iadd hx hb dTr_speedAfter_6 ?_
  refine lv_iconst (v := 2) hx hb dTr_speedAfter_7 (by decide) ?_
  refine lv_aload_n hx hb dTr_speedAfter_8 rfl (lv_at hl 2 rfl) ?_
  refine va_get (D := D) (ci := iTk) (v := .ref (b 2)) (C := RTk) (T := TTk) (N := 2) hx hb htB inBTk hown hK hP 11 rfl rfl 1 (by decide) (htB _ b_26) (fun _ h9 => h9) rfl dTr_speedAfter_9 ?_
  refine lv_aload_n hx hb dTr_speedAfter_12 rfl (lv_at hl 0 rfl) ?_
  refine va_get (D := D) (ci := iTr) (v := .int (tfr t)) (C := RTr) (T := TTr) (N := 11) hx hb htB inBTr hown hK hP 0 rfl rfl 3 (by decide) (htB _ b_111) (fun _ h9 => h9) rfl dTr_speedAfter_13 ?_
  refine mk_rdS (As := [.int (tfr t)]) (rest := [.ref (b 2), .int 2, .int ((tsp t) + pu), .int 0]) (w := []) ⟨hx, hb, hml, hown, hts⟩ (c_Tk_pieceAt l D g (tfr t)) (va_cwS 1 hts (gd_S b_305 b_289 b_2 b_290) rfl rfl rfl (by decide +kernel) ⟨Nat.le_of_ble_eq_true rfl, Nat.le_of_ble_eq_true rfl⟩) hK hP hD hS hA [] rfl rfl rfl hl.1 rfl (Nat.le_of_ble_eq_true rfl) dTr_speedAfter_16 ⟨Nat.zero_le _, Nat.zero_le _⟩ (fun H locs hP hS => ?_)
  refine mk_iald (k := (nPiece (tfr t))) hx hb hK hP 13 0 rfl rfl rfl ⟨(jPiece_lt _).1, by decide⟩ dTr_speedAfter_19 ?_
  refine lv_imul hx hb dTr_speedAfter_20 ?_
  refine lv_isub hx hb dTr_speedAfter_21 ?_
  refine va_mmax hx hb (by rw [hml]; exact hl.1.symm) hown (htB _ b_306) (htB _ b_307) (htB _ b_7) (htB _ b_308) (Nat.le_of_ble_eq_true rfl) (Nat.le_of_ble_eq_true rfl) (Nat.zero_le _) (Nat.zero_le _) dTr_speedAfter_22 ?_
  exact W.iret (v := mx 0 (((tsp t) + pu) - (2 * ((kgr k) (nPiece (tfr t)))))) hx hb hr (fun t9 ht hW => ⟨⟨mx 0 (((tsp t) + pu) - (2 * ((kgr k) (nPiece (tfr t))))), (), rfl, (by first | rfl | (simp only [tAfter] <;> rfl)), trivial⟩, hS.F ht⟩) hS.2.2 dTr_speedAfter_25
set_option maxHeartbeats 4000000 in
set_option maxRecDepth 100000 in
/-- wayTo -/
theorem c_Tr_wayTo (l : Launch) (D : va_G) (g : Nat → ClassId) (a : Nat → Nat → Nat) (t : zTr) (v : Int32) : mk_Rd l yTr_wayTo wsTr_wayTo ({ frames := 0, cells := 0, slots := 0, locals := 0 }) D vwCl (zty g) [.ref (a 0 0), .int v] (wTr g a t) (tWay t v) := by
  intro sz
  refine Met.ofW (cc := cTr_wayTo) (maxL := 2) (ret := (some .int)) (by decide) rfl ?_
  intro p e s m args below meth cd s₁ B hml hv
  obtain ⟨rfl, hsz, hP, hK, hD0⟩ := hv
  have hx := B.exec
  have hb := B.bytes
  have hr := B.returns
  have hts := atoms_spec (ws := wsTr_wayTo) B.pre
  have htB := fun (w : Cond) (h : w ∈ BIG) => hts w (List.mem_cons_of_mem _ h)
  have hown : s.vm.findClass RTr = some m.cls := findClass_of_methodNamed B.named
  have hlocks := B.notSynchronized
  subst hsz
  have hD := hD0
  have hA : ∀ q : Nat, s.heap.size ≤ q → (fun q => s.heap.size ≤ q) q := fun _ h => h
  have hS : va_S (fun q => s.heap.size ≤ q) s.heap s.heap [] := va_S.rf
  have hl := lv_entry ([.ref (a 0 0), .int v]) (n := 2) (Nat.le_of_ble_eq_true rfl)
  rw [lg_entry_eq]
  generalize (lg_sl ([.ref (a 0 0), .int v]) ++ List.replicate (2 - (lg_sl ([.ref (a 0 0), .int v])).length) Slot.unset).toArray = ls at hl ⊢
  have hl : lv_has ls 2 [(0, .ref (a 0 0)), (1, .int v)] := hl
  have hP : va_P D vwCl (wTr g a t) s.heap := hP
  refine lv_aload_n hx hb dTr_wayTo_0 rfl (lv_at hl 0 rfl) ?_
  refine va_get (D := D) (ci := iTr) (v := .int (tsp t)) (C := RTr) (T := TTr) (N := 11) hx hb htB inBTr hown hK hP 0 rfl rfl 4 (by decide) (htB _ b_113) (fun _ h9 => h9) rfl dTr_wayTo_1 ?_
  refine lv_iload_n hx hb dTr_wayTo_4 rfl (lv_at hl 1 rfl) ?_
  refine lv_iadd hx hb dTr_wayTo_5 ?_
  refine lv_iconst (v := 2) hx hb dTr_wayTo_6 (by decide) ?_
  refine lv_idiv hx hb dTr_wayTo_7 (by decide) ?_
  exact W.iret (v := ((tsp t) + v) / 2) hx hb hr (fun t9 ht hW => ⟨⟨((tsp t) + v) / 2, (), rfl, (by first | rfl | (simp only [tWay] <;> rfl)), trivial⟩, hS.F ht⟩) hS.2.2 dTr_wayTo_8
set_option maxHeartbeats 4000000 in
set_option maxRecDepth 100000 in
/-- staysSafe -/
theorem c_Tr_stays (l : Launch) (D : va_G) (g : Nat → ClassId) (a : Nat → Nat → Nat) (t : zTr) (b : Nat → Nat) (k : zTk) (pu : Int32) : mk_Rd l yTr_staysSafe wsTr_staysSafe ({ frames := 2, cells := 0, slots := 0, locals := 48 }) D vwCl (zty g) [.ref (a 0 0), .int pu, .ref (b 0)] (wTr g a t ++ wTk g b k) (bI (tStays t pu k)) := by
  intro sz
  refine Met.ofW (cc := cTr_staysSafe) (maxL := 6) (ret := (some .boolean)) (by decide) rfl ?_
  intro p e s m args below meth cd s₁ B hml hv
  obtain ⟨rfl, hsz, hP, hK, hD0⟩ := hv
  have hx := B.exec
  have hb := B.bytes
  have hr := B.returns
  have hts := atoms_spec (ws := wsTr_staysSafe) B.pre
  have htB := fun (w : Cond) (h : w ∈ BIG) => hts w (List.mem_cons_of_mem _ h)
  have hown : s.vm.findClass RTr = some m.cls := findClass_of_methodNamed B.named
  have hlocks := B.notSynchronized
  subst hsz
  have hD := hD0
  have hA : ∀ q : Nat, s.heap.size ≤ q → (fun q => s.heap.size ≤ q) q := fun _ h => h
  have hS : va_S (fun q => s.heap.size ≤ q) s.heap s.heap [] := va_S.rf
  have hl := lv_entry ([.ref (a 0 0), .int pu, .ref (b 0)]) (n := 6) (Nat.le_of_ble_eq_true rfl)
  rw [lg_entry_eq]
  generalize (lg_sl ([.ref (a 0 0), .int pu, .ref (b 0)]) ++ List.replicate (6 - (lg_sl ([.ref (a 0 0), .int pu, .ref (b 0)])).length) Slot.unset).toArray = ls at hl ⊢
  have hl : lv_has ls 6 [(0, .ref (a 0 0)), (1, .int pu), (2, .ref (b 0))] := hl
  have hP : va_P D vwCl (wTr g a t ++ wTk g b k) s.heap := hP
  refine lv_aload_n hx hb dTr_staysSafe_0 rfl (lv_at hl 0 rfl) ?_
  refine lv_iload_n hx hb dTr_staysSafe_1 rfl (lv_at hl 1 rfl) ?_
  refine lv_aload_n hx hb dTr_staysSafe_2 rfl (lv_at hl 2 rfl) ?_
  refine mk_rdV (As := [.int pu, .ref (b 0)]) (rest := []) (w := (wTr g a t ++ wTk g b k)) (q0 := (RTr, TTr, 11)) (ci := iTr) ⟨hx, hb, hml, hown, hts⟩ (c_Tr_after l D g a t b k pu) (cwV 2 hts (gd_V b_301 b_302 b_303 b_4 b_304) rfl rfl rfl (by decide +kernel) ⟨Nat.le_of_ble_eq_true rfl, Nat.le_of_ble_eq_true rfl⟩) hK hP hD hS hA [0, 1, 2, 3, 4, 5, 6, 7, 8, 9, 10, 11, 12, 13] rfl (by decide) rfl rfl rfl hl.1 rfl (Nat.le_of_ble_eq_true rfl) dTr_staysSafe_3 ⟨Nat.zero_le _, Nat.zero_le _⟩ (fun H locs hP hS => ?_)
  refine lv_istore_n (lv' := [(3, .int (tAfter t pu k)), (0, .ref (a 0 0)), (1, .int pu), (2, .ref (b 0))]) hx hb dTr_staysSafe_6 rfl hl (by decide) rfl (fun ls hl => ?_)
  refine lv_aload_n hx hb dTr_staysSafe_7 rfl (lv_at hl 1 rfl) ?_
  refine lv_iload_n hx hb dTr_staysSafe_8 rfl (lv_at hl 0 rfl) ?_
  refine mk_rdV (As := [.int (tAfter t pu k)]) (rest := []) (w := (wTr g a t)) (q0 := (RTr, TTr, 11)) (ci := iTr) ⟨hx, hb, hml, hown, hts⟩ (c_Tr_wayTo l D g a t (tAfter t pu k)) (cwV 1 hts (gd_V b_309 b_310 b_311 b_4 b_312) rfl rfl rfl (by decide +kernel) ⟨Nat.le_of_ble_eq_true rfl, Nat.le_of_ble_eq_true rfl⟩) hK hP hD hS hA [0, 1, 2, 3, 4, 5, 6, 7, 8, 9, 10] rfl (by decide) rfl rfl rfl hl.1 rfl (Nat.le_of_ble_eq_true rfl) dTr_staysSafe_9 ⟨Nat.zero_le _, Nat.zero_le _⟩ (fun H locs hP hS => ?_)
  refine lv_istore (lv' := [(4, .int (tWay t (tAfter t pu k))), (3, .int (tAfter t pu k)), (0, .ref (a 0 0)), (1, .int pu), (2, .ref (b 0))]) hx hb dTr_staysSafe_12 hl (by decide) rfl (fun ls hl => ?_)
  refine lv_iload hx hb dTr_staysSafe_14 (lv_at hl 0 rfl) ?_
  refine lv_if_ne (tgt := 23) hx hb dTr_staysSafe_16 (by decide) (fun c_1 => ?_) (fun c_1 => ?_)
  · refine lv_iconst (v := 2) hx hb dTr_staysSafe_23 (by decide) ?_
    refine lv_istore (lv' := [(5, .int 2), (4, .int (tWay t (tAfter t pu k))), (3, .int (tAfter t pu k)), (0, .ref (a 0 0)), (1, .int pu), (2, .ref (b 0))]) hx hb dTr_staysSafe_24 hl (by decide) rfl (fun ls hl => ?_)
    refine lv_iload_n hx hb dTr_staysSafe_26 rfl (lv_at hl 2 rfl) ?_
    refine lv_iload_n hx hb dTr_staysSafe_27 rfl (lv_at hl 2 rfl) ?_
    refine lv_imul hx hb dTr_staysSafe_28 ?_
    refine lv_aload_n hx hb dTr_staysSafe_29 rfl (lv_at hl 5 rfl) ?_
    refine lv_aload_n hx hb dTr_staysSafe_30 rfl (lv_at hl 3 rfl) ?_
    refine va_get (D := D) (ci := iTr) (v := .ref (a 2 0)) (C := RTr) (T := TTr) (N := 11) hx hb htB inBTr hown hK hP 0 rfl rfl 1 (by decide) (htB _ b_108) (fun _ h9 => h9) rfl dTr_staysSafe_31 ?_
    refine va_get (D := D) (ci := iCh) (v := .int (cf1 (tau t))) (C := RCh) (T := TCh) (N := 10) hx hb htB inBCh hown hK hP 6 rfl rfl 6 (by decide) (htB _ b_77) (fun _ h9 => h9) rfl dTr_staysSafe_34 ?_
    refine lv_aload_n hx hb dTr_staysSafe_37 rfl (lv_at hl 3 rfl) ?_
    refine mk_rdV (As := []) (rest := [.int (cf1 (tau t)), .ref (b 0), .int ((tAfter t pu k) * (tAfter t pu k))]) (w := (wTr g a t)) (q0 := (RTr, TTr, 11)) (ci := iTr) ⟨hx, hb, hml, hown, hts⟩ (c_Tr_reach l D g a t ) (cwV 0 hts (gd_V b_222 b_223 b_224 b_4 b_225) rfl rfl rfl (by decide +kernel) ⟨Nat.le_of_ble_eq_true rfl, Nat.le_of_ble_eq_true rfl⟩) hK hP hD hS hA [0, 1, 2, 3, 4, 5, 6, 7, 8, 9, 10] rfl (by decide) rfl rfl rfl hl.1 rfl (Nat.le_of_ble_eq_true rfl) dTr_staysSafe_38 ⟨Nat.zero_le _, Nat.zero_le _⟩ (fun H locs hP hS => ?_)
    refine lv_iload hx hb dTr_staysSafe_41 (lv_at hl 1 rfl) ?_
    refine lv_iadd hx hb dTr_staysSafe_43 ?_
    refine lv_iload hx hb dTr_staysSafe_44 (lv_at hl 0 rfl) ?_
    refine lv_iadd hx hb dTr_staysSafe_46 ?_
    refine lv_aload_n hx hb dTr_staysSafe_47 rfl (lv_at hl 3 rfl) ?_
    refine mk_rdV (As := []) (rest := [.int (((tReach t) + (tWay t (tAfter t pu k))) + 2), .int (cf1 (tau t)), .ref (b 0), .int ((tAfter t pu k) * (tAfter t pu k))]) (w := (wTr g a t)) (q0 := (RTr, TTr, 11)) (ci := iTr) ⟨hx, hb, hml, hown, hts⟩ (c_Tr_tail l D g a t ) (cwV 0 hts (gd_V b_226 b_227 b_228 b_4 b_229) rfl rfl rfl (by decide +kernel) ⟨Nat.le_of_ble_eq_true rfl, Nat.le_of_ble_eq_true rfl⟩) hK hP hD hS hA [0, 1, 2, 3, 4, 5, 6, 7, 8, 9, 10] rfl (by decide) rfl rfl rfl hl.1 rfl (Nat.le_of_ble_eq_true rfl) dTr_staysSafe_48 ⟨Nat.zero_le _, Nat.zero_le _⟩ (fun H locs hP hS => ?_)
    refine lv_iload hx hb dTr_staysSafe_51 (lv_at hl 1 rfl) ?_
    refine lv_iadd hx hb dTr_staysSafe_53 ?_
    refine lv_iload hx hb dTr_staysSafe_54 (lv_at hl 0 rfl) ?_
    refine lv_isub hx hb dTr_staysSafe_56 ?_
    refine mk_rdV (As := [.int (cf1 (tau t)), .int (((tReach t) + (tWay t (tAfter t pu k))) + 2), .int (((tTail t) + (tWay t (tAfter t pu k))) - 2)]) (rest := [.int ((tAfter t pu k) * (tAfter t pu k))]) (w := (wTk g b k)) (q0 := (RTk, TTk, 2)) (ci := iTk) ⟨hx, hb, hml, hown, hts⟩ (c_Tk_gss l D g b k (cf1 (tau t)) (((tReach t) + (tWay t (tAfter t pu k))) + 2) (((tTail t) + (tWay t (tAfter t pu k))) - 2)) (cwV 3 hts (gd_V b_284 b_285 b_286 b_2 b_287) rfl rfl rfl (by decide +kernel) ⟨Nat.le_of_ble_eq_true rfl, Nat.le_of_ble_eq_true rfl⟩) hK hP hD hS hA [11, 12, 13] rfl (by decide) rfl rfl rfl hl.1 rfl (Nat.le_of_ble_eq_true rfl) dTr_staysSafe_57 ⟨Nat.zero_le _, Nat.zero_le _⟩ (fun H locs hP hS => ?_)
    refine lv_icmp_gt (tgt := 67) hx hb dTr_staysSafe_60 (by decide) (fun c_2 => ?_) (fun c_2 => ?_)
    · refine lv_iconst (v := 0) hx hb dTr_staysSafe_67 (by decide) ?_
      exact W.zret (v := 0) hx hb hr rfl (fun t9 ht hW => ⟨⟨0, (), rfl, (by simp only [tStays, tMore, if_neg c_1, if_pos c_2] <;> rfl), trivial⟩, hS.F ht⟩) hS.2.2 dTr_staysSafe_68
    · refine lv_iconst (v := 1) hx hb dTr_staysSafe_63 (by decide) ?_
      refine lv_goto (tgt := 68) hx hb dTr_staysSafe_64 (by decide) ?_
      exact W.zret (v := 1) hx hb hr rfl (fun t9 ht hW => ⟨⟨1, (), rfl, (by simp only [tStays, tMore, if_neg c_1, if_neg c_2] <;> rfl), trivial⟩, hS.F ht⟩) hS.2.2 dTr_staysSafe_68
  · refine lv_iconst (v := 0) hx hb dTr_staysSafe_19 (by decide) ?_
    refine lv_goto (tgt := 24) hx hb dTr_staysSafe_20 (by decide) ?_
    refine lv_istore (lv' := [(5, .int 0), (4, .int (tWay t (tAfter t pu k))), (3, .int (tAfter t pu k)), (0, .ref (a 0 0)), (1, .int pu), (2, .ref (b 0))]) hx hb dTr_staysSafe_24 hl (by decide) rfl (fun ls hl => ?_)
    refine lv_iload_n hx hb dTr_staysSafe_26 rfl (lv_at hl 2 rfl) ?_
    refine lv_iload_n hx hb dTr_staysSafe_27 rfl (lv_at hl 2 rfl) ?_
    refine lv_imul hx hb dTr_staysSafe_28 ?_
    refine lv_aload_n hx hb dTr_staysSafe_29 rfl (lv_at hl 5 rfl) ?_
    refine lv_aload_n hx hb dTr_staysSafe_30 rfl (lv_at hl 3 rfl) ?_
    refine va_get (D := D) (ci := iTr) (v := .ref (a 2 0)) (C := RTr) (T := TTr) (N := 11) hx hb htB inBTr hown hK hP 0 rfl rfl 1 (by decide) (htB _ b_108) (fun _ h9 => h9) rfl dTr_staysSafe_31 ?_
    refine va_get (D := D) (ci := iCh) (v := .int (cf1 (tau t))) (C := RCh) (T := TCh) (N := 10) hx hb htB inBCh hown hK hP 6 rfl rfl 6 (by decide) (htB _ b_77) (fun _ h9 => h9) rfl dTr_staysSafe_34 ?_
    refine lv_aload_n hx hb dTr_staysSafe_37 rfl (lv_at hl 3 rfl) ?_
    refine mk_rdV (As := []) (rest := [.int (cf1 (tau t)), .ref (b 0), .int ((tAfter t pu k) * (tAfter t pu k))]) (w := (wTr g a t)) (q0 := (RTr, TTr, 11)) (ci := iTr) ⟨hx, hb, hml, hown, hts⟩ (c_Tr_reach l D g a t ) (cwV 0 hts (gd_V b_222 b_223 b_224 b_4 b_225) rfl rfl rfl (by decide +kernel) ⟨Nat.le_of_ble_eq_true rfl, Nat.le_of_ble_eq_true rfl⟩) hK hP hD hS hA [0, 1, 2, 3, 4, 5, 6, 7, 8, 9, 10] rfl (by decide) rfl rfl rfl hl.1 rfl (Nat.le_of_ble_eq_true rfl) dTr_staysSafe_38 ⟨Nat.zero_le _, Nat.zero_le _⟩ (fun H locs hP hS => ?_)
    refine lv_iload hx hb dTr_staysSafe_41 (lv_at hl 1 rfl) ?_
    refine lv_iadd hx hb dTr_staysSafe_43 ?_
    refine lv_iload hx hb dTr_staysSafe_44 (lv_at hl 0 rfl) ?_
    refine lv_iadd hx hb dTr_staysSafe_46 ?_
    refine lv_aload_n hx hb dTr_staysSafe_47 rfl (lv_at hl 3 rfl) ?_
    refine mk_rdV (As := []) (rest := [.int (((tReach t) + (tWay t (tAfter t pu k))) + 0), .int (cf1 (tau t)), .ref (b 0), .int ((tAfter t pu k) * (tAfter t pu k))]) (w := (wTr g a t)) (q0 := (RTr, TTr, 11)) (ci := iTr) ⟨hx, hb, hml, hown, hts⟩ (c_Tr_tail l D g a t ) (cwV 0 hts (gd_V b_226 b_227 b_228 b_4 b_229) rfl rfl rfl (by decide +kernel) ⟨Nat.le_of_ble_eq_true rfl, Nat.le_of_ble_eq_true rfl⟩) hK hP hD hS hA [0, 1, 2, 3, 4, 5, 6, 7, 8, 9, 10] rfl (by decide) rfl rfl rfl hl.1 rfl (Nat.le_of_ble_eq_true rfl) dTr_staysSafe_48 ⟨Nat.zero_le _, Nat.zero_le _⟩ (fun H locs hP hS => ?_)
    refine lv_iload hx hb dTr_staysSafe_51 (lv_at hl 1 rfl) ?_
    refine lv_iadd hx hb dTr_staysSafe_53 ?_
    refine lv_iload hx hb dTr_staysSafe_54 (lv_at hl 0 rfl) ?_
    refine lv_isub hx hb dTr_staysSafe_56 ?_
    refine mk_rdV (As := [.int (cf1 (tau t)), .int (((tReach t) + (tWay t (tAfter t pu k))) + 0), .int (((tTail t) + (tWay t (tAfter t pu k))) - 0)]) (rest := [.int ((tAfter t pu k) * (tAfter t pu k))]) (w := (wTk g b k)) (q0 := (RTk, TTk, 2)) (ci := iTk) ⟨hx, hb, hml, hown, hts⟩ (c_Tk_gss l D g b k (cf1 (tau t)) (((tReach t) + (tWay t (tAfter t pu k))) + 0) (((tTail t) + (tWay t (tAfter t pu k))) - 0)) (cwV 3 hts (gd_V b_284 b_285 b_286 b_2 b_287) rfl rfl rfl (by decide +kernel) ⟨Nat.le_of_ble_eq_true rfl, Nat.le_of_ble_eq_true rfl⟩) hK hP hD hS hA [11, 12, 13] rfl (by decide) rfl rfl rfl hl.1 rfl (Nat.le_of_ble_eq_true rfl) dTr_staysSafe_57 ⟨Nat.zero_le _, Nat.zero_le _⟩ (fun H locs hP hS => ?_)
    refine lv_icmp_gt (tgt := 67) hx hb dTr_staysSafe_60 (by decide) (fun c_3 => ?_) (fun c_3 => ?_)
    · refine lv_iconst (v := 0) hx hb dTr_staysSafe_67 (by decide) ?_
      exact W.zret (v := 0) hx hb hr rfl (fun t9 ht hW => ⟨⟨0, (), rfl, (by simp only [tStays, tMore, if_pos c_1, if_pos c_3] <;> rfl), trivial⟩, hS.F ht⟩) hS.2.2 dTr_staysSafe_68
    · refine lv_iconst (v := 1) hx hb dTr_staysSafe_63 (by decide) ?_
      refine lv_goto (tgt := 68) hx hb dTr_staysSafe_64 (by decide) ?_
      exact W.zret (v := 1) hx hb hr rfl (fun t9 ht hW => ⟨⟨1, (), rfl, (by simp only [tStays, tMore, if_pos c_1, if_neg c_3] <;> rfl), trivial⟩, hS.F ht⟩) hS.2.2 dTr_staysSafe_68
set_option maxHeartbeats 4000000 in
set_option maxRecDepth 100000 in
/-- pullByDemand -/
theorem c_Tr_pull (l : Launch) (D : va_G) (g : Nat → ClassId) (a : Nat → Nat → Nat) (t : zTr) (b : Nat → Nat) (k : zTk) (f : Bool) : mk_Rd l yTr_pullByDemand wsTr_pullByDemand ({ frames := 3, cells := 0, slots := 0, locals := 73 }) D vwCl (zty g) [.ref (a 0 0), .int (bI f), .ref (b 0)] (wTr g a t ++ wTk g b k) (tPull t f k) := by
  intro sz
  refine Met.ofW (cc := cTr_pullByDemand) (maxL := 4) (ret := (some .int)) (by decide) rfl ?_
  intro p e s m args below meth cd s₁ B hml hv
  obtain ⟨rfl, hsz, hP, hK, hD0⟩ := hv
  have hx := B.exec
  have hb := B.bytes
  have hr := B.returns
  have hts := atoms_spec (ws := wsTr_pullByDemand) B.pre
  have htB := fun (w : Cond) (h : w ∈ BIG) => hts w (List.mem_cons_of_mem _ h)
  have hown : s.vm.findClass RTr = some m.cls := findClass_of_methodNamed B.named
  have hlocks := B.notSynchronized
  subst hsz
  have hD := hD0
  have hA : ∀ q : Nat, s.heap.size ≤ q → (fun q => s.heap.size ≤ q) q := fun _ h => h
  have hS : va_S (fun q => s.heap.size ≤ q) s.heap s.heap [] := va_S.rf
  have hl := lv_entry ([.ref (a 0 0), .int (bI f), .ref (b 0)]) (n := 4) (Nat.le_of_ble_eq_true rfl)
  rw [lg_entry_eq]
  generalize (lg_sl ([.ref (a 0 0), .int (bI f), .ref (b 0)]) ++ List.replicate (4 - (lg_sl ([.ref (a 0 0), .int (bI f), .ref (b 0)])).length) Slot.unset).toArray = ls at hl ⊢
  have hl : lv_has ls 4 [(0, .ref (a 0 0)), (1, .int (bI f)), (2, .ref (b 0))] := hl
  have hP : va_P D vwCl (wTr g a t ++ wTk g b k) s.heap := hP
  refine lv_aload_n hx hb dTr_pullByDemand_0 rfl (lv_at hl 0 rfl) ?_
  refine va_get (D := D) (ci := iTr) (v := .int (tde t)) (C := RTr) (T := TTr) (N := 11) hx hb htB inBTr hown hK hP 0 rfl rfl 7 (by decide) (htB _ b_120) (fun _ h9 => h9) rfl dTr_pullByDemand_1 ?_
  refine lv_if_ge (tgt := 10) hx hb dTr_pullByDemand_4 (by decide) (fun c_1 => ?_) (fun c_1 => ?_)
  · refine lv_aload_n hx hb dTr_pullByDemand_10 rfl (lv_at hl 0 rfl) ?_
    refine va_get (D := D) (ci := iTr) (v := .int (tde t)) (C := RTr) (T := TTr) (N := 11) hx hb htB inBTr hown hK hP 0 rfl rfl 7 (by decide) (htB _ b_120) (fun _ h9 => h9) rfl dTr_pullByDemand_11 ?_
    refine lv_if_le (tgt := 21) hx hb dTr_pullByDemand_14 (by decide) (fun c_2 => ?_) (fun c_2 => ?_)
    · refine lv_iconst (v := 0) hx hb dTr_pullByDemand_21 (by decide) ?_
      refine lv_istore_n (lv' := [(3, .int 0), (0, .ref (a 0 0)), (1, .int (bI f)), (2, .ref (b 0))]) hx hb dTr_pullByDemand_22 rfl hl (by decide) rfl (fun ls hl => ?_)
      refine lv_iload_n hx hb dTr_pullByDemand_23 rfl (lv_at hl 2 rfl) ?_
      refine lv_if_eq (tgt := 40) hx hb dTr_pullByDemand_24 (by decide) (fun c_3 => ?_) (fun c_3 => ?_)
      · refine lv_bipush (v := (-8)) hx hb dTr_pullByDemand_40 (by decide) ?_
        exact W.iret (v := (-8)) hx hb hr (fun t9 ht hW => ⟨⟨(-8), (), rfl, (by simp only [tPull, tWish, if_pos c_1, if_pos c_2, if_pos c_3] <;> rfl), trivial⟩, hS.F ht⟩) hS.2.2 dTr_pullByDemand_42
      · refine lv_aload_n hx hb dTr_pullByDemand_27 rfl (lv_at hl 1 rfl) ?_
        refine lv_iload_n hx hb dTr_pullByDemand_28 rfl (lv_at hl 0 rfl) ?_
        refine lv_aload_n hx hb dTr_pullByDemand_29 rfl (lv_at hl 3 rfl) ?_
        refine mk_rdV (As := [.int 0, .ref (b 0)]) (rest := []) (w := (wTr g a t ++ wTk g b k)) (q0 := (RTr, TTr, 11)) (ci := iTr) ⟨hx, hb, hml, hown, hts⟩ (c_Tr_stays l D g a t b k 0) (cwV 2 hts (gd_V b_297 b_298 b_299 b_4 b_300) rfl rfl rfl (by decide +kernel) ⟨Nat.le_of_ble_eq_true rfl, Nat.le_of_ble_eq_true rfl⟩) hK hP hD hS hA [0, 1, 2, 3, 4, 5, 6, 7, 8, 9, 10, 11, 12, 13] rfl (by decide) rfl rfl rfl hl.1 rfl (Nat.le_of_ble_eq_true rfl) dTr_pullByDemand_30 ⟨Nat.zero_le _, Nat.zero_le _⟩ (fun H locs hP hS => ?_)
        refine lv_if_eq (tgt := 40) hx hb dTr_pullByDemand_33 (by decide) (fun c_4 => ?_) (fun c_4 => ?_)
        · refine lv_bipush (v := (-8)) hx hb dTr_pullByDemand_40 (by decide) ?_
          exact W.iret (v := (-8)) hx hb hr (fun t9 ht hW => ⟨⟨(-8), (), rfl, (by simp only [tPull, tWish, if_pos c_1, if_pos c_2, if_neg c_3, if_pos c_4] <;> rfl), trivial⟩, hS.F ht⟩) hS.2.2 dTr_pullByDemand_42
        · refine lv_iload_n hx hb dTr_pullByDemand_36 rfl (lv_at hl 0 rfl) ?_
          refine lv_goto (tgt := 42) hx hb dTr_pullByDemand_37 (by decide) ?_
          exact W.iret (v := 0) hx hb hr (fun t9 ht hW => ⟨⟨0, (), rfl, (by simp only [tPull, tWish, if_pos c_1, if_pos c_2, if_neg c_3, if_neg c_4] <;> rfl), trivial⟩, hS.F ht⟩) hS.2.2 dTr_pullByDemand_42
    · refine lv_iconst (v := 4) hx hb dTr_pullByDemand_17 (by decide) ?_
      refine lv_goto (tgt := 22) hx hb dTr_pullByDemand_18 (by decide) ?_
      refine lv_istore_n (lv' := [(3, .int 4), (0, .ref (a 0 0)), (1, .int (bI f)), (2, .ref (b 0))]) hx hb dTr_pullByDemand_22 rfl hl (by decide) rfl (fun ls hl => ?_)
      refine lv_iload_n hx hb dTr_pullByDemand_23 rfl (lv_at hl 2 rfl) ?_
      refine lv_if_eq (tgt := 40) hx hb dTr_pullByDemand_24 (by decide) (fun c_5 => ?_) (fun c_5 => ?_)
      · refine lv_bipush (v := (-8)) hx hb dTr_pullByDemand_40 (by decide) ?_
        exact W.iret (v := (-8)) hx hb hr (fun t9 ht hW => ⟨⟨(-8), (), rfl, (by simp only [tPull, tWish, if_pos c_1, if_neg c_2, if_pos c_5] <;> rfl), trivial⟩, hS.F ht⟩) hS.2.2 dTr_pullByDemand_42
      · refine lv_aload_n hx hb dTr_pullByDemand_27 rfl (lv_at hl 1 rfl) ?_
        refine lv_iload_n hx hb dTr_pullByDemand_28 rfl (lv_at hl 0 rfl) ?_
        refine lv_aload_n hx hb dTr_pullByDemand_29 rfl (lv_at hl 3 rfl) ?_
        refine mk_rdV (As := [.int 4, .ref (b 0)]) (rest := []) (w := (wTr g a t ++ wTk g b k)) (q0 := (RTr, TTr, 11)) (ci := iTr) ⟨hx, hb, hml, hown, hts⟩ (c_Tr_stays l D g a t b k 4) (cwV 2 hts (gd_V b_297 b_298 b_299 b_4 b_300) rfl rfl rfl (by decide +kernel) ⟨Nat.le_of_ble_eq_true rfl, Nat.le_of_ble_eq_true rfl⟩) hK hP hD hS hA [0, 1, 2, 3, 4, 5, 6, 7, 8, 9, 10, 11, 12, 13] rfl (by decide) rfl rfl rfl hl.1 rfl (Nat.le_of_ble_eq_true rfl) dTr_pullByDemand_30 ⟨Nat.zero_le _, Nat.zero_le _⟩ (fun H locs hP hS => ?_)
        refine lv_if_eq (tgt := 40) hx hb dTr_pullByDemand_33 (by decide) (fun c_6 => ?_) (fun c_6 => ?_)
        · refine lv_bipush (v := (-8)) hx hb dTr_pullByDemand_40 (by decide) ?_
          exact W.iret (v := (-8)) hx hb hr (fun t9 ht hW => ⟨⟨(-8), (), rfl, (by simp only [tPull, tWish, if_pos c_1, if_neg c_2, if_neg c_5, if_pos c_6] <;> rfl), trivial⟩, hS.F ht⟩) hS.2.2 dTr_pullByDemand_42
        · refine lv_iload_n hx hb dTr_pullByDemand_36 rfl (lv_at hl 0 rfl) ?_
          refine lv_goto (tgt := 42) hx hb dTr_pullByDemand_37 (by decide) ?_
          exact W.iret (v := 4) hx hb hr (fun t9 ht hW => ⟨⟨4, (), rfl, (by simp only [tPull, tWish, if_pos c_1, if_neg c_2, if_neg c_5, if_neg c_6] <;> rfl), trivial⟩, hS.F ht⟩) hS.2.2 dTr_pullByDemand_42
  · refine lv_bipush (v := (-8)) hx hb dTr_pullByDemand_7 (by decide) ?_
    exact W.iret (v := (-8)) hx hb hr (fun t9 ht hW => ⟨⟨(-8), (), rfl, (by simp only [tPull, tWish, if_neg c_1] <;> rfl), trivial⟩, hS.F ht⟩) hS.2.2 dTr_pullByDemand_9
set_option maxHeartbeats 4000000 in
set_option maxRecDepth 100000 in
/-- move -/
theorem c_Tr_move (l : Launch) (D : va_G) (g : Nat → ClassId) (a : Nat → Nat → Nat) (t : zTr) (v : Int32) : mk_Wv l yTr_move wsTr_move ({ frames := 1, cells := 0, slots := 0, locals := 21 }) D vwCl (zty g) [.ref (a 0 0), .int v] (wTr g a t) (wTr g a (tMove t v)) := by
  intro sz
  refine Met.ofW (cc := cTr_move) (maxL := 4) (ret := none) (by decide) rfl ?_
  intro p e s m args below meth cd s₁ B hml hv
  obtain ⟨rfl, hsz, hP, hK, hD0⟩ := hv
  have hx := B.exec
  have hb := B.bytes
  have hr := B.returns
  have hts := atoms_spec (ws := wsTr_move) B.pre
  have htB := fun (w : Cond) (h : w ∈ BIG) => hts w (List.mem_cons_of_mem _ h)
  have hown : s.vm.findClass RTr = some m.cls := findClass_of_methodNamed B.named
  have hlocks := B.notSynchronized
  subst hsz
  have hD := hD0.self (sz := s.heap.size)
  generalize hAe : va_A (wTr g a t) s.heap.size = A at hD ⊢
  have hA : ∀ q : Nat, s.heap.size ≤ q → A q := fun q h => by rw [← hAe]; exact Or.inr h
  have hS : va_S A s.heap s.heap [] := va_S.rf
  have hl := lv_entry ([.ref (a 0 0), .int v]) (n := 4) (Nat.le_of_ble_eq_true rfl)
  rw [lg_entry_eq]
  generalize (lg_sl ([.ref (a 0 0), .int v]) ++ List.replicate (4 - (lg_sl ([.ref (a 0 0), .int v])).length) Slot.unset).toArray = ls at hl ⊢
  have hl : lv_has ls 4 [(0, .ref (a 0 0)), (1, .int v)] := hl
  have hP : va_P D vwCl (wTr g a t) s.heap := hP
  refine lv_aload_n hx hb dTr_move_0 rfl (lv_at hl 0 rfl) ?_
  refine lv_iload_n hx hb dTr_move_1 rfl (lv_at hl 1 rfl) ?_
  refine mk_rdV (As := [.int v]) (rest := []) (w := (wTr g a t)) (q0 := (RTr, TTr, 11)) (ci := iTr) ⟨hx, hb, hml, hown, hts⟩ (c_Tr_wayTo l D g a t v) (cwV 1 hts (gd_V b_309 b_310 b_311 b_4 b_312) rfl rfl rfl (by decide +kernel) ⟨Nat.le_of_ble_eq_true rfl, Nat.le_of_ble_eq_true rfl⟩) hK hP hD hS hA [0, 1, 2, 3, 4, 5, 6, 7, 8, 9, 10] rfl (by decide) rfl rfl rfl hl.1 rfl (Nat.le_of_ble_eq_true rfl) dTr_move_2 ⟨Nat.zero_le _, Nat.zero_le _⟩ (fun H locs hP hS => ?_)
  refine lv_istore_n (lv' := [(2, .int (tWay t v)), (0, .ref (a 0 0)), (1, .int v)]) hx hb dTr_move_5 rfl hl (by decide) rfl (fun ls hl => ?_)
  refine lv_aload_n hx hb dTr_move_6 rfl (lv_at hl 1 rfl) ?_
  refine va_get (D := D) (ci := iTr) (v := .int (tfr t)) (C := RTr) (T := TTr) (N := 11) hx hb htB inBTr hown hK hP 0 rfl rfl 3 (by decide) (htB _ b_111) (fun _ h9 => h9) rfl dTr_move_7 ?_
  refine mk_rdS (As := [.int (tfr t)]) (rest := []) (w := []) ⟨hx, hb, hml, hown, hts⟩ (c_Tk_pieceAt l D g (tfr t)) (va_cwS 1 hts (gd_S b_305 b_289 b_2 b_290) rfl rfl rfl (by decide +kernel) ⟨Nat.le_of_ble_eq_true rfl, Nat.le_of_ble_eq_true rfl⟩) hK hP hD hS hA [] rfl rfl rfl hl.1 rfl (Nat.le_of_ble_eq_true rfl) dTr_move_10 ⟨Nat.zero_le _, Nat.zero_le _⟩ (fun H locs hP hS => ?_)
  refine lv_istore_n (lv' := [(3, .int (nI (nPiece (tfr t)))), (2, .int (tWay t v)), (0, .ref (a 0 0)), (1, .int v)]) hx hb dTr_move_13 rfl hl (by decide) rfl (fun ls hl => ?_)
  refine lv_aload_n hx hb dTr_move_14 rfl (lv_at hl 2 rfl) ?_
  refine lv_iload_n hx hb dTr_move_15 rfl (lv_at hl 3 rfl) ?_
  refine va_put (D := D) (ci := iTr) (v := .int v) (ty := .int) (C := RTr) (T := TTr) (N := 11) hx hb htB inBTr tyTr tyTr_ok nmTr hown hK hP hD hS 0 rfl rfl 4 (by decide) (htB _ b_113) (fun _ h9 => h9) rfl (by decide +kernel) rfl rfl (Nat.le_of_ble_eq_true rfl) dTr_move_16 (fun H locs hP hD hS => ?_)
  have hP : va_P D vwCl (wTr g a ((trp t), (tau t), (tle t), (tfr t), v, (tes t), (tdo t), (tde t), (tdr t), (tem t), (tec t))) H := hP
  have hD : va_D A (wTr g a ((trp t), (tau t), (tle t), (tfr t), v, (tes t), (tdo t), (tde t), (tdr t), (tem t), (tec t))) := hD
  refine lv_iload_n hx hb dTr_move_19 rfl (lv_at hl 1 rfl) ?_
  refine lv_if_ne (tgt := 24) hx hb dTr_move_20 (by decide) (fun c_1 => ?_) (fun c_1 => ?_)
  · refine lv_aload_n hx hb dTr_move_24 rfl (lv_at hl 2 rfl) ?_
    refine lv_dup hx hb dTr_move_25 rfl ?_
    refine va_get (D := D) (ci := iTr) (v := .int (tfr t)) (C := RTr) (T := TTr) (N := 11) hx hb htB inBTr hown hK hP 0 rfl rfl 3 (by decide) (htB _ b_111) (fun _ h9 => h9) rfl dTr_move_26 ?_
    refine lv_iload_n hx hb dTr_move_29 rfl (lv_at hl 1 rfl) ?_
    refine lv_iadd hx hb dTr_move_30 ?_
    refine va_put (D := D) (ci := iTr) (v := .int ((tfr t) + (tWay t v))) (ty := .int) (C := RTr) (T := TTr) (N := 11) hx hb htB inBTr tyTr tyTr_ok nmTr hown hK hP hD hS 0 rfl rfl 3 (by decide) (htB _ b_111) (fun _ h9 => h9) rfl (by decide +kernel) rfl rfl (Nat.le_of_ble_eq_true rfl) dTr_move_31 (fun H locs hP hD hS => ?_)
    have hP : va_P D vwCl (wTr g a ((trp t), (tau t), (tle t), (tfr t) + (tWay t v), v, (tes t), (tdo t), (tde t), (tdr t), (tem t), (tec t))) H := hP
    have hD : va_D A (wTr g a ((trp t), (tau t), (tle t), (tfr t) + (tWay t v), v, (tes t), (tdo t), (tde t), (tdr t), (tem t), (tec t))) := hD
    refine lv_aload_n hx hb dTr_move_34 rfl (lv_at hl 2 rfl) ?_
    refine lv_dup hx hb dTr_move_35 rfl ?_
    refine va_get (D := D) (ci := iTr) (v := .int (tes t)) (C := RTr) (T := TTr) (N := 11) hx hb htB inBTr hown hK hP 0 rfl rfl 5 (by decide) (htB _ b_115) (fun _ h9 => h9) rfl dTr_move_36 ?_
    refine lv_iload_n hx hb dTr_move_39 rfl (lv_at hl 1 rfl) ?_
    refine lv_aload_n hx hb dTr_move_40 rfl (lv_at hl 2 rfl) ?_
    refine va_get (D := D) (ci := iTr) (v := .int (tdr t)) (C := RTr) (T := TTr) (N := 11) hx hb htB inBTr hown hK hP 0 rfl rfl 8 (by decide) (htB _ b_122) (fun _ h9 => h9) rfl dTr_move_41 ?_
    refine lv_iadd hx hb dTr_move_44 ?_
    refine lv_iadd hx hb dTr_move_45 ?_
    refine va_put (D := D) (ci := iTr) (v := .int ((tes t) + ((tWay t v) + (tdr t)))) (ty := .int) (C := RTr) (T := TTr) (N := 11) hx hb htB inBTr tyTr tyTr_ok nmTr hown hK hP hD hS 0 rfl rfl 5 (by decide) (htB _ b_115) (fun _ h9 => h9) rfl (by decide +kernel) rfl rfl (Nat.le_of_ble_eq_true rfl) dTr_move_46 (fun H locs hP hD hS => ?_)
    have hP : va_P D vwCl (wTr g a ((trp t), (tau t), (tle t), (tfr t) + (tWay t v), v, (tes t) + ((tWay t v) + (tdr t)), (tdo t), (tde t), (tdr t), (tem t), (tec t))) H := hP
    have hD : va_D A (wTr g a ((trp t), (tau t), (tle t), (tfr t) + (tWay t v), v, (tes t) + ((tWay t v) + (tdr t)), (tdo t), (tde t), (tdr t), (tem t), (tec t))) := hD
    refine lv_aload_n hx hb dTr_move_49 rfl (lv_at hl 2 rfl) ?_
    refine lv_dup hx hb dTr_move_50 rfl ?_
    refine va_get (D := D) (ci := iTr) (v := .int (tdo t)) (C := RTr) (T := TTr) (N := 11) hx hb htB inBTr hown hK hP 0 rfl rfl 6 (by decide) (htB _ b_117) (fun _ h9 => h9) rfl dTr_move_51 ?_
    refine lv_iconst (v := 2) hx hb dTr_move_54 (by decide) ?_
    refine lv_iadd hx hb dTr_move_55 ?_
    refine va_put (D := D) (ci := iTr) (v := .int ((tdo t) + 2)) (ty := .int) (C := RTr) (T := TTr) (N := 11) hx hb htB inBTr tyTr tyTr_ok nmTr hown hK hP hD hS 0 rfl rfl 6 (by decide) (htB _ b_117) (fun _ h9 => h9) rfl (by decide +kernel) rfl rfl (Nat.le_of_ble_eq_true rfl) dTr_move_56 (fun H locs hP hD hS => ?_)
    have hP : va_P D vwCl (wTr g a ((trp t), (tau t), (tle t), (tfr t) + (tWay t v), v, (tes t) + ((tWay t v) + (tdr t)), (tdo t) + 2, (tde t), (tdr t), (tem t), (tec t))) H := hP
    have hD : va_D A (wTr g a ((trp t), (tau t), (tle t), (tfr t) + (tWay t v), v, (tes t) + ((tWay t v) + (tdr t)), (tdo t) + 2, (tde t), (tdr t), (tem t), (tec t))) := hD
    refine lv_aload_n hx hb dTr_move_59 rfl (lv_at hl 2 rfl) ?_
    refine va_get (D := D) (ci := iTr) (v := .int ((tfr t) + (tWay t v))) (C := RTr) (T := TTr) (N := 11) hx hb htB inBTr hown hK hP 0 rfl rfl 3 (by decide) (htB _ b_111) (fun _ h9 => h9) rfl dTr_move_60 ?_
    refine mk_rdS (As := [.int ((tfr t) + (tWay t v))]) (rest := []) (w := []) ⟨hx, hb, hml, hown, hts⟩ (c_Tk_pieceAt l D g ((tfr t) + (tWay t v))) (va_cwS 1 hts (gd_S b_305 b_289 b_2 b_290) rfl rfl rfl (by decide +kernel) ⟨Nat.le_of_ble_eq_true rfl, Nat.le_of_ble_eq_true rfl⟩) hK hP hD hS hA [] rfl rfl rfl hl.1 rfl (Nat.le_of_ble_eq_true rfl) dTr_move_63 ⟨Nat.zero_le _, Nat.zero_le _⟩ (fun H locs hP hS => ?_)
    refine lv_iload_n hx hb dTr_move_66 rfl (lv_at hl 0 rfl) ?_
    refine lv_icmp_eq (tgt := 83) hx hb dTr_move_67 (by decide) (fun c_2 => ?_) (fun c_2 => ?_)
    · have hE : wTr g a (tMove t v) = wTr g a ((trp t), (tau t), (tle t), (tfr t) + (tWay t v), v, (tes t) + ((tWay t v) + (tdr t)), (tdo t) + 2, (tde t), (tdr t), (tem t), (tec t)) := (by simp only [tMove, if_neg c_1, if_pos c_2] <;> rfl)
      exact W.vret hx hb hr (fun t9 ht hW => ⟨⟨(), rfl, trivial, mk_end ht hE hP⟩, hS.F ht⟩) hS.2.2 dTr_move_83
    · refine lv_aload_n hx hb dTr_move_70 rfl (lv_at hl 2 rfl) ?_
      refine lv_aload_n hx hb dTr_move_71 rfl (lv_at hl 2 rfl) ?_
      refine va_get (D := D) (ci := iTr) (v := .int ((tfr t) + (tWay t v))) (C := RTr) (T := TTr) (N := 11) hx hb htB inBTr hown hK hP 0 rfl rfl 3 (by decide) (htB _ b_111) (fun _ h9 => h9) rfl dTr_move_72 ?_
      refine va_put (D := D) (ci := iTr) (v := .int ((tfr t) + (tWay t v))) (ty := .int) (C := RTr) (T := TTr) (N := 11) hx hb htB inBTr tyTr tyTr_ok nmTr hown hK hP hD hS 0 rfl rfl 5 (by decide) (htB _ b_115) (fun _ h9 => h9) rfl (by decide +kernel) rfl rfl (Nat.le_of_ble_eq_true rfl) dTr_move_75 (fun H locs hP hD hS => ?_)
      have hP : va_P D vwCl (wTr g a ((trp t), (tau t), (tle t), (tfr t) + (tWay t v), v, (tfr t) + (tWay t v), (tdo t) + 2, (tde t), (tdr t), (tem t), (tec t))) H := hP
      have hD : va_D A (wTr g a ((trp t), (tau t), (tle t), (tfr t) + (tWay t v), v, (tfr t) + (tWay t v), (tdo t) + 2, (tde t), (tdr t), (tem t), (tec t))) := hD
      refine lv_aload_n hx hb dTr_move_78 rfl (lv_at hl 2 rfl) ?_
      refine lv_iconst (v := 0) hx hb dTr_move_79 (by decide) ?_
      refine va_put (D := D) (ci := iTr) (v := .int 0) (ty := .int) (C := RTr) (T := TTr) (N := 11) hx hb htB inBTr tyTr tyTr_ok nmTr hown hK hP hD hS 0 rfl rfl 6 (by decide) (htB _ b_117) (fun _ h9 => h9) rfl (by decide +kernel) rfl rfl (Nat.le_of_ble_eq_true rfl) dTr_move_80 (fun H locs hP hD hS => ?_)
      have hP : va_P D vwCl (wTr g a ((trp t), (tau t), (tle t), (tfr t) + (tWay t v), v, (tfr t) + (tWay t v), 0, (tde t), (tdr t), (tem t), (tec t))) H := hP
      have hD : va_D A (wTr g a ((trp t), (tau t), (tle t), (tfr t) + (tWay t v), v, (tfr t) + (tWay t v), 0, (tde t), (tdr t), (tem t), (tec t))) := hD
      have hE : wTr g a (tMove t v) = wTr g a ((trp t), (tau t), (tle t), (tfr t) + (tWay t v), v, (tfr t) + (tWay t v), 0, (tde t), (tdr t), (tem t), (tec t)) := (by simp only [tMove, if_neg c_1, if_neg c_2] <;> rfl)
      exact W.vret hx hb hr (fun t9 ht hW => ⟨⟨(), rfl, trivial, mk_end ht hE hP⟩, hS.F ht⟩) hS.2.2 dTr_move_83
  · have hE : wTr g a (tMove t v) = wTr g a ((trp t), (tau t), (tle t), (tfr t), v, (tes t), (tdo t), (tde t), (tdr t), (tem t), (tec t)) := (by simp only [tMove, if_pos c_1] <;> rfl)
    exact W.vret hx hb hr (fun t9 ht hW => ⟨⟨(), rfl, trivial, mk_end ht hE hP⟩, hS.F ht⟩) hS.2.2 dTr_move_23
set_option maxHeartbeats 4000000 in
set_option maxRecDepth 100000 in
theorem lp_Tr_best {p : Program} {l : Launch} {e : Env} {s : State} {m : MethodId} {args : Array Value} {below : List Frame} {meth : Method} {cd : Code} {Q : State → Prop} {q r : Int32} {H : Heap} {locs : List Loc} (hx : p.tables.exec = Jvm.exec) (hb : cd.code = cTr_greatestSafeSpeed) : ∀ (j : Nat) (ls : Array Slot), lv_has ls 4 [(3, .int (nI (2 * j))), (2, .int q)] → tBestL q j = r → j ≤ 1000 → (∀ ls : Array Slot, W p l e ({ frames := 3, cells := 0, slots := 0, locals := 69 }) s m args below meth cd H locs 0 0 Q (F0 m 22 ls [.int r])) → (∀ ls : Array Slot, W p l e ({ frames := 3, cells := 0, slots := 0, locals := 69 }) s m args below meth cd H locs 0 0 Q (F0 m 30 ls [.int r])) → W p l e ({ frames := 3, cells := 0, slots := 0, locals := 69 }) s m args below meth cd H locs 0 0 Q (F0 m 10 ls []) := by
  intro j
  induction j with
  | zero =>
    intro ls hl hr0 hj k22 k30
    refine lv_iload_n hx hb dTr_greatestSafeSpeed_10 rfl (lv_at hl 0 rfl) ?_
    refine lv_if_lt (tgt := 29) hx hb dTr_greatestSafeSpeed_11 (by decide) (fun c_1 => absurd c_1 (nI_pos (by omega))) (fun _ => ?_)
    refine lv_iload_n hx hb dTr_greatestSafeSpeed_14 rfl (lv_at hl 0 rfl) ?_
    refine lv_iload_n hx hb dTr_greatestSafeSpeed_15 rfl (lv_at hl 0 rfl) ?_
    refine lv_imul hx hb dTr_greatestSafeSpeed_16 ?_
    refine lv_iload_n hx hb dTr_greatestSafeSpeed_17 rfl (lv_at hl 1 rfl) ?_
    refine lv_icmp_gt (tgt := 23) hx hb dTr_greatestSafeSpeed_18 (by decide) (fun c_2 => ?_) (fun c_2 => ?_)
    · refine lv_iinc (v := (-2)) (lv' := [(3, .int (-2)), (2, .int q)]) hx hb dTr_greatestSafeSpeed_23 hl (k := 0) rfl (by decide +kernel) (by decide) rfl (fun ls hl => ?_)
      refine lv_goto (tgt := 10) hx hb dTr_greatestSafeSpeed_26 (by decide) ?_
      refine lv_iload_n hx hb dTr_greatestSafeSpeed_10 rfl (lv_at hl 0 rfl) ?_
      refine lv_if_lt (tgt := 29) hx hb dTr_greatestSafeSpeed_11 (by decide) (fun _ => ?_) (fun c_3 => absurd (by decide) c_3)
      refine lv_iconst (v := (-1)) hx hb dTr_greatestSafeSpeed_29 (by decide) ?_
      have hE : (-1 : Int32) = r := by rw [← hr0]; simp only [tBestL, if_pos c_2]
      rw [hE]
      exact k30 ls
    · refine lv_iload_n hx hb dTr_greatestSafeSpeed_21 rfl (lv_at hl 0 rfl) ?_
      have hE : nI (2 * 0) = r := by rw [← hr0]; simp only [tBestL, if_neg c_2]
      rw [hE]
      exact k22 ls
  | succ j ih =>
    intro ls hl hr0 hj k22 k30
    refine lv_iload_n hx hb dTr_greatestSafeSpeed_10 rfl (lv_at hl 0 rfl) ?_
    refine lv_if_lt (tgt := 29) hx hb dTr_greatestSafeSpeed_11 (by decide) (fun c_1 => absurd c_1 (nI_pos (by omega))) (fun _ => ?_)
    refine lv_iload_n hx hb dTr_greatestSafeSpeed_14 rfl (lv_at hl 0 rfl) ?_
    refine lv_iload_n hx hb dTr_greatestSafeSpeed_15 rfl (lv_at hl 0 rfl) ?_
    refine lv_imul hx hb dTr_greatestSafeSpeed_16 ?_
    refine lv_iload_n hx hb dTr_greatestSafeSpeed_17 rfl (lv_at hl 1 rfl) ?_
    refine lv_icmp_gt (tgt := 23) hx hb dTr_greatestSafeSpeed_18 (by decide) (fun c_2 => ?_) (fun c_2 => ?_)
    · refine lv_iinc (v := nI (2 * j)) (lv' := [(3, .int (nI (2 * j))), (2, .int q)]) hx hb dTr_greatestSafeSpeed_23 hl (k := 0) rfl (mk_m2 (2 * j)) (by decide) rfl (fun ls hl => ?_)
      refine lv_goto (tgt := 10) hx hb dTr_greatestSafeSpeed_26 (by decide) ?_
      exact ih ls hl (by rw [← hr0]; simp only [tBestL, if_pos c_2]) (by omega) k22 k30
    · refine lv_iload_n hx hb dTr_greatestSafeSpeed_21 rfl (lv_at hl 0 rfl) ?_
      have hE : nI (2 * (j + 1)) = r := by rw [← hr0]; simp only [tBestL, if_neg c_2]
      rw [hE]
      exact k22 ls
set_option maxHeartbeats 4000000 in
set_option maxRecDepth 100000 in
/-- greatestSafeSpeed -/
theorem c_Tr_best (l : Launch) (D : va_G) (g : Nat → ClassId) (a : Nat → Nat → Nat) (t : zTr) (b : Nat → Nat) (k : zTk) : mk_Rd l yTr_greatestSafeSpeed wsTr_greatestSafeSpeed ({ frames := 3, cells := 0, slots := 0, locals := 69 }) D vwCl (zty g) [.ref (a 0 0), .ref (b 0)] (wTr g a t ++ wTk g b k) (tBest t k) := by
  intro sz
  refine Met.ofW (cc := cTr_greatestSafeSpeed) (maxL := 4) (ret := (some .int)) (by decide) rfl ?_
  intro p e s m args below meth cd s₁ B hml hv
  obtain ⟨rfl, hsz, hP, hK, hD0⟩ := hv
  have hx := B.exec
  have hb := B.bytes
  have hr := B.returns
  have hts := atoms_spec (ws := wsTr_greatestSafeSpeed) B.pre
  have htB := fun (w : Cond) (h : w ∈ BIG) => hts w (List.mem_cons_of_mem _ h)
  have hown : s.vm.findClass RTr = some m.cls := findClass_of_methodNamed B.named
  have hlocks := B.notSynchronized
  subst hsz
  have hD := hD0
  have hA : ∀ q : Nat, s.heap.size ≤ q → (fun q => s.heap.size ≤ q) q := fun _ h => h
  have hS : va_S (fun q => s.heap.size ≤ q) s.heap s.heap [] := va_S.rf
  have hl := lv_entry ([.ref (a 0 0), .ref (b 0)]) (n := 4) (Nat.le_of_ble_eq_true rfl)
  rw [lg_entry_eq]
  generalize (lg_sl ([.ref (a 0 0), .ref (b 0)]) ++ List.replicate (4 - (lg_sl ([.ref (a 0 0), .ref (b 0)])).length) Slot.unset).toArray = ls at hl ⊢
  have hl : lv_has ls 4 [(0, .ref (a 0 0)), (1, .ref (b 0))] := hl
  have hP : va_P D vwCl (wTr g a t ++ wTk g b k) s.heap := hP
  refine lv_aload_n hx hb dTr_greatestSafeSpeed_0 rfl (lv_at hl 0 rfl) ?_
  refine lv_aload_n hx hb dTr_greatestSafeSpeed_1 rfl (lv_at hl 1 rfl) ?_
  refine mk_rdV (As := [.ref (b 0)]) (rest := []) (w := (wTr g a t ++ wTk g b k)) (q0 := (RTr, TTr, 11)) (ci := iTr) ⟨hx, hb, hml, hown, hts⟩ (c_Tr_here l D g a t b k ) (cwV 1 hts (gd_V b_280 b_281 b_282 b_4 b_283) rfl rfl rfl (by decide +kernel) ⟨Nat.le_of_ble_eq_true rfl, Nat.le_of_ble_eq_true rfl⟩) hK hP hD hS hA [0, 1, 2, 3, 4, 5, 6, 7, 8, 9, 10, 11, 12, 13] rfl (by decide) rfl rfl rfl hl.1 rfl (Nat.le_of_ble_eq_true rfl) dTr_greatestSafeSpeed_2 ⟨Nat.zero_le _, Nat.zero_le _⟩ (fun H locs hP hS => ?_)
  refine lv_istore_n (lv' := [(2, .int (tHere t k)), (0, .ref (a 0 0)), (1, .ref (b 0))]) hx hb dTr_greatestSafeSpeed_5 rfl hl (by decide) rfl (fun ls hl => ?_)
  refine lv_sipush (v := 320) hx hb dTr_greatestSafeSpeed_6 (by decide) ?_
  refine lv_istore_n (lv' := [(3, .int 320), (2, .int (tHere t k)), (0, .ref (a 0 0)), (1, .ref (b 0))]) hx hb dTr_greatestSafeSpeed_9 rfl hl (by decide) rfl (fun ls hl => ?_)
  refine lp_Tr_best (q := tHere t k) (r := tBest t k) hx hb 160 ls (lv_sub hl [0, 1] rfl) rfl (by decide) (fun ls => ?_) (fun ls => ?_)
  · exact W.iret (v := tBest t k) hx hb hr (fun t9 ht hW => ⟨⟨tBest t k, (), rfl, rfl, trivial⟩, hS.F ht⟩) hS.2.2 dTr_greatestSafeSpeed_22
  · exact W.iret (v := tBest t k) hx hb hr (fun t9 ht hW => ⟨⟨tBest t k, (), rfl, rfl, trivial⟩, hS.F ht⟩) hS.2.2 dTr_greatestSafeSpeed_30
