set_option maxHeartbeats 4000000 in
set_option maxRecDepth 100000 in
/-- floorMod of a number that is not negative, by 5 -/
theorem c_fm (l : Launch) (D : va_G) (g : Nat → ClassId) (n : Nat) (hn : n < 2 ^ 31) : mk_Rd l yMa_floorMod wsMa_floorMod ({ frames := 0, cells := 0, slots := 0, locals := 0 }) D vwCl (zty g) [.int (nI n), .int 5] ([]) (nI (n % 5)) := by
  intro sz
  refine va_MetF (cc := cMa_floorMod) (maxL := 3) (ret := (some .int)) (by decide +kernel) rfl ?_
  intro p e s m args below meth cd s₁ B hml hv
  obtain ⟨rfl, hsz, hP, hK, hD0⟩ := hv
  have hx := B.exec
  have hb := B.bytes
  have hr := B.returns
  have hts := atoms_spec (ws := wsMa_floorMod) B.pre
  have htB := fun (w : Cond) (h : w ∈ BIG) => hts w (List.mem_cons_of_mem _ h)
  have hown : s.vm.findClass RMa = some m.cls := findClass_of_methodNamed B.named
  have hlocks := B.notSynchronized
  subst hsz
  have hD := hD0
  have hA : ∀ q : Nat, s.heap.size ≤ q → (fun q => s.heap.size ≤ q) q := fun _ h => h
  have hS : va_S (fun q => s.heap.size ≤ q) s.heap s.heap [] := va_S.rf
  have hl := lv_entry ([.int (nI n), .int 5]) (n := 3) (Nat.le_of_ble_eq_true rfl)
  rw [lg_entry_eq]
  generalize (lg_sl ([.int (nI n), .int 5]) ++ List.replicate (3 - (lg_sl ([.int (nI n), .int 5])).length) Slot.unset).toArray = ls at hl ⊢
  have hl : lv_has ls 3 [(0, .int (nI n)), (1, .int 5)] := hl
  have hP : va_P D vwCl ([]) s.heap := hP
  have hP : va_P D vwCl [] s.heap := hP
  refine lv_iload_n hx hb dMa_floorMod_0 rfl (lv_at hl 0 rfl) ?_
  refine lv_iload_n hx hb dMa_floorMod_1 rfl (lv_at hl 1 rfl) ?_
  refine lv_irem hx hb dMa_floorMod_2 (by decide) ?_
  rw [show nI n - nI n / 5 * 5 = nI (n % 5) from pk_rem (a := n) (d := 5) hn (by decide) (by decide)]
  refine lv_istore_n (lv' := [(2, .int (nI (n % 5))), (0, .int (nI n)), (1, .int 5)]) hx hb dMa_floorMod_3 rfl hl (by decide) rfl (fun ls hl => ?_)
  refine lv_iload_n hx hb dMa_floorMod_4 rfl (lv_at hl 1 rfl) ?_
  refine lv_iload_n hx hb dMa_floorMod_5 rfl (lv_at hl 2 rfl) ?_
  refine lv_ixor hx hb dMa_floorMod_6 ?_
  refine lv_if_ge (tgt := 18) hx hb dMa_floorMod_7 (by decide) (fun _ => ?_) (fun c_1 => absurd (fm_pos hn) c_1)
  refine lv_iload_n hx hb dMa_floorMod_18 rfl (lv_at hl 0 rfl) ?_
  exact W.iret (v := nI (n % 5)) hx hb hr (fun t9 ht hW => ⟨⟨nI (n % 5), (), rfl, (by first | rfl | (simp only [] <;> rfl)), trivial⟩, hS.F ht⟩) hS.2.2 dMa_floorMod_19
set_option maxHeartbeats 4000000 in
set_option maxRecDepth 100000 in
/-- whether one was ever taken -/
theorem c_Ch_wasTaken (l : Launch) (D : va_G) (g : Nat → ClassId) (a : Nat → Nat) (c : zCh) : mk_Rd l yCh_wasTaken wsCh_wasTaken ({ frames := 0, cells := 0, slots := 0, locals := 0 }) D vwCl (zty g) [.ref (a 0)] (wCh g a c) (bI (cTaken c)) := by
  intro sz
  refine Met.ofW (cc := cCh_wasTaken) (maxL := 1) (ret := (some .boolean)) (by decide) rfl ?_
  intro p e s m args below meth cd s₁ B hml hv
  obtain ⟨rfl, hsz, hP, hK, hD0⟩ := hv
  have hx := B.exec
  have hb := B.bytes
  have hr := B.returns
  have hts := atoms_spec (ws := wsCh_wasTaken) B.pre
  have htB := fun (w : Cond) (h : w ∈ BIG) => hts w (List.mem_cons_of_mem _ h)
  have hown : s.vm.findClass RCh = some m.cls := findClass_of_methodNamed B.named
  have hlocks := B.notSynchronized
  subst hsz
  have hD := hD0
  have hA : ∀ q : Nat, s.heap.size ≤ q → (fun q => s.heap.size ≤ q) q := fun _ h => h
  have hS : va_S (fun q => s.heap.size ≤ q) s.heap s.heap [] := va_S.rf
  have hl := lv_entry ([.ref (a 0)]) (n := 1) (Nat.le_of_ble_eq_true rfl)
  rw [lg_entry_eq]
  generalize (lg_sl ([.ref (a 0)]) ++ List.replicate (1 - (lg_sl ([.ref (a 0)])).length) Slot.unset).toArray = ls at hl ⊢
  have hl : lv_has ls 1 [(0, .ref (a 0))] := hl
  have hP : va_P D vwCl (wCh g a c) s.heap := hP
  refine lv_aload_n hx hb dCh_wasTaken_0 rfl (lv_at hl 0 rfl) ?_
  refine va_get (D := D) (ci := iCh) (v := .int (csp c)) (C := RCh) (T := TCh) (N := 10) hx hb htB inBCh hown hK hP 0 rfl rfl 5 (by decide) (htB _ b_73) (fun _ h9 => h9) rfl dCh_wasTaken_1 ?_
  refine lv_if_le (tgt := 11) hx hb dCh_wasTaken_4 (by decide) (fun c_1 => ?_) (fun c_1 => ?_)
  · refine lv_iconst (v := 0) hx hb dCh_wasTaken_11 (by decide) ?_
    exact W.zret (v := 0) hx hb hr rfl (fun t9 ht hW => ⟨⟨0, (), rfl, (by simp only [cTaken, if_pos c_1] <;> rfl), trivial⟩, hS.F ht⟩) hS.2.2 dCh_wasTaken_12
  · refine lv_iconst (v := 1) hx hb dCh_wasTaken_7 (by decide) ?_
    refine lv_goto (tgt := 12) hx hb dCh_wasTaken_8 (by decide) ?_
    exact W.zret (v := 1) hx hb hr rfl (fun t9 ht hW => ⟨⟨1, (), rfl, (by simp only [cTaken, if_neg c_1] <;> rfl), trivial⟩, hS.F ht⟩) hS.2.2 dCh_wasTaken_12
set_option maxHeartbeats 4000000 in
set_option maxRecDepth 100000 in
/-- send: lost, or into the slot of the clock -/
theorem c_Ch_send (l : Launch) (D : va_G) (g : Nat → ClassId) (a : Nat → Nat) (c : zCh) (n : Nat) (x y : Int32) (hn : n < 1000000) : mk_Wv l yCh_send wsCh_send ({ frames := 1, cells := 0, slots := 0, locals := 22 }) D vwCl (zty g) [.ref (a 0), .int (nI n), .int x, .int y] (wCh g a c) (wCh g a (cSend c n x y)) := by
  intro sz
  refine Met.ofW (cc := cCh_send) (maxL := 5) (ret := none) (by decide) rfl ?_
  intro p e s m args below meth cd s₁ B hml hv
  obtain ⟨rfl, hsz, hP, hK, hD0⟩ := hv
  have hx := B.exec
  have hb := B.bytes
  have hr := B.returns
  have hts := atoms_spec (ws := wsCh_send) B.pre
  have htB := fun (w : Cond) (h : w ∈ BIG) => hts w (List.mem_cons_of_mem _ h)
  have hown : s.vm.findClass RCh = some m.cls := findClass_of_methodNamed B.named
  have hlocks := B.notSynchronized
  subst hsz
  have hD := hD0.self (sz := s.heap.size)
  generalize hAe : va_A (wCh g a c) s.heap.size = A at hD ⊢
  have hA : ∀ q : Nat, s.heap.size ≤ q → A q := fun q h => by rw [← hAe]; exact Or.inr h
  have hS : va_S A s.heap s.heap [] := va_S.rf
  have hl := lv_entry ([.ref (a 0), .int (nI n), .int x, .int y]) (n := 5) (Nat.le_of_ble_eq_true rfl)
  rw [lg_entry_eq]
  generalize (lg_sl ([.ref (a 0), .int (nI n), .int x, .int y]) ++ List.replicate (5 - (lg_sl ([.ref (a 0), .int (nI n), .int x, .int y])).length) Slot.unset).toArray = ls at hl ⊢
  have hl : lv_has ls 5 [(0, .ref (a 0)), (1, .int (nI n)), (2, .int x), (3, .int y)] := hl
  have hP : va_P D vwCl (wCh g a c) s.heap := hP
  refine lv_aload_n hx hb dCh_send_0 rfl (lv_at hl 0 rfl) ?_
  refine va_get (D := D) (ci := iCh) (v := .int (cdl c)) (C := RCh) (T := TCh) (N := 10) hx hb htB inBCh hown hK hP 0 rfl rfl 4 (by decide) (htB _ b_71) (fun _ h9 => h9) rfl dCh_send_1 ?_
  refine lv_if_ne (tgt := 18) hx hb dCh_send_4 (by decide) (fun c_1 => ?_) (fun c_1 => ?_)
  · refine lv_iload_n hx hb dCh_send_18 rfl (lv_at hl 1 rfl) ?_
    refine lv_iconst (v := 5) hx hb dCh_send_19 (by decide) ?_
    refine mk_rdS (As := [.int (nI n), .int 5]) (rest := []) (w := []) ⟨hx, hb, hml, hown, hts⟩ (c_fm l D g n (by omega)) (va_cwS 2 hts (gd_S b_234 b_235 b_7 b_236) rfl rfl rfl (by decide +kernel) ⟨Nat.le_of_ble_eq_true rfl, Nat.le_of_ble_eq_true rfl⟩) hK hP hD hS hA [] rfl rfl rfl hl.1 rfl (Nat.le_of_ble_eq_true rfl) dCh_send_20 ⟨Nat.zero_le _, Nat.zero_le _⟩ (fun H locs hP hS => ?_)
    refine lv_istore (lv' := [(4, .int (nI (n % 5))), (0, .ref (a 0)), (1, .int (nI n)), (2, .int x), (3, .int y)]) hx hb dCh_send_23 hl (by decide) rfl (fun ls hl => ?_)
    refine lv_aload_n hx hb dCh_send_25 rfl (lv_at hl 1 rfl) ?_
    refine va_get (D := D) (ci := iCh) (v := .ref (a 1)) (C := RCh) (T := TCh) (N := 10) hx hb htB inBCh hown hK hP 0 rfl rfl 0 (by decide) (htB _ b_67) (fun _ h9 => h9) rfl dCh_send_26 ?_
    refine lv_iload hx hb dCh_send_29 (lv_at hl 0 rfl) ?_
    refine lv_iload_n hx hb dCh_send_31 rfl (lv_at hl 2 rfl) ?_
    refine mk_iast (k := (n % 5)) hx hb hK hP hD hS 1 0 rfl rfl rfl ⟨Nat.mod_lt _ (by decide), by decide⟩ dCh_send_32 (fun H locs hP hD hS => ?_)
    have hP : va_P D vwCl (wCh g a ((upd (cst c) (n % 5) (nI n)), (car c), (cfi c), (cse c), (cdl c), (csp c), (cf1 c), (cf2 c), (clo c), (cnt c))) H := hP
    have hD : va_D A (wCh g a ((upd (cst c) (n % 5) (nI n)), (car c), (cfi c), (cse c), (cdl c), (csp c), (cf1 c), (cf2 c), (clo c), (cnt c))) := hD
    refine lv_aload_n hx hb dCh_send_33 rfl (lv_at hl 1 rfl) ?_
    refine va_get (D := D) (ci := iCh) (v := .ref (a 2)) (C := RCh) (T := TCh) (N := 10) hx hb htB inBCh hown hK hP 0 rfl rfl 1 (by decide) (htB _ b_68) (fun _ h9 => h9) rfl dCh_send_34 ?_
    refine lv_iload hx hb dCh_send_37 (lv_at hl 0 rfl) ?_
    refine lv_iload_n hx hb dCh_send_39 rfl (lv_at hl 2 rfl) ?_
    refine lv_aload_n hx hb dCh_send_40 rfl (lv_at hl 1 rfl) ?_
    refine va_get (D := D) (ci := iCh) (v := .int (cdl c)) (C := RCh) (T := TCh) (N := 10) hx hb htB inBCh hown hK hP 0 rfl rfl 4 (by decide) (htB _ b_71) (fun _ h9 => h9) rfl dCh_send_41 ?_
    refine lv_iadd hx hb dCh_send_44 ?_
    refine lv_iconst (v := 1) hx hb dCh_send_45 (by decide) ?_
    refine lv_isub hx hb dCh_send_46 ?_
    refine mk_iast (k := (n % 5)) hx hb hK hP hD hS 2 0 rfl rfl rfl ⟨Nat.mod_lt _ (by decide), by decide⟩ dCh_send_47 (fun H locs hP hD hS => ?_)
    have hP : va_P D vwCl (wCh g a ((upd (cst c) (n % 5) (nI n)), (upd (car c) (n % 5) (((nI n) + (cdl c)) - 1)), (cfi c), (cse c), (cdl c), (csp c), (cf1 c), (cf2 c), (clo c), (cnt c))) H := hP
    have hD : va_D A (wCh g a ((upd (cst c) (n % 5) (nI n)), (upd (car c) (n % 5) (((nI n) + (cdl c)) - 1)), (cfi c), (cse c), (cdl c), (csp c), (cf1 c), (cf2 c), (clo c), (cnt c))) := hD
    refine lv_aload_n hx hb dCh_send_48 rfl (lv_at hl 1 rfl) ?_
    refine va_get (D := D) (ci := iCh) (v := .ref (a 3)) (C := RCh) (T := TCh) (N := 10) hx hb htB inBCh hown hK hP 0 rfl rfl 2 (by decide) (htB _ b_69) (fun _ h9 => h9) rfl dCh_send_49 ?_
    refine lv_iload hx hb dCh_send_52 (lv_at hl 0 rfl) ?_
    refine lv_iload_n hx hb dCh_send_54 rfl (lv_at hl 3 rfl) ?_
    refine mk_iast (k := (n % 5)) hx hb hK hP hD hS 3 0 rfl rfl rfl ⟨Nat.mod_lt _ (by decide), by decide⟩ dCh_send_55 (fun H locs hP hD hS => ?_)
    have hP : va_P D vwCl (wCh g a ((upd (cst c) (n % 5) (nI n)), (upd (car c) (n % 5) (((nI n) + (cdl c)) - 1)), (upd (cfi c) (n % 5) x), (cse c), (cdl c), (csp c), (cf1 c), (cf2 c), (clo c), (cnt c))) H := hP
    have hD : va_D A (wCh g a ((upd (cst c) (n % 5) (nI n)), (upd (car c) (n % 5) (((nI n) + (cdl c)) - 1)), (upd (cfi c) (n % 5) x), (cse c), (cdl c), (csp c), (cf1 c), (cf2 c), (clo c), (cnt c))) := hD
    refine lv_aload_n hx hb dCh_send_56 rfl (lv_at hl 1 rfl) ?_
    refine va_get (D := D) (ci := iCh) (v := .ref (a 4)) (C := RCh) (T := TCh) (N := 10) hx hb htB inBCh hown hK hP 0 rfl rfl 3 (by decide) (htB _ b_70) (fun _ h9 => h9) rfl dCh_send_57 ?_
    refine lv_iload hx hb dCh_send_60 (lv_at hl 0 rfl) ?_
    refine lv_iload_n hx hb dCh_send_62 rfl (lv_at hl 4 rfl) ?_
    refine mk_iast (k := (n % 5)) hx hb hK hP hD hS 4 0 rfl rfl rfl ⟨Nat.mod_lt _ (by decide), by decide⟩ dCh_send_63 (fun H locs hP hD hS => ?_)
    have hP : va_P D vwCl (wCh g a ((upd (cst c) (n % 5) (nI n)), (upd (car c) (n % 5) (((nI n) + (cdl c)) - 1)), (upd (cfi c) (n % 5) x), (upd (cse c) (n % 5) y), (cdl c), (csp c), (cf1 c), (cf2 c), (clo c), (cnt c))) H := hP
    have hD : va_D A (wCh g a ((upd (cst c) (n % 5) (nI n)), (upd (car c) (n % 5) (((nI n) + (cdl c)) - 1)), (upd (cfi c) (n % 5) x), (upd (cse c) (n % 5) y), (cdl c), (csp c), (cf1 c), (cf2 c), (clo c), (cnt c))) := hD
    have hE : wCh g a (cSend c n x y) = wCh g a ((upd (cst c) (n % 5) (nI n)), (upd (car c) (n % 5) (((nI n) + (cdl c)) - 1)), (upd (cfi c) (n % 5) x), (upd (cse c) (n % 5) y), (cdl c), (csp c), (cf1 c), (cf2 c), (clo c), (cnt c)) := (by simp only [cSend, if_neg c_1] <;> rfl)
    exact W.vret hx hb hr (fun t9 ht hW => ⟨⟨(), rfl, trivial, mk_end ht hE hP⟩, hS.F ht⟩) hS.2.2 dCh_send_64
  · refine lv_aload_n hx hb dCh_send_7 rfl (lv_at hl 0 rfl) ?_
    refine lv_dup hx hb dCh_send_8 rfl ?_
    refine va_get (D := D) (ci := iCh) (v := .int (clo c)) (C := RCh) (T := TCh) (N := 10) hx hb htB inBCh hown hK hP 0 rfl rfl 8 (by decide) (htB _ b_81) (fun _ h9 => h9) rfl dCh_send_9 ?_
    refine lv_iconst (v := 1) hx hb dCh_send_12 (by decide) ?_
    refine lv_iadd hx hb dCh_send_13 ?_
    refine va_put (D := D) (ci := iCh) (v := .int ((clo c) + 1)) (ty := .int) (C := RCh) (T := TCh) (N := 10) hx hb htB inBCh tyCh tyCh_ok nmCh hown hK hP hD hS 0 rfl rfl 8 (by decide) (htB _ b_81) (fun _ h9 => h9) rfl (by decide +kernel) rfl rfl (Nat.le_of_ble_eq_true rfl) dCh_send_14 (fun H locs hP hD hS => ?_)
    have hP : va_P D vwCl (wCh g a ((cst c), (car c), (cfi c), (cse c), (cdl c), (csp c), (cf1 c), (cf2 c), (clo c) + 1, (cnt c))) H := hP
    have hD : va_D A (wCh g a ((cst c), (car c), (cfi c), (cse c), (cdl c), (csp c), (cf1 c), (cf2 c), (clo c) + 1, (cnt c))) := hD
    have hE : wCh g a (cSend c n x y) = wCh g a ((cst c), (car c), (cfi c), (cse c), (cdl c), (csp c), (cf1 c), (cf2 c), (clo c) + 1, (cnt c)) := (by simp only [cSend, if_pos c_1] <;> rfl)
    exact W.vret hx hb hr (fun t9 ht hW => ⟨⟨(), rfl, trivial, mk_end ht hE hP⟩, hS.F ht⟩) hS.2.2 dCh_send_17
set_option maxHeartbeats 4000000 in
set_option maxRecDepth 100000 in
/-- takeIfNewer -/
theorem c_Ch_take (l : Launch) (D : va_G) (g : Nat → ClassId) (a : Nat → Nat) (c : zCh) (k : Nat) (hk : k < 5) : mk_Wv l yCh_takeIfNewer wsCh_takeIfNewer ({ frames := 0, cells := 0, slots := 0, locals := 0 }) D vwCl (zty g) [.ref (a 0), .int (nI k)] (wCh g a c) (wCh g a (cTake c k)) := by
  intro sz
  refine Met.ofW (cc := cCh_takeIfNewer) (maxL := 2) (ret := none) (by decide) rfl ?_
  intro p e s m args below meth cd s₁ B hml hv
  obtain ⟨rfl, hsz, hP, hK, hD0⟩ := hv
  have hx := B.exec
  have hb := B.bytes
  have hr := B.returns
  have hts := atoms_spec (ws := wsCh_takeIfNewer) B.pre
  have htB := fun (w : Cond) (h : w ∈ BIG) => hts w (List.mem_cons_of_mem _ h)
  have hown : s.vm.findClass RCh = some m.cls := findClass_of_methodNamed B.named
  have hlocks := B.notSynchronized
  subst hsz
  have hD := hD0.self (sz := s.heap.size)
  generalize hAe : va_A (wCh g a c) s.heap.size = A at hD ⊢
  have hA : ∀ q : Nat, s.heap.size ≤ q → A q := fun q h => by rw [← hAe]; exact Or.inr h
  have hS : va_S A s.heap s.heap [] := va_S.rf
  have hl := lv_entry ([.ref (a 0), .int (nI k)]) (n := 2) (Nat.le_of_ble_eq_true rfl)
  rw [lg_entry_eq]
  generalize (lg_sl ([.ref (a 0), .int (nI k)]) ++ List.replicate (2 - (lg_sl ([.ref (a 0), .int (nI k)])).length) Slot.unset).toArray = ls at hl ⊢
  have hl : lv_has ls 2 [(0, .ref (a 0)), (1, .int (nI k))] := hl
  have hP : va_P D vwCl (wCh g a c) s.heap := hP
  refine lv_aload_n hx hb dCh_takeIfNewer_0 rfl (lv_at hl 0 rfl) ?_
  refine va_get (D := D) (ci := iCh) (v := .ref (a 1)) (C := RCh) (T := TCh) (N := 10) hx hb htB inBCh hown hK hP 0 rfl rfl 0 (by decide) (htB _ b_67) (fun _ h9 => h9) rfl dCh_takeIfNewer_1 ?_
  refine lv_iload_n hx hb dCh_takeIfNewer_4 rfl (lv_at hl 1 rfl) ?_
  refine mk_iald (k := k) hx hb hK hP 1 0 rfl rfl rfl ⟨hk, by decide⟩ dCh_takeIfNewer_5 ?_
  refine lv_aload_n hx hb dCh_takeIfNewer_6 rfl (lv_at hl 0 rfl) ?_
  refine va_get (D := D) (ci := iCh) (v := .int (csp c)) (C := RCh) (T := TCh) (N := 10) hx hb htB inBCh hown hK hP 0 rfl rfl 5 (by decide) (htB _ b_73) (fun _ h9 => h9) rfl dCh_takeIfNewer_7 ?_
  refine lv_icmp_gt (tgt := 24) hx hb dCh_takeIfNewer_10 (by decide) (fun c_1 => ?_) (fun c_1 => ?_)
  · refine lv_aload_n hx hb dCh_takeIfNewer_24 rfl (lv_at hl 0 rfl) ?_
    refine lv_aload_n hx hb dCh_takeIfNewer_25 rfl (lv_at hl 0 rfl) ?_
    refine va_get (D := D) (ci := iCh) (v := .ref (a 1)) (C := RCh) (T := TCh) (N := 10) hx hb htB inBCh hown hK hP 0 rfl rfl 0 (by decide) (htB _ b_67) (fun _ h9 => h9) rfl dCh_takeIfNewer_26 ?_
    refine lv_iload_n hx hb dCh_takeIfNewer_29 rfl (lv_at hl 1 rfl) ?_
    refine mk_iald (k := k) hx hb hK hP 1 0 rfl rfl rfl ⟨hk, by decide⟩ dCh_takeIfNewer_30 ?_
    refine va_put (D := D) (ci := iCh) (v := .int ((cst c) k)) (ty := .int) (C := RCh) (T := TCh) (N := 10) hx hb htB inBCh tyCh tyCh_ok nmCh hown hK hP hD hS 0 rfl rfl 5 (by decide) (htB _ b_73) (fun _ h9 => h9) rfl (by decide +kernel) rfl rfl (Nat.le_of_ble_eq_true rfl) dCh_takeIfNewer_31 (fun H locs hP hD hS => ?_)
    have hP : va_P D vwCl (wCh g a ((cst c), (car c), (cfi c), (cse c), (cdl c), (cst c) k, (cf1 c), (cf2 c), (clo c), (cnt c))) H := hP
    have hD : va_D A (wCh g a ((cst c), (car c), (cfi c), (cse c), (cdl c), (cst c) k, (cf1 c), (cf2 c), (clo c), (cnt c))) := hD
    refine lv_aload_n hx hb dCh_takeIfNewer_34 rfl (lv_at hl 0 rfl) ?_
    refine lv_aload_n hx hb dCh_takeIfNewer_35 rfl (lv_at hl 0 rfl) ?_
    refine va_get (D := D) (ci := iCh) (v := .ref (a 3)) (C := RCh) (T := TCh) (N := 10) hx hb htB inBCh hown hK hP 0 rfl rfl 2 (by decide) (htB _ b_69) (fun _ h9 => h9) rfl dCh_takeIfNewer_36 ?_
    refine lv_iload_n hx hb dCh_takeIfNewer_39 rfl (lv_at hl 1 rfl) ?_
    refine mk_iald (k := k) hx hb hK hP 3 0 rfl rfl rfl ⟨hk, by decide⟩ dCh_takeIfNewer_40 ?_
    refine va_put (D := D) (ci := iCh) (v := .int ((cfi c) k)) (ty := .int) (C := RCh) (T := TCh) (N := 10) hx hb htB inBCh tyCh tyCh_ok nmCh hown hK hP hD hS 0 rfl rfl 6 (by decide) (htB _ b_76) (fun _ h9 => h9) rfl (by decide +kernel) rfl rfl (Nat.le_of_ble_eq_true rfl) dCh_takeIfNewer_41 (fun H locs hP hD hS => ?_)
    have hP : va_P D vwCl (wCh g a ((cst c), (car c), (cfi c), (cse c), (cdl c), (cst c) k, (cfi c) k, (cf2 c), (clo c), (cnt c))) H := hP
    have hD : va_D A (wCh g a ((cst c), (car c), (cfi c), (cse c), (cdl c), (cst c) k, (cfi c) k, (cf2 c), (clo c), (cnt c))) := hD
    refine lv_aload_n hx hb dCh_takeIfNewer_44 rfl (lv_at hl 0 rfl) ?_
    refine lv_aload_n hx hb dCh_takeIfNewer_45 rfl (lv_at hl 0 rfl) ?_
    refine va_get (D := D) (ci := iCh) (v := .ref (a 4)) (C := RCh) (T := TCh) (N := 10) hx hb htB inBCh hown hK hP 0 rfl rfl 3 (by decide) (htB _ b_70) (fun _ h9 => h9) rfl dCh_takeIfNewer_46 ?_
    refine lv_iload_n hx hb dCh_takeIfNewer_49 rfl (lv_at hl 1 rfl) ?_
    refine mk_iald (k := k) hx hb hK hP 4 0 rfl rfl rfl ⟨hk, by decide⟩ dCh_takeIfNewer_50 ?_
    refine va_put (D := D) (ci := iCh) (v := .int ((cse c) k)) (ty := .int) (C := RCh) (T := TCh) (N := 10) hx hb htB inBCh tyCh tyCh_ok nmCh hown hK hP hD hS 0 rfl rfl 7 (by decide) (htB _ b_79) (fun _ h9 => h9) rfl (by decide +kernel) rfl rfl (Nat.le_of_ble_eq_true rfl) dCh_takeIfNewer_51 (fun H locs hP hD hS => ?_)
    have hP : va_P D vwCl (wCh g a ((cst c), (car c), (cfi c), (cse c), (cdl c), (cst c) k, (cfi c) k, (cse c) k, (clo c), (cnt c))) H := hP
    have hD : va_D A (wCh g a ((cst c), (car c), (cfi c), (cse c), (cdl c), (cst c) k, (cfi c) k, (cse c) k, (clo c), (cnt c))) := hD
    have hE : wCh g a (cTake c k) = wCh g a ((cst c), (car c), (cfi c), (cse c), (cdl c), (cst c) k, (cfi c) k, (cse c) k, (clo c), (cnt c)) := (by simp only [cTake, if_pos c_1] <;> rfl)
    exact W.vret hx hb hr (fun t9 ht hW => ⟨⟨(), rfl, trivial, mk_end ht hE hP⟩, hS.F ht⟩) hS.2.2 dCh_takeIfNewer_54
  · refine lv_aload_n hx hb dCh_takeIfNewer_13 rfl (lv_at hl 0 rfl) ?_
    refine lv_dup hx hb dCh_takeIfNewer_14 rfl ?_
    refine va_get (D := D) (ci := iCh) (v := .int (cnt c)) (C := RCh) (T := TCh) (N := 10) hx hb htB inBCh hown hK hP 0 rfl rfl 9 (by decide) (htB _ b_83) (fun _ h9 => h9) rfl dCh_takeIfNewer_15 ?_
    refine lv_iconst (v := 1) hx hb dCh_takeIfNewer_18 (by decide) ?_
    refine lv_iadd hx hb dCh_takeIfNewer_19 ?_
    refine va_put (D := D) (ci := iCh) (v := .int ((cnt c) + 1)) (ty := .int) (C := RCh) (T := TCh) (N := 10) hx hb htB inBCh tyCh tyCh_ok nmCh hown hK hP hD hS 0 rfl rfl 9 (by decide) (htB _ b_83) (fun _ h9 => h9) rfl (by decide +kernel) rfl rfl (Nat.le_of_ble_eq_true rfl) dCh_takeIfNewer_20 (fun H locs hP hD hS => ?_)
    have hP : va_P D vwCl (wCh g a ((cst c), (car c), (cfi c), (cse c), (cdl c), (csp c), (cf1 c), (cf2 c), (clo c), (cnt c) + 1)) H := hP
    have hD : va_D A (wCh g a ((cst c), (car c), (cfi c), (cse c), (cdl c), (csp c), (cf1 c), (cf2 c), (clo c), (cnt c) + 1)) := hD
    have hE : wCh g a (cTake c k) = wCh g a ((cst c), (car c), (cfi c), (cse c), (cdl c), (csp c), (cf1 c), (cf2 c), (clo c), (cnt c) + 1) := (by simp only [cTake, if_neg c_1] <;> rfl)
    exact W.vret hx hb hr (fun t9 ht hW => ⟨⟨(), rfl, trivial, mk_end ht hE hP⟩, hS.F ht⟩) hS.2.2 dCh_takeIfNewer_23
set_option maxHeartbeats 4000000 in
set_option maxRecDepth 100000 in
theorem lp_Ch_receive {p : Program} {l : Launch} {e : Env} {s : State} {m : MethodId} {args : Array Value} {below : List Frame} {meth : Method} {cd : Code} {Q : State → Prop} {D : va_G} {g : Nat → ClassId} {A : Nat → Prop} {a : Nat → Nat} {n : Nat} (hn : n < 1000000) (hx : p.tables.exec = Jvm.exec) (hb : cd.code = cCh_receive) (hml : cd.maxLocals = 4) (hown : s.vm.findClass RCh = some m.cls) (hts : ∀ w ∈ wsCh_receive, w.before args s = true) (hK : va_K D vwCl (zty g) s) (hA : ∀ q : Nat, s.heap.size ≤ q → A q) : ∀ (j i : Nat) (c : zCh) (H : Heap) (locs : List Loc) (ls : Array Slot), i + j = 6 → va_P D vwCl (wCh g a c) H → va_D A (wCh g a c) → va_S A s.heap H locs → lv_has ls 4 [(2, .int (nI i)), (0, .ref (a 0)), (1, .int (nI n))] → (∀ (H : Heap) (locs : List Loc) (ls : Array Slot), va_P D vwCl (wCh g a (cRecL n j i c)) H → va_D A (wCh g a (cRecL n j i c)) → va_S A s.heap H locs → lv_has ls 4 [(0, .ref (a 0)), (1, .int (nI n))] → W p l e ({ frames := 1, cells := 0, slots := 0, locals := 22 }) s m args below meth cd H locs 0 0 Q (F0 m 36 ls [])) → W p l e ({ frames := 1, cells := 0, slots := 0, locals := 22 }) s m args below meth cd H locs 0 0 Q (F0 m 2 ls []) := by
  have htB : ∀ w ∈ BIG, w.before args s = true := fun w h => hts w (List.mem_cons_of_mem _ h)
  intro j
  induction j with
  | zero =>
    intro i c H locs ls hi hP hD hS hl kk
    refine lv_iload_n hx hb dCh_receive_2 rfl (lv_at hl 0 rfl) ?_
    refine lv_iconst (v := 5) hx hb dCh_receive_3 (by decide) ?_
    refine lv_icmp_gt (tgt := 36) hx hb dCh_receive_4 (by decide) (fun _ => ?_) (fun c_1 => absurd (nI_lt (a := 5) (b := i) (by omega) (by omega)) c_1)
    exact kk H locs ls hP hD hS (lv_sub hl [1, 2] rfl)
  | succ j ih =>
    intro i c H locs ls hi hP hD hS hl kk
    refine lv_iload_n hx hb dCh_receive_2 rfl (lv_at hl 0 rfl) ?_
    refine lv_iconst (v := 5) hx hb dCh_receive_3 (by decide) ?_
    refine lv_icmp_gt (tgt := 36) hx hb dCh_receive_4 (by decide) (fun c_1 => absurd c_1 (nI_nlt (a := 5) (b := i) (by omega) (by decide))) (fun _ => ?_)
    refine lv_iload_n hx hb dCh_receive_7 rfl (lv_at hl 2 rfl) ?_
    refine lv_iload_n hx hb dCh_receive_8 rfl (lv_at hl 0 rfl) ?_
    refine lv_iadd hx hb dCh_receive_9 ?_
    refine lv_topi (fun z_2 e_2 => ?_)
    rw [nI_add] at e_2
    subst e_2
    refine lv_iconst (v := 5) hx hb dCh_receive_10 (by decide) ?_
    refine mk_rdS (As := [.int (nI (n + i)), .int 5]) (rest := []) (w := []) ⟨hx, hb, hml, hown, hts⟩ (c_fm l D g (n + i) (by omega)) (va_cwS 2 hts (gd_S b_234 b_235 b_7 b_236) rfl rfl rfl (by decide +kernel) ⟨Nat.le_of_ble_eq_true rfl, Nat.le_of_ble_eq_true rfl⟩) hK hP hD hS hA [] rfl rfl rfl hl.1 rfl (Nat.le_of_ble_eq_true rfl) dCh_receive_11 ⟨Nat.zero_le _, Nat.zero_le _⟩ (fun H locs hP hS => ?_)
    refine lv_istore_n (lv' := [(3, .int (nI ((n + i) % 5))), (2, .int (nI i)), (0, .ref (a 0)), (1, .int (nI n))]) hx hb dCh_receive_14 rfl hl (by decide) rfl (fun ls hl => ?_)
    refine lv_aload_n hx hb dCh_receive_15 rfl (lv_at hl 2 rfl) ?_
    refine va_get (D := D) (ci := iCh) (v := .ref (a 2)) (C := RCh) (T := TCh) (N := 10) hx hb htB inBCh hown hK hP 0 rfl rfl 1 (by decide) (htB _ b_68) (fun _ h9 => h9) rfl dCh_receive_16 ?_
    refine lv_iload_n hx hb dCh_receive_19 rfl (lv_at hl 0 rfl) ?_
    refine mk_iald (k := ((n + i) % 5)) hx hb hK hP 2 0 rfl rfl rfl ⟨Nat.mod_lt _ (by decide), by decide⟩ dCh_receive_20 ?_
    refine lv_iload_n hx hb dCh_receive_21 rfl (lv_at hl 3 rfl) ?_
    refine lv_icmp_ne (tgt := 30) hx hb dCh_receive_22 (by decide) (fun c_3 => ?_) (fun c_3 => ?_)
    · refine lv_iinc (v := nI (i + 1)) (lv' := [(2, .int (nI (i + 1))), (3, .int (nI ((n + i) % 5))), (0, .ref (a 0)), (1, .int (nI n))]) hx hb dCh_receive_30 hl (k := 1) rfl (nI_1 _) (by decide) rfl (fun ls hl => ?_)
      refine lv_goto (tgt := 2) hx hb dCh_receive_33 (by decide) ?_
      have hE : cRecL n (j + 1) i c = cRecL n j (i + 1) c := (by simp only [cRecL, if_neg c_3] <;> rfl)
      rw [hE] at kk
      exact ih (i + 1) c H locs ls (by omega) hP hD hS (lv_sub hl [0, 2, 3] rfl) kk
    · refine lv_aload_n hx hb dCh_receive_25 rfl (lv_at hl 2 rfl) ?_
      refine lv_iload_n hx hb dCh_receive_26 rfl (lv_at hl 0 rfl) ?_
      refine mk_wrV (As := [.int (nI ((n + i) % 5))]) (rest := []) (w := (wCh g a c)) (q0 := (RCh, TCh, 10)) (ci := iCh) (w2 := (wCh g a (cTake c ((n + i) % 5)))) ⟨hx, hb, hml, hown, hts⟩ (c_Ch_take l D g a c ((n + i) % 5) (by omega)) (cwV 1 hts (gd_V b_241 b_242 b_243 b_5 b_244) rfl rfl rfl (by decide +kernel) ⟨Nat.le_of_ble_eq_true rfl, Nat.le_of_ble_eq_true rfl⟩) hK hP hD hS hA [0, 1, 2, 3, 4] rfl (by decide) fst_Ch rfl rfl rfl hl.1 rfl (Nat.le_of_ble_eq_true rfl) dCh_receive_27 ⟨Nat.zero_le _, Nat.zero_le _⟩ (fun H locs hP hD hS => ?_)
      have hP : va_P D vwCl (wCh g a (cTake c ((n + i) % 5))) H := hP
      have hD : va_D A (wCh g a (cTake c ((n + i) % 5))) := hD
      refine lv_iinc (v := nI (i + 1)) (lv' := [(2, .int (nI (i + 1))), (3, .int (nI ((n + i) % 5))), (0, .ref (a 0)), (1, .int (nI n))]) hx hb dCh_receive_30 hl (k := 1) rfl (nI_1 _) (by decide) rfl (fun ls hl => ?_)
      refine lv_goto (tgt := 2) hx hb dCh_receive_33 (by decide) ?_
      have hE : cRecL n (j + 1) i c = cRecL n j (i + 1) (cTake c ((n + i) % 5)) := (by simp only [cRecL, if_pos c_3] <;> rfl)
      rw [hE] at kk
      exact ih (i + 1) (cTake c ((n + i) % 5)) H locs ls (by omega) hP hD hS (lv_sub hl [0, 2, 3] rfl) kk
set_option maxHeartbeats 4000000 in
set_option maxRecDepth 100000 in
/-- receive: the slots in the order of sending -/
theorem c_Ch_receive (l : Launch) (D : va_G) (g : Nat → ClassId) (a : Nat → Nat) (c : zCh) (n : Nat) (hn : n < 1000000) : mk_Wv l yCh_receive wsCh_receive ({ frames := 1, cells := 0, slots := 0, locals := 22 }) D vwCl (zty g) [.ref (a 0), .int (nI n)] (wCh g a c) (wCh g a (cRec c n)) := by
  intro sz
  refine Met.ofW (cc := cCh_receive) (maxL := 4) (ret := none) (by decide) rfl ?_
  intro p e s m args below meth cd s₁ B hml hv
  obtain ⟨rfl, hsz, hP, hK, hD0⟩ := hv
  have hx := B.exec
  have hb := B.bytes
  have hr := B.returns
  have hts := atoms_spec (ws := wsCh_receive) B.pre
  have htB := fun (w : Cond) (h : w ∈ BIG) => hts w (List.mem_cons_of_mem _ h)
  have hown : s.vm.findClass RCh = some m.cls := findClass_of_methodNamed B.named
  have hlocks := B.notSynchronized
  subst hsz
  have hD := hD0.self (sz := s.heap.size)
  generalize hAe : va_A (wCh g a c) s.heap.size = A at hD ⊢
  have hA : ∀ q : Nat, s.heap.size ≤ q → A q := fun q h => by rw [← hAe]; exact Or.inr h
  have hS : va_S A s.heap s.heap [] := va_S.rf
  have hl := lv_entry ([.ref (a 0), .int (nI n)]) (n := 4) (Nat.le_of_ble_eq_true rfl)
  rw [lg_entry_eq]
  generalize (lg_sl ([.ref (a 0), .int (nI n)]) ++ List.replicate (4 - (lg_sl ([.ref (a 0), .int (nI n)])).length) Slot.unset).toArray = ls at hl ⊢
  have hl : lv_has ls 4 [(0, .ref (a 0)), (1, .int (nI n))] := hl
  have hP : va_P D vwCl (wCh g a c) s.heap := hP
  refine lv_iconst (v := 1) hx hb dCh_receive_0 (by decide) ?_
  refine lv_istore_n (lv' := [(2, .int 1), (0, .ref (a 0)), (1, .int (nI n))]) hx hb dCh_receive_1 rfl hl (by decide) rfl (fun ls hl => ?_)
  refine lp_Ch_receive (a := a) (n := n) hn hx hb hml hown hts hK hA 5 1 c _ _ ls (by omega) hP hD hS (lv_sub hl [0, 1, 2] rfl) (fun H locs ls hP hD hS hl => ?_)
  have hE : wCh g a (cRec c n) = wCh g a (cRecL n 5 1 c) := (by first | rfl | (simp only [cRec] <;> rfl))
  exact W.vret hx hb hr (fun t9 ht hW => ⟨⟨(), rfl, trivial, mk_end ht hE hP⟩, hS.F ht⟩) hS.2.2 dCh_receive_36
set_option maxHeartbeats 4000000 in
set_option maxRecDepth 100000 in
theorem lp_Ch_onTheWay {p : Program} {l : Launch} {e : Env} {s : State} {m : MethodId} {args : Array Value} {below : List Frame} {meth : Method} {cd : Code} {Q : State → Prop} {D : va_G} {g : Nat → ClassId} {A : Nat → Prop} {Ad : Nat → Prop} {a : Nat → Nat} {c : zCh} {n : Nat} (hx : p.tables.exec = Jvm.exec) (hb : cd.code = cCh_onTheWay) (hml : cd.maxLocals = 4) (hown : s.vm.findClass RCh = some m.cls) (hts : ∀ w ∈ wsCh_onTheWay, w.before args s = true) (hK : va_K D vwCl (zty g) s) (hA : ∀ q : Nat, s.heap.size ≤ q → A q) : ∀ (j i : Nat) (q : Int32) (H : Heap) (locs : List Loc) (ls : Array Slot), i + j = 5 → va_P D vwCl (wCh g a c) H → va_D Ad (wCh g a c) → va_S A s.heap H locs → lv_has ls 4 [(3, .int (nI i)), (2, .int q), (0, .ref (a 0)), (1, .int (nI n))] → (∀ (H : Heap) (locs : List Loc) (ls : Array Slot), va_P D vwCl (wCh g a c) H → va_D Ad (wCh g a c) → va_S A s.heap H locs → lv_has ls 4 [(2, .int (cOtwL c n j i q)), (0, .ref (a 0)), (1, .int (nI n))] → W p l e ({ frames := 0, cells := 0, slots := 0, locals := 0 }) s m args below meth cd H locs 0 0 Q (F0 m 28 ls [])) → W p l e ({ frames := 0, cells := 0, slots := 0, locals := 0 }) s m args below meth cd H locs 0 0 Q (F0 m 4 ls []) := by
  have htB : ∀ w ∈ BIG, w.before args s = true := fun w h => hts w (List.mem_cons_of_mem _ h)
  intro j
  induction j with
  | zero =>
    intro i q H locs ls hi hP hD hS hl kk
    refine lv_iload_n hx hb dCh_onTheWay_4 rfl (lv_at hl 0 rfl) ?_
    refine lv_iconst (v := 5) hx hb dCh_onTheWay_5 (by decide) ?_
    refine lv_icmp_ge (tgt := 28) hx hb dCh_onTheWay_6 (by decide) (fun _ => ?_) (fun c_1 => absurd (nI_le (a := 5) (b := i) (by omega) (by omega)) c_1)
    exact kk H locs ls hP hD hS (lv_sub hl [1, 2, 3] rfl)
  | succ j ih =>
    intro i q H locs ls hi hP hD hS hl kk
    refine lv_iload_n hx hb dCh_onTheWay_4 rfl (lv_at hl 0 rfl) ?_
    refine lv_iconst (v := 5) hx hb dCh_onTheWay_5 (by decide) ?_
    refine lv_icmp_ge (tgt := 28) hx hb dCh_onTheWay_6 (by decide) (fun c_1 => absurd c_1 (nI_ge (a := i) (b := 5) (by omega) (by decide))) (fun _ => ?_)
    refine lv_aload_n hx hb dCh_onTheWay_9 rfl (lv_at hl 2 rfl) ?_
    refine va_get (D := D) (ci := iCh) (v := .ref (a 2)) (C := RCh) (T := TCh) (N := 10) hx hb htB inBCh hown hK hP 0 rfl rfl 1 (by decide) (htB _ b_68) (fun _ h9 => h9) rfl dCh_onTheWay_10 ?_
    refine lv_iload_n hx hb dCh_onTheWay_13 rfl (lv_at hl 0 rfl) ?_
    refine mk_iald (k := i) hx hb hK hP 2 0 rfl rfl rfl ⟨(by omega), by decide⟩ dCh_onTheWay_14 ?_
    refine lv_iload_n hx hb dCh_onTheWay_15 rfl (lv_at hl 3 rfl) ?_
    refine lv_icmp_le (tgt := 22) hx hb dCh_onTheWay_16 (by decide) (fun c_2 => ?_) (fun c_2 => ?_)
    · refine lv_iinc (v := nI (i + 1)) (lv' := [(3, .int (nI (i + 1))), (2, .int q), (0, .ref (a 0)), (1, .int (nI n))]) hx hb dCh_onTheWay_22 hl (k := 0) rfl (nI_1 _) (by decide) rfl (fun ls hl => ?_)
      refine lv_goto (tgt := 4) hx hb dCh_onTheWay_25 (by decide) ?_
      have hE : cOtwL c n (j + 1) i q = cOtwL c n j (i + 1) q := (by simp only [cOtwL, if_pos c_2] <;> rfl)
      rw [hE] at kk
      exact ih (i + 1) q H locs ls (by omega) hP hD hS (lv_sub hl [0, 1, 2, 3] rfl) kk
    · refine lv_iinc (v := q + 1) (lv' := [(2, .int (q + 1)), (3, .int (nI i)), (0, .ref (a 0)), (1, .int (nI n))]) hx hb dCh_onTheWay_19 hl (k := 1) rfl rfl (by decide) rfl (fun ls hl => ?_)
      refine lv_iinc (v := nI (i + 1)) (lv' := [(3, .int (nI (i + 1))), (2, .int (q + 1)), (0, .ref (a 0)), (1, .int (nI n))]) hx hb dCh_onTheWay_22 hl (k := 1) rfl (nI_1 _) (by decide) rfl (fun ls hl => ?_)
      refine lv_goto (tgt := 4) hx hb dCh_onTheWay_25 (by decide) ?_
      have hE : cOtwL c n (j + 1) i q = cOtwL c n j (i + 1) (q + 1) := (by simp only [cOtwL, if_neg c_2] <;> rfl)
      rw [hE] at kk
      exact ih (i + 1) (q + 1) H locs ls (by omega) hP hD hS (lv_sub hl [0, 1, 2, 3] rfl) kk
set_option maxHeartbeats 4000000 in
set_option maxRecDepth 100000 in
/-- onTheWay -/
theorem c_Ch_onTheWay (l : Launch) (D : va_G) (g : Nat → ClassId) (a : Nat → Nat) (c : zCh) (n : Nat) : mk_Rd l yCh_onTheWay wsCh_onTheWay ({ frames := 0, cells := 0, slots := 0, locals := 0 }) D vwCl (zty g) [.ref (a 0), .int (nI n)] (wCh g a c) (cOtw c n) := by
  intro sz
  refine Met.ofW (cc := cCh_onTheWay) (maxL := 4) (ret := (some .int)) (by decide) rfl ?_
  intro p e s m args below meth cd s₁ B hml hv
  obtain ⟨rfl, hsz, hP, hK, hD0⟩ := hv
  have hx := B.exec
  have hb := B.bytes
  have hr := B.returns
  have hts := atoms_spec (ws := wsCh_onTheWay) B.pre
  have htB := fun (w : Cond) (h : w ∈ BIG) => hts w (List.mem_cons_of_mem _ h)
  have hown : s.vm.findClass RCh = some m.cls := findClass_of_methodNamed B.named
  have hlocks := B.notSynchronized
  subst hsz
  have hD := hD0
  have hA : ∀ q : Nat, s.heap.size ≤ q → (fun q => s.heap.size ≤ q) q := fun _ h => h
  have hS : va_S (fun q => s.heap.size ≤ q) s.heap s.heap [] := va_S.rf
  have hl := lv_entry ([.ref (a 0), .int (nI n)]) (n := 4) (Nat.le_of_ble_eq_true rfl)
  rw [lg_entry_eq]
  generalize (lg_sl ([.ref (a 0), .int (nI n)]) ++ List.replicate (4 - (lg_sl ([.ref (a 0), .int (nI n)])).length) Slot.unset).toArray = ls at hl ⊢
  have hl : lv_has ls 4 [(0, .ref (a 0)), (1, .int (nI n))] := hl
  have hP : va_P D vwCl (wCh g a c) s.heap := hP
  refine lv_iconst (v := 0) hx hb dCh_onTheWay_0 (by decide) ?_
  refine lv_istore_n (lv' := [(2, .int 0), (0, .ref (a 0)), (1, .int (nI n))]) hx hb dCh_onTheWay_1 rfl hl (by decide) rfl (fun ls hl => ?_)
  refine lv_iconst (v := 0) hx hb dCh_onTheWay_2 (by decide) ?_
  refine lv_istore_n (lv' := [(3, .int 0), (2, .int 0), (0, .ref (a 0)), (1, .int (nI n))]) hx hb dCh_onTheWay_3 rfl hl (by decide) rfl (fun ls hl => ?_)
  refine lp_Ch_onTheWay (a := a) (c := c) (n := n) hx hb hml hown hts hK hA 5 0 0 _ _ ls (by omega) hP hD hS (lv_sub hl [0, 1, 2, 3] rfl) (fun H locs ls hP hD hS hl => ?_)
  refine lv_iload_n hx hb dCh_onTheWay_28 rfl (lv_at hl 0 rfl) ?_
  exact W.iret (v := cOtwL c n 5 0 0) hx hb hr (fun t9 ht hW => ⟨⟨cOtwL c n 5 0 0, (), rfl, (by first | rfl | (simp only [cOtw] <;> rfl)), trivial⟩, hS.F ht⟩) hS.2.2 dCh_onTheWay_29
