set_option maxHeartbeats 4000000 in
set_option maxRecDepth 100000 in
/-- enter -/
theorem k_enter (l : Launch) (D : va_G) (g : Nat → ClassId) (a : Nat → Nat) (M : zMo) (hm : xtr (m5 M) ≤ 4) (le fr : Int32) : mk_Wi l yMo_enter wsMo_enter ({ frames := 1, cells := 0, slots := 0, locals := 22 }) D vwCl (zty g) [.ref (a 0), .int le, .int fr] (wMo g a M) (wMo g a (yEnter M le fr).2) ((yEnter M le fr).1) := by
  intro sz
  refine Met.ofW (cc := cMo_enter) (maxL := 3) (ret := (some .int)) (by decide) rfl ?_
  intro p e s m args below meth cd s₁ B hml hv
  obtain ⟨rfl, hsz, hP, hK, hD0⟩ := hv
  have hx := B.exec
  have hb := B.bytes
  have hr := B.returns
  have hts := atoms_spec (ws := wsMo_enter) B.pre
  have htB := fun (w : Cond) (h : w ∈ BIG) => hts w (List.mem_cons_of_mem _ h)
  have hown : s.vm.findClass RMo = some m.cls := findClass_of_methodNamed B.named
  have hlocks := B.notSynchronized
  subst hsz
  have hD := hD0.self (sz := s.heap.size)
  generalize hAe : va_A (wMo g a M) s.heap.size = A at hD ⊢
  have hA : ∀ q : Nat, s.heap.size ≤ q → A q := fun q h => by rw [← hAe]; exact Or.inr h
  have hS : va_S A s.heap s.heap [] := va_S.rf
  have hl := lv_entry ([.ref (a 0), .int le, .int fr]) (n := 3) (Nat.le_of_ble_eq_true rfl)
  rw [lg_entry_eq]
  generalize (lg_sl ([.ref (a 0), .int le, .int fr]) ++ List.replicate (3 - (lg_sl ([.ref (a 0), .int le, .int fr])).length) Slot.unset).toArray = ls at hl ⊢
  have hl : lv_has ls 3 [(0, .ref (a 0)), (1, .int le), (2, .int fr)] := hl
  have hP : va_P D vwCl (wMo g a M) s.heap := hP
  refine lv_iload_n hx hb dMo_enter_0 rfl (lv_at hl 1 rfl) ?_
  refine lv_bipush (v := 20) hx hb dMo_enter_1 (by decide) ?_
  refine lv_sipush (v := 200) hx hb dMo_enter_3 (by decide) ?_
  refine mk_rdS (As := [.int le, .int 20, .int 200]) (rest := []) (w := []) ⟨hx, hb, hml, hown, hts⟩ (k_in l D g le 20 200) (va_cwS 3 hts (gd_S b_472 b_473 b_6 b_474) rfl rfl rfl (by decide +kernel) ⟨Nat.le_of_ble_eq_true rfl, Nat.le_of_ble_eq_true rfl⟩) hK hP hD hS hA [] rfl rfl rfl hl.1 rfl (Nat.le_of_ble_eq_true rfl) dMo_enter_6 ⟨Nat.zero_le _, Nat.zero_le _⟩ (fun H locs hP hS => ?_)
  refine lv_if_eq (tgt := 31) hx hb dMo_enter_9 (by decide) (fun c_1 => ?_) (fun c_1 => ?_)
  · refine lv_ldc (v := (-1000000)) hx hb hown (htB _ b_475) dMo_enter_31 ?_
    have hE : wMo g a (yEnter M le fr).2 = wMo g a M := (by first | (simp only [yEnter, yEnt2, if_pos c_1] <;> rfl) | exact ((if_pos c_1).trans (rfl)).symm)
    exact W.iret (v := (-1000000)) hx hb hr (fun t9 ht hW => ⟨⟨(-1000000), (), rfl, (by first | (simp only [yEnter, yEnt2, if_pos c_1] <;> rfl) | exact ((if_pos c_1).trans (rfl)).symm), mk_end ht hE hP⟩, hS.F ht⟩) hS.2.2 dMo_enter_33
  · refine lv_iload_n hx hb dMo_enter_12 rfl (lv_at hl 2 rfl) ?_
    refine lv_iload_n hx hb dMo_enter_13 rfl (lv_at hl 1 rfl) ?_
    refine lv_sipush (v := 4000) hx hb dMo_enter_14 (by decide) ?_
    refine mk_rdS (As := [.int fr, .int le, .int 4000]) (rest := []) (w := []) ⟨hx, hb, hml, hown, hts⟩ (k_in l D g fr le 4000) (va_cwS 3 hts (gd_S b_472 b_473 b_6 b_474) rfl rfl rfl (by decide +kernel) ⟨Nat.le_of_ble_eq_true rfl, Nat.le_of_ble_eq_true rfl⟩) hK hP hD hS hA [] rfl rfl rfl hl.1 rfl (Nat.le_of_ble_eq_true rfl) dMo_enter_17 ⟨Nat.zero_le _, Nat.zero_le _⟩ (fun H locs hP hS => ?_)
    refine lv_if_eq (tgt := 31) hx hb dMo_enter_20 (by decide) (fun c_2 => ?_) (fun c_2 => ?_)
    · refine lv_ldc (v := (-1000000)) hx hb hown (htB _ b_475) dMo_enter_31 ?_
      have hE : wMo g a (yEnter M le fr).2 = wMo g a M := (by first | (simp only [yEnter, yEnt2, if_neg c_1, if_pos c_2] <;> rfl) | exact ((if_neg c_1).trans ((if_pos c_2).trans (rfl))).symm)
      exact W.iret (v := (-1000000)) hx hb hr (fun t9 ht hW => ⟨⟨(-1000000), (), rfl, (by first | (simp only [yEnter, yEnt2, if_neg c_1, if_pos c_2] <;> rfl) | exact ((if_neg c_1).trans ((if_pos c_2).trans (rfl))).symm), mk_end ht hE hP⟩, hS.F ht⟩) hS.2.2 dMo_enter_33
    · refine lv_aload_n hx hb dMo_enter_23 rfl (lv_at hl 0 rfl) ?_
      refine va_get (D := D) (ci := iMo) (v := .int (nI (xtr (m5 M)))) (C := RMo) (T := TMo) (N := 32) hx hb htB inBMo hown hK hP 0 rfl rfl 5 (by decide) (htB _ b_375) (fun _ h9 => h9) rfl dMo_enter_24 ?_
      refine lv_iconst (v := 4) hx hb dMo_enter_27 (by decide) ?_
      refine lv_icmp_ne (tgt := 34) hx hb dMo_enter_28 (by decide) (fun c_3 => ?_) (fun c_3 => ?_)
      · refine lv_aload_n hx hb dMo_enter_34 rfl (lv_at hl 0 rfl) ?_
        refine va_get (D := D) (ci := iMo) (v := .int (nI (xtr (m5 M)))) (C := RMo) (T := TMo) (N := 32) hx hb htB inBMo hown hK hP 0 rfl rfl 5 (by decide) (htB _ b_375) (fun _ h9 => h9) rfl dMo_enter_35 ?_
        refine lv_if_le (tgt := 68) hx hb dMo_enter_38 (by decide) (fun c_4 => ?_) (fun c_4 => ?_)
        · refine lv_aload_n hx hb dMo_enter_68 rfl (lv_at hl 0 rfl) ?_
          refine va_get (D := D) (ci := iMo) (v := .ref (a 6)) (C := RMo) (T := TMo) (N := 32) hx hb htB inBMo hown hK hP 0 rfl rfl 6 (by decide) (htB _ b_376) (fun _ h9 => h9) rfl dMo_enter_69 ?_
          refine lv_aload_n hx hb dMo_enter_72 rfl (lv_at hl 0 rfl) ?_
          refine va_get (D := D) (ci := iMo) (v := .int (nI (xtr (m5 M)))) (C := RMo) (T := TMo) (N := 32) hx hb htB inBMo hown hK hP 0 rfl rfl 5 (by decide) (htB _ b_375) (fun _ h9 => h9) rfl dMo_enter_73 ?_
          refine lv_ldc2 (v := 8) hx hb hown (htB _ b_480) dMo_enter_76 ?_
          refine lv_iload_n hx hb dMo_enter_79 rfl (lv_at hl 1 rfl) ?_
          refine lv_i2l (v := le.toInt64) hx hb dMo_enter_80 rfl ?_
          refine lv_lmul hx hb dMo_enter_81 ?_
          refine mk_last (k := (xtr (m5 M))) hx hb hK hP hD hS 6 3 rfl rfl rfl ⟨tr4_of c_3 hm, by decide⟩ dMo_enter_82 (fun H locs hP hD hS => ?_)
          have hP : va_P D vwCl (wMo g a ((m1 M), ((vp_updL (xle (m2 M)) (xtr (m5 M)) (8 * le.toInt64)), (xfr (m2 M)), (xsp (m2 M)), (xes (m2 M)), (xdo (m2 M)), (xwi (m2 M)), (xdr (m2 M)), (xem (m2 M)), (xec (m2 M))), (m3 M), (m4 M), (m5 M))) H := hP
          have hD : va_D A (wMo g a ((m1 M), ((vp_updL (xle (m2 M)) (xtr (m5 M)) (8 * le.toInt64)), (xfr (m2 M)), (xsp (m2 M)), (xes (m2 M)), (xdo (m2 M)), (xwi (m2 M)), (xdr (m2 M)), (xem (m2 M)), (xec (m2 M))), (m3 M), (m4 M), (m5 M))) := hD
          refine lv_aload_n hx hb dMo_enter_83 rfl (lv_at hl 0 rfl) ?_
          refine va_get (D := D) (ci := iMo) (v := .ref (a 7)) (C := RMo) (T := TMo) (N := 32) hx hb htB inBMo hown hK hP 0 rfl rfl 7 (by decide) (htB _ b_377) (fun _ h9 => h9) rfl dMo_enter_84 ?_
          refine lv_aload_n hx hb dMo_enter_87 rfl (lv_at hl 0 rfl) ?_
          refine va_get (D := D) (ci := iMo) (v := .int (nI (xtr (m5 M)))) (C := RMo) (T := TMo) (N := 32) hx hb htB inBMo hown hK hP 0 rfl rfl 5 (by decide) (htB _ b_375) (fun _ h9 => h9) rfl dMo_enter_88 ?_
          refine lv_ldc2 (v := 8) hx hb hown (htB _ b_480) dMo_enter_91 ?_
          refine lv_iload_n hx hb dMo_enter_94 rfl (lv_at hl 2 rfl) ?_
          refine lv_i2l (v := fr.toInt64) hx hb dMo_enter_95 rfl ?_
          refine lv_lmul hx hb dMo_enter_96 ?_
          refine mk_last (k := (xtr (m5 M))) hx hb hK hP hD hS 7 3 rfl rfl rfl ⟨tr4_of c_3 hm, by decide⟩ dMo_enter_97 (fun H locs hP hD hS => ?_)
          have hP : va_P D vwCl (wMo g a ((m1 M), ((vp_updL (xle (m2 M)) (xtr (m5 M)) (8 * le.toInt64)), (vp_updL (xfr (m2 M)) (xtr (m5 M)) (8 * fr.toInt64)), (xsp (m2 M)), (xes (m2 M)), (xdo (m2 M)), (xwi (m2 M)), (xdr (m2 M)), (xem (m2 M)), (xec (m2 M))), (m3 M), (m4 M), (m5 M))) H := hP
          have hD : va_D A (wMo g a ((m1 M), ((vp_updL (xle (m2 M)) (xtr (m5 M)) (8 * le.toInt64)), (vp_updL (xfr (m2 M)) (xtr (m5 M)) (8 * fr.toInt64)), (xsp (m2 M)), (xes (m2 M)), (xdo (m2 M)), (xwi (m2 M)), (xdr (m2 M)), (xem (m2 M)), (xec (m2 M))), (m3 M), (m4 M), (m5 M))) := hD
          refine lv_aload_n hx hb dMo_enter_98 rfl (lv_at hl 0 rfl) ?_
          refine va_get (D := D) (ci := iMo) (v := .ref (a 9)) (C := RMo) (T := TMo) (N := 32) hx hb htB inBMo hown hK hP 0 rfl rfl 9 (by decide) (htB _ b_379) (fun _ h9 => h9) rfl dMo_enter_99 ?_
          refine lv_aload_n hx hb dMo_enter_102 rfl (lv_at hl 0 rfl) ?_
          refine va_get (D := D) (ci := iMo) (v := .int (nI (xtr (m5 M)))) (C := RMo) (T := TMo) (N := 32) hx hb htB inBMo hown hK hP 0 rfl rfl 5 (by decide) (htB _ b_375) (fun _ h9 => h9) rfl dMo_enter_103 ?_
          refine lv_ldc2 (v := 8) hx hb hown (htB _ b_480) dMo_enter_106 ?_
          refine lv_iload_n hx hb dMo_enter_109 rfl (lv_at hl 2 rfl) ?_
          refine lv_i2l (v := fr.toInt64) hx hb dMo_enter_110 rfl ?_
          refine lv_lmul hx hb dMo_enter_111 ?_
          refine mk_last (k := (xtr (m5 M))) hx hb hK hP hD hS 9 3 rfl rfl rfl ⟨tr4_of c_3 hm, by decide⟩ dMo_enter_112 (fun H locs hP hD hS => ?_)
          have hP : va_P D vwCl (wMo g a ((m1 M), ((vp_updL (xle (m2 M)) (xtr (m5 M)) (8 * le.toInt64)), (vp_updL (xfr (m2 M)) (xtr (m5 M)) (8 * fr.toInt64)), (xsp (m2 M)), (vp_updL (xes (m2 M)) (xtr (m5 M)) (8 * fr.toInt64)), (xdo (m2 M)), (xwi (m2 M)), (xdr (m2 M)), (xem (m2 M)), (xec (m2 M))), (m3 M), (m4 M), (m5 M))) H := hP
          have hD : va_D A (wMo g a ((m1 M), ((vp_updL (xle (m2 M)) (xtr (m5 M)) (8 * le.toInt64)), (vp_updL (xfr (m2 M)) (xtr (m5 M)) (8 * fr.toInt64)), (xsp (m2 M)), (vp_updL (xes (m2 M)) (xtr (m5 M)) (8 * fr.toInt64)), (xdo (m2 M)), (xwi (m2 M)), (xdr (m2 M)), (xem (m2 M)), (xec (m2 M))), (m3 M), (m4 M), (m5 M))) := hD
          refine lv_aload_n hx hb dMo_enter_113 rfl (lv_at hl 0 rfl) ?_
          refine lv_dup hx hb dMo_enter_114 rfl ?_
          refine va_get (D := D) (ci := iMo) (v := .int (nI (xtr (m5 M)))) (C := RMo) (T := TMo) (N := 32) hx hb htB inBMo hown hK hP 0 rfl rfl 5 (by decide) (htB _ b_375) (fun _ h9 => h9) rfl dMo_enter_115 ?_
          refine lv_iconst (v := 1) hx hb dMo_enter_118 (by decide) ?_
          refine lv_iadd hx hb dMo_enter_119 ?_
          refine lv_topi (fun z_5 e_5 => ?_)
          have e_5 : z_5 = nI ((xtr (m5 M)) + 1) := e_5.trans (nI_add (xtr (m5 M)) 1)
          subst e_5
          refine va_put (D := D) (ci := iMo) (v := .int (nI ((xtr (m5 M)) + 1))) (ty := .int) (C := RMo) (T := TMo) (N := 32) hx hb htB inBMo tyMo tyMo_ok nmMo hown hK hP hD hS 0 rfl rfl 5 (by decide) (htB _ b_375) (fun _ h9 => h9) rfl (by decide +kernel) rfl rfl (Nat.le_of_ble_eq_true rfl) dMo_enter_120 (fun H locs hP hD hS => ?_)
          have hP : va_P D vwCl (wMo g a ((m1 M), ((vp_updL (xle (m2 M)) (xtr (m5 M)) (8 * le.toInt64)), (vp_updL (xfr (m2 M)) (xtr (m5 M)) (8 * fr.toInt64)), (xsp (m2 M)), (vp_updL (xes (m2 M)) (xtr (m5 M)) (8 * fr.toInt64)), (xdo (m2 M)), (xwi (m2 M)), (xdr (m2 M)), (xem (m2 M)), (xec (m2 M))), (m3 M), (m4 M), (((xtr (m5 M)) + 1), (xme (m5 M)), (xlo (m5 M)), (xsl (m5 M)), (xck (m5 M))))) H := hP
          have hD : va_D A (wMo g a ((m1 M), ((vp_updL (xle (m2 M)) (xtr (m5 M)) (8 * le.toInt64)), (vp_updL (xfr (m2 M)) (xtr (m5 M)) (8 * fr.toInt64)), (xsp (m2 M)), (vp_updL (xes (m2 M)) (xtr (m5 M)) (8 * fr.toInt64)), (xdo (m2 M)), (xwi (m2 M)), (xdr (m2 M)), (xem (m2 M)), (xec (m2 M))), (m3 M), (m4 M), (((xtr (m5 M)) + 1), (xme (m5 M)), (xlo (m5 M)), (xsl (m5 M)), (xck (m5 M))))) := hD
          refine lv_aload_n hx hb dMo_enter_123 rfl (lv_at hl 0 rfl) ?_
          refine va_get (D := D) (ci := iMo) (v := .int (nI ((xtr (m5 M)) + 1))) (C := RMo) (T := TMo) (N := 32) hx hb htB inBMo hown hK hP 0 rfl rfl 5 (by decide) (htB _ b_375) (fun _ h9 => h9) rfl dMo_enter_124 ?_
          refine lv_iconst (v := 1) hx hb dMo_enter_127 (by decide) ?_
          refine lv_isub hx hb dMo_enter_128 ?_
          refine lv_topi (fun z_6 e_6 => ?_)
          have e_6 : z_6 = nI ((xtr (m5 M))) := e_6.trans (nI_pred (xtr (m5 M)))
          subst e_6
          have hE : wMo g a (yEnter M le fr).2 = wMo g a ((m1 M), ((vp_updL (xle (m2 M)) (xtr (m5 M)) (8 * le.toInt64)), (vp_updL (xfr (m2 M)) (xtr (m5 M)) (8 * fr.toInt64)), (xsp (m2 M)), (vp_updL (xes (m2 M)) (xtr (m5 M)) (8 * fr.toInt64)), (xdo (m2 M)), (xwi (m2 M)), (xdr (m2 M)), (xem (m2 M)), (xec (m2 M))), (m3 M), (m4 M), (((xtr (m5 M)) + 1), (xme (m5 M)), (xlo (m5 M)), (xsl (m5 M)), (xck (m5 M)))) := (by first | (simp only [yEnter, yEnt2, if_neg c_1, if_neg c_2, if_neg c_3, if_pos c_4] <;> rfl) | exact ((if_neg c_1).trans ((if_neg c_2).trans ((if_neg c_3).trans ((if_pos c_4).trans (rfl))))).symm)
          exact W.iret (v := nI ((xtr (m5 M)))) hx hb hr (fun t9 ht hW => ⟨⟨nI ((xtr (m5 M))), (), rfl, (by first | (simp only [yEnter, yEnt2, if_neg c_1, if_neg c_2, if_neg c_3, if_pos c_4] <;> rfl) | exact ((if_neg c_1).trans ((if_neg c_2).trans ((if_neg c_3).trans ((if_pos c_4).trans (rfl))))).symm), mk_end ht hE hP⟩, hS.F ht⟩) hS.2.2 dMo_enter_129
        · refine lv_ldc2 (v := 8) hx hb hown (htB _ b_480) dMo_enter_41 ?_
          refine lv_iload_n hx hb dMo_enter_44 rfl (lv_at hl 2 rfl) ?_
          refine lv_i2l (v := fr.toInt64) hx hb dMo_enter_45 rfl ?_
          refine lv_lmul hx hb dMo_enter_46 ?_
          refine lv_aload_n hx hb dMo_enter_47 rfl (lv_at hl 0 rfl) ?_
          refine lv_aload_n hx hb dMo_enter_48 rfl (lv_at hl 0 rfl) ?_
          refine va_get (D := D) (ci := iMo) (v := .int (nI (xtr (m5 M)))) (C := RMo) (T := TMo) (N := 32) hx hb htB inBMo hown hK hP 0 rfl rfl 5 (by decide) (htB _ b_375) (fun _ h9 => h9) rfl dMo_enter_49 ?_
          refine lv_iconst (v := 1) hx hb dMo_enter_52 (by decide) ?_
          refine lv_isub hx hb dMo_enter_53 ?_
          refine lv_topi (fun z_7 e_7 => ?_)
          have e_7 : z_7 = nI ((xtr (m5 M)) - 1) := e_7.trans (pk_sub (a := (xtr (m5 M))) (b := 1) (pos_of c_4))
          subst e_7
          refine mk_rlV (As := [.int (nI ((xtr (m5 M)) - 1))]) (rest := [.long (8 * fr.toInt64)]) (w := (wMo g a M)) (q0 := (RMo, TMo, 32)) (ci := iMo) ⟨hx, hb, hml, hown, hts⟩ (k_rear l D g a M ((xtr (m5 M)) - 1) (tr4_of1 c_3 hm) ) (cwV 1 hts (gd_V b_489 b_491 bp_8 b_6 b_492) rfl rfl rfl (by decide +kernel) ⟨Nat.le_of_ble_eq_true rfl, Nat.le_of_ble_eq_true rfl⟩) hK hP hD hS hA (List.range 28) mo_cutAll mo_ndAll rfl rfl rfl hl.1 rfl (Nat.le_of_ble_eq_true rfl) dMo_enter_54 ⟨Nat.zero_le _, Nat.zero_le _⟩ (fun H locs hP hS => ?_)
          refine lv_ldc2 (v := 64) hx hb hown (htB _ b_493) dMo_enter_57 ?_
          refine lv_lsub hx hb dMo_enter_60 ?_
          refine mk_lif_le (tgt := 68) hx hb dMo_enter_61 dMo_enter_62 (by decide) (fun c_8 => ?_) (fun c_8 => ?_)
          · refine lv_aload_n hx hb dMo_enter_68 rfl (lv_at hl 0 rfl) ?_
            refine va_get (D := D) (ci := iMo) (v := .ref (a 6)) (C := RMo) (T := TMo) (N := 32) hx hb htB inBMo hown hK hP 0 rfl rfl 6 (by decide) (htB _ b_376) (fun _ h9 => h9) rfl dMo_enter_69 ?_
            refine lv_aload_n hx hb dMo_enter_72 rfl (lv_at hl 0 rfl) ?_
            refine va_get (D := D) (ci := iMo) (v := .int (nI (xtr (m5 M)))) (C := RMo) (T := TMo) (N := 32) hx hb htB inBMo hown hK hP 0 rfl rfl 5 (by decide) (htB _ b_375) (fun _ h9 => h9) rfl dMo_enter_73 ?_
            refine lv_ldc2 (v := 8) hx hb hown (htB _ b_480) dMo_enter_76 ?_
            refine lv_iload_n hx hb dMo_enter_79 rfl (lv_at hl 1 rfl) ?_
            refine lv_i2l (v := le.toInt64) hx hb dMo_enter_80 rfl ?_
            refine lv_lmul hx hb dMo_enter_81 ?_
            refine mk_last (k := (xtr (m5 M))) hx hb hK hP hD hS 6 3 rfl rfl rfl ⟨tr4_of c_3 hm, by decide⟩ dMo_enter_82 (fun H locs hP hD hS => ?_)
            have hP : va_P D vwCl (wMo g a ((m1 M), ((vp_updL (xle (m2 M)) (xtr (m5 M)) (8 * le.toInt64)), (xfr (m2 M)), (xsp (m2 M)), (xes (m2 M)), (xdo (m2 M)), (xwi (m2 M)), (xdr (m2 M)), (xem (m2 M)), (xec (m2 M))), (m3 M), (m4 M), (m5 M))) H := hP
            have hD : va_D A (wMo g a ((m1 M), ((vp_updL (xle (m2 M)) (xtr (m5 M)) (8 * le.toInt64)), (xfr (m2 M)), (xsp (m2 M)), (xes (m2 M)), (xdo (m2 M)), (xwi (m2 M)), (xdr (m2 M)), (xem (m2 M)), (xec (m2 M))), (m3 M), (m4 M), (m5 M))) := hD
            refine lv_aload_n hx hb dMo_enter_83 rfl (lv_at hl 0 rfl) ?_
            refine va_get (D := D) (ci := iMo) (v := .ref (a 7)) (C := RMo) (T := TMo) (N := 32) hx hb htB inBMo hown hK hP 0 rfl rfl 7 (by decide) (htB _ b_377) (fun _ h9 => h9) rfl dMo_enter_84 ?_
            refine lv_aload_n hx hb dMo_enter_87 rfl (lv_at hl 0 rfl) ?_
            refine va_get (D := D) (ci := iMo) (v := .int (nI (xtr (m5 M)))) (C := RMo) (T := TMo) (N := 32) hx hb htB inBMo hown hK hP 0 rfl rfl 5 (by decide) (htB _ b_375) (fun _ h9 => h9) rfl dMo_enter_88 ?_
            refine lv_ldc2 (v := 8) hx hb hown (htB _ b_480) dMo_enter_91 ?_
            refine lv_iload_n hx hb dMo_enter_94 rfl (lv_at hl 2 rfl) ?_
            refine lv_i2l (v := fr.toInt64) hx hb dMo_enter_95 rfl ?_
            refine lv_lmul hx hb dMo_enter_96 ?_
            refine mk_last (k := (xtr (m5 M))) hx hb hK hP hD hS 7 3 rfl rfl rfl ⟨tr4_of c_3 hm, by decide⟩ dMo_enter_97 (fun H locs hP hD hS => ?_)
            have hP : va_P D vwCl (wMo g a ((m1 M), ((vp_updL (xle (m2 M)) (xtr (m5 M)) (8 * le.toInt64)), (vp_updL (xfr (m2 M)) (xtr (m5 M)) (8 * fr.toInt64)), (xsp (m2 M)), (xes (m2 M)), (xdo (m2 M)), (xwi (m2 M)), (xdr (m2 M)), (xem (m2 M)), (xec (m2 M))), (m3 M), (m4 M), (m5 M))) H := hP
            have hD : va_D A (wMo g a ((m1 M), ((vp_updL (xle (m2 M)) (xtr (m5 M)) (8 * le.toInt64)), (vp_updL (xfr (m2 M)) (xtr (m5 M)) (8 * fr.toInt64)), (xsp (m2 M)), (xes (m2 M)), (xdo (m2 M)), (xwi (m2 M)), (xdr (m2 M)), (xem (m2 M)), (xec (m2 M))), (m3 M), (m4 M), (m5 M))) := hD
            refine lv_aload_n hx hb dMo_enter_98 rfl (lv_at hl 0 rfl) ?_
            refine va_get (D := D) (ci := iMo) (v := .ref (a 9)) (C := RMo) (T := TMo) (N := 32) hx hb htB inBMo hown hK hP 0 rfl rfl 9 (by decide) (htB _ b_379) (fun _ h9 => h9) rfl dMo_enter_99 ?_
            refine lv_aload_n hx hb dMo_enter_102 rfl (lv_at hl 0 rfl) ?_
            refine va_get (D := D) (ci := iMo) (v := .int (nI (xtr (m5 M)))) (C := RMo) (T := TMo) (N := 32) hx hb htB inBMo hown hK hP 0 rfl rfl 5 (by decide) (htB _ b_375) (fun _ h9 => h9) rfl dMo_enter_103 ?_
            refine lv_ldc2 (v := 8) hx hb hown (htB _ b_480) dMo_enter_106 ?_
            refine lv_iload_n hx hb dMo_enter_109 rfl (lv_at hl 2 rfl) ?_
            refine lv_i2l (v := fr.toInt64) hx hb dMo_enter_110 rfl ?_
            refine lv_lmul hx hb dMo_enter_111 ?_
            refine mk_last (k := (xtr (m5 M))) hx hb hK hP hD hS 9 3 rfl rfl rfl ⟨tr4_of c_3 hm, by decide⟩ dMo_enter_112 (fun H locs hP hD hS => ?_)
            have hP : va_P D vwCl (wMo g a ((m1 M), ((vp_updL (xle (m2 M)) (xtr (m5 M)) (8 * le.toInt64)), (vp_updL (xfr (m2 M)) (xtr (m5 M)) (8 * fr.toInt64)), (xsp (m2 M)), (vp_updL (xes (m2 M)) (xtr (m5 M)) (8 * fr.toInt64)), (xdo (m2 M)), (xwi (m2 M)), (xdr (m2 M)), (xem (m2 M)), (xec (m2 M))), (m3 M), (m4 M), (m5 M))) H := hP
            have hD : va_D A (wMo g a ((m1 M), ((vp_updL (xle (m2 M)) (xtr (m5 M)) (8 * le.toInt64)), (vp_updL (xfr (m2 M)) (xtr (m5 M)) (8 * fr.toInt64)), (xsp (m2 M)), (vp_updL (xes (m2 M)) (xtr (m5 M)) (8 * fr.toInt64)), (xdo (m2 M)), (xwi (m2 M)), (xdr (m2 M)), (xem (m2 M)), (xec (m2 M))), (m3 M), (m4 M), (m5 M))) := hD
            refine lv_aload_n hx hb dMo_enter_113 rfl (lv_at hl 0 rfl) ?_
            refine lv_dup hx hb dMo_enter_114 rfl ?_
            refine va_get (D := D) (ci := iMo) (v := .int (nI (xtr (m5 M)))) (C := RMo) (T := TMo) (N := 32) hx hb htB inBMo hown hK hP 0 rfl rfl 5 (by decide) (htB _ b_375) (fun _ h9 => h9) rfl dMo_enter_115 ?_
            refine lv_iconst (v := 1) hx hb dMo_enter_118 (by decide) ?_
            refine lv_iadd hx hb dMo_enter_119 ?_
            refine lv_topi (fun z_9 e_9 => ?_)
            have e_9 : z_9 = nI ((xtr (m5 M)) + 1) := e_9.trans (nI_add (xtr (m5 M)) 1)
            subst e_9
            refine va_put (D := D) (ci := iMo) (v := .int (nI ((xtr (m5 M)) + 1))) (ty := .int) (C := RMo) (T := TMo) (N := 32) hx hb htB inBMo tyMo tyMo_ok nmMo hown hK hP hD hS 0 rfl rfl 5 (by decide) (htB _ b_375) (fun _ h9 => h9) rfl (by decide +kernel) rfl rfl (Nat.le_of_ble_eq_true rfl) dMo_enter_120 (fun H locs hP hD hS => ?_)
            have hP : va_P D vwCl (wMo g a ((m1 M), ((vp_updL (xle (m2 M)) (xtr (m5 M)) (8 * le.toInt64)), (vp_updL (xfr (m2 M)) (xtr (m5 M)) (8 * fr.toInt64)), (xsp (m2 M)), (vp_updL (xes (m2 M)) (xtr (m5 M)) (8 * fr.toInt64)), (xdo (m2 M)), (xwi (m2 M)), (xdr (m2 M)), (xem (m2 M)), (xec (m2 M))), (m3 M), (m4 M), (((xtr (m5 M)) + 1), (xme (m5 M)), (xlo (m5 M)), (xsl (m5 M)), (xck (m5 M))))) H := hP
            have hD : va_D A (wMo g a ((m1 M), ((vp_updL (xle (m2 M)) (xtr (m5 M)) (8 * le.toInt64)), (vp_updL (xfr (m2 M)) (xtr (m5 M)) (8 * fr.toInt64)), (xsp (m2 M)), (vp_updL (xes (m2 M)) (xtr (m5 M)) (8 * fr.toInt64)), (xdo (m2 M)), (xwi (m2 M)), (xdr (m2 M)), (xem (m2 M)), (xec (m2 M))), (m3 M), (m4 M), (((xtr (m5 M)) + 1), (xme (m5 M)), (xlo (m5 M)), (xsl (m5 M)), (xck (m5 M))))) := hD
            refine lv_aload_n hx hb dMo_enter_123 rfl (lv_at hl 0 rfl) ?_
            refine va_get (D := D) (ci := iMo) (v := .int (nI ((xtr (m5 M)) + 1))) (C := RMo) (T := TMo) (N := 32) hx hb htB inBMo hown hK hP 0 rfl rfl 5 (by decide) (htB _ b_375) (fun _ h9 => h9) rfl dMo_enter_124 ?_
            refine lv_iconst (v := 1) hx hb dMo_enter_127 (by decide) ?_
            refine lv_isub hx hb dMo_enter_128 ?_
            refine lv_topi (fun z_10 e_10 => ?_)
            have e_10 : z_10 = nI ((xtr (m5 M))) := e_10.trans (nI_pred (xtr (m5 M)))
            subst e_10
            have hE : wMo g a (yEnter M le fr).2 = wMo g a ((m1 M), ((vp_updL (xle (m2 M)) (xtr (m5 M)) (8 * le.toInt64)), (vp_updL (xfr (m2 M)) (xtr (m5 M)) (8 * fr.toInt64)), (xsp (m2 M)), (vp_updL (xes (m2 M)) (xtr (m5 M)) (8 * fr.toInt64)), (xdo (m2 M)), (xwi (m2 M)), (xdr (m2 M)), (xem (m2 M)), (xec (m2 M))), (m3 M), (m4 M), (((xtr (m5 M)) + 1), (xme (m5 M)), (xlo (m5 M)), (xsl (m5 M)), (xck (m5 M)))) := (by first | (simp only [yEnter, yEnt2, if_neg c_1, if_neg c_2, if_neg c_3, if_neg c_4, if_pos c_8] <;> rfl) | exact ((if_neg c_1).trans ((if_neg c_2).trans ((if_neg c_3).trans ((if_neg c_4).trans ((if_pos c_8).trans (rfl)))))).symm)
            exact W.iret (v := nI ((xtr (m5 M)))) hx hb hr (fun t9 ht hW => ⟨⟨nI ((xtr (m5 M))), (), rfl, (by first | (simp only [yEnter, yEnt2, if_neg c_1, if_neg c_2, if_neg c_3, if_neg c_4, if_pos c_8] <;> rfl) | exact ((if_neg c_1).trans ((if_neg c_2).trans ((if_neg c_3).trans ((if_neg c_4).trans ((if_pos c_8).trans (rfl)))))).symm), mk_end ht hE hP⟩, hS.F ht⟩) hS.2.2 dMo_enter_129
          · refine lv_ldc (v := (-1000000)) hx hb hown (htB _ b_475) dMo_enter_65 ?_
            have hE : wMo g a (yEnter M le fr).2 = wMo g a M := (by first | (simp only [yEnter, yEnt2, if_neg c_1, if_neg c_2, if_neg c_3, if_neg c_4, if_neg c_8] <;> rfl) | exact ((if_neg c_1).trans ((if_neg c_2).trans ((if_neg c_3).trans ((if_neg c_4).trans ((if_neg c_8).trans (rfl)))))).symm)
            exact W.iret (v := (-1000000)) hx hb hr (fun t9 ht hW => ⟨⟨(-1000000), (), rfl, (by first | (simp only [yEnter, yEnt2, if_neg c_1, if_neg c_2, if_neg c_3, if_neg c_4, if_neg c_8] <;> rfl) | exact ((if_neg c_1).trans ((if_neg c_2).trans ((if_neg c_3).trans ((if_neg c_4).trans ((if_neg c_8).trans (rfl)))))).symm), mk_end ht hE hP⟩, hS.F ht⟩) hS.2.2 dMo_enter_67
      · refine lv_ldc (v := (-1000000)) hx hb hown (htB _ b_475) dMo_enter_31 ?_
        have hE : wMo g a (yEnter M le fr).2 = wMo g a M := (by first | (simp only [yEnter, yEnt2, if_neg c_1, if_neg c_2, if_pos c_3] <;> rfl) | exact ((if_neg c_1).trans ((if_neg c_2).trans ((if_pos c_3).trans (rfl)))).symm)
        exact W.iret (v := (-1000000)) hx hb hr (fun t9 ht hW => ⟨⟨(-1000000), (), rfl, (by first | (simp only [yEnter, yEnt2, if_neg c_1, if_neg c_2, if_pos c_3] <;> rfl) | exact ((if_neg c_1).trans ((if_neg c_2).trans ((if_pos c_3).trans (rfl)))).symm), mk_end ht hE hP⟩, hS.F ht⟩) hS.2.2 dMo_enter_33
set_option maxHeartbeats 4000000 in
set_option maxRecDepth 100000 in
/-- send -/
theorem k_send (l : Launch) (D : va_G) (g : Nat → ClassId) (a : Nat → Nat) (M : zMo) (z : Bool) (t : Nat) (dl : Int32) (f1 f2 : Int64) (hme : xme (m5 M) < 64) : mk_Wv l yMo_send wsMo_send ({ frames := 0, cells := 0, slots := 0, locals := 0 }) D vwCl (zty g) [.ref (a 0), .int (bI z), .int (nI t), .int dl, .long f1, .long f2] (wMo g a M) (wMo g a (ySend M z t dl f1 f2)) := by
  intro sz
  refine Met.ofW (cc := cMo_send) (maxL := 8) (ret := none) (by decide) rfl ?_
  intro p e s m args below meth cd s₁ B hml hv
  obtain ⟨rfl, hsz, hP, hK, hD0⟩ := hv
  have hx := B.exec
  have hb := B.bytes
  have hr := B.returns
  have hts := atoms_spec (ws := wsMo_send) B.pre
  have htB := fun (w : Cond) (h : w ∈ BIG) => hts w (List.mem_cons_of_mem _ h)
  have hown : s.vm.findClass RMo = some m.cls := findClass_of_methodNamed B.named
  have hlocks := B.notSynchronized
  subst hsz
  have hD := hD0.self (sz := s.heap.size)
  generalize hAe : va_A (wMo g a M) s.heap.size = A at hD ⊢
  have hA : ∀ q : Nat, s.heap.size ≤ q → A q := fun q h => by rw [← hAe]; exact Or.inr h
  have hS : va_S A s.heap s.heap [] := va_S.rf
  have hl := lv_entry ([.ref (a 0), .int (bI z), .int (nI t), .int dl, .long f1, .long f2]) (n := 8) (Nat.le_of_ble_eq_true rfl)
  rw [lg_entry_eq]
  generalize (lg_sl ([.ref (a 0), .int (bI z), .int (nI t), .int dl, .long f1, .long f2]) ++ List.replicate (8 - (lg_sl ([.ref (a 0), .int (bI z), .int (nI t), .int dl, .long f1, .long f2])).length) Slot.unset).toArray = ls at hl ⊢
  have hl : lv_has ls 8 [(0, .ref (a 0)), (1, .int (bI z)), (2, .int (nI t)), (3, .int dl), (4, .long f1), (6, .long f2)] := hl
  have hP : va_P D vwCl (wMo g a M) s.heap := hP
  refine lv_iload_n hx hb dMo_send_0 rfl (lv_at hl 3 rfl) ?_
  refine lv_if_ne (tgt := 15) hx hb dMo_send_1 (by decide) (fun c_1 => ?_) (fun c_1 => ?_)
  · refine lv_aload_n hx hb dMo_send_15 rfl (lv_at hl 0 rfl) ?_
    refine va_get (D := D) (ci := iMo) (v := .ref (a 22)) (C := RMo) (T := TMo) (N := 32) hx hb htB inBMo hown hK hP 0 rfl rfl 22 (by decide) (htB _ b_392) (fun _ h9 => h9) rfl dMo_send_16 ?_
    refine lv_aload_n hx hb dMo_send_19 rfl (lv_at hl 0 rfl) ?_
    refine va_get (D := D) (ci := iMo) (v := .int (nI (xme (m5 M)))) (C := RMo) (T := TMo) (N := 32) hx hb htB inBMo hown hK hP 0 rfl rfl 28 (by decide) (htB _ b_398) (fun _ h9 => h9) rfl dMo_send_20 ?_
    refine lv_iload_n hx hb dMo_send_23 rfl (lv_at hl 1 rfl) ?_
    refine mk_zast (k := (xme (m5 M))) (f := (xma (m4 M))) (z := z) hx hb hK hP hD hS 22 1 rfl rfl rfl ⟨hme, by decide⟩ dMo_send_24 (fun H locs hP hD hS => ?_)
    have hP : va_P D vwCl (wMo g a ((m1 M), (m2 M), (m3 M), ((va_up (xma (m4 M)) (xme (m5 M)) z), (xmt (m4 M)), (xms (m4 M)), (xmd (m4 M)), (xmf (m4 M)), (xmg (m4 M))), (m5 M))) H := hP
    have hD : va_D A (wMo g a ((m1 M), (m2 M), (m3 M), ((va_up (xma (m4 M)) (xme (m5 M)) z), (xmt (m4 M)), (xms (m4 M)), (xmd (m4 M)), (xmf (m4 M)), (xmg (m4 M))), (m5 M))) := hD
    refine lv_aload_n hx hb dMo_send_25 rfl (lv_at hl 0 rfl) ?_
    refine va_get (D := D) (ci := iMo) (v := .ref (a 23)) (C := RMo) (T := TMo) (N := 32) hx hb htB inBMo hown hK hP 0 rfl rfl 23 (by decide) (htB _ b_393) (fun _ h9 => h9) rfl dMo_send_26 ?_
    refine lv_aload_n hx hb dMo_send_29 rfl (lv_at hl 0 rfl) ?_
    refine va_get (D := D) (ci := iMo) (v := .int (nI (xme (m5 M)))) (C := RMo) (T := TMo) (N := 32) hx hb htB inBMo hown hK hP 0 rfl rfl 28 (by decide) (htB _ b_398) (fun _ h9 => h9) rfl dMo_send_30 ?_
    refine lv_iload_n hx hb dMo_send_33 rfl (lv_at hl 2 rfl) ?_
    refine mk_nast (k := (xme (m5 M))) (f := (xmt (m4 M))) (z := t) hx hb hK hP hD hS 23 0 rfl rfl rfl ⟨hme, by decide⟩ dMo_send_34 (fun H locs hP hD hS => ?_)
    have hP : va_P D vwCl (wMo g a ((m1 M), (m2 M), (m3 M), ((va_up (xma (m4 M)) (xme (m5 M)) z), (va_up (xmt (m4 M)) (xme (m5 M)) t), (xms (m4 M)), (xmd (m4 M)), (xmf (m4 M)), (xmg (m4 M))), (m5 M))) H := hP
    have hD : va_D A (wMo g a ((m1 M), (m2 M), (m3 M), ((va_up (xma (m4 M)) (xme (m5 M)) z), (va_up (xmt (m4 M)) (xme (m5 M)) t), (xms (m4 M)), (xmd (m4 M)), (xmf (m4 M)), (xmg (m4 M))), (m5 M))) := hD
    refine lv_aload_n hx hb dMo_send_35 rfl (lv_at hl 0 rfl) ?_
    refine va_get (D := D) (ci := iMo) (v := .ref (a 24)) (C := RMo) (T := TMo) (N := 32) hx hb htB inBMo hown hK hP 0 rfl rfl 24 (by decide) (htB _ b_394) (fun _ h9 => h9) rfl dMo_send_36 ?_
    refine lv_aload_n hx hb dMo_send_39 rfl (lv_at hl 0 rfl) ?_
    refine va_get (D := D) (ci := iMo) (v := .int (nI (xme (m5 M)))) (C := RMo) (T := TMo) (N := 32) hx hb htB inBMo hown hK hP 0 rfl rfl 28 (by decide) (htB _ b_398) (fun _ h9 => h9) rfl dMo_send_40 ?_
    refine lv_aload_n hx hb dMo_send_43 rfl (lv_at hl 0 rfl) ?_
    refine va_get (D := D) (ci := iMo) (v := .int (nI (xck (m5 M)))) (C := RMo) (T := TMo) (N := 32) hx hb htB inBMo hown hK hP 0 rfl rfl 31 (by decide) (htB _ b_401) (fun _ h9 => h9) rfl dMo_send_44 ?_
    refine mk_iast (k := (xme (m5 M))) hx hb hK hP hD hS 24 0 rfl rfl rfl ⟨hme, by decide⟩ dMo_send_47 (fun H locs hP hD hS => ?_)
    have hP : va_P D vwCl (wMo g a ((m1 M), (m2 M), (m3 M), ((va_up (xma (m4 M)) (xme (m5 M)) z), (va_up (xmt (m4 M)) (xme (m5 M)) t), (upd (xms (m4 M)) (xme (m5 M)) (nI (xck (m5 M)))), (xmd (m4 M)), (xmf (m4 M)), (xmg (m4 M))), (m5 M))) H := hP
    have hD : va_D A (wMo g a ((m1 M), (m2 M), (m3 M), ((va_up (xma (m4 M)) (xme (m5 M)) z), (va_up (xmt (m4 M)) (xme (m5 M)) t), (upd (xms (m4 M)) (xme (m5 M)) (nI (xck (m5 M)))), (xmd (m4 M)), (xmf (m4 M)), (xmg (m4 M))), (m5 M))) := hD
    refine lv_aload_n hx hb dMo_send_48 rfl (lv_at hl 0 rfl) ?_
    refine va_get (D := D) (ci := iMo) (v := .ref (a 25)) (C := RMo) (T := TMo) (N := 32) hx hb htB inBMo hown hK hP 0 rfl rfl 25 (by decide) (htB _ b_395) (fun _ h9 => h9) rfl dMo_send_49 ?_
    refine lv_aload_n hx hb dMo_send_52 rfl (lv_at hl 0 rfl) ?_
    refine va_get (D := D) (ci := iMo) (v := .int (nI (xme (m5 M)))) (C := RMo) (T := TMo) (N := 32) hx hb htB inBMo hown hK hP 0 rfl rfl 28 (by decide) (htB _ b_398) (fun _ h9 => h9) rfl dMo_send_53 ?_
    refine lv_aload_n hx hb dMo_send_56 rfl (lv_at hl 0 rfl) ?_
    refine va_get (D := D) (ci := iMo) (v := .int (nI (xck (m5 M)))) (C := RMo) (T := TMo) (N := 32) hx hb htB inBMo hown hK hP 0 rfl rfl 31 (by decide) (htB _ b_401) (fun _ h9 => h9) rfl dMo_send_57 ?_
    refine lv_iload_n hx hb dMo_send_60 rfl (lv_at hl 3 rfl) ?_
    refine lv_iadd hx hb dMo_send_61 ?_
    refine lv_iconst (v := 1) hx hb dMo_send_62 (by decide) ?_
    refine lv_isub hx hb dMo_send_63 ?_
    refine mk_iast (k := (xme (m5 M))) hx hb hK hP hD hS 25 0 rfl rfl rfl ⟨hme, by decide⟩ dMo_send_64 (fun H locs hP hD hS => ?_)
    have hP : va_P D vwCl (wMo g a ((m1 M), (m2 M), (m3 M), ((va_up (xma (m4 M)) (xme (m5 M)) z), (va_up (xmt (m4 M)) (xme (m5 M)) t), (upd (xms (m4 M)) (xme (m5 M)) (nI (xck (m5 M)))), (upd (xmd (m4 M)) (xme (m5 M)) (((nI (xck (m5 M))) + dl) - 1)), (xmf (m4 M)), (xmg (m4 M))), (m5 M))) H := hP
    have hD : va_D A (wMo g a ((m1 M), (m2 M), (m3 M), ((va_up (xma (m4 M)) (xme (m5 M)) z), (va_up (xmt (m4 M)) (xme (m5 M)) t), (upd (xms (m4 M)) (xme (m5 M)) (nI (xck (m5 M)))), (upd (xmd (m4 M)) (xme (m5 M)) (((nI (xck (m5 M))) + dl) - 1)), (xmf (m4 M)), (xmg (m4 M))), (m5 M))) := hD
    refine lv_aload_n hx hb dMo_send_65 rfl (lv_at hl 0 rfl) ?_
    refine va_get (D := D) (ci := iMo) (v := .ref (a 26)) (C := RMo) (T := TMo) (N := 32) hx hb htB inBMo hown hK hP 0 rfl rfl 26 (by decide) (htB _ b_396) (fun _ h9 => h9) rfl dMo_send_66 ?_
    refine lv_aload_n hx hb dMo_send_69 rfl (lv_at hl 0 rfl) ?_
    refine va_get (D := D) (ci := iMo) (v := .int (nI (xme (m5 M)))) (C := RMo) (T := TMo) (N := 32) hx hb htB inBMo hown hK hP 0 rfl rfl 28 (by decide) (htB _ b_398) (fun _ h9 => h9) rfl dMo_send_70 ?_
    refine lv_lload hx hb dMo_send_73 (lv_at hl 4 rfl) ?_
    refine mk_last (k := (xme (m5 M))) hx hb hK hP hD hS 26 3 rfl rfl rfl ⟨hme, by decide⟩ dMo_send_75 (fun H locs hP hD hS => ?_)
    have hP : va_P D vwCl (wMo g a ((m1 M), (m2 M), (m3 M), ((va_up (xma (m4 M)) (xme (m5 M)) z), (va_up (xmt (m4 M)) (xme (m5 M)) t), (upd (xms (m4 M)) (xme (m5 M)) (nI (xck (m5 M)))), (upd (xmd (m4 M)) (xme (m5 M)) (((nI (xck (m5 M))) + dl) - 1)), (vp_updL (xmf (m4 M)) (xme (m5 M)) f1), (xmg (m4 M))), (m5 M))) H := hP
    have hD : va_D A (wMo g a ((m1 M), (m2 M), (m3 M), ((va_up (xma (m4 M)) (xme (m5 M)) z), (va_up (xmt (m4 M)) (xme (m5 M)) t), (upd (xms (m4 M)) (xme (m5 M)) (nI (xck (m5 M)))), (upd (xmd (m4 M)) (xme (m5 M)) (((nI (xck (m5 M))) + dl) - 1)), (vp_updL (xmf (m4 M)) (xme (m5 M)) f1), (xmg (m4 M))), (m5 M))) := hD
    refine lv_aload_n hx hb dMo_send_76 rfl (lv_at hl 0 rfl) ?_
    refine va_get (D := D) (ci := iMo) (v := .ref (a 27)) (C := RMo) (T := TMo) (N := 32) hx hb htB inBMo hown hK hP 0 rfl rfl 27 (by decide) (htB _ b_397) (fun _ h9 => h9) rfl dMo_send_77 ?_
    refine lv_aload_n hx hb dMo_send_80 rfl (lv_at hl 0 rfl) ?_
    refine va_get (D := D) (ci := iMo) (v := .int (nI (xme (m5 M)))) (C := RMo) (T := TMo) (N := 32) hx hb htB inBMo hown hK hP 0 rfl rfl 28 (by decide) (htB _ b_398) (fun _ h9 => h9) rfl dMo_send_81 ?_
    refine lv_lload hx hb dMo_send_84 (lv_at hl 5 rfl) ?_
    refine mk_last (k := (xme (m5 M))) hx hb hK hP hD hS 27 3 rfl rfl rfl ⟨hme, by decide⟩ dMo_send_86 (fun H locs hP hD hS => ?_)
    have hP : va_P D vwCl (wMo g a ((m1 M), (m2 M), (m3 M), ((va_up (xma (m4 M)) (xme (m5 M)) z), (va_up (xmt (m4 M)) (xme (m5 M)) t), (upd (xms (m4 M)) (xme (m5 M)) (nI (xck (m5 M)))), (upd (xmd (m4 M)) (xme (m5 M)) (((nI (xck (m5 M))) + dl) - 1)), (vp_updL (xmf (m4 M)) (xme (m5 M)) f1), (vp_updL (xmg (m4 M)) (xme (m5 M)) f2)), (m5 M))) H := hP
    have hD : va_D A (wMo g a ((m1 M), (m2 M), (m3 M), ((va_up (xma (m4 M)) (xme (m5 M)) z), (va_up (xmt (m4 M)) (xme (m5 M)) t), (upd (xms (m4 M)) (xme (m5 M)) (nI (xck (m5 M)))), (upd (xmd (m4 M)) (xme (m5 M)) (((nI (xck (m5 M))) + dl) - 1)), (vp_updL (xmf (m4 M)) (xme (m5 M)) f1), (vp_updL (xmg (m4 M)) (xme (m5 M)) f2)), (m5 M))) := hD
    refine lv_aload_n hx hb dMo_send_87 rfl (lv_at hl 0 rfl) ?_
    refine lv_dup hx hb dMo_send_88 rfl ?_
    refine va_get (D := D) (ci := iMo) (v := .int (nI (xme (m5 M)))) (C := RMo) (T := TMo) (N := 32) hx hb htB inBMo hown hK hP 0 rfl rfl 28 (by decide) (htB _ b_398) (fun _ h9 => h9) rfl dMo_send_89 ?_
    refine lv_iconst (v := 1) hx hb dMo_send_92 (by decide) ?_
    refine lv_iadd hx hb dMo_send_93 ?_
    refine lv_topi (fun z_2 e_2 => ?_)
    have e_2 : z_2 = nI ((xme (m5 M)) + 1) := e_2.trans (nI_add (xme (m5 M)) 1)
    subst e_2
    refine va_put (D := D) (ci := iMo) (v := .int (nI ((xme (m5 M)) + 1))) (ty := .int) (C := RMo) (T := TMo) (N := 32) hx hb htB inBMo tyMo tyMo_ok nmMo hown hK hP hD hS 0 rfl rfl 28 (by decide) (htB _ b_398) (fun _ h9 => h9) rfl (by decide +kernel) rfl rfl (Nat.le_of_ble_eq_true rfl) dMo_send_94 (fun H locs hP hD hS => ?_)
    have hP : va_P D vwCl (wMo g a ((m1 M), (m2 M), (m3 M), ((va_up (xma (m4 M)) (xme (m5 M)) z), (va_up (xmt (m4 M)) (xme (m5 M)) t), (upd (xms (m4 M)) (xme (m5 M)) (nI (xck (m5 M)))), (upd (xmd (m4 M)) (xme (m5 M)) (((nI (xck (m5 M))) + dl) - 1)), (vp_updL (xmf (m4 M)) (xme (m5 M)) f1), (vp_updL (xmg (m4 M)) (xme (m5 M)) f2)), ((xtr (m5 M)), ((xme (m5 M)) + 1), (xlo (m5 M)), (xsl (m5 M)), (xck (m5 M))))) H := hP
    have hD : va_D A (wMo g a ((m1 M), (m2 M), (m3 M), ((va_up (xma (m4 M)) (xme (m5 M)) z), (va_up (xmt (m4 M)) (xme (m5 M)) t), (upd (xms (m4 M)) (xme (m5 M)) (nI (xck (m5 M)))), (upd (xmd (m4 M)) (xme (m5 M)) (((nI (xck (m5 M))) + dl) - 1)), (vp_updL (xmf (m4 M)) (xme (m5 M)) f1), (vp_updL (xmg (m4 M)) (xme (m5 M)) f2)), ((xtr (m5 M)), ((xme (m5 M)) + 1), (xlo (m5 M)), (xsl (m5 M)), (xck (m5 M))))) := hD
    have hE : wMo g a (ySend M z t dl f1 f2) = wMo g a ((m1 M), (m2 M), (m3 M), ((va_up (xma (m4 M)) (xme (m5 M)) z), (va_up (xmt (m4 M)) (xme (m5 M)) t), (upd (xms (m4 M)) (xme (m5 M)) (nI (xck (m5 M)))), (upd (xmd (m4 M)) (xme (m5 M)) (((nI (xck (m5 M))) + dl) - 1)), (vp_updL (xmf (m4 M)) (xme (m5 M)) f1), (vp_updL (xmg (m4 M)) (xme (m5 M)) f2)), ((xtr (m5 M)), ((xme (m5 M)) + 1), (xlo (m5 M)), (xsl (m5 M)), (xck (m5 M)))) := (by first | (simp only [ySend, if_neg c_1] <;> rfl) | exact ((if_neg c_1).trans (rfl)).symm)
    exact W.vret hx hb hr (fun t9 ht hW => ⟨⟨(), rfl, trivial, mk_end ht hE hP⟩, hS.F ht⟩) hS.2.2 dMo_send_97
  · refine lv_aload_n hx hb dMo_send_4 rfl (lv_at hl 0 rfl) ?_
    refine lv_dup hx hb dMo_send_5 rfl ?_
    refine va_get (D := D) (ci := iMo) (v := .int (xlo (m5 M))) (C := RMo) (T := TMo) (N := 32) hx hb htB inBMo hown hK hP 0 rfl rfl 29 (by decide) (htB _ b_399) (fun _ h9 => h9) rfl dMo_send_6 ?_
    refine lv_iconst (v := 1) hx hb dMo_send_9 (by decide) ?_
    refine lv_iadd hx hb dMo_send_10 ?_
    refine va_put (D := D) (ci := iMo) (v := .int ((xlo (m5 M)) + 1)) (ty := .int) (C := RMo) (T := TMo) (N := 32) hx hb htB inBMo tyMo tyMo_ok nmMo hown hK hP hD hS 0 rfl rfl 29 (by decide) (htB _ b_399) (fun _ h9 => h9) rfl (by decide +kernel) rfl rfl (Nat.le_of_ble_eq_true rfl) dMo_send_11 (fun H locs hP hD hS => ?_)
    have hP : va_P D vwCl (wMo g a ((m1 M), (m2 M), (m3 M), (m4 M), ((xtr (m5 M)), (xme (m5 M)), (xlo (m5 M)) + 1, (xsl (m5 M)), (xck (m5 M))))) H := hP
    have hD : va_D A (wMo g a ((m1 M), (m2 M), (m3 M), (m4 M), ((xtr (m5 M)), (xme (m5 M)), (xlo (m5 M)) + 1, (xsl (m5 M)), (xck (m5 M))))) := hD
    have hE : wMo g a (ySend M z t dl f1 f2) = wMo g a ((m1 M), (m2 M), (m3 M), (m4 M), ((xtr (m5 M)), (xme (m5 M)), (xlo (m5 M)) + 1, (xsl (m5 M)), (xck (m5 M)))) := (by first | (simp only [ySend, if_pos c_1] <;> rfl) | exact ((if_pos c_1).trans (rfl)).symm)
    exact W.vret hx hb hr (fun t9 ht hW => ⟨⟨(), rfl, trivial, mk_end ht hE hP⟩, hS.F ht⟩) hS.2.2 dMo_send_14
set_option maxHeartbeats 4000000 in
set_option maxRecDepth 100000 in
/-- take -/
theorem k_take (l : Launch) (D : va_G) (g : Nat → ClassId) (a : Nat → Nat) (M : zMo) (k : Nat) (hk : k < 64) (ht : xmt (m4 M) k < 4) : mk_Wv l yMo_take wsMo_take ({ frames := 0, cells := 0, slots := 0, locals := 0 }) D vwCl (zty g) [.ref (a 0), .int (nI k)] (wMo g a M) (wMo g a (yTake M k)) := by
  intro sz
  refine Met.ofW (cc := cMo_take) (maxL := 4) (ret := none) (by decide) rfl ?_
  intro p e s m args below meth cd s₁ B hml hv
  obtain ⟨rfl, hsz, hP, hK, hD0⟩ := hv
  have hx := B.exec
  have hb := B.bytes
  have hr := B.returns
  have hts := atoms_spec (ws := wsMo_take) B.pre
  have htB := fun (w : Cond) (h : w ∈ BIG) => hts w (List.mem_cons_of_mem _ h)
  have hown : s.vm.findClass RMo = some m.cls := findClass_of_methodNamed B.named
  have hlocks := B.notSynchronized
  subst hsz
  have hD := hD0.self (sz := s.heap.size)
  generalize hAe : va_A (wMo g a M) s.heap.size = A at hD ⊢
  have hA : ∀ q : Nat, s.heap.size ≤ q → A q := fun q h => by rw [← hAe]; exact Or.inr h
  have hS : va_S A s.heap s.heap [] := va_S.rf
  have hl := lv_entry ([.ref (a 0), .int (nI k)]) (n := 4) (Nat.le_of_ble_eq_true rfl)
  rw [lg_entry_eq]
  generalize (lg_sl ([.ref (a 0), .int (nI k)]) ++ List.replicate (4 - (lg_sl ([.ref (a 0), .int (nI k)])).length) Slot.unset).toArray = ls at hl ⊢
  have hl : lv_has ls 4 [(0, .ref (a 0)), (1, .int (nI k))] := hl
  have hP : va_P D vwCl (wMo g a M) s.heap := hP
  refine lv_aload_n hx hb dMo_take_0 rfl (lv_at hl 0 rfl) ?_
  refine va_get (D := D) (ci := iMo) (v := .ref (a 23)) (C := RMo) (T := TMo) (N := 32) hx hb htB inBMo hown hK hP 0 rfl rfl 23 (by decide) (htB _ b_393) (fun _ h9 => h9) rfl dMo_take_1 ?_
  refine lv_iload_n hx hb dMo_take_4 rfl (lv_at hl 1 rfl) ?_
  refine mk_iald (k := k) hx hb hK hP 23 0 rfl rfl rfl ⟨hk, by decide⟩ dMo_take_5 ?_
  refine lv_istore_n (lv' := [(2, .int (nI ((xmt (m4 M)) k))), (0, .ref (a 0)), (1, .int (nI k))]) hx hb dMo_take_6 rfl hl (by decide) rfl (fun ls hl => ?_)
  refine lv_aload_n hx hb dMo_take_7 rfl (lv_at hl 1 rfl) ?_
  refine va_get (D := D) (ci := iMo) (v := .ref (a 22)) (C := RMo) (T := TMo) (N := 32) hx hb htB inBMo hown hK hP 0 rfl rfl 22 (by decide) (htB _ b_392) (fun _ h9 => h9) rfl dMo_take_8 ?_
  refine lv_iload_n hx hb dMo_take_11 rfl (lv_at hl 2 rfl) ?_
  refine mk_zald (k := k) hx hb hK hP 22 1 rfl rfl rfl ⟨hk, by decide⟩ dMo_take_12 ?_
  refine lv_if_eq (tgt := 25) hx hb dMo_take_13 (by decide) (fun c_1 => ?_) (fun c_1 => ?_)
  · refine lv_aload_n hx hb dMo_take_25 rfl (lv_at hl 1 rfl) ?_
    refine va_get (D := D) (ci := iMo) (v := .ref (a 15)) (C := RMo) (T := TMo) (N := 32) hx hb htB inBMo hown hK hP 0 rfl rfl 15 (by decide) (htB _ b_385) (fun _ h9 => h9) rfl dMo_take_26 ?_
    refine lv_iload_n hx hb dMo_take_29 rfl (lv_at hl 0 rfl) ?_
    refine mk_iald (k := ((xmt (m4 M)) k)) hx hb hK hP 19 0 rfl rfl rfl ⟨ht, by decide⟩ dMo_take_30 ?_
    refine lv_istore_n (lv' := [(3, .int ((xrs (m3 M)) ((xmt (m4 M)) k))), (2, .int (nI ((xmt (m4 M)) k))), (0, .ref (a 0)), (1, .int (nI k))]) hx hb dMo_take_31 rfl hl (by decide) rfl (fun ls hl => ?_)
    refine lv_aload_n hx hb dMo_take_32 rfl (lv_at hl 2 rfl) ?_
    refine va_get (D := D) (ci := iMo) (v := .ref (a 24)) (C := RMo) (T := TMo) (N := 32) hx hb htB inBMo hown hK hP 0 rfl rfl 24 (by decide) (htB _ b_394) (fun _ h9 => h9) rfl dMo_take_33 ?_
    refine lv_iload_n hx hb dMo_take_36 rfl (lv_at hl 3 rfl) ?_
    refine mk_iald (k := k) hx hb hK hP 24 0 rfl rfl rfl ⟨hk, by decide⟩ dMo_take_37 ?_
    refine lv_iload_n hx hb dMo_take_38 rfl (lv_at hl 0 rfl) ?_
    refine lv_icmp_gt (tgt := 55) hx hb dMo_take_39 (by decide) (fun c_2 => ?_) (fun c_2 => ?_)
    · refine lv_aload_n hx hb dMo_take_55 rfl (lv_at hl 2 rfl) ?_
      refine va_get (D := D) (ci := iMo) (v := .ref (a 22)) (C := RMo) (T := TMo) (N := 32) hx hb htB inBMo hown hK hP 0 rfl rfl 22 (by decide) (htB _ b_392) (fun _ h9 => h9) rfl dMo_take_56 ?_
      refine lv_iload_n hx hb dMo_take_59 rfl (lv_at hl 3 rfl) ?_
      refine mk_zald (k := k) hx hb hK hP 22 1 rfl rfl rfl ⟨hk, by decide⟩ dMo_take_60 ?_
      refine lv_if_eq (tgt := 91) hx hb dMo_take_61 (by decide) (fun _ => ?_) (fun c_3 => absurd c_1 c_3)
      refine lv_aload_n hx hb dMo_take_91 rfl (lv_at hl 2 rfl) ?_
      refine va_get (D := D) (ci := iMo) (v := .ref (a 13)) (C := RMo) (T := TMo) (N := 32) hx hb htB inBMo hown hK hP 0 rfl rfl 13 (by decide) (htB _ b_383) (fun _ h9 => h9) rfl dMo_take_92 ?_
      refine lv_iload_n hx hb dMo_take_95 rfl (lv_at hl 1 rfl) ?_
      refine lv_aload_n hx hb dMo_take_96 rfl (lv_at hl 2 rfl) ?_
      refine va_get (D := D) (ci := iMo) (v := .ref (a 26)) (C := RMo) (T := TMo) (N := 32) hx hb htB inBMo hown hK hP 0 rfl rfl 26 (by decide) (htB _ b_396) (fun _ h9 => h9) rfl dMo_take_97 ?_
      refine lv_iload_n hx hb dMo_take_100 rfl (lv_at hl 3 rfl) ?_
      refine mk_lald (k := k) hx hb hK hP 26 3 rfl rfl rfl ⟨hk, by decide⟩ dMo_take_101 ?_
      refine mk_last (k := ((xmt (m4 M)) k)) hx hb hK hP hD hS 17 3 rfl rfl rfl ⟨ht, by decide⟩ dMo_take_102 (fun H locs hP hD hS => ?_)
      have hP : va_P D vwCl (wMo g a ((m1 M), (m2 M), ((xau (m3 M)), (xas (m3 M)), (vp_updL (xsr (m3 M)) ((xmt (m4 M)) k) ((xmf (m4 M)) k)), (xst (m3 M)), (xrs (m3 M)), (xup (m3 M)), (xbk (m3 M))), (m4 M), (m5 M))) H := hP
      have hD : va_D A (wMo g a ((m1 M), (m2 M), ((xau (m3 M)), (xas (m3 M)), (vp_updL (xsr (m3 M)) ((xmt (m4 M)) k) ((xmf (m4 M)) k)), (xst (m3 M)), (xrs (m3 M)), (xup (m3 M)), (xbk (m3 M))), (m4 M), (m5 M))) := hD
      refine lv_aload_n hx hb dMo_take_103 rfl (lv_at hl 2 rfl) ?_
      refine va_get (D := D) (ci := iMo) (v := .ref (a 14)) (C := RMo) (T := TMo) (N := 32) hx hb htB inBMo hown hK hP 0 rfl rfl 14 (by decide) (htB _ b_384) (fun _ h9 => h9) rfl dMo_take_104 ?_
      refine lv_iload_n hx hb dMo_take_107 rfl (lv_at hl 1 rfl) ?_
      refine lv_aload_n hx hb dMo_take_108 rfl (lv_at hl 2 rfl) ?_
      refine va_get (D := D) (ci := iMo) (v := .ref (a 27)) (C := RMo) (T := TMo) (N := 32) hx hb htB inBMo hown hK hP 0 rfl rfl 27 (by decide) (htB _ b_397) (fun _ h9 => h9) rfl dMo_take_109 ?_
      refine lv_iload_n hx hb dMo_take_112 rfl (lv_at hl 3 rfl) ?_
      refine mk_lald (k := k) hx hb hK hP 27 3 rfl rfl rfl ⟨hk, by decide⟩ dMo_take_113 ?_
      refine mk_last (k := ((xmt (m4 M)) k)) hx hb hK hP hD hS 18 3 rfl rfl rfl ⟨ht, by decide⟩ dMo_take_114 (fun H locs hP hD hS => ?_)
      have hP : va_P D vwCl (wMo g a ((m1 M), (m2 M), ((xau (m3 M)), (xas (m3 M)), (vp_updL (xsr (m3 M)) ((xmt (m4 M)) k) ((xmf (m4 M)) k)), (vp_updL (xst (m3 M)) ((xmt (m4 M)) k) ((xmg (m4 M)) k)), (xrs (m3 M)), (xup (m3 M)), (xbk (m3 M))), (m4 M), (m5 M))) H := hP
      have hD : va_D A (wMo g a ((m1 M), (m2 M), ((xau (m3 M)), (xas (m3 M)), (vp_updL (xsr (m3 M)) ((xmt (m4 M)) k) ((xmf (m4 M)) k)), (vp_updL (xst (m3 M)) ((xmt (m4 M)) k) ((xmg (m4 M)) k)), (xrs (m3 M)), (xup (m3 M)), (xbk (m3 M))), (m4 M), (m5 M))) := hD
      refine lv_aload_n hx hb dMo_take_115 rfl (lv_at hl 2 rfl) ?_
      refine va_get (D := D) (ci := iMo) (v := .ref (a 15)) (C := RMo) (T := TMo) (N := 32) hx hb htB inBMo hown hK hP 0 rfl rfl 15 (by decide) (htB _ b_385) (fun _ h9 => h9) rfl dMo_take_116 ?_
      refine lv_iload_n hx hb dMo_take_119 rfl (lv_at hl 1 rfl) ?_
      refine lv_aload_n hx hb dMo_take_120 rfl (lv_at hl 2 rfl) ?_
      refine va_get (D := D) (ci := iMo) (v := .ref (a 24)) (C := RMo) (T := TMo) (N := 32) hx hb htB inBMo hown hK hP 0 rfl rfl 24 (by decide) (htB _ b_394) (fun _ h9 => h9) rfl dMo_take_121 ?_
      refine lv_iload_n hx hb dMo_take_124 rfl (lv_at hl 3 rfl) ?_
      refine mk_iald (k := k) hx hb hK hP 24 0 rfl rfl rfl ⟨hk, by decide⟩ dMo_take_125 ?_
      refine mk_iast (k := ((xmt (m4 M)) k)) hx hb hK hP hD hS 19 0 rfl rfl rfl ⟨ht, by decide⟩ dMo_take_126 (fun H locs hP hD hS => ?_)
      have hP : va_P D vwCl (wMo g a ((m1 M), (m2 M), ((xau (m3 M)), (xas (m3 M)), (vp_updL (xsr (m3 M)) ((xmt (m4 M)) k) ((xmf (m4 M)) k)), (vp_updL (xst (m3 M)) ((xmt (m4 M)) k) ((xmg (m4 M)) k)), (upd (xrs (m3 M)) ((xmt (m4 M)) k) ((xms (m4 M)) k)), (xup (m3 M)), (xbk (m3 M))), (m4 M), (m5 M))) H := hP
      have hD : va_D A (wMo g a ((m1 M), (m2 M), ((xau (m3 M)), (xas (m3 M)), (vp_updL (xsr (m3 M)) ((xmt (m4 M)) k) ((xmf (m4 M)) k)), (vp_updL (xst (m3 M)) ((xmt (m4 M)) k) ((xmg (m4 M)) k)), (upd (xrs (m3 M)) ((xmt (m4 M)) k) ((xms (m4 M)) k)), (xup (m3 M)), (xbk (m3 M))), (m4 M), (m5 M))) := hD
      have hE : wMo g a (yTake M k) = wMo g a ((m1 M), (m2 M), ((xau (m3 M)), (xas (m3 M)), (vp_updL (xsr (m3 M)) ((xmt (m4 M)) k) ((xmf (m4 M)) k)), (vp_updL (xst (m3 M)) ((xmt (m4 M)) k) ((xmg (m4 M)) k)), (upd (xrs (m3 M)) ((xmt (m4 M)) k) ((xms (m4 M)) k)), (xup (m3 M)), (xbk (m3 M))), (m4 M), (m5 M)) := (by first | (simp only [yTake, yTakA, yTakR, yStale, if_pos c_1, if_pos c_2] <;> rfl) | exact ((if_pos c_1).trans ((if_pos c_2).trans (rfl))).symm)
      exact W.vret hx hb hr (fun t9 ht hW => ⟨⟨(), rfl, trivial, mk_end ht hE hP⟩, hS.F ht⟩) hS.2.2 dMo_take_127
    · refine lv_aload_n hx hb dMo_take_42 rfl (lv_at hl 2 rfl) ?_
      refine lv_dup hx hb dMo_take_43 rfl ?_
      refine va_get (D := D) (ci := iMo) (v := .int (xsl (m5 M))) (C := RMo) (T := TMo) (N := 32) hx hb htB inBMo hown hK hP 0 rfl rfl 30 (by decide) (htB _ b_400) (fun _ h9 => h9) rfl dMo_take_44 ?_
      refine lv_iconst (v := 1) hx hb dMo_take_47 (by decide) ?_
      refine lv_iadd hx hb dMo_take_48 ?_
      refine va_put (D := D) (ci := iMo) (v := .int ((xsl (m5 M)) + 1)) (ty := .int) (C := RMo) (T := TMo) (N := 32) hx hb htB inBMo tyMo tyMo_ok nmMo hown hK hP hD hS 0 rfl rfl 30 (by decide) (htB _ b_400) (fun _ h9 => h9) rfl (by decide +kernel) rfl rfl (Nat.le_of_ble_eq_true rfl) dMo_take_49 (fun H locs hP hD hS => ?_)
      have hP : va_P D vwCl (wMo g a ((m1 M), (m2 M), (m3 M), (m4 M), ((xtr (m5 M)), (xme (m5 M)), (xlo (m5 M)), (xsl (m5 M)) + 1, (xck (m5 M))))) H := hP
      have hD : va_D A (wMo g a ((m1 M), (m2 M), (m3 M), (m4 M), ((xtr (m5 M)), (xme (m5 M)), (xlo (m5 M)), (xsl (m5 M)) + 1, (xck (m5 M))))) := hD
      refine lv_goto (tgt := 127) hx hb dMo_take_52 (by decide) ?_
      have hE : wMo g a (yTake M k) = wMo g a ((m1 M), (m2 M), (m3 M), (m4 M), ((xtr (m5 M)), (xme (m5 M)), (xlo (m5 M)), (xsl (m5 M)) + 1, (xck (m5 M)))) := (by first | (simp only [yTake, yTakA, yTakR, yStale, if_pos c_1, if_neg c_2] <;> rfl) | exact ((if_pos c_1).trans ((if_neg c_2).trans (rfl))).symm)
      exact W.vret hx hb hr (fun t9 ht hW => ⟨⟨(), rfl, trivial, mk_end ht hE hP⟩, hS.F ht⟩) hS.2.2 dMo_take_127
  · refine lv_aload_n hx hb dMo_take_16 rfl (lv_at hl 1 rfl) ?_
    refine va_get (D := D) (ci := iMo) (v := .ref (a 12)) (C := RMo) (T := TMo) (N := 32) hx hb htB inBMo hown hK hP 0 rfl rfl 12 (by decide) (htB _ b_382) (fun _ h9 => h9) rfl dMo_take_17 ?_
    refine lv_iload_n hx hb dMo_take_20 rfl (lv_at hl 0 rfl) ?_
    refine mk_iald (k := ((xmt (m4 M)) k)) hx hb hK hP 16 0 rfl rfl rfl ⟨ht, by decide⟩ dMo_take_21 ?_
    refine lv_goto (tgt := 31) hx hb dMo_take_22 (by decide) ?_
    refine lv_istore_n (lv' := [(3, .int ((xas (m3 M)) ((xmt (m4 M)) k))), (2, .int (nI ((xmt (m4 M)) k))), (0, .ref (a 0)), (1, .int (nI k))]) hx hb dMo_take_31 rfl hl (by decide) rfl (fun ls hl => ?_)
    refine lv_aload_n hx hb dMo_take_32 rfl (lv_at hl 2 rfl) ?_
    refine va_get (D := D) (ci := iMo) (v := .ref (a 24)) (C := RMo) (T := TMo) (N := 32) hx hb htB inBMo hown hK hP 0 rfl rfl 24 (by decide) (htB _ b_394) (fun _ h9 => h9) rfl dMo_take_33 ?_
    refine lv_iload_n hx hb dMo_take_36 rfl (lv_at hl 3 rfl) ?_
    refine mk_iald (k := k) hx hb hK hP 24 0 rfl rfl rfl ⟨hk, by decide⟩ dMo_take_37 ?_
    refine lv_iload_n hx hb dMo_take_38 rfl (lv_at hl 0 rfl) ?_
    refine lv_icmp_gt (tgt := 55) hx hb dMo_take_39 (by decide) (fun c_4 => ?_) (fun c_4 => ?_)
    · refine lv_aload_n hx hb dMo_take_55 rfl (lv_at hl 2 rfl) ?_
      refine va_get (D := D) (ci := iMo) (v := .ref (a 22)) (C := RMo) (T := TMo) (N := 32) hx hb htB inBMo hown hK hP 0 rfl rfl 22 (by decide) (htB _ b_392) (fun _ h9 => h9) rfl dMo_take_56 ?_
      refine lv_iload_n hx hb dMo_take_59 rfl (lv_at hl 3 rfl) ?_
      refine mk_zald (k := k) hx hb hK hP 22 1 rfl rfl rfl ⟨hk, by decide⟩ dMo_take_60 ?_
      refine lv_if_eq (tgt := 91) hx hb dMo_take_61 (by decide) (fun c_5 => absurd c_5 c_1) (fun _ => ?_)
      refine lv_aload_n hx hb dMo_take_64 rfl (lv_at hl 2 rfl) ?_
      refine va_get (D := D) (ci := iMo) (v := .ref (a 11)) (C := RMo) (T := TMo) (N := 32) hx hb htB inBMo hown hK hP 0 rfl rfl 11 (by decide) (htB _ b_381) (fun _ h9 => h9) rfl dMo_take_65 ?_
      refine lv_iload_n hx hb dMo_take_68 rfl (lv_at hl 1 rfl) ?_
      refine lv_aload_n hx hb dMo_take_69 rfl (lv_at hl 2 rfl) ?_
      refine va_get (D := D) (ci := iMo) (v := .ref (a 26)) (C := RMo) (T := TMo) (N := 32) hx hb htB inBMo hown hK hP 0 rfl rfl 26 (by decide) (htB _ b_396) (fun _ h9 => h9) rfl dMo_take_70 ?_
      refine lv_iload_n hx hb dMo_take_73 rfl (lv_at hl 3 rfl) ?_
      refine mk_lald (k := k) hx hb hK hP 26 3 rfl rfl rfl ⟨hk, by decide⟩ dMo_take_74 ?_
      refine mk_last (k := ((xmt (m4 M)) k)) hx hb hK hP hD hS 15 3 rfl rfl rfl ⟨ht, by decide⟩ dMo_take_75 (fun H locs hP hD hS => ?_)
      have hP : va_P D vwCl (wMo g a ((m1 M), (m2 M), ((vp_updL (xau (m3 M)) ((xmt (m4 M)) k) ((xmf (m4 M)) k)), (xas (m3 M)), (xsr (m3 M)), (xst (m3 M)), (xrs (m3 M)), (xup (m3 M)), (xbk (m3 M))), (m4 M), (m5 M))) H := hP
      have hD : va_D A (wMo g a ((m1 M), (m2 M), ((vp_updL (xau (m3 M)) ((xmt (m4 M)) k) ((xmf (m4 M)) k)), (xas (m3 M)), (xsr (m3 M)), (xst (m3 M)), (xrs (m3 M)), (xup (m3 M)), (xbk (m3 M))), (m4 M), (m5 M))) := hD
      refine lv_aload_n hx hb dMo_take_76 rfl (lv_at hl 2 rfl) ?_
      refine va_get (D := D) (ci := iMo) (v := .ref (a 12)) (C := RMo) (T := TMo) (N := 32) hx hb htB inBMo hown hK hP 0 rfl rfl 12 (by decide) (htB _ b_382) (fun _ h9 => h9) rfl dMo_take_77 ?_
      refine lv_iload_n hx hb dMo_take_80 rfl (lv_at hl 1 rfl) ?_
      refine lv_aload_n hx hb dMo_take_81 rfl (lv_at hl 2 rfl) ?_
      refine va_get (D := D) (ci := iMo) (v := .ref (a 24)) (C := RMo) (T := TMo) (N := 32) hx hb htB inBMo hown hK hP 0 rfl rfl 24 (by decide) (htB _ b_394) (fun _ h9 => h9) rfl dMo_take_82 ?_
      refine lv_iload_n hx hb dMo_take_85 rfl (lv_at hl 3 rfl) ?_
      refine mk_iald (k := k) hx hb hK hP 24 0 rfl rfl rfl ⟨hk, by decide⟩ dMo_take_86 ?_
      refine mk_iast (k := ((xmt (m4 M)) k)) hx hb hK hP hD hS 16 0 rfl rfl rfl ⟨ht, by decide⟩ dMo_take_87 (fun H locs hP hD hS => ?_)
      have hP : va_P D vwCl (wMo g a ((m1 M), (m2 M), ((vp_updL (xau (m3 M)) ((xmt (m4 M)) k) ((xmf (m4 M)) k)), (upd (xas (m3 M)) ((xmt (m4 M)) k) ((xms (m4 M)) k)), (xsr (m3 M)), (xst (m3 M)), (xrs (m3 M)), (xup (m3 M)), (xbk (m3 M))), (m4 M), (m5 M))) H := hP
      have hD : va_D A (wMo g a ((m1 M), (m2 M), ((vp_updL (xau (m3 M)) ((xmt (m4 M)) k) ((xmf (m4 M)) k)), (upd (xas (m3 M)) ((xmt (m4 M)) k) ((xms (m4 M)) k)), (xsr (m3 M)), (xst (m3 M)), (xrs (m3 M)), (xup (m3 M)), (xbk (m3 M))), (m4 M), (m5 M))) := hD
      refine lv_goto (tgt := 127) hx hb dMo_take_88 (by decide) ?_
      have hE : wMo g a (yTake M k) = wMo g a ((m1 M), (m2 M), ((vp_updL (xau (m3 M)) ((xmt (m4 M)) k) ((xmf (m4 M)) k)), (upd (xas (m3 M)) ((xmt (m4 M)) k) ((xms (m4 M)) k)), (xsr (m3 M)), (xst (m3 M)), (xrs (m3 M)), (xup (m3 M)), (xbk (m3 M))), (m4 M), (m5 M)) := (by first | (simp only [yTake, yTakA, yTakR, yStale, if_neg c_1, if_pos c_4] <;> rfl) | exact ((if_neg c_1).trans ((if_pos c_4).trans (rfl))).symm)
      exact W.vret hx hb hr (fun t9 ht hW => ⟨⟨(), rfl, trivial, mk_end ht hE hP⟩, hS.F ht⟩) hS.2.2 dMo_take_127
    · refine lv_aload_n hx hb dMo_take_42 rfl (lv_at hl 2 rfl) ?_
      refine lv_dup hx hb dMo_take_43 rfl ?_
      refine va_get (D := D) (ci := iMo) (v := .int (xsl (m5 M))) (C := RMo) (T := TMo) (N := 32) hx hb htB inBMo hown hK hP 0 rfl rfl 30 (by decide) (htB _ b_400) (fun _ h9 => h9) rfl dMo_take_44 ?_
      refine lv_iconst (v := 1) hx hb dMo_take_47 (by decide) ?_
      refine lv_iadd hx hb dMo_take_48 ?_
      refine va_put (D := D) (ci := iMo) (v := .int ((xsl (m5 M)) + 1)) (ty := .int) (C := RMo) (T := TMo) (N := 32) hx hb htB inBMo tyMo tyMo_ok nmMo hown hK hP hD hS 0 rfl rfl 30 (by decide) (htB _ b_400) (fun _ h9 => h9) rfl (by decide +kernel) rfl rfl (Nat.le_of_ble_eq_true rfl) dMo_take_49 (fun H locs hP hD hS => ?_)
      have hP : va_P D vwCl (wMo g a ((m1 M), (m2 M), (m3 M), (m4 M), ((xtr (m5 M)), (xme (m5 M)), (xlo (m5 M)), (xsl (m5 M)) + 1, (xck (m5 M))))) H := hP
      have hD : va_D A (wMo g a ((m1 M), (m2 M), (m3 M), (m4 M), ((xtr (m5 M)), (xme (m5 M)), (xlo (m5 M)), (xsl (m5 M)) + 1, (xck (m5 M))))) := hD
      refine lv_goto (tgt := 127) hx hb dMo_take_52 (by decide) ?_
      have hE : wMo g a (yTake M k) = wMo g a ((m1 M), (m2 M), (m3 M), (m4 M), ((xtr (m5 M)), (xme (m5 M)), (xlo (m5 M)), (xsl (m5 M)) + 1, (xck (m5 M)))) := (by first | (simp only [yTake, yTakA, yTakR, yStale, if_neg c_1, if_neg c_4] <;> rfl) | exact ((if_neg c_1).trans ((if_neg c_4).trans (rfl))).symm)
      exact W.vret hx hb hr (fun t9 ht hW => ⟨⟨(), rfl, trivial, mk_end ht hE hP⟩, hS.F ht⟩) hS.2.2 dMo_take_127
set_option maxHeartbeats 4000000 in
set_option maxRecDepth 100000 in
theorem lq_drop {p : Program} {l : Launch} {e : Env} {s : State} {m : MethodId} {args : Array Value} {below : List Frame} {meth : Method} {cd : Code} {Q : State → Prop} {D : va_G} {g : Nat → ClassId} {A : Nat → Prop} {a : Nat → Nat} {M : zMo} (hme : xme (m5 M) < 64) (hx : p.tables.exec = Jvm.exec) (hb : cd.code = cMo_drop) (hml : cd.maxLocals = 3) (hown : s.vm.findClass RMo = some m.cls) (hts : ∀ w ∈ wsMo_drop, w.before args s = true) (hK : va_K D vwCl (zty g) s) (hA : ∀ q : Nat, s.heap.size ≤ q → A q) : ∀ (j i : Nat) (u : zM4) (H : Heap) (locs : List Loc) (ls : Array Slot), i + j = xme (m5 M) → va_P D vwCl (wMo g a (m1 M, m2 M, m3 M, u, m5 M)) H → va_D A (wMo g a (m1 M, m2 M, m3 M, u, m5 M)) → va_S A s.heap H locs → lv_has ls 3 [(2, .int (nI i)), (0, .ref (a 0))] → (∀ (H : Heap) (locs : List Loc) (ls : Array Slot), va_P D vwCl (wMo g a (m1 M, m2 M, m3 M, yShL j i u, m5 M)) H → va_D A (wMo g a (m1 M, m2 M, m3 M, yShL j i u, m5 M)) → va_S A s.heap H locs → lv_has ls 3 [(0, .ref (a 0))] → W p l e ({ frames := 0, cells := 0, slots := 0, locals := 0 }) s m args below meth cd H locs 0 0 Q (F0 m 110 ls [])) → W p l e ({ frames := 0, cells := 0, slots := 0, locals := 0 }) s m args below meth cd H locs 0 0 Q (F0 m 12 ls []) := by
  have htB : ∀ w ∈ BIG, w.before args s = true := fun w h => hts w (List.mem_cons_of_mem _ h)
  intro j
  induction j with
  | zero =>
    intro i u H locs ls hi hP hD hS hl kk
    refine lv_iload_n hx hb dMo_drop_12 rfl (lv_at hl 0 rfl) ?_
    refine lv_aload_n hx hb dMo_drop_13 rfl (lv_at hl 1 rfl) ?_
    refine va_get (D := D) (ci := iMo) (v := .int (nI (xme (m5 M)))) (C := RMo) (T := TMo) (N := 32) hx hb htB inBMo hown hK hP 0 rfl rfl 28 (by decide) (htB _ b_398) (fun _ h9 => h9) rfl dMo_drop_14 ?_
    refine lv_icmp_ge (tgt := 110) hx hb dMo_drop_17 (by decide) (fun _ => ?_) (fun c_1 => absurd (nI_le (a := xme (m5 M)) (b := i) (by omega) (by omega)) c_1)
    exact kk H locs ls hP hD hS (lv_sub hl [1] rfl)
  | succ j ih =>
    intro i u H locs ls hi hP hD hS hl kk
    refine lv_iload_n hx hb dMo_drop_12 rfl (lv_at hl 0 rfl) ?_
    refine lv_aload_n hx hb dMo_drop_13 rfl (lv_at hl 1 rfl) ?_
    refine va_get (D := D) (ci := iMo) (v := .int (nI (xme (m5 M)))) (C := RMo) (T := TMo) (N := 32) hx hb htB inBMo hown hK hP 0 rfl rfl 28 (by decide) (htB _ b_398) (fun _ h9 => h9) rfl dMo_drop_14 ?_
    refine lv_icmp_ge (tgt := 110) hx hb dMo_drop_17 (by decide) (fun c_1 => absurd c_1 (nI_ge (a := i) (b := xme (m5 M)) (by omega) (by omega))) (fun _ => ?_)
    refine lv_aload_n hx hb dMo_drop_20 rfl (lv_at hl 1 rfl) ?_
    refine va_get (D := D) (ci := iMo) (v := .ref (a 22)) (C := RMo) (T := TMo) (N := 32) hx hb htB inBMo hown hK hP 0 rfl rfl 22 (by decide) (htB _ b_392) (fun _ h9 => h9) rfl dMo_drop_21 ?_
    refine lv_iload_n hx hb dMo_drop_24 rfl (lv_at hl 0 rfl) ?_
    refine lv_aload_n hx hb dMo_drop_25 rfl (lv_at hl 1 rfl) ?_
    refine va_get (D := D) (ci := iMo) (v := .ref (a 22)) (C := RMo) (T := TMo) (N := 32) hx hb htB inBMo hown hK hP 0 rfl rfl 22 (by decide) (htB _ b_392) (fun _ h9 => h9) rfl dMo_drop_26 ?_
    refine lv_iload_n hx hb dMo_drop_29 rfl (lv_at hl 0 rfl) ?_
    refine lv_iconst (v := 1) hx hb dMo_drop_30 (by decide) ?_
    refine lv_iadd hx hb dMo_drop_31 ?_
    refine lv_topi (fun z_2 e_2 => ?_)
    have e_2 : z_2 = nI (i + 1) := e_2.trans (nI_add i 1)
    subst e_2
    refine mk_zald (k := (i + 1)) hx hb hK hP 22 1 rfl rfl rfl ⟨(by omega), by decide⟩ dMo_drop_32 ?_
    refine mk_zast (k := i) (f := (xma u)) (z := ((xma u) (i + 1))) hx hb hK hP hD hS 22 1 rfl rfl rfl ⟨(by omega), by decide⟩ dMo_drop_33 (fun H locs hP hD hS => ?_)
    have hP : va_P D vwCl (wMo g a ((m1 M), (m2 M), (m3 M), ((va_up (xma u) i ((xma u) (i + 1))), (xmt u), (xms u), (xmd u), (xmf u), (xmg u)), (m5 M))) H := hP
    have hD : va_D A (wMo g a ((m1 M), (m2 M), (m3 M), ((va_up (xma u) i ((xma u) (i + 1))), (xmt u), (xms u), (xmd u), (xmf u), (xmg u)), (m5 M))) := hD
    refine lv_aload_n hx hb dMo_drop_34 rfl (lv_at hl 1 rfl) ?_
    refine va_get (D := D) (ci := iMo) (v := .ref (a 23)) (C := RMo) (T := TMo) (N := 32) hx hb htB inBMo hown hK hP 0 rfl rfl 23 (by decide) (htB _ b_393) (fun _ h9 => h9) rfl dMo_drop_35 ?_
    refine lv_iload_n hx hb dMo_drop_38 rfl (lv_at hl 0 rfl) ?_
    refine lv_aload_n hx hb dMo_drop_39 rfl (lv_at hl 1 rfl) ?_
    refine va_get (D := D) (ci := iMo) (v := .ref (a 23)) (C := RMo) (T := TMo) (N := 32) hx hb htB inBMo hown hK hP 0 rfl rfl 23 (by decide) (htB _ b_393) (fun _ h9 => h9) rfl dMo_drop_40 ?_
    refine lv_iload_n hx hb dMo_drop_43 rfl (lv_at hl 0 rfl) ?_
    refine lv_iconst (v := 1) hx hb dMo_drop_44 (by decide) ?_
    refine lv_iadd hx hb dMo_drop_45 ?_
    refine lv_topi (fun z_3 e_3 => ?_)
    have e_3 : z_3 = nI (i + 1) := e_3.trans (nI_add i 1)
    subst e_3
    refine mk_iald (k := (i + 1)) hx hb hK hP 23 0 rfl rfl rfl ⟨(by omega), by decide⟩ dMo_drop_46 ?_
    refine mk_nast (k := i) (f := (xmt u)) (z := ((xmt u) (i + 1))) hx hb hK hP hD hS 23 0 rfl rfl rfl ⟨(by omega), by decide⟩ dMo_drop_47 (fun H locs hP hD hS => ?_)
    have hP : va_P D vwCl (wMo g a ((m1 M), (m2 M), (m3 M), ((va_up (xma u) i ((xma u) (i + 1))), (va_up (xmt u) i ((xmt u) (i + 1))), (xms u), (xmd u), (xmf u), (xmg u)), (m5 M))) H := hP
    have hD : va_D A (wMo g a ((m1 M), (m2 M), (m3 M), ((va_up (xma u) i ((xma u) (i + 1))), (va_up (xmt u) i ((xmt u) (i + 1))), (xms u), (xmd u), (xmf u), (xmg u)), (m5 M))) := hD
    refine lv_aload_n hx hb dMo_drop_48 rfl (lv_at hl 1 rfl) ?_
    refine va_get (D := D) (ci := iMo) (v := .ref (a 24)) (C := RMo) (T := TMo) (N := 32) hx hb htB inBMo hown hK hP 0 rfl rfl 24 (by decide) (htB _ b_394) (fun _ h9 => h9) rfl dMo_drop_49 ?_
    refine lv_iload_n hx hb dMo_drop_52 rfl (lv_at hl 0 rfl) ?_
    refine lv_aload_n hx hb dMo_drop_53 rfl (lv_at hl 1 rfl) ?_
    refine va_get (D := D) (ci := iMo) (v := .ref (a 24)) (C := RMo) (T := TMo) (N := 32) hx hb htB inBMo hown hK hP 0 rfl rfl 24 (by decide) (htB _ b_394) (fun _ h9 => h9) rfl dMo_drop_54 ?_
    refine lv_iload_n hx hb dMo_drop_57 rfl (lv_at hl 0 rfl) ?_
    refine lv_iconst (v := 1) hx hb dMo_drop_58 (by decide) ?_
    refine lv_iadd hx hb dMo_drop_59 ?_
    refine lv_topi (fun z_4 e_4 => ?_)
    have e_4 : z_4 = nI (i + 1) := e_4.trans (nI_add i 1)
    subst e_4
    refine mk_iald (k := (i + 1)) hx hb hK hP 24 0 rfl rfl rfl ⟨(by omega), by decide⟩ dMo_drop_60 ?_
    refine mk_iast (k := i) hx hb hK hP hD hS 24 0 rfl rfl rfl ⟨(by omega), by decide⟩ dMo_drop_61 (fun H locs hP hD hS => ?_)
    have hP : va_P D vwCl (wMo g a ((m1 M), (m2 M), (m3 M), ((va_up (xma u) i ((xma u) (i + 1))), (va_up (xmt u) i ((xmt u) (i + 1))), (upd (xms u) i ((xms u) (i + 1))), (xmd u), (xmf u), (xmg u)), (m5 M))) H := hP
    have hD : va_D A (wMo g a ((m1 M), (m2 M), (m3 M), ((va_up (xma u) i ((xma u) (i + 1))), (va_up (xmt u) i ((xmt u) (i + 1))), (upd (xms u) i ((xms u) (i + 1))), (xmd u), (xmf u), (xmg u)), (m5 M))) := hD
    refine lv_aload_n hx hb dMo_drop_62 rfl (lv_at hl 1 rfl) ?_
    refine va_get (D := D) (ci := iMo) (v := .ref (a 25)) (C := RMo) (T := TMo) (N := 32) hx hb htB inBMo hown hK hP 0 rfl rfl 25 (by decide) (htB _ b_395) (fun _ h9 => h9) rfl dMo_drop_63 ?_
    refine lv_iload_n hx hb dMo_drop_66 rfl (lv_at hl 0 rfl) ?_
    refine lv_aload_n hx hb dMo_drop_67 rfl (lv_at hl 1 rfl) ?_
    refine va_get (D := D) (ci := iMo) (v := .ref (a 25)) (C := RMo) (T := TMo) (N := 32) hx hb htB inBMo hown hK hP 0 rfl rfl 25 (by decide) (htB _ b_395) (fun _ h9 => h9) rfl dMo_drop_68 ?_
    refine lv_iload_n hx hb dMo_drop_71 rfl (lv_at hl 0 rfl) ?_
    refine lv_iconst (v := 1) hx hb dMo_drop_72 (by decide) ?_
    refine lv_iadd hx hb dMo_drop_73 ?_
    refine lv_topi (fun z_5 e_5 => ?_)
    have e_5 : z_5 = nI (i + 1) := e_5.trans (nI_add i 1)
    subst e_5
    refine mk_iald (k := (i + 1)) hx hb hK hP 25 0 rfl rfl rfl ⟨(by omega), by decide⟩ dMo_drop_74 ?_
    refine mk_iast (k := i) hx hb hK hP hD hS 25 0 rfl rfl rfl ⟨(by omega), by decide⟩ dMo_drop_75 (fun H locs hP hD hS => ?_)
    have hP : va_P D vwCl (wMo g a ((m1 M), (m2 M), (m3 M), ((va_up (xma u) i ((xma u) (i + 1))), (va_up (xmt u) i ((xmt u) (i + 1))), (upd (xms u) i ((xms u) (i + 1))), (upd (xmd u) i ((xmd u) (i + 1))), (xmf u), (xmg u)), (m5 M))) H := hP
    have hD : va_D A (wMo g a ((m1 M), (m2 M), (m3 M), ((va_up (xma u) i ((xma u) (i + 1))), (va_up (xmt u) i ((xmt u) (i + 1))), (upd (xms u) i ((xms u) (i + 1))), (upd (xmd u) i ((xmd u) (i + 1))), (xmf u), (xmg u)), (m5 M))) := hD
    refine lv_aload_n hx hb dMo_drop_76 rfl (lv_at hl 1 rfl) ?_
    refine va_get (D := D) (ci := iMo) (v := .ref (a 26)) (C := RMo) (T := TMo) (N := 32) hx hb htB inBMo hown hK hP 0 rfl rfl 26 (by decide) (htB _ b_396) (fun _ h9 => h9) rfl dMo_drop_77 ?_
    refine lv_iload_n hx hb dMo_drop_80 rfl (lv_at hl 0 rfl) ?_
    refine lv_aload_n hx hb dMo_drop_81 rfl (lv_at hl 1 rfl) ?_
    refine va_get (D := D) (ci := iMo) (v := .ref (a 26)) (C := RMo) (T := TMo) (N := 32) hx hb htB inBMo hown hK hP 0 rfl rfl 26 (by decide) (htB _ b_396) (fun _ h9 => h9) rfl dMo_drop_82 ?_
    refine lv_iload_n hx hb dMo_drop_85 rfl (lv_at hl 0 rfl) ?_
    refine lv_iconst (v := 1) hx hb dMo_drop_86 (by decide) ?_
    refine lv_iadd hx hb dMo_drop_87 ?_
    refine lv_topi (fun z_6 e_6 => ?_)
    have e_6 : z_6 = nI (i + 1) := e_6.trans (nI_add i 1)
    subst e_6
    refine mk_lald (k := (i + 1)) hx hb hK hP 26 3 rfl rfl rfl ⟨(by omega), by decide⟩ dMo_drop_88 ?_
    refine mk_last (k := i) hx hb hK hP hD hS 26 3 rfl rfl rfl ⟨(by omega), by decide⟩ dMo_drop_89 (fun H locs hP hD hS => ?_)
    have hP : va_P D vwCl (wMo g a ((m1 M), (m2 M), (m3 M), ((va_up (xma u) i ((xma u) (i + 1))), (va_up (xmt u) i ((xmt u) (i + 1))), (upd (xms u) i ((xms u) (i + 1))), (upd (xmd u) i ((xmd u) (i + 1))), (vp_updL (xmf u) i ((xmf u) (i + 1))), (xmg u)), (m5 M))) H := hP
    have hD : va_D A (wMo g a ((m1 M), (m2 M), (m3 M), ((va_up (xma u) i ((xma u) (i + 1))), (va_up (xmt u) i ((xmt u) (i + 1))), (upd (xms u) i ((xms u) (i + 1))), (upd (xmd u) i ((xmd u) (i + 1))), (vp_updL (xmf u) i ((xmf u) (i + 1))), (xmg u)), (m5 M))) := hD
    refine lv_aload_n hx hb dMo_drop_90 rfl (lv_at hl 1 rfl) ?_
    refine va_get (D := D) (ci := iMo) (v := .ref (a 27)) (C := RMo) (T := TMo) (N := 32) hx hb htB inBMo hown hK hP 0 rfl rfl 27 (by decide) (htB _ b_397) (fun _ h9 => h9) rfl dMo_drop_91 ?_
    refine lv_iload_n hx hb dMo_drop_94 rfl (lv_at hl 0 rfl) ?_
    refine lv_aload_n hx hb dMo_drop_95 rfl (lv_at hl 1 rfl) ?_
    refine va_get (D := D) (ci := iMo) (v := .ref (a 27)) (C := RMo) (T := TMo) (N := 32) hx hb htB inBMo hown hK hP 0 rfl rfl 27 (by decide) (htB _ b_397) (fun _ h9 => h9) rfl dMo_drop_96 ?_
    refine lv_iload_n hx hb dMo_drop_99 rfl (lv_at hl 0 rfl) ?_
    refine lv_iconst (v := 1) hx hb dMo_drop_100 (by decide) ?_
    refine lv_iadd hx hb dMo_drop_101 ?_
    refine lv_topi (fun z_7 e_7 => ?_)
    have e_7 : z_7 = nI (i + 1) := e_7.trans (nI_add i 1)
    subst e_7
    refine mk_lald (k := (i + 1)) hx hb hK hP 27 3 rfl rfl rfl ⟨(by omega), by decide⟩ dMo_drop_102 ?_
    refine mk_last (k := i) hx hb hK hP hD hS 27 3 rfl rfl rfl ⟨(by omega), by decide⟩ dMo_drop_103 (fun H locs hP hD hS => ?_)
    have hP : va_P D vwCl (wMo g a ((m1 M), (m2 M), (m3 M), ((va_up (xma u) i ((xma u) (i + 1))), (va_up (xmt u) i ((xmt u) (i + 1))), (upd (xms u) i ((xms u) (i + 1))), (upd (xmd u) i ((xmd u) (i + 1))), (vp_updL (xmf u) i ((xmf u) (i + 1))), (vp_updL (xmg u) i ((xmg u) (i + 1)))), (m5 M))) H := hP
    have hD : va_D A (wMo g a ((m1 M), (m2 M), (m3 M), ((va_up (xma u) i ((xma u) (i + 1))), (va_up (xmt u) i ((xmt u) (i + 1))), (upd (xms u) i ((xms u) (i + 1))), (upd (xmd u) i ((xmd u) (i + 1))), (vp_updL (xmf u) i ((xmf u) (i + 1))), (vp_updL (xmg u) i ((xmg u) (i + 1)))), (m5 M))) := hD
    refine lv_iinc (v := nI (i + 1)) (lv' := [(2, .int (nI (i + 1))), (0, .ref (a 0))]) hx hb dMo_drop_104 hl (k := 0) rfl (nI_1 _) (by decide) rfl (fun ls hl => ?_)
    refine lv_goto (tgt := 12) hx hb dMo_drop_107 (by decide) ?_
    have hE : yShL (j + 1) i u = yShL j (i + 1) ((va_up (xma u) i ((xma u) (i + 1))), (va_up (xmt u) i ((xmt u) (i + 1))), (upd (xms u) i ((xms u) (i + 1))), (upd (xmd u) i ((xmd u) (i + 1))), (vp_updL (xmf u) i ((xmf u) (i + 1))), (vp_updL (xmg u) i ((xmg u) (i + 1)))) := (by first | rfl | (simp only [yShL, yShift] <;> rfl))
    rw [hE] at kk
    exact ih (i + 1) ((va_up (xma u) i ((xma u) (i + 1))), (va_up (xmt u) i ((xmt u) (i + 1))), (upd (xms u) i ((xms u) (i + 1))), (upd (xmd u) i ((xmd u) (i + 1))), (vp_updL (xmf u) i ((xmf u) (i + 1))), (vp_updL (xmg u) i ((xmg u) (i + 1)))) H locs ls (by omega) hP hD hS (lv_sub hl [0, 1] rfl) kk
set_option maxHeartbeats 4000000 in
set_option maxRecDepth 100000 in
/-- drop -/
theorem k_drop (l : Launch) (D : va_G) (g : Nat → ClassId) (a : Nat → Nat) (M : zMo) (k : Nat) (hk : k < xme (m5 M)) (hme : xme (m5 M) ≤ 64) : mk_Wv l yMo_drop wsMo_drop ({ frames := 0, cells := 0, slots := 0, locals := 0 }) D vwCl (zty g) [.ref (a 0), .int (nI k)] (wMo g a M) (wMo g a (yDrop M k)) := by
  intro sz
  refine Met.ofW (cc := cMo_drop) (maxL := 3) (ret := none) (by decide) rfl ?_
  intro p e s m args below meth cd s₁ B hml hv
  obtain ⟨rfl, hsz, hP, hK, hD0⟩ := hv
  have hx := B.exec
  have hb := B.bytes
  have hr := B.returns
  have hts := atoms_spec (ws := wsMo_drop) B.pre
  have htB := fun (w : Cond) (h : w ∈ BIG) => hts w (List.mem_cons_of_mem _ h)
  have hown : s.vm.findClass RMo = some m.cls := findClass_of_methodNamed B.named
  have hlocks := B.notSynchronized
  subst hsz
  have hD := hD0.self (sz := s.heap.size)
  generalize hAe : va_A (wMo g a M) s.heap.size = A at hD ⊢
  have hA : ∀ q : Nat, s.heap.size ≤ q → A q := fun q h => by rw [← hAe]; exact Or.inr h
  have hS : va_S A s.heap s.heap [] := va_S.rf
  have hl := lv_entry ([.ref (a 0), .int (nI k)]) (n := 3) (Nat.le_of_ble_eq_true rfl)
  rw [lg_entry_eq]
  generalize (lg_sl ([.ref (a 0), .int (nI k)]) ++ List.replicate (3 - (lg_sl ([.ref (a 0), .int (nI k)])).length) Slot.unset).toArray = ls at hl ⊢
  have hl : lv_has ls 3 [(0, .ref (a 0)), (1, .int (nI k))] := hl
  have hP : va_P D vwCl (wMo g a M) s.heap := hP
  refine lv_aload_n hx hb dMo_drop_0 rfl (lv_at hl 0 rfl) ?_
  refine lv_dup hx hb dMo_drop_1 rfl ?_
  refine va_get (D := D) (ci := iMo) (v := .int (nI (xme (m5 M)))) (C := RMo) (T := TMo) (N := 32) hx hb htB inBMo hown hK hP 0 rfl rfl 28 (by decide) (htB _ b_398) (fun _ h9 => h9) rfl dMo_drop_2 ?_
  refine lv_iconst (v := 1) hx hb dMo_drop_5 (by decide) ?_
  refine lv_isub hx hb dMo_drop_6 ?_
  refine lv_topi (fun z_1 e_1 => ?_)
  have e_1 : z_1 = nI ((xme (m5 M)) - 1) := e_1.trans (pk_sub (a := (xme (m5 M))) (b := 1) (by omega))
  subst e_1
  refine va_put (D := D) (ci := iMo) (v := .int (nI ((xme (m5 M)) - 1))) (ty := .int) (C := RMo) (T := TMo) (N := 32) hx hb htB inBMo tyMo tyMo_ok nmMo hown hK hP hD hS 0 rfl rfl 28 (by decide) (htB _ b_398) (fun _ h9 => h9) rfl (by decide +kernel) rfl rfl (Nat.le_of_ble_eq_true rfl) dMo_drop_7 (fun H locs hP hD hS => ?_)
  have hP : va_P D vwCl (wMo g a ((m1 M), (m2 M), (m3 M), (m4 M), ((xtr (m5 M)), ((xme (m5 M)) - 1), (xlo (m5 M)), (xsl (m5 M)), (xck (m5 M))))) H := hP
  have hD : va_D A (wMo g a ((m1 M), (m2 M), (m3 M), (m4 M), ((xtr (m5 M)), ((xme (m5 M)) - 1), (xlo (m5 M)), (xsl (m5 M)), (xck (m5 M))))) := hD
  refine lv_iload_n hx hb dMo_drop_10 rfl (lv_at hl 1 rfl) ?_
  refine lv_istore_n (lv' := [(2, .int (nI k)), (0, .ref (a 0)), (1, .int (nI k))]) hx hb dMo_drop_11 rfl hl (by decide) rfl (fun ls hl => ?_)
  have hP : va_P D vwCl (wMo g a (m1 M, m2 M, m3 M, m4 M, (xtr (m5 M), xme (m5 M) - 1, xlo (m5 M), xsl (m5 M), xck (m5 M)))) H := hP
  have hD : va_D A (wMo g a (m1 M, m2 M, m3 M, m4 M, (xtr (m5 M), xme (m5 M) - 1, xlo (m5 M), xsl (m5 M), xck (m5 M)))) := hD
  have hle : xme (m5 (m1 M, m2 M, m3 M, m4 M, (xtr (m5 M), xme (m5 M) - 1, xlo (m5 M), xsl (m5 M), xck (m5 M)))) < 64 := by show xme (m5 M) - 1 < 64; omega
  refine lq_drop (a := a) (M := (m1 M, m2 M, m3 M, m4 M, (xtr (m5 M), xme (m5 M) - 1, xlo (m5 M), xsl (m5 M), xck (m5 M)))) hle hx hb hml hown hts hK hA (xme (m5 M) - 1 - k) k (m4 M) _ _ ls (by show k + (xme (m5 M) - 1 - k) = xme (m5 M) - 1; omega) hP hD hS (lv_sub hl [0, 1] rfl) (fun H locs ls hP hD hS hl => ?_)
  have hP : va_P D vwCl (wMo g a (yDrop M k)) H := hP
  have hE : wMo g a (yDrop M k) = wMo g a (yDrop M k) := (by first | rfl | (simp only [yDrop] <;> rfl))
  exact W.vret hx hb hr (fun t9 ht hW => ⟨⟨(), rfl, trivial, mk_end ht hE hP⟩, hS.F ht⟩) hS.2.2 dMo_drop_110
set_option maxHeartbeats 4000000 in
set_option maxRecDepth 100000 in
theorem lq_arrive {p : Program} {l : Launch} {e : Env} {s : State} {m : MethodId} {args : Array Value} {below : List Frame} {meth : Method} {cd : Code} {Q : State → Prop} {D : va_G} {g : Nat → ClassId} {A : Nat → Prop} {a : Nat → Nat} {z : Bool} (hx : p.tables.exec = Jvm.exec) (hb : cd.code = cMo_arrive) (hml : cd.maxLocals = 3) (hown : s.vm.findClass RMo = some m.cls) (hts : ∀ w ∈ wsMo_arrive, w.before args s = true) (hK : va_K D vwCl (zty g) s) (hA : ∀ q : Nat, s.heap.size ≤ q → A q) : ∀ (j i : Nat) (M : zMo) (H : Heap) (locs : List Loc) (ls : Array Slot), xme (m5 M) ≤ i + j → i ≤ 64 → xme (m5 M) ≤ 64 → (∀ j, j < xme (m5 M) → xmt (m4 M) j < 4) → va_P D vwCl (wMo g a M) H → va_D A (wMo g a M) → va_S A s.heap H locs → lv_has ls 3 [(2, .int (nI i)), (0, .ref (a 0)), (1, .int (bI z))] → (∀ (H : Heap) (locs : List Loc) (ls : Array Slot), va_P D vwCl (wMo g a (yArrL z (j + 1) i M)) H → va_D A (wMo g a (yArrL z (j + 1) i M)) → va_S A s.heap H locs → lv_has ls 3 [(0, .ref (a 0)), (1, .int (bI z))] → W p l e ({ frames := 1, cells := 0, slots := 0, locals := 23 }) s m args below meth cd H locs 0 0 Q (F0 m 52 ls [])) → W p l e ({ frames := 1, cells := 0, slots := 0, locals := 23 }) s m args below meth cd H locs 0 0 Q (F0 m 2 ls []) := by
  have htB : ∀ w ∈ BIG, w.before args s = true := fun w h => hts w (List.mem_cons_of_mem _ h)
  intro j
  induction j with
  | zero =>
    intro i M H locs ls hj hi hme hI hP hD hS hl kk
    have hz : nI (xme (m5 M)) ≤ nI i := nI_le (by omega) (by omega)
    refine lv_iload_n hx hb dMo_arrive_2 rfl (lv_at hl 0 rfl) ?_
    refine lv_aload_n hx hb dMo_arrive_3 rfl (lv_at hl 1 rfl) ?_
    refine va_get (D := D) (ci := iMo) (v := .int (nI (xme (m5 M)))) (C := RMo) (T := TMo) (N := 32) hx hb htB inBMo hown hK hP 0 rfl rfl 28 (by decide) (htB _ b_398) (fun _ h9 => h9) rfl dMo_arrive_4 ?_
    refine lv_icmp_ge (tgt := 52) hx hb dMo_arrive_7 (by decide) (fun _ => ?_) (fun c_1 => absurd hz c_1)
    have hE : yArrL z (0 + 1) i M = M := (by rw [yArrL]; exact if_pos hz)
    rw [hE] at kk
    exact kk H locs ls hP hD hS (lv_sub hl [1, 2] rfl)
  | succ j ih =>
    intro i M H locs ls hj hi hme hI hP hD hS hl kk
    refine lv_iload_n hx hb dMo_arrive_2 rfl (lv_at hl 0 rfl) ?_
    refine lv_aload_n hx hb dMo_arrive_3 rfl (lv_at hl 1 rfl) ?_
    refine va_get (D := D) (ci := iMo) (v := .int (nI (xme (m5 M)))) (C := RMo) (T := TMo) (N := 32) hx hb htB inBMo hown hK hP 0 rfl rfl 28 (by decide) (htB _ b_398) (fun _ h9 => h9) rfl dMo_arrive_4 ?_
    refine lv_icmp_ge (tgt := 52) hx hb dMo_arrive_7 (by decide) (fun c_1 => ?_) (fun c_1 => ?_)
    · have hE : yArrL z (j + 1 + 1) i M = M := (by rw [yArrL]; simp only [if_pos c_1])
      rw [hE] at kk
      exact kk H locs ls hP hD hS (lv_sub hl [1, 2] rfl)
    · have hlt : i < xme (m5 M) := Nat.lt_of_not_le (fun q => c_1 (nI_le q (by omega)))
      refine lv_aload_n hx hb dMo_arrive_10 rfl (lv_at hl 1 rfl) ?_
      refine va_get (D := D) (ci := iMo) (v := .ref (a 25)) (C := RMo) (T := TMo) (N := 32) hx hb htB inBMo hown hK hP 0 rfl rfl 25 (by decide) (htB _ b_395) (fun _ h9 => h9) rfl dMo_arrive_11 ?_
      refine lv_iload_n hx hb dMo_arrive_14 rfl (lv_at hl 0 rfl) ?_
      refine mk_iald (k := i) hx hb hK hP 25 0 rfl rfl rfl ⟨(by omega), by decide⟩ dMo_arrive_15 ?_
      refine lv_aload_n hx hb dMo_arrive_16 rfl (lv_at hl 1 rfl) ?_
      refine va_get (D := D) (ci := iMo) (v := .int (nI (xck (m5 M)))) (C := RMo) (T := TMo) (N := 32) hx hb htB inBMo hown hK hP 0 rfl rfl 31 (by decide) (htB _ b_401) (fun _ h9 => h9) rfl dMo_arrive_17 ?_
      refine lv_icmp_ne (tgt := 46) hx hb dMo_arrive_20 (by decide) (fun c_2 => ?_) (fun c_2 => ?_)
      · refine lv_iinc (v := nI (i + 1)) (lv' := [(2, .int (nI (i + 1))), (0, .ref (a 0)), (1, .int (bI z))]) hx hb dMo_arrive_46 hl (k := 0) rfl (nI_1 _) (by decide) rfl (fun ls hl => ?_)
        refine lv_goto (tgt := 2) hx hb dMo_arrive_49 (by decide) ?_
        have hE : yArrL z (j + 1 + 1) i M = yArrL z (j + 1) (i + 1) M := (by rw [yArrL]; simp only [if_neg c_1, if_neg c_2])
        rw [hE] at kk
        exact ih (i + 1) M H locs ls (by omega) (by omega) hme hI hP hD hS (lv_sub hl [0, 1, 2] rfl) kk
      · refine lv_aload_n hx hb dMo_arrive_23 rfl (lv_at hl 1 rfl) ?_
        refine va_get (D := D) (ci := iMo) (v := .ref (a 22)) (C := RMo) (T := TMo) (N := 32) hx hb htB inBMo hown hK hP 0 rfl rfl 22 (by decide) (htB _ b_392) (fun _ h9 => h9) rfl dMo_arrive_24 ?_
        refine lv_iload_n hx hb dMo_arrive_27 rfl (lv_at hl 0 rfl) ?_
        refine mk_zald (k := i) hx hb hK hP 22 1 rfl rfl rfl ⟨(by omega), by decide⟩ dMo_arrive_28 ?_
        refine lv_iload_n hx hb dMo_arrive_29 rfl (lv_at hl 2 rfl) ?_
        refine lv_icmp_ne (tgt := 46) hx hb dMo_arrive_30 (by decide) (fun c_3 => ?_) (fun c_3 => ?_)
        · refine lv_iinc (v := nI (i + 1)) (lv' := [(2, .int (nI (i + 1))), (0, .ref (a 0)), (1, .int (bI z))]) hx hb dMo_arrive_46 hl (k := 0) rfl (nI_1 _) (by decide) rfl (fun ls hl => ?_)
          refine lv_goto (tgt := 2) hx hb dMo_arrive_49 (by decide) ?_
          have hE : yArrL z (j + 1 + 1) i M = yArrL z (j + 1) (i + 1) M := (by rw [yArrL]; simp only [if_neg c_1, if_pos c_2, if_neg c_3])
          rw [hE] at kk
          exact ih (i + 1) M H locs ls (by omega) (by omega) hme hI hP hD hS (lv_sub hl [0, 1, 2] rfl) kk
        · refine lv_aload_n hx hb dMo_arrive_33 rfl (lv_at hl 1 rfl) ?_
          refine lv_iload_n hx hb dMo_arrive_34 rfl (lv_at hl 0 rfl) ?_
          refine mk_wrV (As := [.int (nI i)]) (rest := []) (w := (wMo g a M)) (q0 := (RMo, TMo, 32)) (ci := iMo) (w2 := (wMo g a (yTake M i))) ⟨hx, hb, hml, hown, hts⟩ (k_take l D g a M i (by omega) (hI _ hlt)) (cwV 1 hts (gd_V b_530 b_532 bp_14 b_6 b_533) rfl rfl rfl (by decide +kernel) ⟨Nat.le_of_ble_eq_true rfl, Nat.le_of_ble_eq_true rfl⟩) hK hP hD hS hA (List.range 28) mo_cutAll mo_ndAll fst_Mo rfl rfl rfl hl.1 rfl (Nat.le_of_ble_eq_true rfl) dMo_arrive_35 ⟨Nat.zero_le _, Nat.zero_le _⟩ (fun H locs hP hD hS => ?_)
          rw [mo_putAll] at hP hD
          have hP : va_P D vwCl (wMo g a (yTake M i)) H := hP
          have hD : va_D A (wMo g a (yTake M i)) := hD
          refine lv_aload_n hx hb dMo_arrive_38 rfl (lv_at hl 1 rfl) ?_
          refine lv_iload_n hx hb dMo_arrive_39 rfl (lv_at hl 0 rfl) ?_
          refine mk_wrV (As := [.int (nI i)]) (rest := []) (w := (wMo g a (yTake M i))) (q0 := (RMo, TMo, 32)) (ci := iMo) (w2 := (wMo g a (yDrop (yTake M i) i))) ⟨hx, hb, hml, hown, hts⟩ (k_drop l D g a (yTake M i) i (by rw [yTake_me]; exact hlt) (by rw [yTake_me]; exact hme)) (cwV 1 hts (gd_V b_534 b_536 bp_15 b_6 b_537) rfl rfl rfl (by decide +kernel) ⟨Nat.le_of_ble_eq_true rfl, Nat.le_of_ble_eq_true rfl⟩) hK hP hD hS hA (List.range 28) mo_cutAll mo_ndAll fst_Mo rfl rfl rfl hl.1 rfl (Nat.le_of_ble_eq_true rfl) dMo_arrive_40 ⟨Nat.zero_le _, Nat.zero_le _⟩ (fun H locs hP hD hS => ?_)
          rw [mo_putAll] at hP hD
          have hP : va_P D vwCl (wMo g a (yDrop (yTake M i) i)) H := hP
          have hD : va_D A (wMo g a (yDrop (yTake M i) i)) := hD
          refine lv_goto (tgt := 2) hx hb dMo_arrive_43 (by decide) ?_
          have hE : yArrL z (j + 1 + 1) i M = yArrL z (j + 1) i (yDrop (yTake M i) i) := (by rw [yArrL]; simp only [if_neg c_1, if_pos c_2, if_pos c_3])
          rw [hE] at kk
          exact ih i (yDrop (yTake M i) i) H locs ls (by have e0 := yDT_me (M := M) (k := i); omega) (by omega) (by have e0 := yDT_me (M := M) (k := i); omega) (yDT_ok hI) hP hD hS (lv_sub hl [0, 1, 2] rfl) kk
set_option maxHeartbeats 4000000 in
set_option maxRecDepth 100000 in
/-- arrive -/
theorem k_arrive (l : Launch) (D : va_G) (g : Nat → ClassId) (a : Nat → Nat) (M : zMo) (z : Bool) (hme : xme (m5 M) ≤ 64) (hI : ∀ j, j < xme (m5 M) → xmt (m4 M) j < 4) : mk_Wv l yMo_arrive wsMo_arrive ({ frames := 1, cells := 0, slots := 0, locals := 23 }) D vwCl (zty g) [.ref (a 0), .int (bI z)] (wMo g a M) (wMo g a (yArr M z)) := by
  intro sz
  refine Met.ofW (cc := cMo_arrive) (maxL := 3) (ret := none) (by decide) rfl ?_
  intro p e s m args below meth cd s₁ B hml hv
  obtain ⟨rfl, hsz, hP, hK, hD0⟩ := hv
  have hx := B.exec
  have hb := B.bytes
  have hr := B.returns
  have hts := atoms_spec (ws := wsMo_arrive) B.pre
  have htB := fun (w : Cond) (h : w ∈ BIG) => hts w (List.mem_cons_of_mem _ h)
  have hown : s.vm.findClass RMo = some m.cls := findClass_of_methodNamed B.named
  have hlocks := B.notSynchronized
  subst hsz
  have hD := hD0.self (sz := s.heap.size)
  generalize hAe : va_A (wMo g a M) s.heap.size = A at hD ⊢
  have hA : ∀ q : Nat, s.heap.size ≤ q → A q := fun q h => by rw [← hAe]; exact Or.inr h
  have hS : va_S A s.heap s.heap [] := va_S.rf
  have hl := lv_entry ([.ref (a 0), .int (bI z)]) (n := 3) (Nat.le_of_ble_eq_true rfl)
  rw [lg_entry_eq]
  generalize (lg_sl ([.ref (a 0), .int (bI z)]) ++ List.replicate (3 - (lg_sl ([.ref (a 0), .int (bI z)])).length) Slot.unset).toArray = ls at hl ⊢
  have hl : lv_has ls 3 [(0, .ref (a 0)), (1, .int (bI z))] := hl
  have hP : va_P D vwCl (wMo g a M) s.heap := hP
  refine lv_iconst (v := 0) hx hb dMo_arrive_0 (by decide) ?_
  refine lv_istore_n (lv' := [(2, .int 0), (0, .ref (a 0)), (1, .int (bI z))]) hx hb dMo_arrive_1 rfl hl (by decide) rfl (fun ls hl => ?_)
  refine lq_arrive (a := a) (z := z) hx hb hml hown hts hK hA (xme (m5 M)) 0 M _ _ ls (by omega) (by omega) hme hI hP hD hS (lv_sub hl [0, 1, 2] rfl) (fun H locs ls hP hD hS hl => ?_)
  have hP : va_P D vwCl (wMo g a (yArr M z)) H := hP
  have hE : wMo g a (yArr M z) = wMo g a (yArr M z) := (by first | rfl | (simp only [yArr] <;> rfl))
  exact W.vret hx hb hr (fun t9 ht hW => ⟨⟨(), rfl, trivial, mk_end ht hE hP⟩, hS.F ht⟩) hS.2.2 dMo_arrive_52
