set_option maxHeartbeats 4000000 in
set_option maxRecDepth 100000 in
/-- measure -/
theorem k_measure (l : Launch) (D : va_G) (g : Nat → ClassId) (a : Nat → Nat) (M : zMo) (hm : xtr (m5 M) ≤ 4) (x w : Int32) : mk_Rd l yMo_measure wsMo_measure ({ frames := 1, cells := 0, slots := 0, locals := 21 }) D vwCl (zty g) [.ref (a 0), .int x, .int w] (wMo g a M) (yMeasure M x w) := by
  intro sz
  refine Met.ofW (cc := cMo_measure) (maxL := 3) (ret := (some .int)) (by decide) rfl ?_
  intro p e s m args below meth cd s₁ B hml hv
  obtain ⟨rfl, hsz, hP, hK, hD0⟩ := hv
  have hx := B.exec
  have hb := B.bytes
  have hr := B.returns
  have hts := atoms_spec (ws := wsMo_measure) B.pre
  have htB := fun (w : Cond) (h : w ∈ BIG) => hts w (List.mem_cons_of_mem _ h)
  have hown : s.vm.findClass RMo = some m.cls := findClass_of_methodNamed B.named
  have hlocks := B.notSynchronized
  subst hsz
  have hD := hD0
  have hA : ∀ q : Nat, s.heap.size ≤ q → (fun q => s.heap.size ≤ q) q := fun _ h => h
  have hS : va_S (fun q => s.heap.size ≤ q) s.heap s.heap [] := va_S.rf
  have hl := lv_entry ([.ref (a 0), .int x, .int w]) (n := 3) (Nat.le_of_ble_eq_true rfl)
  rw [lg_entry_eq]
  generalize (lg_sl ([.ref (a 0), .int x, .int w]) ++ List.replicate (3 - (lg_sl ([.ref (a 0), .int x, .int w])).length) Slot.unset).toArray = ls at hl ⊢
  have hl : lv_has ls 3 [(0, .ref (a 0)), (1, .int x), (2, .int w)] := hl
  have hP : va_P D vwCl (wMo g a M) s.heap := hP
  refine lv_aload_n hx hb dMo_measure_0 rfl (lv_at hl 0 rfl) ?_
  refine lv_iload_n hx hb dMo_measure_1 rfl (lv_at hl 1 rfl) ?_
  refine mk_rdV (As := [.int x]) (rest := []) (w := (wMo g a M)) (q0 := (RMo, TMo, 32)) (ci := iMo) ⟨hx, hb, hml, hown, hts⟩ (k_noTrain l D g a M x) (cwV 1 hts (gd_V b_498 b_500 bp_9 b_6 b_501) rfl rfl rfl (by decide +kernel) ⟨Nat.le_of_ble_eq_true rfl, Nat.le_of_ble_eq_true rfl⟩) hK hP hD hS hA (List.range 28) mo_cutAll mo_ndAll rfl rfl rfl hl.1 rfl (Nat.le_of_ble_eq_true rfl) dMo_measure_2 ⟨Nat.zero_le _, Nat.zero_le _⟩ (fun H locs hP hS => ?_)
  refine lv_if_eq (tgt := 11) hx hb dMo_measure_5 (by decide) (fun c_1 => ?_) (fun c_1 => ?_)
  · refine lv_iload_n hx hb dMo_measure_11 rfl (lv_at hl 2 rfl) ?_
    by_cases c_2 : w = 0
    · refine lv_tableIn (tgt := 60) hx hb dMo_measure_12 (by rw [c_2]; decide +kernel) (by rw [c_2]; decide +kernel) (off := 48) (by rw [c_2]; decide +kernel) (by decide) ?_
      refine lv_aload_n hx hb dMo_measure_60 rfl (lv_at hl 0 rfl) ?_
      refine va_get (D := D) (ci := iMo) (v := .ref (a 7)) (C := RMo) (T := TMo) (N := 32) hx hb htB inBMo hown hK hP 0 rfl rfl 7 (by decide) (htB _ b_377) (fun _ h9 => h9) rfl dMo_measure_61 ?_
      refine lv_iload_n hx hb dMo_measure_64 rfl (lv_at hl 1 rfl) ?_
      refine mk_lald (k := x.toNatClampNeg) hx hb hK hP 7 3 rfl rfl (mNo_ix c_1) ⟨mNo_lt hm c_1, by decide⟩ dMo_measure_65 ?_
      refine mk_rdS (As := [.long ((xfr (m2 M)) x.toNatClampNeg)]) (rest := []) (w := []) ⟨hx, hb, hml, hown, hts⟩ (k_told l D g ((xfr (m2 M)) x.toNatClampNeg)) (va_cwS 1 hts (gd_S b_577 b_578 b_6 b_579) rfl rfl rfl (by decide +kernel) ⟨Nat.le_of_ble_eq_true rfl, Nat.le_of_ble_eq_true rfl⟩) hK hP hD hS hA [] rfl rfl rfl hl.1 rfl (Nat.le_of_ble_eq_true rfl) dMo_measure_66 ⟨Nat.zero_le _, Nat.zero_le _⟩ (fun H locs hP hS => ?_)
      exact W.iret (v := ((xfr (m2 M)) x.toNatClampNeg).toInt32) hx hb hr (fun t9 ht hW => ⟨⟨((xfr (m2 M)) x.toNatClampNeg).toInt32, (), rfl, (by first | (simp only [yMeasure, if_pos c_1, if_pos c_2] <;> rfl) | exact ((if_pos c_1).trans ((if_pos c_2).trans (rfl))).symm), trivial⟩, hS.F ht⟩) hS.2.2 dMo_measure_69
    by_cases c_3 : w = 1
    · refine lv_tableIn (tgt := 70) hx hb dMo_measure_12 (by rw [c_3]; decide +kernel) (by rw [c_3]; decide +kernel) (off := 58) (by rw [c_3]; decide +kernel) (by decide) ?_
      refine lv_aload_n hx hb dMo_measure_70 rfl (lv_at hl 0 rfl) ?_
      refine va_get (D := D) (ci := iMo) (v := .ref (a 8)) (C := RMo) (T := TMo) (N := 32) hx hb htB inBMo hown hK hP 0 rfl rfl 8 (by decide) (htB _ b_378) (fun _ h9 => h9) rfl dMo_measure_71 ?_
      refine lv_iload_n hx hb dMo_measure_74 rfl (lv_at hl 1 rfl) ?_
      refine mk_lald (k := x.toNatClampNeg) hx hb hK hP 8 3 rfl rfl (mNo_ix c_1) ⟨mNo_lt hm c_1, by decide⟩ dMo_measure_75 ?_
      refine mk_rdS (As := [.long ((xsp (m2 M)) x.toNatClampNeg)]) (rest := []) (w := []) ⟨hx, hb, hml, hown, hts⟩ (k_told l D g ((xsp (m2 M)) x.toNatClampNeg)) (va_cwS 1 hts (gd_S b_577 b_578 b_6 b_579) rfl rfl rfl (by decide +kernel) ⟨Nat.le_of_ble_eq_true rfl, Nat.le_of_ble_eq_true rfl⟩) hK hP hD hS hA [] rfl rfl rfl hl.1 rfl (Nat.le_of_ble_eq_true rfl) dMo_measure_76 ⟨Nat.zero_le _, Nat.zero_le _⟩ (fun H locs hP hS => ?_)
      exact W.iret (v := ((xsp (m2 M)) x.toNatClampNeg).toInt32) hx hb hr (fun t9 ht hW => ⟨⟨((xsp (m2 M)) x.toNatClampNeg).toInt32, (), rfl, (by first | (simp only [yMeasure, if_pos c_1, if_neg c_2, if_pos c_3] <;> rfl) | exact ((if_pos c_1).trans ((if_neg c_2).trans ((if_pos c_3).trans (rfl)))).symm), trivial⟩, hS.F ht⟩) hS.2.2 dMo_measure_79
    by_cases c_4 : w = 2
    · refine lv_tableIn (tgt := 80) hx hb dMo_measure_12 (by rw [c_4]; decide +kernel) (by rw [c_4]; decide +kernel) (off := 68) (by rw [c_4]; decide +kernel) (by decide) ?_
      refine lv_aload_n hx hb dMo_measure_80 rfl (lv_at hl 0 rfl) ?_
      refine va_get (D := D) (ci := iMo) (v := .ref (a 9)) (C := RMo) (T := TMo) (N := 32) hx hb htB inBMo hown hK hP 0 rfl rfl 9 (by decide) (htB _ b_379) (fun _ h9 => h9) rfl dMo_measure_81 ?_
      refine lv_iload_n hx hb dMo_measure_84 rfl (lv_at hl 1 rfl) ?_
      refine mk_lald (k := x.toNatClampNeg) hx hb hK hP 9 3 rfl rfl (mNo_ix c_1) ⟨mNo_lt hm c_1, by decide⟩ dMo_measure_85 ?_
      refine mk_rdS (As := [.long ((xes (m2 M)) x.toNatClampNeg)]) (rest := []) (w := []) ⟨hx, hb, hml, hown, hts⟩ (k_told l D g ((xes (m2 M)) x.toNatClampNeg)) (va_cwS 1 hts (gd_S b_577 b_578 b_6 b_579) rfl rfl rfl (by decide +kernel) ⟨Nat.le_of_ble_eq_true rfl, Nat.le_of_ble_eq_true rfl⟩) hK hP hD hS hA [] rfl rfl rfl hl.1 rfl (Nat.le_of_ble_eq_true rfl) dMo_measure_86 ⟨Nat.zero_le _, Nat.zero_le _⟩ (fun H locs hP hS => ?_)
      exact W.iret (v := ((xes (m2 M)) x.toNatClampNeg).toInt32) hx hb hr (fun t9 ht hW => ⟨⟨((xes (m2 M)) x.toNatClampNeg).toInt32, (), rfl, (by first | (simp only [yMeasure, if_pos c_1, if_neg c_2, if_neg c_3, if_pos c_4] <;> rfl) | exact ((if_pos c_1).trans ((if_neg c_2).trans ((if_neg c_3).trans ((if_pos c_4).trans (rfl))))).symm), trivial⟩, hS.F ht⟩) hS.2.2 dMo_measure_89
    by_cases c_5 : w = 3
    · refine lv_tableIn (tgt := 90) hx hb dMo_measure_12 (by rw [c_5]; decide +kernel) (by rw [c_5]; decide +kernel) (off := 78) (by rw [c_5]; decide +kernel) (by decide) ?_
      refine lv_aload_n hx hb dMo_measure_90 rfl (lv_at hl 0 rfl) ?_
      refine va_get (D := D) (ci := iMo) (v := .ref (a 10)) (C := RMo) (T := TMo) (N := 32) hx hb htB inBMo hown hK hP 0 rfl rfl 10 (by decide) (htB _ b_380) (fun _ h9 => h9) rfl dMo_measure_91 ?_
      refine lv_iload_n hx hb dMo_measure_94 rfl (lv_at hl 1 rfl) ?_
      refine mk_lald (k := x.toNatClampNeg) hx hb hK hP 10 3 rfl rfl (mNo_ix c_1) ⟨mNo_lt hm c_1, by decide⟩ dMo_measure_95 ?_
      refine mk_rdS (As := [.long ((xdo (m2 M)) x.toNatClampNeg)]) (rest := []) (w := []) ⟨hx, hb, hml, hown, hts⟩ (k_told l D g ((xdo (m2 M)) x.toNatClampNeg)) (va_cwS 1 hts (gd_S b_577 b_578 b_6 b_579) rfl rfl rfl (by decide +kernel) ⟨Nat.le_of_ble_eq_true rfl, Nat.le_of_ble_eq_true rfl⟩) hK hP hD hS hA [] rfl rfl rfl hl.1 rfl (Nat.le_of_ble_eq_true rfl) dMo_measure_96 ⟨Nat.zero_le _, Nat.zero_le _⟩ (fun H locs hP hS => ?_)
      exact W.iret (v := ((xdo (m2 M)) x.toNatClampNeg).toInt32) hx hb hr (fun t9 ht hW => ⟨⟨((xdo (m2 M)) x.toNatClampNeg).toInt32, (), rfl, (by first | (simp only [yMeasure, if_pos c_1, if_neg c_2, if_neg c_3, if_neg c_4, if_pos c_5] <;> rfl) | exact ((if_pos c_1).trans ((if_neg c_2).trans ((if_neg c_3).trans ((if_neg c_4).trans ((if_pos c_5).trans (rfl)))))).symm), trivial⟩, hS.F ht⟩) hS.2.2 dMo_measure_99
    by_cases c_6 : w = 4
    · refine lv_tableIn (tgt := 100) hx hb dMo_measure_12 (by rw [c_6]; decide +kernel) (by rw [c_6]; decide +kernel) (off := 88) (by rw [c_6]; decide +kernel) (by decide) ?_
      refine lv_aload_n hx hb dMo_measure_100 rfl (lv_at hl 0 rfl) ?_
      refine va_get (D := D) (ci := iMo) (v := .ref (a 12)) (C := RMo) (T := TMo) (N := 32) hx hb htB inBMo hown hK hP 0 rfl rfl 12 (by decide) (htB _ b_382) (fun _ h9 => h9) rfl dMo_measure_101 ?_
      refine lv_iload_n hx hb dMo_measure_104 rfl (lv_at hl 1 rfl) ?_
      refine mk_iald (k := x.toNatClampNeg) hx hb hK hP 16 0 rfl rfl (mNo_ix c_1) ⟨mNo_lt hm c_1, by decide⟩ dMo_measure_105 ?_
      refine lv_if_ne (tgt := 113) hx hb dMo_measure_106 (by decide) (fun c_7 => ?_) (fun c_7 => ?_)
      · refine lv_aload_n hx hb dMo_measure_113 rfl (lv_at hl 0 rfl) ?_
        refine va_get (D := D) (ci := iMo) (v := .ref (a 11)) (C := RMo) (T := TMo) (N := 32) hx hb htB inBMo hown hK hP 0 rfl rfl 11 (by decide) (htB _ b_381) (fun _ h9 => h9) rfl dMo_measure_114 ?_
        refine lv_iload_n hx hb dMo_measure_117 rfl (lv_at hl 1 rfl) ?_
        refine mk_lald (k := x.toNatClampNeg) hx hb hK hP 15 3 rfl rfl (mNo_ix c_1) ⟨mNo_lt hm c_1, by decide⟩ dMo_measure_118 ?_
        refine mk_rdS (As := [.long ((xau (m3 M)) x.toNatClampNeg)]) (rest := []) (w := []) ⟨hx, hb, hml, hown, hts⟩ (k_told l D g ((xau (m3 M)) x.toNatClampNeg)) (va_cwS 1 hts (gd_S b_577 b_578 b_6 b_579) rfl rfl rfl (by decide +kernel) ⟨Nat.le_of_ble_eq_true rfl, Nat.le_of_ble_eq_true rfl⟩) hK hP hD hS hA [] rfl rfl rfl hl.1 rfl (Nat.le_of_ble_eq_true rfl) dMo_measure_119 ⟨Nat.zero_le _, Nat.zero_le _⟩ (fun H locs hP hS => ?_)
        exact W.iret (v := ((xau (m3 M)) x.toNatClampNeg).toInt32) hx hb hr (fun t9 ht hW => ⟨⟨((xau (m3 M)) x.toNatClampNeg).toInt32, (), rfl, (by first | (simp only [yMeasure, if_pos c_1, if_neg c_2, if_neg c_3, if_neg c_4, if_neg c_5, if_pos c_6, if_neg c_7] <;> rfl) | exact ((if_pos c_1).trans ((if_neg c_2).trans ((if_neg c_3).trans ((if_neg c_4).trans ((if_neg c_5).trans ((if_pos c_6).trans ((if_neg c_7).trans (rfl)))))))).symm), trivial⟩, hS.F ht⟩) hS.2.2 dMo_measure_122
      · refine lv_iconst (v := (-1)) hx hb dMo_measure_109 (by decide) ?_
        refine lv_goto (tgt := 122) hx hb dMo_measure_110 (by decide) ?_
        exact W.iret (v := (-1)) hx hb hr (fun t9 ht hW => ⟨⟨(-1), (), rfl, (by first | (simp only [yMeasure, if_pos c_1, if_neg c_2, if_neg c_3, if_neg c_4, if_neg c_5, if_pos c_6, if_pos c_7] <;> rfl) | exact ((if_pos c_1).trans ((if_neg c_2).trans ((if_neg c_3).trans ((if_neg c_4).trans ((if_neg c_5).trans ((if_pos c_6).trans ((if_pos c_7).trans (rfl)))))))).symm), trivial⟩, hS.F ht⟩) hS.2.2 dMo_measure_122
    by_cases c_8 : w = 5
    · refine lv_tableIn (tgt := 123) hx hb dMo_measure_12 (by rw [c_8]; decide +kernel) (by rw [c_8]; decide +kernel) (off := 111) (by rw [c_8]; decide +kernel) (by decide) ?_
      refine lv_aload_n hx hb dMo_measure_123 rfl (lv_at hl 0 rfl) ?_
      refine va_get (D := D) (ci := iMo) (v := .ref (a 13)) (C := RMo) (T := TMo) (N := 32) hx hb htB inBMo hown hK hP 0 rfl rfl 13 (by decide) (htB _ b_383) (fun _ h9 => h9) rfl dMo_measure_124 ?_
      refine lv_iload_n hx hb dMo_measure_127 rfl (lv_at hl 1 rfl) ?_
      refine mk_lald (k := x.toNatClampNeg) hx hb hK hP 17 3 rfl rfl (mNo_ix c_1) ⟨mNo_lt hm c_1, by decide⟩ dMo_measure_128 ?_
      refine mk_rdS (As := [.long ((xsr (m3 M)) x.toNatClampNeg)]) (rest := []) (w := []) ⟨hx, hb, hml, hown, hts⟩ (k_told l D g ((xsr (m3 M)) x.toNatClampNeg)) (va_cwS 1 hts (gd_S b_577 b_578 b_6 b_579) rfl rfl rfl (by decide +kernel) ⟨Nat.le_of_ble_eq_true rfl, Nat.le_of_ble_eq_true rfl⟩) hK hP hD hS hA [] rfl rfl rfl hl.1 rfl (Nat.le_of_ble_eq_true rfl) dMo_measure_129 ⟨Nat.zero_le _, Nat.zero_le _⟩ (fun H locs hP hS => ?_)
      exact W.iret (v := ((xsr (m3 M)) x.toNatClampNeg).toInt32) hx hb hr (fun t9 ht hW => ⟨⟨((xsr (m3 M)) x.toNatClampNeg).toInt32, (), rfl, (by first | (simp only [yMeasure, if_pos c_1, if_neg c_2, if_neg c_3, if_neg c_4, if_neg c_5, if_neg c_6, if_pos c_8] <;> rfl) | exact ((if_pos c_1).trans ((if_neg c_2).trans ((if_neg c_3).trans ((if_neg c_4).trans ((if_neg c_5).trans ((if_neg c_6).trans ((if_pos c_8).trans (rfl)))))))).symm), trivial⟩, hS.F ht⟩) hS.2.2 dMo_measure_132
    by_cases c_9 : w = 6
    · refine lv_tableIn (tgt := 133) hx hb dMo_measure_12 (by rw [c_9]; decide +kernel) (by rw [c_9]; decide +kernel) (off := 121) (by rw [c_9]; decide +kernel) (by decide) ?_
      refine lv_aload_n hx hb dMo_measure_133 rfl (lv_at hl 0 rfl) ?_
      refine va_get (D := D) (ci := iMo) (v := .ref (a 14)) (C := RMo) (T := TMo) (N := 32) hx hb htB inBMo hown hK hP 0 rfl rfl 14 (by decide) (htB _ b_384) (fun _ h9 => h9) rfl dMo_measure_134 ?_
      refine lv_iload_n hx hb dMo_measure_137 rfl (lv_at hl 1 rfl) ?_
      refine mk_lald (k := x.toNatClampNeg) hx hb hK hP 18 3 rfl rfl (mNo_ix c_1) ⟨mNo_lt hm c_1, by decide⟩ dMo_measure_138 ?_
      refine mk_rdS (As := [.long ((xst (m3 M)) x.toNatClampNeg)]) (rest := []) (w := []) ⟨hx, hb, hml, hown, hts⟩ (k_told l D g ((xst (m3 M)) x.toNatClampNeg)) (va_cwS 1 hts (gd_S b_577 b_578 b_6 b_579) rfl rfl rfl (by decide +kernel) ⟨Nat.le_of_ble_eq_true rfl, Nat.le_of_ble_eq_true rfl⟩) hK hP hD hS hA [] rfl rfl rfl hl.1 rfl (Nat.le_of_ble_eq_true rfl) dMo_measure_139 ⟨Nat.zero_le _, Nat.zero_le _⟩ (fun H locs hP hS => ?_)
      exact W.iret (v := ((xst (m3 M)) x.toNatClampNeg).toInt32) hx hb hr (fun t9 ht hW => ⟨⟨((xst (m3 M)) x.toNatClampNeg).toInt32, (), rfl, (by first | (simp only [yMeasure, if_pos c_1, if_neg c_2, if_neg c_3, if_neg c_4, if_neg c_5, if_neg c_6, if_neg c_8, if_pos c_9] <;> rfl) | exact ((if_pos c_1).trans ((if_neg c_2).trans ((if_neg c_3).trans ((if_neg c_4).trans ((if_neg c_5).trans ((if_neg c_6).trans ((if_neg c_8).trans ((if_pos c_9).trans (rfl))))))))).symm), trivial⟩, hS.F ht⟩) hS.2.2 dMo_measure_142
    by_cases c_10 : w = 7
    · refine lv_tableIn (tgt := 143) hx hb dMo_measure_12 (by rw [c_10]; decide +kernel) (by rw [c_10]; decide +kernel) (off := 131) (by rw [c_10]; decide +kernel) (by decide) ?_
      refine lv_aload_n hx hb dMo_measure_143 rfl (lv_at hl 0 rfl) ?_
      refine lv_iload_n hx hb dMo_measure_144 rfl (lv_at hl 1 rfl) ?_
      refine mk_rlV (As := [.int x]) (rest := []) (w := (wMo g a M)) (q0 := (RMo, TMo, 32)) (ci := iMo) ⟨hx, hb, hml, hown, hts⟩ (by have h0 := k_rear l D g a M x.toNatClampNeg (mNo_lt hm c_1) ; rw [← (mNo_ix c_1)] at h0; exact h0) (cwV 1 hts (gd_V b_489 b_491 bp_8 b_6 b_492) rfl rfl rfl (by decide +kernel) ⟨Nat.le_of_ble_eq_true rfl, Nat.le_of_ble_eq_true rfl⟩) hK hP hD hS hA (List.range 28) mo_cutAll mo_ndAll rfl rfl rfl hl.1 rfl (Nat.le_of_ble_eq_true rfl) dMo_measure_145 ⟨Nat.zero_le _, Nat.zero_le _⟩ (fun H locs hP hS => ?_)
      refine mk_rdS (As := [.long (yRear M x.toNatClampNeg)]) (rest := []) (w := []) ⟨hx, hb, hml, hown, hts⟩ (k_told l D g (yRear M x.toNatClampNeg)) (va_cwS 1 hts (gd_S b_577 b_578 b_6 b_579) rfl rfl rfl (by decide +kernel) ⟨Nat.le_of_ble_eq_true rfl, Nat.le_of_ble_eq_true rfl⟩) hK hP hD hS hA [] rfl rfl rfl hl.1 rfl (Nat.le_of_ble_eq_true rfl) dMo_measure_148 ⟨Nat.zero_le _, Nat.zero_le _⟩ (fun H locs hP hS => ?_)
      exact W.iret (v := (yRear M x.toNatClampNeg).toInt32) hx hb hr (fun t9 ht hW => ⟨⟨(yRear M x.toNatClampNeg).toInt32, (), rfl, (by first | (simp only [yMeasure, if_pos c_1, if_neg c_2, if_neg c_3, if_neg c_4, if_neg c_5, if_neg c_6, if_neg c_8, if_neg c_9, if_pos c_10] <;> rfl) | exact ((if_pos c_1).trans ((if_neg c_2).trans ((if_neg c_3).trans ((if_neg c_4).trans ((if_neg c_5).trans ((if_neg c_6).trans ((if_neg c_8).trans ((if_neg c_9).trans ((if_pos c_10).trans (rfl)))))))))).symm), trivial⟩, hS.F ht⟩) hS.2.2 dMo_measure_151
    refine lv_tableOut (tgt := 152) hx hb dMo_measure_12 (mk_tab8 c_2 c_3 c_4 c_5 c_6 c_8 c_9 c_10) (by decide) ?_
    refine lv_ldc (v := (-1000000)) hx hb hown (htB _ b_475) dMo_measure_152 ?_
    exact W.iret (v := (-1000000)) hx hb hr (fun t9 ht hW => ⟨⟨(-1000000), (), rfl, (by first | (simp only [yMeasure, if_pos c_1, if_neg c_2, if_neg c_3, if_neg c_4, if_neg c_5, if_neg c_6, if_neg c_8, if_neg c_9, if_neg c_10] <;> rfl) | exact ((if_pos c_1).trans ((if_neg c_2).trans ((if_neg c_3).trans ((if_neg c_4).trans ((if_neg c_5).trans ((if_neg c_6).trans ((if_neg c_8).trans ((if_neg c_9).trans ((if_neg c_10).trans (rfl)))))))))).symm), trivial⟩, hS.F ht⟩) hS.2.2 dMo_measure_154
  · refine lv_ldc (v := (-1000000)) hx hb hown (htB _ b_475) dMo_measure_8 ?_
    exact W.iret (v := (-1000000)) hx hb hr (fun t9 ht hW => ⟨⟨(-1000000), (), rfl, (by first | (simp only [yMeasure, if_neg c_1] <;> rfl) | exact ((if_neg c_1).trans (rfl)).symm), trivial⟩, hS.F ht⟩) hS.2.2 dMo_measure_10
set_option maxHeartbeats 4000000 in
set_option maxRecDepth 100000 in
theorem lq_bey {p : Program} {l : Launch} {e : Env} {s : State} {m : MethodId} {args : Array Value} {below : List Frame} {meth : Method} {cd : Code} {Q : State → Prop} {D : va_G} {g : Nat → ClassId} {A : Nat → Prop} {Ad : Nat → Prop} {a : Nat → Nat} {M : zMo} {w : Int32} (hm : xtr (m5 M) ≤ 4) (hx : p.tables.exec = Jvm.exec) (hb : cd.code = cMo_count) (hml : cd.maxLocals = 4) (hown : s.vm.findClass RMo = some m.cls) (hts : ∀ w ∈ wsMo_count, w.before args s = true) (hK : va_K D vwCl (zty g) s) (hA : ∀ q : Nat, s.heap.size ≤ q → A q) : ∀ (j i : Nat) (q : Int32) (H : Heap) (locs : List Loc) (ls : Array Slot), (1 ≤ i ∧ (i + j = xtr (m5 M) ∨ (xtr (m5 M) = 0 ∧ i = 1 ∧ j = 0))) → va_P D vwCl (wMo g a M) H → va_D Ad (wMo g a M) → va_S A s.heap H locs → lv_has ls 4 [(3, .int (nI i)), (2, .int q), (0, .ref (a 0)), (1, .int w)] → (∀ (H : Heap) (locs : List Loc) (ls : Array Slot), va_P D vwCl (wMo g a M) H → va_D Ad (wMo g a M) → va_S A s.heap H locs → lv_has ls 4 [(2, .int (yBeyL M j i q)), (0, .ref (a 0)), (1, .int w)] → W p l e ({ frames := 1, cells := 0, slots := 0, locals := 21 }) s m args below meth cd H locs 0 0 Q (F0 m 86 ls [])) → W p l e ({ frames := 1, cells := 0, slots := 0, locals := 21 }) s m args below meth cd H locs 0 0 Q (F0 m 52 ls []) := by
  have htB : ∀ w ∈ BIG, w.before args s = true := fun w h => hts w (List.mem_cons_of_mem _ h)
  intro j
  induction j with
  | zero =>
    intro i q H locs ls hi hP hD hS hl kk
    refine lv_iload_n hx hb dMo_count_52 rfl (lv_at hl 0 rfl) ?_
    refine lv_aload_n hx hb dMo_count_53 rfl (lv_at hl 2 rfl) ?_
    refine va_get (D := D) (ci := iMo) (v := .int (nI (xtr (m5 M)))) (C := RMo) (T := TMo) (N := 32) hx hb htB inBMo hown hK hP 0 rfl rfl 5 (by decide) (htB _ b_375) (fun _ h9 => h9) rfl dMo_count_54 ?_
    refine lv_icmp_ge (tgt := 86) hx hb dMo_count_57 (by decide) (fun _ => ?_) (fun c_1 => absurd (nI_le (a := xtr (m5 M)) (b := i) (by omega) (by omega)) c_1)
    exact kk H locs ls hP hD hS (lv_sub hl [1, 2, 3] rfl)
  | succ j ih =>
    intro i q H locs ls hi hP hD hS hl kk
    refine lv_iload_n hx hb dMo_count_52 rfl (lv_at hl 0 rfl) ?_
    refine lv_aload_n hx hb dMo_count_53 rfl (lv_at hl 2 rfl) ?_
    refine va_get (D := D) (ci := iMo) (v := .int (nI (xtr (m5 M)))) (C := RMo) (T := TMo) (N := 32) hx hb htB inBMo hown hK hP 0 rfl rfl 5 (by decide) (htB _ b_375) (fun _ h9 => h9) rfl dMo_count_54 ?_
    refine lv_icmp_ge (tgt := 86) hx hb dMo_count_57 (by decide) (fun c_1 => absurd c_1 (nI_ge (a := i) (b := xtr (m5 M)) (by omega) (by omega))) (fun _ => ?_)
    refine lv_aload_n hx hb dMo_count_60 rfl (lv_at hl 2 rfl) ?_
    refine va_get (D := D) (ci := iMo) (v := .ref (a 7)) (C := RMo) (T := TMo) (N := 32) hx hb htB inBMo hown hK hP 0 rfl rfl 7 (by decide) (htB _ b_377) (fun _ h9 => h9) rfl dMo_count_61 ?_
    refine lv_iload_n hx hb dMo_count_64 rfl (lv_at hl 0 rfl) ?_
    refine mk_lald (k := i) hx hb hK hP 7 3 rfl rfl rfl ⟨(by omega), by decide⟩ dMo_count_65 ?_
    refine lv_aload_n hx hb dMo_count_66 rfl (lv_at hl 2 rfl) ?_
    refine lv_iload_n hx hb dMo_count_67 rfl (lv_at hl 0 rfl) ?_
    refine lv_iconst (v := 1) hx hb dMo_count_68 (by decide) ?_
    refine lv_isub hx hb dMo_count_69 ?_
    refine lv_topi (fun z_2 e_2 => ?_)
    have e_2 : z_2 = nI (i - 1) := e_2.trans (pk_sub (a := i) (b := 1) (by omega))
    subst e_2
    refine mk_rlV (As := [.int (nI (i - 1))]) (rest := [.long ((xfr (m2 M)) i)]) (w := (wMo g a M)) (q0 := (RMo, TMo, 32)) (ci := iMo) ⟨hx, hb, hml, hown, hts⟩ (k_rear l D g a M (i - 1) (by omega) ) (cwV 1 hts (gd_V b_489 b_491 bp_8 b_6 b_492) rfl rfl rfl (by decide +kernel) ⟨Nat.le_of_ble_eq_true rfl, Nat.le_of_ble_eq_true rfl⟩) hK hP hD hS hA (List.range 28) mo_cutAll mo_ndAll rfl rfl rfl hl.1 rfl (Nat.le_of_ble_eq_true rfl) dMo_count_70 ⟨Nat.zero_le _, Nat.zero_le _⟩ (fun H locs hP hS => ?_)
    refine mk_lif_le (tgt := 80) hx hb dMo_count_73 dMo_count_74 (by decide) (fun c_3 => ?_) (fun c_3 => ?_)
    · refine lv_iinc (v := nI (i + 1)) (lv' := [(3, .int (nI (i + 1))), (2, .int q), (0, .ref (a 0)), (1, .int w)]) hx hb dMo_count_80 hl (k := 0) rfl (nI_1 _) (by decide) rfl (fun ls hl => ?_)
      refine lv_goto (tgt := 52) hx hb dMo_count_83 (by decide) ?_
      have hE : yBeyL M (j + 1) i q = yBeyL M j (i + 1) q := (by first | (simp only [yBeyL, if_pos c_3] <;> rfl) | exact ((if_pos c_3).trans (rfl)).symm)
      rw [hE] at kk
      exact ih (i + 1) q H locs ls (by omega) hP hD hS (lv_sub hl [0, 1, 2, 3] rfl) kk
    · refine lv_iinc (v := q + 1) (lv' := [(2, .int (q + 1)), (3, .int (nI i)), (0, .ref (a 0)), (1, .int w)]) hx hb dMo_count_77 hl (k := 1) rfl rfl (by decide) rfl (fun ls hl => ?_)
      refine lv_iinc (v := nI (i + 1)) (lv' := [(3, .int (nI (i + 1))), (2, .int (q + 1)), (0, .ref (a 0)), (1, .int w)]) hx hb dMo_count_80 hl (k := 1) rfl (nI_1 _) (by decide) rfl (fun ls hl => ?_)
      refine lv_goto (tgt := 52) hx hb dMo_count_83 (by decide) ?_
      have hE : yBeyL M (j + 1) i q = yBeyL M j (i + 1) (q + 1) := (by first | (simp only [yBeyL, if_neg c_3] <;> rfl) | exact ((if_neg c_3).trans (rfl)).symm)
      rw [hE] at kk
      exact ih (i + 1) (q + 1) H locs ls (by omega) hP hD hS (lv_sub hl [0, 1, 2, 3] rfl) kk
set_option maxHeartbeats 4000000 in
set_option maxRecDepth 100000 in
/-- count -/
theorem k_count (l : Launch) (D : va_G) (g : Nat → ClassId) (a : Nat → Nat) (M : zMo) (hm : xtr (m5 M) ≤ 4) (w : Int32) : mk_Rd l yMo_count wsMo_count ({ frames := 1, cells := 0, slots := 0, locals := 21 }) D vwCl (zty g) [.ref (a 0), .int w] (wMo g a M) (yCount M w) := by
  intro sz
  refine Met.ofW (cc := cMo_count) (maxL := 4) (ret := (some .int)) (by decide) rfl ?_
  intro p e s m args below meth cd s₁ B hml hv
  obtain ⟨rfl, hsz, hP, hK, hD0⟩ := hv
  have hx := B.exec
  have hb := B.bytes
  have hr := B.returns
  have hts := atoms_spec (ws := wsMo_count) B.pre
  have htB := fun (w : Cond) (h : w ∈ BIG) => hts w (List.mem_cons_of_mem _ h)
  have hown : s.vm.findClass RMo = some m.cls := findClass_of_methodNamed B.named
  have hlocks := B.notSynchronized
  subst hsz
  have hD := hD0
  have hA : ∀ q : Nat, s.heap.size ≤ q → (fun q => s.heap.size ≤ q) q := fun _ h => h
  have hS : va_S (fun q => s.heap.size ≤ q) s.heap s.heap [] := va_S.rf
  have hl := lv_entry ([.ref (a 0), .int w]) (n := 4) (Nat.le_of_ble_eq_true rfl)
  rw [lg_entry_eq]
  generalize (lg_sl ([.ref (a 0), .int w]) ++ List.replicate (4 - (lg_sl ([.ref (a 0), .int w])).length) Slot.unset).toArray = ls at hl ⊢
  have hl : lv_has ls 4 [(0, .ref (a 0)), (1, .int w)] := hl
  have hP : va_P D vwCl (wMo g a M) s.heap := hP
  refine lv_iconst (v := 0) hx hb dMo_count_0 (by decide) ?_
  refine lv_istore_n (lv' := [(2, .int 0), (0, .ref (a 0)), (1, .int w)]) hx hb dMo_count_1 rfl hl (by decide) rfl (fun ls hl => ?_)
  refine lv_iload_n hx hb dMo_count_2 rfl (lv_at hl 2 rfl) ?_
  by_cases c_1 : w = 0
  · refine lv_tableIn (tgt := 40) hx hb dMo_count_3 (by rw [c_1]; decide +kernel) (by rw [c_1]; decide +kernel) (off := 37) (by rw [c_1]; decide +kernel) (by decide) ?_
    refine lv_aload_n hx hb dMo_count_40 rfl (lv_at hl 1 rfl) ?_
    refine va_get (D := D) (ci := iMo) (v := .int (nI (xck (m5 M)))) (C := RMo) (T := TMo) (N := 32) hx hb htB inBMo hown hK hP 0 rfl rfl 31 (by decide) (htB _ b_401) (fun _ h9 => h9) rfl dMo_count_41 ?_
    exact W.iret (v := nI (xck (m5 M))) hx hb hr (fun t9 ht hW => ⟨⟨nI (xck (m5 M)), (), rfl, (by first | (simp only [yCount, if_pos c_1] <;> rfl) | exact ((if_pos c_1).trans (rfl)).symm), trivial⟩, hS.F ht⟩) hS.2.2 dMo_count_44
  by_cases c_2 : w = 1
  · refine lv_tableIn (tgt := 45) hx hb dMo_count_3 (by rw [c_2]; decide +kernel) (by rw [c_2]; decide +kernel) (off := 42) (by rw [c_2]; decide +kernel) (by decide) ?_
    refine lv_aload_n hx hb dMo_count_45 rfl (lv_at hl 1 rfl) ?_
    refine va_get (D := D) (ci := iMo) (v := .int (nI (xtr (m5 M)))) (C := RMo) (T := TMo) (N := 32) hx hb htB inBMo hown hK hP 0 rfl rfl 5 (by decide) (htB _ b_375) (fun _ h9 => h9) rfl dMo_count_46 ?_
    exact W.iret (v := nI (xtr (m5 M))) hx hb hr (fun t9 ht hW => ⟨⟨nI (xtr (m5 M)), (), rfl, (by first | (simp only [yCount, if_neg c_1, if_pos c_2] <;> rfl) | exact ((if_neg c_1).trans ((if_pos c_2).trans (rfl))).symm), trivial⟩, hS.F ht⟩) hS.2.2 dMo_count_49
  by_cases c_3 : w = 2
  · refine lv_tableIn (tgt := 50) hx hb dMo_count_3 (by rw [c_3]; decide +kernel) (by rw [c_3]; decide +kernel) (off := 47) (by rw [c_3]; decide +kernel) (by decide) ?_
    refine lv_iconst (v := 1) hx hb dMo_count_50 (by decide) ?_
    refine lv_istore_n (lv' := [(3, .int 1), (2, .int 0), (0, .ref (a 0)), (1, .int w)]) hx hb dMo_count_51 rfl hl (by decide) rfl (fun ls hl => ?_)
    refine lq_bey (a := a) (M := M) (w := w) hm hx hb hml hown hts hK hA (xtr (m5 M) - 1) 1 0 _ _ ls (by omega) hP hD hS (lv_sub hl [0, 1, 2, 3] rfl) (fun H locs ls hP hD hS hl => ?_)
    refine lv_iload_n hx hb dMo_count_86 rfl (lv_at hl 0 rfl) ?_
    exact W.iret (v := yBeyL M (xtr (m5 M) - 1) 1 0) hx hb hr (fun t9 ht hW => ⟨⟨yBeyL M (xtr (m5 M) - 1) 1 0, (), rfl, (by first | (simp only [yCount, if_neg c_1, if_neg c_2, if_pos c_3] <;> rfl) | exact ((if_neg c_1).trans ((if_neg c_2).trans ((if_pos c_3).trans (rfl)))).symm), trivial⟩, hS.F ht⟩) hS.2.2 dMo_count_87
  by_cases c_4 : w = 3
  · refine lv_tableIn (tgt := 88) hx hb dMo_count_3 (by rw [c_4]; decide +kernel) (by rw [c_4]; decide +kernel) (off := 85) (by rw [c_4]; decide +kernel) (by decide) ?_
    refine lv_aload_n hx hb dMo_count_88 rfl (lv_at hl 1 rfl) ?_
    refine va_get (D := D) (ci := iMo) (v := .int (nI (xme (m5 M)))) (C := RMo) (T := TMo) (N := 32) hx hb htB inBMo hown hK hP 0 rfl rfl 28 (by decide) (htB _ b_398) (fun _ h9 => h9) rfl dMo_count_89 ?_
    exact W.iret (v := nI (xme (m5 M))) hx hb hr (fun t9 ht hW => ⟨⟨nI (xme (m5 M)), (), rfl, (by first | (simp only [yCount, if_neg c_1, if_neg c_2, if_neg c_3, if_pos c_4] <;> rfl) | exact ((if_neg c_1).trans ((if_neg c_2).trans ((if_neg c_3).trans ((if_pos c_4).trans (rfl))))).symm), trivial⟩, hS.F ht⟩) hS.2.2 dMo_count_92
  by_cases c_5 : w = 4
  · refine lv_tableIn (tgt := 93) hx hb dMo_count_3 (by rw [c_5]; decide +kernel) (by rw [c_5]; decide +kernel) (off := 90) (by rw [c_5]; decide +kernel) (by decide) ?_
    refine lv_aload_n hx hb dMo_count_93 rfl (lv_at hl 1 rfl) ?_
    refine va_get (D := D) (ci := iMo) (v := .int (xlo (m5 M))) (C := RMo) (T := TMo) (N := 32) hx hb htB inBMo hown hK hP 0 rfl rfl 29 (by decide) (htB _ b_399) (fun _ h9 => h9) rfl dMo_count_94 ?_
    exact W.iret (v := (xlo (m5 M))) hx hb hr (fun t9 ht hW => ⟨⟨(xlo (m5 M)), (), rfl, (by first | (simp only [yCount, if_neg c_1, if_neg c_2, if_neg c_3, if_neg c_4, if_pos c_5] <;> rfl) | exact ((if_neg c_1).trans ((if_neg c_2).trans ((if_neg c_3).trans ((if_neg c_4).trans ((if_pos c_5).trans (rfl)))))).symm), trivial⟩, hS.F ht⟩) hS.2.2 dMo_count_97
  by_cases c_6 : w = 5
  · refine lv_tableIn (tgt := 98) hx hb dMo_count_3 (by rw [c_6]; decide +kernel) (by rw [c_6]; decide +kernel) (off := 95) (by rw [c_6]; decide +kernel) (by decide) ?_
    refine lv_aload_n hx hb dMo_count_98 rfl (lv_at hl 1 rfl) ?_
    refine va_get (D := D) (ci := iMo) (v := .int (xsl (m5 M))) (C := RMo) (T := TMo) (N := 32) hx hb htB inBMo hown hK hP 0 rfl rfl 30 (by decide) (htB _ b_400) (fun _ h9 => h9) rfl dMo_count_99 ?_
    exact W.iret (v := (xsl (m5 M))) hx hb hr (fun t9 ht hW => ⟨⟨(xsl (m5 M)), (), rfl, (by first | (simp only [yCount, if_neg c_1, if_neg c_2, if_neg c_3, if_neg c_4, if_neg c_5, if_pos c_6] <;> rfl) | exact ((if_neg c_1).trans ((if_neg c_2).trans ((if_neg c_3).trans ((if_neg c_4).trans ((if_neg c_5).trans ((if_pos c_6).trans (rfl))))))).symm), trivial⟩, hS.F ht⟩) hS.2.2 dMo_count_102
  refine lv_tableOut (tgt := 103) hx hb dMo_count_3 (mk_tab6 c_1 c_2 c_3 c_4 c_5 c_6) (by decide) ?_
  refine lv_ldc (v := (-1000000)) hx hb hown (htB _ b_475) dMo_count_103 ?_
  exact W.iret (v := (-1000000)) hx hb hr (fun t9 ht hW => ⟨⟨(-1000000), (), rfl, (by first | (simp only [yCount, if_neg c_1, if_neg c_2, if_neg c_3, if_neg c_4, if_neg c_5, if_neg c_6] <;> rfl) | exact ((if_neg c_1).trans ((if_neg c_2).trans ((if_neg c_3).trans ((if_neg c_4).trans ((if_neg c_5).trans ((if_neg c_6).trans (rfl))))))).symm), trivial⟩, hS.F ht⟩) hS.2.2 dMo_count_105
set_option maxHeartbeats 4000000 in
set_option maxRecDepth 100000 in
theorem lq_cnt {p : Program} {l : Launch} {e : Env} {s : State} {m : MethodId} {args : Array Value} {below : List Frame} {meth : Method} {cd : Code} {Q : State → Prop} {D : va_G} {g : Nat → ClassId} {A : Nat → Prop} {Ad : Nat → Prop} {a : Nat → Nat} {M : zMo} {x w : Int32} (hme : xme (m5 M) ≤ 64) (hx : p.tables.exec = Jvm.exec) (hb : cd.code = cMo_state) (hml : cd.maxLocals = 5) (hown : s.vm.findClass RMo = some m.cls) (hts : ∀ w ∈ wsMo_state, w.before args s = true) (hK : va_K D vwCl (zty g) s) (hA : ∀ q : Nat, s.heap.size ≤ q → A q) : ∀ (j i : Nat) (q : Int32) (H : Heap) (locs : List Loc) (ls : Array Slot), i + j = xme (m5 M) → va_P D vwCl (wMo g a M) H → va_D Ad (wMo g a M) → va_S A s.heap H locs → lv_has ls 5 [(4, .int (nI i)), (3, .int q), (0, .ref (a 0)), (1, .int x), (2, .int w)] → (∀ (H : Heap) (locs : List Loc) (ls : Array Slot), va_P D vwCl (wMo g a M) H → va_D Ad (wMo g a M) → va_S A s.heap H locs → lv_has ls 5 [(3, .int (yCntL M x j i q)), (0, .ref (a 0)), (1, .int x), (2, .int w)] → W p l e ({ frames := 1, cells := 0, slots := 0, locals := 21 }) s m args below meth cd H locs 0 0 Q (F0 m 120 ls [])) → W p l e ({ frames := 1, cells := 0, slots := 0, locals := 21 }) s m args below meth cd H locs 0 0 Q (F0 m 91 ls []) := by
  have htB : ∀ w ∈ BIG, w.before args s = true := fun w h => hts w (List.mem_cons_of_mem _ h)
  intro j
  induction j with
  | zero =>
    intro i q H locs ls hi hP hD hS hl kk
    refine lv_iload hx hb dMo_state_91 (lv_at hl 0 rfl) ?_
    refine lv_aload_n hx hb dMo_state_93 rfl (lv_at hl 2 rfl) ?_
    refine va_get (D := D) (ci := iMo) (v := .int (nI (xme (m5 M)))) (C := RMo) (T := TMo) (N := 32) hx hb htB inBMo hown hK hP 0 rfl rfl 28 (by decide) (htB _ b_398) (fun _ h9 => h9) rfl dMo_state_94 ?_
    refine lv_icmp_ge (tgt := 120) hx hb dMo_state_97 (by decide) (fun _ => ?_) (fun c_1 => absurd (nI_le (a := xme (m5 M)) (b := i) (by omega) (by omega)) c_1)
    exact kk H locs ls hP hD hS (lv_sub hl [1, 2, 3, 4] rfl)
  | succ j ih =>
    intro i q H locs ls hi hP hD hS hl kk
    refine lv_iload hx hb dMo_state_91 (lv_at hl 0 rfl) ?_
    refine lv_aload_n hx hb dMo_state_93 rfl (lv_at hl 2 rfl) ?_
    refine va_get (D := D) (ci := iMo) (v := .int (nI (xme (m5 M)))) (C := RMo) (T := TMo) (N := 32) hx hb htB inBMo hown hK hP 0 rfl rfl 28 (by decide) (htB _ b_398) (fun _ h9 => h9) rfl dMo_state_94 ?_
    refine lv_icmp_ge (tgt := 120) hx hb dMo_state_97 (by decide) (fun c_1 => absurd c_1 (nI_ge (a := i) (b := xme (m5 M)) (by omega) (by omega))) (fun _ => ?_)
    refine lv_aload_n hx hb dMo_state_100 rfl (lv_at hl 2 rfl) ?_
    refine va_get (D := D) (ci := iMo) (v := .ref (a 23)) (C := RMo) (T := TMo) (N := 32) hx hb htB inBMo hown hK hP 0 rfl rfl 23 (by decide) (htB _ b_393) (fun _ h9 => h9) rfl dMo_state_101 ?_
    refine lv_iload hx hb dMo_state_104 (lv_at hl 0 rfl) ?_
    refine mk_iald (k := i) hx hb hK hP 23 0 rfl rfl rfl ⟨(by omega), by decide⟩ dMo_state_106 ?_
    refine lv_iload_n hx hb dMo_state_107 rfl (lv_at hl 3 rfl) ?_
    refine lv_icmp_ne (tgt := 114) hx hb dMo_state_108 (by decide) (fun c_2 => ?_) (fun c_2 => ?_)
    · refine lv_iinc (v := nI (i + 1)) (lv' := [(4, .int (nI (i + 1))), (3, .int q), (0, .ref (a 0)), (1, .int x), (2, .int w)]) hx hb dMo_state_114 hl (k := 0) rfl (nI_1 _) (by decide) rfl (fun ls hl => ?_)
      refine lv_goto (tgt := 91) hx hb dMo_state_117 (by decide) ?_
      have hE : yCntL M x (j + 1) i q = yCntL M x j (i + 1) q := (by first | (simp only [yCntL, if_neg c_2] <;> rfl) | exact ((if_neg c_2).trans (rfl)).symm)
      rw [hE] at kk
      exact ih (i + 1) q H locs ls (by omega) hP hD hS (lv_sub hl [0, 1, 2, 3, 4] rfl) kk
    · refine lv_iinc (v := q + 1) (lv' := [(3, .int (q + 1)), (4, .int (nI i)), (0, .ref (a 0)), (1, .int x), (2, .int w)]) hx hb dMo_state_111 hl (k := 1) rfl rfl (by decide) rfl (fun ls hl => ?_)
      refine lv_iinc (v := nI (i + 1)) (lv' := [(4, .int (nI (i + 1))), (3, .int (q + 1)), (0, .ref (a 0)), (1, .int x), (2, .int w)]) hx hb dMo_state_114 hl (k := 1) rfl (nI_1 _) (by decide) rfl (fun ls hl => ?_)
      refine lv_goto (tgt := 91) hx hb dMo_state_117 (by decide) ?_
      have hE : yCntL M x (j + 1) i q = yCntL M x j (i + 1) (q + 1) := (by first | (simp only [yCntL, if_pos c_2] <;> rfl) | exact ((if_pos c_2).trans (rfl)).symm)
      rw [hE] at kk
      exact ih (i + 1) (q + 1) H locs ls (by omega) hP hD hS (lv_sub hl [0, 1, 2, 3, 4] rfl) kk
set_option maxHeartbeats 4000000 in
set_option maxRecDepth 100000 in
/-- state -/
theorem k_state (l : Launch) (D : va_G) (g : Nat → ClassId) (a : Nat → Nat) (M : zMo) (hm : xtr (m5 M) ≤ 4) (hme : xme (m5 M) ≤ 64) (x w : Int32) : mk_Rd l yMo_state wsMo_state ({ frames := 1, cells := 0, slots := 0, locals := 21 }) D vwCl (zty g) [.ref (a 0), .int x, .int w] (wMo g a M) (yState M x w) := by
  intro sz
  refine Met.ofW (cc := cMo_state) (maxL := 5) (ret := (some .int)) (by decide) rfl ?_
  intro p e s m args below meth cd s₁ B hml hv
  obtain ⟨rfl, hsz, hP, hK, hD0⟩ := hv
  have hx := B.exec
  have hb := B.bytes
  have hr := B.returns
  have hts := atoms_spec (ws := wsMo_state) B.pre
  have htB := fun (w : Cond) (h : w ∈ BIG) => hts w (List.mem_cons_of_mem _ h)
  have hown : s.vm.findClass RMo = some m.cls := findClass_of_methodNamed B.named
  have hlocks := B.notSynchronized
  subst hsz
  have hD := hD0
  have hA : ∀ q : Nat, s.heap.size ≤ q → (fun q => s.heap.size ≤ q) q := fun _ h => h
  have hS : va_S (fun q => s.heap.size ≤ q) s.heap s.heap [] := va_S.rf
  have hl := lv_entry ([.ref (a 0), .int x, .int w]) (n := 5) (Nat.le_of_ble_eq_true rfl)
  rw [lg_entry_eq]
  generalize (lg_sl ([.ref (a 0), .int x, .int w]) ++ List.replicate (5 - (lg_sl ([.ref (a 0), .int x, .int w])).length) Slot.unset).toArray = ls at hl ⊢
  have hl : lv_has ls 5 [(0, .ref (a 0)), (1, .int x), (2, .int w)] := hl
  have hP : va_P D vwCl (wMo g a M) s.heap := hP
  refine lv_aload_n hx hb dMo_state_0 rfl (lv_at hl 0 rfl) ?_
  refine lv_iload_n hx hb dMo_state_1 rfl (lv_at hl 1 rfl) ?_
  refine mk_rdV (As := [.int x]) (rest := []) (w := (wMo g a M)) (q0 := (RMo, TMo, 32)) (ci := iMo) ⟨hx, hb, hml, hown, hts⟩ (k_noTrain l D g a M x) (cwV 1 hts (gd_V b_498 b_500 bp_9 b_6 b_501) rfl rfl rfl (by decide +kernel) ⟨Nat.le_of_ble_eq_true rfl, Nat.le_of_ble_eq_true rfl⟩) hK hP hD hS hA (List.range 28) mo_cutAll mo_ndAll rfl rfl rfl hl.1 rfl (Nat.le_of_ble_eq_true rfl) dMo_state_2 ⟨Nat.zero_le _, Nat.zero_le _⟩ (fun H locs hP hS => ?_)
  refine lv_if_eq (tgt := 11) hx hb dMo_state_5 (by decide) (fun c_1 => ?_) (fun c_1 => ?_)
  · refine lv_iconst (v := 0) hx hb dMo_state_11 (by decide) ?_
    refine lv_istore_n (lv' := [(3, .int 0), (0, .ref (a 0)), (1, .int x), (2, .int w)]) hx hb dMo_state_12 rfl hl (by decide) rfl (fun ls hl => ?_)
    refine lv_iload_n hx hb dMo_state_13 rfl (lv_at hl 3 rfl) ?_
    by_cases c_2 : w = 0
    · refine lv_tableIn (tgt := 52) hx hb dMo_state_14 (by rw [c_2]; decide +kernel) (by rw [c_2]; decide +kernel) (off := 38) (by rw [c_2]; decide +kernel) (by decide) ?_
      refine lv_aload_n hx hb dMo_state_52 rfl (lv_at hl 1 rfl) ?_
      refine va_get (D := D) (ci := iMo) (v := .ref (a 20)) (C := RMo) (T := TMo) (N := 32) hx hb htB inBMo hown hK hP 0 rfl rfl 20 (by decide) (htB _ b_390) (fun _ h9 => h9) rfl dMo_state_53 ?_
      refine lv_iload_n hx hb dMo_state_56 rfl (lv_at hl 2 rfl) ?_
      refine mk_zald (k := x.toNatClampNeg) hx hb hK hP 13 1 rfl rfl (mNo_ix c_1) ⟨mNo_lt hm c_1, by decide⟩ dMo_state_57 ?_
      refine lv_if_eq (tgt := 65) hx hb dMo_state_58 (by decide) (fun c_3 => ?_) (fun c_3 => ?_)
      · refine lv_iconst (v := 0) hx hb dMo_state_65 (by decide) ?_
        exact W.iret (v := 0) hx hb hr (fun t9 ht hW => ⟨⟨0, (), rfl, (by first | (simp only [yState, if_pos c_1, if_pos c_2, if_pos c_3] <;> rfl) | exact ((if_pos c_1).trans ((if_pos c_2).trans ((if_pos c_3).trans (rfl)))).symm), trivial⟩, hS.F ht⟩) hS.2.2 dMo_state_66
      · refine lv_iconst (v := 1) hx hb dMo_state_61 (by decide) ?_
        refine lv_goto (tgt := 66) hx hb dMo_state_62 (by decide) ?_
        exact W.iret (v := 1) hx hb hr (fun t9 ht hW => ⟨⟨1, (), rfl, (by first | (simp only [yState, if_pos c_1, if_pos c_2, if_neg c_3] <;> rfl) | exact ((if_pos c_1).trans ((if_pos c_2).trans ((if_neg c_3).trans (rfl)))).symm), trivial⟩, hS.F ht⟩) hS.2.2 dMo_state_66
    by_cases c_4 : w = 1
    · refine lv_tableIn (tgt := 67) hx hb dMo_state_14 (by rw [c_4]; decide +kernel) (by rw [c_4]; decide +kernel) (off := 53) (by rw [c_4]; decide +kernel) (by decide) ?_
      refine lv_aload_n hx hb dMo_state_67 rfl (lv_at hl 1 rfl) ?_
      refine va_get (D := D) (ci := iMo) (v := .ref (a 15)) (C := RMo) (T := TMo) (N := 32) hx hb htB inBMo hown hK hP 0 rfl rfl 15 (by decide) (htB _ b_385) (fun _ h9 => h9) rfl dMo_state_68 ?_
      refine lv_iload_n hx hb dMo_state_71 rfl (lv_at hl 2 rfl) ?_
      refine mk_iald (k := x.toNatClampNeg) hx hb hK hP 19 0 rfl rfl (mNo_ix c_1) ⟨mNo_lt hm c_1, by decide⟩ dMo_state_72 ?_
      exact W.iret (v := (xrs (m3 M)) x.toNatClampNeg) hx hb hr (fun t9 ht hW => ⟨⟨(xrs (m3 M)) x.toNatClampNeg, (), rfl, (by first | (simp only [yState, if_pos c_1, if_neg c_2, if_pos c_4] <;> rfl) | exact ((if_pos c_1).trans ((if_neg c_2).trans ((if_pos c_4).trans (rfl)))).symm), trivial⟩, hS.F ht⟩) hS.2.2 dMo_state_73
    by_cases c_5 : w = 2
    · refine lv_tableIn (tgt := 74) hx hb dMo_state_14 (by rw [c_5]; decide +kernel) (by rw [c_5]; decide +kernel) (off := 60) (by rw [c_5]; decide +kernel) (by decide) ?_
      refine lv_aload_n hx hb dMo_state_74 rfl (lv_at hl 1 rfl) ?_
      refine va_get (D := D) (ci := iMo) (v := .ref (a 12)) (C := RMo) (T := TMo) (N := 32) hx hb htB inBMo hown hK hP 0 rfl rfl 12 (by decide) (htB _ b_382) (fun _ h9 => h9) rfl dMo_state_75 ?_
      refine lv_iload_n hx hb dMo_state_78 rfl (lv_at hl 2 rfl) ?_
      refine mk_iald (k := x.toNatClampNeg) hx hb hK hP 16 0 rfl rfl (mNo_ix c_1) ⟨mNo_lt hm c_1, by decide⟩ dMo_state_79 ?_
      exact W.iret (v := (xas (m3 M)) x.toNatClampNeg) hx hb hr (fun t9 ht hW => ⟨⟨(xas (m3 M)) x.toNatClampNeg, (), rfl, (by first | (simp only [yState, if_pos c_1, if_neg c_2, if_neg c_4, if_pos c_5] <;> rfl) | exact ((if_pos c_1).trans ((if_neg c_2).trans ((if_neg c_4).trans ((if_pos c_5).trans (rfl))))).symm), trivial⟩, hS.F ht⟩) hS.2.2 dMo_state_80
    by_cases c_6 : w = 3
    · refine lv_tableIn (tgt := 81) hx hb dMo_state_14 (by rw [c_6]; decide +kernel) (by rw [c_6]; decide +kernel) (off := 67) (by rw [c_6]; decide +kernel) (by decide) ?_
      refine lv_aload_n hx hb dMo_state_81 rfl (lv_at hl 1 rfl) ?_
      refine va_get (D := D) (ci := iMo) (v := .ref (a 21)) (C := RMo) (T := TMo) (N := 32) hx hb htB inBMo hown hK hP 0 rfl rfl 21 (by decide) (htB _ b_391) (fun _ h9 => h9) rfl dMo_state_82 ?_
      refine lv_iload_n hx hb dMo_state_85 rfl (lv_at hl 2 rfl) ?_
      refine mk_iald (k := x.toNatClampNeg) hx hb hK hP 14 0 rfl rfl (mNo_ix c_1) ⟨mNo_lt hm c_1, by decide⟩ dMo_state_86 ?_
      exact W.iret (v := (xec (m2 M)) x.toNatClampNeg) hx hb hr (fun t9 ht hW => ⟨⟨(xec (m2 M)) x.toNatClampNeg, (), rfl, (by first | (simp only [yState, if_pos c_1, if_neg c_2, if_neg c_4, if_neg c_5, if_pos c_6] <;> rfl) | exact ((if_pos c_1).trans ((if_neg c_2).trans ((if_neg c_4).trans ((if_neg c_5).trans ((if_pos c_6).trans (rfl)))))).symm), trivial⟩, hS.F ht⟩) hS.2.2 dMo_state_87
    by_cases c_7 : w = 4
    · refine lv_tableIn (tgt := 88) hx hb dMo_state_14 (by rw [c_7]; decide +kernel) (by rw [c_7]; decide +kernel) (off := 74) (by rw [c_7]; decide +kernel) (by decide) ?_
      refine lv_iconst (v := 0) hx hb dMo_state_88 (by decide) ?_
      refine lv_istore (lv' := [(4, .int 0), (3, .int 0), (0, .ref (a 0)), (1, .int x), (2, .int w)]) hx hb dMo_state_89 hl (by decide) rfl (fun ls hl => ?_)
      refine lq_cnt (a := a) (M := M) (x := x) (w := w) hme hx hb hml hown hts hK hA (xme (m5 M)) 0 0 _ _ ls (by omega) hP hD hS (lv_sub hl [0, 1, 2, 3, 4] rfl) (fun H locs ls hP hD hS hl => ?_)
      refine lv_iload_n hx hb dMo_state_120 rfl (lv_at hl 0 rfl) ?_
      exact W.iret (v := yCntL M x (xme (m5 M)) 0 0) hx hb hr (fun t9 ht hW => ⟨⟨yCntL M x (xme (m5 M)) 0 0, (), rfl, (by first | (simp only [yState, if_pos c_1, if_neg c_2, if_neg c_4, if_neg c_5, if_neg c_6, if_pos c_7] <;> rfl) | exact ((if_pos c_1).trans ((if_neg c_2).trans ((if_neg c_4).trans ((if_neg c_5).trans ((if_neg c_6).trans ((if_pos c_7).trans (rfl))))))).symm), trivial⟩, hS.F ht⟩) hS.2.2 dMo_state_121
    by_cases c_8 : w = 5
    · refine lv_tableIn (tgt := 122) hx hb dMo_state_14 (by rw [c_8]; decide +kernel) (by rw [c_8]; decide +kernel) (off := 108) (by rw [c_8]; decide +kernel) (by decide) ?_
      refine lv_aload_n hx hb dMo_state_122 rfl (lv_at hl 1 rfl) ?_
      refine va_get (D := D) (ci := iMo) (v := .ref (a 7)) (C := RMo) (T := TMo) (N := 32) hx hb htB inBMo hown hK hP 0 rfl rfl 7 (by decide) (htB _ b_377) (fun _ h9 => h9) rfl dMo_state_123 ?_
      refine lv_iload_n hx hb dMo_state_126 rfl (lv_at hl 2 rfl) ?_
      refine mk_lald (k := x.toNatClampNeg) hx hb hK hP 7 3 rfl rfl (mNo_ix c_1) ⟨mNo_lt hm c_1, by decide⟩ dMo_state_127 ?_
      refine mk_rdS (As := [.long ((xfr (m2 M)) x.toNatClampNeg)]) (rest := []) (w := []) ⟨hx, hb, hml, hown, hts⟩ (k_pieceOf l D g ((xfr (m2 M)) x.toNatClampNeg)) (va_cwS 1 hts (gd_S b_560 b_561 b_6 b_562) rfl rfl rfl (by decide +kernel) ⟨Nat.le_of_ble_eq_true rfl, Nat.le_of_ble_eq_true rfl⟩) hK hP hD hS hA [] rfl rfl rfl hl.1 rfl (Nat.le_of_ble_eq_true rfl) dMo_state_128 ⟨Nat.zero_le _, Nat.zero_le _⟩ (fun H locs hP hS => ?_)
      exact W.iret (v := nI (pPiece ((xfr (m2 M)) x.toNatClampNeg))) hx hb hr (fun t9 ht hW => ⟨⟨nI (pPiece ((xfr (m2 M)) x.toNatClampNeg)), (), rfl, (by first | (simp only [yState, if_pos c_1, if_neg c_2, if_neg c_4, if_neg c_5, if_neg c_6, if_neg c_7, if_pos c_8] <;> rfl) | exact ((if_pos c_1).trans ((if_neg c_2).trans ((if_neg c_4).trans ((if_neg c_5).trans ((if_neg c_6).trans ((if_neg c_7).trans ((if_pos c_8).trans (rfl)))))))).symm), trivial⟩, hS.F ht⟩) hS.2.2 dMo_state_131
    refine lv_tableOut (tgt := 132) hx hb dMo_state_14 (mk_tab6 c_2 c_4 c_5 c_6 c_7 c_8) (by decide) ?_
    refine lv_ldc (v := (-1000000)) hx hb hown (htB _ b_475) dMo_state_132 ?_
    exact W.iret (v := (-1000000)) hx hb hr (fun t9 ht hW => ⟨⟨(-1000000), (), rfl, (by first | (simp only [yState, if_pos c_1, if_neg c_2, if_neg c_4, if_neg c_5, if_neg c_6, if_neg c_7, if_neg c_8] <;> rfl) | exact ((if_pos c_1).trans ((if_neg c_2).trans ((if_neg c_4).trans ((if_neg c_5).trans ((if_neg c_6).trans ((if_neg c_7).trans ((if_neg c_8).trans (rfl)))))))).symm), trivial⟩, hS.F ht⟩) hS.2.2 dMo_state_134
  · refine lv_ldc (v := (-1000000)) hx hb hown (htB _ b_475) dMo_state_8 ?_
    exact W.iret (v := (-1000000)) hx hb hr (fun t9 ht hW => ⟨⟨(-1000000), (), rfl, (by first | (simp only [yState, if_neg c_1] <;> rfl) | exact ((if_neg c_1).trans (rfl)).symm), trivial⟩, hS.F ht⟩) hS.2.2 dMo_state_10
set_option maxHeartbeats 4000000 in
set_option maxRecDepth 100000 in
theorem lq_best {p : Program} {l : Launch} {e : Env} {s : State} {m : MethodId} {args : Array Value} {below : List Frame} {meth : Method} {cd : Code} {Q : State → Prop} {D : va_G} {g : Nat → ClassId} {A : Nat → Prop} {Ad : Nat → Prop} {a : Nat → Nat} {M : zMo} {x r : Int32} (hm : xtr (m5 M) ≤ 4) (hc : bI (mNo M x) = 0) (hx : p.tables.exec = Jvm.exec) (hb : cd.code = cMo_permitted) (hml : cd.maxLocals = 3) (hown : s.vm.findClass RMo = some m.cls) (hts : ∀ w ∈ wsMo_permitted, w.before args s = true) (hK : va_K D vwCl (zty g) s) (hA : ∀ q : Nat, s.heap.size ≤ q → A q) : ∀ (j : Nat) (H : Heap) (locs : List Loc) (ls : Array Slot), va_P D vwCl (wMo g a M) H → va_D Ad (wMo g a M) → va_S A s.heap H locs → lv_has ls 3 [(2, .int (nI (2 * j))), (0, .ref (a 0)), (1, .int x)] → yBestL M x.toNatClampNeg j = r → j ≤ 1000 → (∀ (H : Heap) (locs : List Loc) (ls : Array Slot), va_P D vwCl (wMo g a M) H → va_D Ad (wMo g a M) → va_S A s.heap H locs → W p l e ({ frames := 2, cells := 0, slots := 0, locals := 52 }) s m args below meth cd H locs 0 0 Q (F0 m 40 ls [.int r])) → (∀ (H : Heap) (locs : List Loc) (ls : Array Slot), va_P D vwCl (wMo g a M) H → va_D Ad (wMo g a M) → va_S A s.heap H locs → W p l e ({ frames := 2, cells := 0, slots := 0, locals := 52 }) s m args below meth cd H locs 0 0 Q (F0 m 48 ls [.int r])) → W p l e ({ frames := 2, cells := 0, slots := 0, locals := 52 }) s m args below meth cd H locs 0 0 Q (F0 m 15 ls []) := by
  have htB : ∀ w ∈ BIG, w.before args s = true := fun w h => hts w (List.mem_cons_of_mem _ h)
  intro j
  induction j with
  | zero =>
    intro H locs ls hP hD hS hl hr0 hj k40 k48
    refine lv_iload_n hx hb dMo_permitted_15 rfl (lv_at hl 0 rfl) ?_
    refine lv_if_lt (tgt := 47) hx hb dMo_permitted_16 (by decide) (fun c_1 => absurd c_1 (nI_pos (by omega))) (fun _ => ?_)
    refine lv_aload_n hx hb dMo_permitted_19 rfl (lv_at hl 1 rfl) ?_
    refine lv_iload_n hx hb dMo_permitted_20 rfl (lv_at hl 2 rfl) ?_
    refine lv_iload_n hx hb dMo_permitted_21 rfl (lv_at hl 0 rfl) ?_
    refine lv_i2l (v := (nI (2 * 0)).toInt64) hx hb dMo_permitted_22 rfl ?_
    refine lv_aload_n hx hb dMo_permitted_23 rfl (lv_at hl 1 rfl) ?_
    refine lv_iload_n hx hb dMo_permitted_24 rfl (lv_at hl 2 rfl) ?_
    refine mk_rlV (As := [.int x]) (rest := [.long ((nI (2 * 0)).toInt64), .int x, .ref (a 0)]) (w := (wMo g a M)) (q0 := (RMo, TMo, 32)) (ci := iMo) ⟨hx, hb, hml, hown, hts⟩ (by have h0 := k_reach l D g a M x.toNatClampNeg (mNo_lt hm hc) ; rw [← (mNo_ix hc)] at h0; exact h0) (cwV 1 hts (gd_V b_514 b_516 bp_10 b_6 b_517) rfl rfl rfl (by decide +kernel) ⟨Nat.le_of_ble_eq_true rfl, Nat.le_of_ble_eq_true rfl⟩) hK hP hD hS hA (List.range 28) mo_cutAll mo_ndAll rfl rfl rfl hl.1 rfl (Nat.le_of_ble_eq_true rfl) dMo_permitted_25 ⟨Nat.zero_le _, Nat.zero_le _⟩ (fun H locs hP hS => ?_)
    refine lv_aload_n hx hb dMo_permitted_28 rfl (lv_at hl 1 rfl) ?_
    refine lv_iload_n hx hb dMo_permitted_29 rfl (lv_at hl 2 rfl) ?_
    refine mk_rlV (As := [.int x]) (rest := [.long (yReach M x.toNatClampNeg), .long ((nI (2 * 0)).toInt64), .int x, .ref (a 0)]) (w := (wMo g a M)) (q0 := (RMo, TMo, 32)) (ci := iMo) ⟨hx, hb, hml, hown, hts⟩ (by have h0 := k_tail l D g a M x.toNatClampNeg (mNo_lt hm hc) ; rw [← (mNo_ix hc)] at h0; exact h0) (cwV 1 hts (gd_V b_518 b_520 bp_11 b_6 b_521) rfl rfl rfl (by decide +kernel) ⟨Nat.le_of_ble_eq_true rfl, Nat.le_of_ble_eq_true rfl⟩) hK hP hD hS hA (List.range 28) mo_cutAll mo_ndAll rfl rfl rfl hl.1 rfl (Nat.le_of_ble_eq_true rfl) dMo_permitted_30 ⟨Nat.zero_le _, Nat.zero_le _⟩ (fun H locs hP hS => ?_)
    refine mk_rdV (As := [.int x, .long ((nI (2 * 0)).toInt64), .long (yReach M x.toNatClampNeg), .long (yTail M x.toNatClampNeg)]) (rest := []) (w := (wMo g a M)) (q0 := (RMo, TMo, 32)) (ci := iMo) ⟨hx, hb, hml, hown, hts⟩ (by have h0 := k_safe l D g a M x.toNatClampNeg (mNo_lt hm hc) ((nI (2 * 0)).toInt64) (yReach M x.toNatClampNeg) (yTail M x.toNatClampNeg); rw [← (mNo_ix hc)] at h0; exact h0) (cwV 4 hts (gd_V b_555 b_557 bp_20 b_6 b_558) rfl rfl rfl (by decide +kernel) ⟨Nat.le_of_ble_eq_true rfl, Nat.le_of_ble_eq_true rfl⟩) hK hP hD hS hA (List.range 28) mo_cutAll mo_ndAll rfl rfl rfl hl.1 rfl (Nat.le_of_ble_eq_true rfl) dMo_permitted_33 ⟨Nat.zero_le _, Nat.zero_le _⟩ (fun H locs hP hS => ?_)
    refine lv_if_eq (tgt := 41) hx hb dMo_permitted_36 (by decide) (fun c_2 => ?_) (fun c_2 => ?_)
    · refine lv_iinc (v := (-2)) (lv' := [(2, .int (-2)), (0, .ref (a 0)), (1, .int x)]) hx hb dMo_permitted_41 hl (k := 0) rfl (by decide +kernel) (by decide) rfl (fun ls hl => ?_)
      refine lv_goto (tgt := 15) hx hb dMo_permitted_44 (by decide) ?_
      refine lv_iload_n hx hb dMo_permitted_15 rfl (lv_at hl 0 rfl) ?_
      refine lv_if_lt (tgt := 47) hx hb dMo_permitted_16 (by decide) (fun _ => ?_) (fun c_9 => absurd (by decide) c_9)
      refine lv_iconst (v := (-1)) hx hb dMo_permitted_47 (by decide) ?_
      have hE : (-1 : Int32) = r := by rw [← hr0]; simp only [yBestL, if_pos c_2]
      rw [hE]
      exact k48 H locs ls hP hD hS
    · refine lv_iload_n hx hb dMo_permitted_39 rfl (lv_at hl 0 rfl) ?_
      have hE : nI (2 * 0) = r := by rw [← hr0]; simp only [yBestL, if_neg c_2]
      rw [hE]
      exact k40 H locs ls hP hD hS
  | succ j ih =>
    intro H locs ls hP hD hS hl hr0 hj k40 k48
    refine lv_iload_n hx hb dMo_permitted_15 rfl (lv_at hl 0 rfl) ?_
    refine lv_if_lt (tgt := 47) hx hb dMo_permitted_16 (by decide) (fun c_1 => absurd c_1 (nI_pos (by omega))) (fun _ => ?_)
    refine lv_aload_n hx hb dMo_permitted_19 rfl (lv_at hl 1 rfl) ?_
    refine lv_iload_n hx hb dMo_permitted_20 rfl (lv_at hl 2 rfl) ?_
    refine lv_iload_n hx hb dMo_permitted_21 rfl (lv_at hl 0 rfl) ?_
    refine lv_i2l (v := (nI (2 * (j + 1))).toInt64) hx hb dMo_permitted_22 rfl ?_
    refine lv_aload_n hx hb dMo_permitted_23 rfl (lv_at hl 1 rfl) ?_
    refine lv_iload_n hx hb dMo_permitted_24 rfl (lv_at hl 2 rfl) ?_
    refine mk_rlV (As := [.int x]) (rest := [.long ((nI (2 * (j + 1))).toInt64), .int x, .ref (a 0)]) (w := (wMo g a M)) (q0 := (RMo, TMo, 32)) (ci := iMo) ⟨hx, hb, hml, hown, hts⟩ (by have h0 := k_reach l D g a M x.toNatClampNeg (mNo_lt hm hc) ; rw [← (mNo_ix hc)] at h0; exact h0) (cwV 1 hts (gd_V b_514 b_516 bp_10 b_6 b_517) rfl rfl rfl (by decide +kernel) ⟨Nat.le_of_ble_eq_true rfl, Nat.le_of_ble_eq_true rfl⟩) hK hP hD hS hA (List.range 28) mo_cutAll mo_ndAll rfl rfl rfl hl.1 rfl (Nat.le_of_ble_eq_true rfl) dMo_permitted_25 ⟨Nat.zero_le _, Nat.zero_le _⟩ (fun H locs hP hS => ?_)
    refine lv_aload_n hx hb dMo_permitted_28 rfl (lv_at hl 1 rfl) ?_
    refine lv_iload_n hx hb dMo_permitted_29 rfl (lv_at hl 2 rfl) ?_
    refine mk_rlV (As := [.int x]) (rest := [.long (yReach M x.toNatClampNeg), .long ((nI (2 * (j + 1))).toInt64), .int x, .ref (a 0)]) (w := (wMo g a M)) (q0 := (RMo, TMo, 32)) (ci := iMo) ⟨hx, hb, hml, hown, hts⟩ (by have h0 := k_tail l D g a M x.toNatClampNeg (mNo_lt hm hc) ; rw [← (mNo_ix hc)] at h0; exact h0) (cwV 1 hts (gd_V b_518 b_520 bp_11 b_6 b_521) rfl rfl rfl (by decide +kernel) ⟨Nat.le_of_ble_eq_true rfl, Nat.le_of_ble_eq_true rfl⟩) hK hP hD hS hA (List.range 28) mo_cutAll mo_ndAll rfl rfl rfl hl.1 rfl (Nat.le_of_ble_eq_true rfl) dMo_permitted_30 ⟨Nat.zero_le _, Nat.zero_le _⟩ (fun H locs hP hS => ?_)
    refine mk_rdV (As := [.int x, .long ((nI (2 * (j + 1))).toInt64), .long (yReach M x.toNatClampNeg), .long (yTail M x.toNatClampNeg)]) (rest := []) (w := (wMo g a M)) (q0 := (RMo, TMo, 32)) (ci := iMo) ⟨hx, hb, hml, hown, hts⟩ (by have h0 := k_safe l D g a M x.toNatClampNeg (mNo_lt hm hc) ((nI (2 * (j + 1))).toInt64) (yReach M x.toNatClampNeg) (yTail M x.toNatClampNeg); rw [← (mNo_ix hc)] at h0; exact h0) (cwV 4 hts (gd_V b_555 b_557 bp_20 b_6 b_558) rfl rfl rfl (by decide +kernel) ⟨Nat.le_of_ble_eq_true rfl, Nat.le_of_ble_eq_true rfl⟩) hK hP hD hS hA (List.range 28) mo_cutAll mo_ndAll rfl rfl rfl hl.1 rfl (Nat.le_of_ble_eq_true rfl) dMo_permitted_33 ⟨Nat.zero_le _, Nat.zero_le _⟩ (fun H locs hP hS => ?_)
    refine lv_if_eq (tgt := 41) hx hb dMo_permitted_36 (by decide) (fun c_2 => ?_) (fun c_2 => ?_)
    · refine lv_iinc (v := nI (2 * j)) (lv' := [(2, .int (nI (2 * j))), (0, .ref (a 0)), (1, .int x)]) hx hb dMo_permitted_41 hl (k := 0) rfl (mk_m2 (2 * j)) (by decide) rfl (fun ls hl => ?_)
      refine lv_goto (tgt := 15) hx hb dMo_permitted_44 (by decide) ?_
      exact ih H locs ls hP hD hS hl (by rw [← hr0]; simp only [yBestL, if_pos c_2]) (by omega) k40 k48
    · refine lv_iload_n hx hb dMo_permitted_39 rfl (lv_at hl 0 rfl) ?_
      have hE : nI (2 * (j + 1)) = r := by rw [← hr0]; simp only [yBestL, if_neg c_2]
      rw [hE]
      exact k40 H locs ls hP hD hS
set_option maxHeartbeats 4000000 in
set_option maxRecDepth 100000 in
/-- permitted -/
theorem k_permitted (l : Launch) (D : va_G) (g : Nat → ClassId) (a : Nat → Nat) (M : zMo) (hm : xtr (m5 M) ≤ 4) (x : Int32) : mk_Rd l yMo_permitted wsMo_permitted ({ frames := 2, cells := 0, slots := 0, locals := 52 }) D vwCl (zty g) [.ref (a 0), .int x] (wMo g a M) (yPermitted M x) := by
  intro sz
  refine Met.ofW (cc := cMo_permitted) (maxL := 3) (ret := (some .int)) (by decide) rfl ?_
  intro p e s m args below meth cd s₁ B hml hv
  obtain ⟨rfl, hsz, hP, hK, hD0⟩ := hv
  have hx := B.exec
  have hb := B.bytes
  have hr := B.returns
  have hts := atoms_spec (ws := wsMo_permitted) B.pre
  have htB := fun (w : Cond) (h : w ∈ BIG) => hts w (List.mem_cons_of_mem _ h)
  have hown : s.vm.findClass RMo = some m.cls := findClass_of_methodNamed B.named
  have hlocks := B.notSynchronized
  subst hsz
  have hD := hD0
  have hA : ∀ q : Nat, s.heap.size ≤ q → (fun q => s.heap.size ≤ q) q := fun _ h => h
  have hS : va_S (fun q => s.heap.size ≤ q) s.heap s.heap [] := va_S.rf
  have hl := lv_entry ([.ref (a 0), .int x]) (n := 3) (Nat.le_of_ble_eq_true rfl)
  rw [lg_entry_eq]
  generalize (lg_sl ([.ref (a 0), .int x]) ++ List.replicate (3 - (lg_sl ([.ref (a 0), .int x])).length) Slot.unset).toArray = ls at hl ⊢
  have hl : lv_has ls 3 [(0, .ref (a 0)), (1, .int x)] := hl
  have hP : va_P D vwCl (wMo g a M) s.heap := hP
  refine lv_aload_n hx hb dMo_permitted_0 rfl (lv_at hl 0 rfl) ?_
  refine lv_iload_n hx hb dMo_permitted_1 rfl (lv_at hl 1 rfl) ?_
  refine mk_rdV (As := [.int x]) (rest := []) (w := (wMo g a M)) (q0 := (RMo, TMo, 32)) (ci := iMo) ⟨hx, hb, hml, hown, hts⟩ (k_noTrain l D g a M x) (cwV 1 hts (gd_V b_498 b_500 bp_9 b_6 b_501) rfl rfl rfl (by decide +kernel) ⟨Nat.le_of_ble_eq_true rfl, Nat.le_of_ble_eq_true rfl⟩) hK hP hD hS hA (List.range 28) mo_cutAll mo_ndAll rfl rfl rfl hl.1 rfl (Nat.le_of_ble_eq_true rfl) dMo_permitted_2 ⟨Nat.zero_le _, Nat.zero_le _⟩ (fun H locs hP hS => ?_)
  refine lv_if_eq (tgt := 11) hx hb dMo_permitted_5 (by decide) (fun c_1 => ?_) (fun c_1 => ?_)
  · refine lv_sipush (v := 320) hx hb dMo_permitted_11 (by decide) ?_
    refine lv_istore_n (lv' := [(2, .int 320), (0, .ref (a 0)), (1, .int x)]) hx hb dMo_permitted_14 rfl hl (by decide) rfl (fun ls hl => ?_)
    have hE : yPermitted M x = yBestL M x.toNatClampNeg 160 := if_pos c_1
    refine lq_best (a := a) (M := M) (x := x) hm c_1 hx hb hml hown hts hK hA 160 _ _ ls hP hD hS (lv_sub hl [0, 1, 2] rfl) rfl (by decide) (fun H locs ls hP hD hS => ?_) (fun H locs ls hP hD hS => ?_)
    · exact W.iret (v := yBestL M x.toNatClampNeg 160) hx hb hr (fun t9 ht hW => ⟨⟨yBestL M x.toNatClampNeg 160, (), rfl, hE.symm, trivial⟩, hS.F ht⟩) hS.2.2 dMo_permitted_40
    · exact W.iret (v := yBestL M x.toNatClampNeg 160) hx hb hr (fun t9 ht hW => ⟨⟨yBestL M x.toNatClampNeg 160, (), rfl, hE.symm, trivial⟩, hS.F ht⟩) hS.2.2 dMo_permitted_48
  · refine lv_ldc (v := (-1000000)) hx hb hown (htB _ b_475) dMo_permitted_8 ?_
    exact W.iret (v := (-1000000)) hx hb hr (fun t9 ht hW => ⟨⟨(-1000000), (), rfl, (by first | (simp only [yPermitted, if_neg c_1] <;> rfl) | exact ((if_neg c_1).trans (rfl)).symm), trivial⟩, hS.F ht⟩) hS.2.2 dMo_permitted_10
