set_option maxHeartbeats 4000000 in
set_option maxRecDepth 100000 in
theorem sq_drive {p : Program} {l : Launch} {e : Env} {s : State} {m : MethodId} {args : Array Value} {below : List Frame} {meth : Method} {cd : Code} {Q : State → Prop} {D : va_G} {g : Nat → ClassId} {A : Nat → Prop} {a : Nat → Nat} {M : zMo} {t : Nat} {v : Int64} (ht : t < 4) (hx : p.tables.exec = Jvm.exec) (hb : cd.code = cMo_drive) (hml : cd.maxLocals = 7) (hown : s.vm.findClass RMo = some m.cls) (hts : ∀ w ∈ wsMo_drive, w.before args s = true) (hK : va_K D vwCl (zty g) s) (hA : ∀ q : Nat, s.heap.size ≤ q → A q) {H : Heap} {locs : List Loc} {ls : Array Slot}  (hP : va_P D vwCl (wMo g a M) H) (hD : va_D A (wMo g a M)) (hS : va_S A s.heap H locs) (hl : lv_has ls 7 [(0, .ref (a 0)), (1, .int (nI t))]) (kk207 : ∀ (H : Heap) (locs : List Loc) (ls : Array Slot), va_P D vwCl (wMo g a (yDrv2 M t v)) H → va_D A (wMo g a (yDrv2 M t v)) → va_S A s.heap H locs → lv_has ls 7 [(0, .ref (a 0)), (1, .int (nI t))] → W p l e ({ frames := 3, cells := 0, slots := 0, locals := 81 }) s m args below meth cd H locs 0 0 Q (F0 m 207 ls [])) : W p l e ({ frames := 3, cells := 0, slots := 0, locals := 81 }) s m args below meth cd H locs 0 0 Q (F0 m 79 ls [.long v]) := by
  have htB : ∀ w ∈ BIG, w.before args s = true := fun w h => hts w (List.mem_cons_of_mem _ h)
  refine lv_lstore_n (lv' := [(2, .long v), (0, .ref (a 0)), (1, .int (nI t))]) hx hb dMo_drive_79 rfl hl (by decide) rfl (fun ls hl => ?_)
  refine lv_aload_n hx hb dMo_drive_80 rfl (lv_at hl 1 rfl) ?_
  refine va_get (D := D) (ci := iMo) (v := .ref (a 8)) (C := RMo) (T := TMo) (N := 32) hx hb htB inBMo hown hK hP 0 rfl rfl 8 (by decide) (htB _ b_378) (fun _ h9 => h9) rfl dMo_drive_81 ?_
  refine lv_iload_n hx hb dMo_drive_84 rfl (lv_at hl 2 rfl) ?_
  refine mk_lald (k := t) hx hb hK hP 8 3 rfl rfl rfl ⟨ht, by decide⟩ dMo_drive_85 ?_
  refine lv_lload_n hx hb dMo_drive_86 rfl (lv_at hl 0 rfl) ?_
  refine lv_ladd hx hb dMo_drive_87 ?_
  refine lv_ldc2 (v := 2) hx hb hown (htB _ b_572) dMo_drive_88 ?_
  refine lv_ldiv hx hb dMo_drive_91 (by decide) ?_
  refine lv_lstore (lv' := [(4, .long ((((xsp (m2 M)) t) + v) / 2)), (2, .long v), (0, .ref (a 0)), (1, .int (nI t))]) hx hb dMo_drive_92 hl (by decide) rfl (fun ls hl => ?_)
  refine lv_aload_n hx hb dMo_drive_94 rfl (lv_at hl 2 rfl) ?_
  refine va_get (D := D) (ci := iMo) (v := .ref (a 7)) (C := RMo) (T := TMo) (N := 32) hx hb htB inBMo hown hK hP 0 rfl rfl 7 (by decide) (htB _ b_377) (fun _ h9 => h9) rfl dMo_drive_95 ?_
  refine lv_iload_n hx hb dMo_drive_98 rfl (lv_at hl 3 rfl) ?_
  refine mk_lald (k := t) hx hb hK hP 7 3 rfl rfl rfl ⟨ht, by decide⟩ dMo_drive_99 ?_
  refine mk_rdS (As := [.long ((xfr (m2 M)) t)]) (rest := []) (w := []) ⟨hx, hb, hml, hown, hts⟩ (k_pieceOf l D g ((xfr (m2 M)) t)) (va_cwS 1 hts (gd_S b_560 b_561 b_6 b_562) rfl rfl rfl (by decide +kernel) ⟨Nat.le_of_ble_eq_true rfl, Nat.le_of_ble_eq_true rfl⟩) hK hP hD hS hA [] rfl rfl rfl hl.1 rfl (Nat.le_of_ble_eq_true rfl) dMo_drive_100 ⟨Nat.zero_le _, Nat.zero_le _⟩ (fun H locs hP hS => ?_)
  refine lv_istore (lv' := [(6, .int (nI (pPiece ((xfr (m2 M)) t)))), (4, .long ((((xsp (m2 M)) t) + v) / 2)), (2, .long v), (0, .ref (a 0)), (1, .int (nI t))]) hx hb dMo_drive_103 hl (by decide) rfl (fun ls hl => ?_)
  refine lv_aload_n hx hb dMo_drive_105 rfl (lv_at hl 3 rfl) ?_
  refine va_get (D := D) (ci := iMo) (v := .ref (a 8)) (C := RMo) (T := TMo) (N := 32) hx hb htB inBMo hown hK hP 0 rfl rfl 8 (by decide) (htB _ b_378) (fun _ h9 => h9) rfl dMo_drive_106 ?_
  refine lv_iload_n hx hb dMo_drive_109 rfl (lv_at hl 4 rfl) ?_
  refine lv_lload_n hx hb dMo_drive_110 rfl (lv_at hl 2 rfl) ?_
  refine mk_last (k := t) hx hb hK hP hD hS 8 3 rfl rfl rfl ⟨ht, by decide⟩ dMo_drive_111 (fun H locs hP hD hS => ?_)
  have hP : va_P D vwCl (wMo g a ((m1 M), ((xle (m2 M)), (xfr (m2 M)), (vp_updL (xsp (m2 M)) t v), (xes (m2 M)), (xdo (m2 M)), (xwi (m2 M)), (xdr (m2 M)), (xem (m2 M)), (xec (m2 M))), (m3 M), (m4 M), (m5 M))) H := hP
  have hD : va_D A (wMo g a ((m1 M), ((xle (m2 M)), (xfr (m2 M)), (vp_updL (xsp (m2 M)) t v), (xes (m2 M)), (xdo (m2 M)), (xwi (m2 M)), (xdr (m2 M)), (xem (m2 M)), (xec (m2 M))), (m3 M), (m4 M), (m5 M))) := hD
  refine lv_aload_n hx hb dMo_drive_112 rfl (lv_at hl 3 rfl) ?_
  refine va_get (D := D) (ci := iMo) (v := .ref (a 7)) (C := RMo) (T := TMo) (N := 32) hx hb htB inBMo hown hK hP 0 rfl rfl 7 (by decide) (htB _ b_377) (fun _ h9 => h9) rfl dMo_drive_113 ?_
  refine lv_iload_n hx hb dMo_drive_116 rfl (lv_at hl 4 rfl) ?_
  refine lv_dup2_11 hx hb dMo_drive_117 rfl rfl ?_
  refine mk_lald (k := t) hx hb hK hP 7 3 rfl rfl rfl ⟨ht, by decide⟩ dMo_drive_118 ?_
  refine lv_lload hx hb dMo_drive_119 (lv_at hl 1 rfl) ?_
  refine lv_ladd hx hb dMo_drive_121 ?_
  refine mk_last (k := t) hx hb hK hP hD hS 7 3 rfl rfl rfl ⟨ht, by decide⟩ dMo_drive_122 (fun H locs hP hD hS => ?_)
  have hP : va_P D vwCl (wMo g a ((m1 M), ((xle (m2 M)), (vp_updL (xfr (m2 M)) t (((xfr (m2 M)) t) + ((((xsp (m2 M)) t) + v) / 2))), (vp_updL (xsp (m2 M)) t v), (xes (m2 M)), (xdo (m2 M)), (xwi (m2 M)), (xdr (m2 M)), (xem (m2 M)), (xec (m2 M))), (m3 M), (m4 M), (m5 M))) H := hP
  have hD : va_D A (wMo g a ((m1 M), ((xle (m2 M)), (vp_updL (xfr (m2 M)) t (((xfr (m2 M)) t) + ((((xsp (m2 M)) t) + v) / 2))), (vp_updL (xsp (m2 M)) t v), (xes (m2 M)), (xdo (m2 M)), (xwi (m2 M)), (xdr (m2 M)), (xem (m2 M)), (xec (m2 M))), (m3 M), (m4 M), (m5 M))) := hD
  refine lv_lload hx hb dMo_drive_123 (lv_at hl 1 rfl) ?_
  refine lv_lconst (v := 0) hx hb dMo_drive_125 (by decide) ?_
  refine mk_lif_eq (tgt := 161) hx hb dMo_drive_126 dMo_drive_127 (by decide) (fun c_1 => ?_) (fun c_1 => ?_)
  · refine lv_aload_n hx hb dMo_drive_161 rfl (lv_at hl 3 rfl) ?_
    refine va_get (D := D) (ci := iMo) (v := .ref (a 7)) (C := RMo) (T := TMo) (N := 32) hx hb htB inBMo hown hK hP 0 rfl rfl 7 (by decide) (htB _ b_377) (fun _ h9 => h9) rfl dMo_drive_162 ?_
    refine lv_iload_n hx hb dMo_drive_165 rfl (lv_at hl 4 rfl) ?_
    refine mk_lald (k := t) hx hb hK hP 7 3 rfl rfl rfl ⟨ht, by decide⟩ dMo_drive_166 ?_
    refine mk_rdS (As := [.long ((vp_updL (xfr (m2 M)) t (((xfr (m2 M)) t) + ((((xsp (m2 M)) t) + v) / 2))) t)]) (rest := []) (w := []) ⟨hx, hb, hml, hown, hts⟩ (k_pieceOf l D g ((vp_updL (xfr (m2 M)) t (((xfr (m2 M)) t) + ((((xsp (m2 M)) t) + v) / 2))) t)) (va_cwS 1 hts (gd_S b_560 b_561 b_6 b_562) rfl rfl rfl (by decide +kernel) ⟨Nat.le_of_ble_eq_true rfl, Nat.le_of_ble_eq_true rfl⟩) hK hP hD hS hA [] rfl rfl rfl hl.1 rfl (Nat.le_of_ble_eq_true rfl) dMo_drive_167 ⟨Nat.zero_le _, Nat.zero_le _⟩ (fun H locs hP hS => ?_)
    refine lv_iload hx hb dMo_drive_170 (lv_at hl 0 rfl) ?_
    refine lv_icmp_eq (tgt := 194) hx hb dMo_drive_172 (by decide) (fun c_2 => ?_) (fun c_2 => ?_)
    · refine lv_lload_n hx hb dMo_drive_194 rfl (lv_at hl 2 rfl) ?_
      refine lv_lconst (v := 0) hx hb dMo_drive_195 (by decide) ?_
      refine mk_lif_ne (tgt := 207) hx hb dMo_drive_196 dMo_drive_197 (by decide) (fun c_3 => ?_) (fun c_3 => ?_)
      · have hE : wMo g a (yDrv2 M t v) = wMo g a ((m1 M), ((xle (m2 M)), (vp_updL (xfr (m2 M)) t (((xfr (m2 M)) t) + ((((xsp (m2 M)) t) + v) / 2))), (vp_updL (xsp (m2 M)) t v), (xes (m2 M)), (xdo (m2 M)), (xwi (m2 M)), (xdr (m2 M)), (xem (m2 M)), (xec (m2 M))), (m3 M), (m4 M), (m5 M)) := (by simp only [yDrv2, yMv4, yMv3, yMv2, yMv1, if_pos c_1, if_pos c_2, if_neg c_3])
        rw [hE] at kk207
        exact kk207 H locs ls hP hD hS (lv_sub hl [3, 4] rfl)
      · refine lv_aload_n hx hb dMo_drive_200 rfl (lv_at hl 3 rfl) ?_
        refine va_get (D := D) (ci := iMo) (v := .ref (a 20)) (C := RMo) (T := TMo) (N := 32) hx hb htB inBMo hown hK hP 0 rfl rfl 20 (by decide) (htB _ b_390) (fun _ h9 => h9) rfl dMo_drive_201 ?_
        refine lv_iload_n hx hb dMo_drive_204 rfl (lv_at hl 4 rfl) ?_
        refine lv_iconst (v := 0) hx hb dMo_drive_205 (by decide) ?_
        refine mk_zast (k := t) (f := (xem (m2 M))) (z := false) hx hb hK hP hD hS 13 1 rfl rfl rfl ⟨ht, by decide⟩ dMo_drive_206 (fun H locs hP hD hS => ?_)
        have hP : va_P D vwCl (wMo g a ((m1 M), ((xle (m2 M)), (vp_updL (xfr (m2 M)) t (((xfr (m2 M)) t) + ((((xsp (m2 M)) t) + v) / 2))), (vp_updL (xsp (m2 M)) t v), (xes (m2 M)), (xdo (m2 M)), (xwi (m2 M)), (xdr (m2 M)), (va_up (xem (m2 M)) t false), (xec (m2 M))), (m3 M), (m4 M), (m5 M))) H := hP
        have hD : va_D A (wMo g a ((m1 M), ((xle (m2 M)), (vp_updL (xfr (m2 M)) t (((xfr (m2 M)) t) + ((((xsp (m2 M)) t) + v) / 2))), (vp_updL (xsp (m2 M)) t v), (xes (m2 M)), (xdo (m2 M)), (xwi (m2 M)), (xdr (m2 M)), (va_up (xem (m2 M)) t false), (xec (m2 M))), (m3 M), (m4 M), (m5 M))) := hD
        have hE : wMo g a (yDrv2 M t v) = wMo g a ((m1 M), ((xle (m2 M)), (vp_updL (xfr (m2 M)) t (((xfr (m2 M)) t) + ((((xsp (m2 M)) t) + v) / 2))), (vp_updL (xsp (m2 M)) t v), (xes (m2 M)), (xdo (m2 M)), (xwi (m2 M)), (xdr (m2 M)), (va_up (xem (m2 M)) t false), (xec (m2 M))), (m3 M), (m4 M), (m5 M)) := (by simp only [yDrv2, yMv4, yMv3, yMv2, yMv1, if_pos c_1, if_pos c_2, if_pos c_3])
        rw [hE] at kk207
        exact kk207 H locs ls hP hD hS (lv_sub hl [3, 4] rfl)
    · refine lv_aload_n hx hb dMo_drive_175 rfl (lv_at hl 3 rfl) ?_
      refine va_get (D := D) (ci := iMo) (v := .ref (a 9)) (C := RMo) (T := TMo) (N := 32) hx hb htB inBMo hown hK hP 0 rfl rfl 9 (by decide) (htB _ b_379) (fun _ h9 => h9) rfl dMo_drive_176 ?_
      refine lv_iload_n hx hb dMo_drive_179 rfl (lv_at hl 4 rfl) ?_
      refine lv_aload_n hx hb dMo_drive_180 rfl (lv_at hl 3 rfl) ?_
      refine va_get (D := D) (ci := iMo) (v := .ref (a 7)) (C := RMo) (T := TMo) (N := 32) hx hb htB inBMo hown hK hP 0 rfl rfl 7 (by decide) (htB _ b_377) (fun _ h9 => h9) rfl dMo_drive_181 ?_
      refine lv_iload_n hx hb dMo_drive_184 rfl (lv_at hl 4 rfl) ?_
      refine mk_lald (k := t) hx hb hK hP 7 3 rfl rfl rfl ⟨ht, by decide⟩ dMo_drive_185 ?_
      refine mk_last (k := t) hx hb hK hP hD hS 9 3 rfl rfl rfl ⟨ht, by decide⟩ dMo_drive_186 (fun H locs hP hD hS => ?_)
      have hP : va_P D vwCl (wMo g a ((m1 M), ((xle (m2 M)), (vp_updL (xfr (m2 M)) t (((xfr (m2 M)) t) + ((((xsp (m2 M)) t) + v) / 2))), (vp_updL (xsp (m2 M)) t v), (vp_updL (xes (m2 M)) t ((vp_updL (xfr (m2 M)) t (((xfr (m2 M)) t) + ((((xsp (m2 M)) t) + v) / 2))) t)), (xdo (m2 M)), (xwi (m2 M)), (xdr (m2 M)), (xem (m2 M)), (xec (m2 M))), (m3 M), (m4 M), (m5 M))) H := hP
      have hD : va_D A (wMo g a ((m1 M), ((xle (m2 M)), (vp_updL (xfr (m2 M)) t (((xfr (m2 M)) t) + ((((xsp (m2 M)) t) + v) / 2))), (vp_updL (xsp (m2 M)) t v), (vp_updL (xes (m2 M)) t ((vp_updL (xfr (m2 M)) t (((xfr (m2 M)) t) + ((((xsp (m2 M)) t) + v) / 2))) t)), (xdo (m2 M)), (xwi (m2 M)), (xdr (m2 M)), (xem (m2 M)), (xec (m2 M))), (m3 M), (m4 M), (m5 M))) := hD
      refine lv_aload_n hx hb dMo_drive_187 rfl (lv_at hl 3 rfl) ?_
      refine va_get (D := D) (ci := iMo) (v := .ref (a 10)) (C := RMo) (T := TMo) (N := 32) hx hb htB inBMo hown hK hP 0 rfl rfl 10 (by decide) (htB _ b_380) (fun _ h9 => h9) rfl dMo_drive_188 ?_
      refine lv_iload_n hx hb dMo_drive_191 rfl (lv_at hl 4 rfl) ?_
      refine lv_lconst (v := 0) hx hb dMo_drive_192 (by decide) ?_
      refine mk_last (k := t) hx hb hK hP hD hS 10 3 rfl rfl rfl ⟨ht, by decide⟩ dMo_drive_193 (fun H locs hP hD hS => ?_)
      have hP : va_P D vwCl (wMo g a ((m1 M), ((xle (m2 M)), (vp_updL (xfr (m2 M)) t (((xfr (m2 M)) t) + ((((xsp (m2 M)) t) + v) / 2))), (vp_updL (xsp (m2 M)) t v), (vp_updL (xes (m2 M)) t ((vp_updL (xfr (m2 M)) t (((xfr (m2 M)) t) + ((((xsp (m2 M)) t) + v) / 2))) t)), (vp_updL (xdo (m2 M)) t 0), (xwi (m2 M)), (xdr (m2 M)), (xem (m2 M)), (xec (m2 M))), (m3 M), (m4 M), (m5 M))) H := hP
      have hD : va_D A (wMo g a ((m1 M), ((xle (m2 M)), (vp_updL (xfr (m2 M)) t (((xfr (m2 M)) t) + ((((xsp (m2 M)) t) + v) / 2))), (vp_updL (xsp (m2 M)) t v), (vp_updL (xes (m2 M)) t ((vp_updL (xfr (m2 M)) t (((xfr (m2 M)) t) + ((((xsp (m2 M)) t) + v) / 2))) t)), (vp_updL (xdo (m2 M)) t 0), (xwi (m2 M)), (xdr (m2 M)), (xem (m2 M)), (xec (m2 M))), (m3 M), (m4 M), (m5 M))) := hD
      refine lv_lload_n hx hb dMo_drive_194 rfl (lv_at hl 2 rfl) ?_
      refine lv_lconst (v := 0) hx hb dMo_drive_195 (by decide) ?_
      refine mk_lif_ne (tgt := 207) hx hb dMo_drive_196 dMo_drive_197 (by decide) (fun c_4 => ?_) (fun c_4 => ?_)
      · have hE : wMo g a (yDrv2 M t v) = wMo g a ((m1 M), ((xle (m2 M)), (vp_updL (xfr (m2 M)) t (((xfr (m2 M)) t) + ((((xsp (m2 M)) t) + v) / 2))), (vp_updL (xsp (m2 M)) t v), (vp_updL (xes (m2 M)) t ((vp_updL (xfr (m2 M)) t (((xfr (m2 M)) t) + ((((xsp (m2 M)) t) + v) / 2))) t)), (vp_updL (xdo (m2 M)) t 0), (xwi (m2 M)), (xdr (m2 M)), (xem (m2 M)), (xec (m2 M))), (m3 M), (m4 M), (m5 M)) := (by simp only [yDrv2, yMv4, yMv3, yMv2, yMv1, if_pos c_1, if_neg c_2, if_neg c_4])
        rw [hE] at kk207
        exact kk207 H locs ls hP hD hS (lv_sub hl [3, 4] rfl)
      · refine lv_aload_n hx hb dMo_drive_200 rfl (lv_at hl 3 rfl) ?_
        refine va_get (D := D) (ci := iMo) (v := .ref (a 20)) (C := RMo) (T := TMo) (N := 32) hx hb htB inBMo hown hK hP 0 rfl rfl 20 (by decide) (htB _ b_390) (fun _ h9 => h9) rfl dMo_drive_201 ?_
        refine lv_iload_n hx hb dMo_drive_204 rfl (lv_at hl 4 rfl) ?_
        refine lv_iconst (v := 0) hx hb dMo_drive_205 (by decide) ?_
        refine mk_zast (k := t) (f := (xem (m2 M))) (z := false) hx hb hK hP hD hS 13 1 rfl rfl rfl ⟨ht, by decide⟩ dMo_drive_206 (fun H locs hP hD hS => ?_)
        have hP : va_P D vwCl (wMo g a ((m1 M), ((xle (m2 M)), (vp_updL (xfr (m2 M)) t (((xfr (m2 M)) t) + ((((xsp (m2 M)) t) + v) / 2))), (vp_updL (xsp (m2 M)) t v), (vp_updL (xes (m2 M)) t ((vp_updL (xfr (m2 M)) t (((xfr (m2 M)) t) + ((((xsp (m2 M)) t) + v) / 2))) t)), (vp_updL (xdo (m2 M)) t 0), (xwi (m2 M)), (xdr (m2 M)), (va_up (xem (m2 M)) t false), (xec (m2 M))), (m3 M), (m4 M), (m5 M))) H := hP
        have hD : va_D A (wMo g a ((m1 M), ((xle (m2 M)), (vp_updL (xfr (m2 M)) t (((xfr (m2 M)) t) + ((((xsp (m2 M)) t) + v) / 2))), (vp_updL (xsp (m2 M)) t v), (vp_updL (xes (m2 M)) t ((vp_updL (xfr (m2 M)) t (((xfr (m2 M)) t) + ((((xsp (m2 M)) t) + v) / 2))) t)), (vp_updL (xdo (m2 M)) t 0), (xwi (m2 M)), (xdr (m2 M)), (va_up (xem (m2 M)) t false), (xec (m2 M))), (m3 M), (m4 M), (m5 M))) := hD
        have hE : wMo g a (yDrv2 M t v) = wMo g a ((m1 M), ((xle (m2 M)), (vp_updL (xfr (m2 M)) t (((xfr (m2 M)) t) + ((((xsp (m2 M)) t) + v) / 2))), (vp_updL (xsp (m2 M)) t v), (vp_updL (xes (m2 M)) t ((vp_updL (xfr (m2 M)) t (((xfr (m2 M)) t) + ((((xsp (m2 M)) t) + v) / 2))) t)), (vp_updL (xdo (m2 M)) t 0), (xwi (m2 M)), (xdr (m2 M)), (va_up (xem (m2 M)) t false), (xec (m2 M))), (m3 M), (m4 M), (m5 M)) := (by simp only [yDrv2, yMv4, yMv3, yMv2, yMv1, if_pos c_1, if_neg c_2, if_pos c_4])
        rw [hE] at kk207
        exact kk207 H locs ls hP hD hS (lv_sub hl [3, 4] rfl)
  · refine lv_aload_n hx hb dMo_drive_130 rfl (lv_at hl 3 rfl) ?_
    refine va_get (D := D) (ci := iMo) (v := .ref (a 9)) (C := RMo) (T := TMo) (N := 32) hx hb htB inBMo hown hK hP 0 rfl rfl 9 (by decide) (htB _ b_379) (fun _ h9 => h9) rfl dMo_drive_131 ?_
    refine lv_iload_n hx hb dMo_drive_134 rfl (lv_at hl 4 rfl) ?_
    refine lv_dup2_11 hx hb dMo_drive_135 rfl rfl ?_
    refine mk_lald (k := t) hx hb hK hP 9 3 rfl rfl rfl ⟨ht, by decide⟩ dMo_drive_136 ?_
    refine lv_lload hx hb dMo_drive_137 (lv_at hl 1 rfl) ?_
    refine lv_aload_n hx hb dMo_drive_139 rfl (lv_at hl 3 rfl) ?_
    refine va_get (D := D) (ci := iMo) (v := .ref (a 17)) (C := RMo) (T := TMo) (N := 32) hx hb htB inBMo hown hK hP 0 rfl rfl 17 (by decide) (htB _ b_387) (fun _ h9 => h9) rfl dMo_drive_140 ?_
    refine lv_iload_n hx hb dMo_drive_143 rfl (lv_at hl 4 rfl) ?_
    refine mk_iald (k := t) hx hb hK hP 12 0 rfl rfl rfl ⟨ht, by decide⟩ dMo_drive_144 ?_
    refine lv_i2l (v := ((xdr (m2 M)) t).toInt64) hx hb dMo_drive_145 rfl ?_
    refine lv_ladd hx hb dMo_drive_146 ?_
    refine lv_ladd hx hb dMo_drive_147 ?_
    refine mk_last (k := t) hx hb hK hP hD hS 9 3 rfl rfl rfl ⟨ht, by decide⟩ dMo_drive_148 (fun H locs hP hD hS => ?_)
    have hP : va_P D vwCl (wMo g a ((m1 M), ((xle (m2 M)), (vp_updL (xfr (m2 M)) t (((xfr (m2 M)) t) + ((((xsp (m2 M)) t) + v) / 2))), (vp_updL (xsp (m2 M)) t v), (vp_updL (xes (m2 M)) t (((xes (m2 M)) t) + (((((xsp (m2 M)) t) + v) / 2) + (((xdr (m2 M)) t).toInt64)))), (xdo (m2 M)), (xwi (m2 M)), (xdr (m2 M)), (xem (m2 M)), (xec (m2 M))), (m3 M), (m4 M), (m5 M))) H := hP
    have hD : va_D A (wMo g a ((m1 M), ((xle (m2 M)), (vp_updL (xfr (m2 M)) t (((xfr (m2 M)) t) + ((((xsp (m2 M)) t) + v) / 2))), (vp_updL (xsp (m2 M)) t v), (vp_updL (xes (m2 M)) t (((xes (m2 M)) t) + (((((xsp (m2 M)) t) + v) / 2) + (((xdr (m2 M)) t).toInt64)))), (xdo (m2 M)), (xwi (m2 M)), (xdr (m2 M)), (xem (m2 M)), (xec (m2 M))), (m3 M), (m4 M), (m5 M))) := hD
    refine lv_aload_n hx hb dMo_drive_149 rfl (lv_at hl 3 rfl) ?_
    refine va_get (D := D) (ci := iMo) (v := .ref (a 10)) (C := RMo) (T := TMo) (N := 32) hx hb htB inBMo hown hK hP 0 rfl rfl 10 (by decide) (htB _ b_380) (fun _ h9 => h9) rfl dMo_drive_150 ?_
    refine lv_iload_n hx hb dMo_drive_153 rfl (lv_at hl 4 rfl) ?_
    refine lv_dup2_11 hx hb dMo_drive_154 rfl rfl ?_
    refine mk_lald (k := t) hx hb hK hP 10 3 rfl rfl rfl ⟨ht, by decide⟩ dMo_drive_155 ?_
    refine lv_ldc2 (v := 2) hx hb hown (htB _ b_572) dMo_drive_156 ?_
    refine lv_ladd hx hb dMo_drive_159 ?_
    refine mk_last (k := t) hx hb hK hP hD hS 10 3 rfl rfl rfl ⟨ht, by decide⟩ dMo_drive_160 (fun H locs hP hD hS => ?_)
    have hP : va_P D vwCl (wMo g a ((m1 M), ((xle (m2 M)), (vp_updL (xfr (m2 M)) t (((xfr (m2 M)) t) + ((((xsp (m2 M)) t) + v) / 2))), (vp_updL (xsp (m2 M)) t v), (vp_updL (xes (m2 M)) t (((xes (m2 M)) t) + (((((xsp (m2 M)) t) + v) / 2) + (((xdr (m2 M)) t).toInt64)))), (vp_updL (xdo (m2 M)) t (((xdo (m2 M)) t) + 2)), (xwi (m2 M)), (xdr (m2 M)), (xem (m2 M)), (xec (m2 M))), (m3 M), (m4 M), (m5 M))) H := hP
    have hD : va_D A (wMo g a ((m1 M), ((xle (m2 M)), (vp_updL (xfr (m2 M)) t (((xfr (m2 M)) t) + ((((xsp (m2 M)) t) + v) / 2))), (vp_updL (xsp (m2 M)) t v), (vp_updL (xes (m2 M)) t (((xes (m2 M)) t) + (((((xsp (m2 M)) t) + v) / 2) + (((xdr (m2 M)) t).toInt64)))), (vp_updL (xdo (m2 M)) t (((xdo (m2 M)) t) + 2)), (xwi (m2 M)), (xdr (m2 M)), (xem (m2 M)), (xec (m2 M))), (m3 M), (m4 M), (m5 M))) := hD
    refine lv_aload_n hx hb dMo_drive_161 rfl (lv_at hl 3 rfl) ?_
    refine va_get (D := D) (ci := iMo) (v := .ref (a 7)) (C := RMo) (T := TMo) (N := 32) hx hb htB inBMo hown hK hP 0 rfl rfl 7 (by decide) (htB _ b_377) (fun _ h9 => h9) rfl dMo_drive_162 ?_
    refine lv_iload_n hx hb dMo_drive_165 rfl (lv_at hl 4 rfl) ?_
    refine mk_lald (k := t) hx hb hK hP 7 3 rfl rfl rfl ⟨ht, by decide⟩ dMo_drive_166 ?_
    refine mk_rdS (As := [.long ((vp_updL (xfr (m2 M)) t (((xfr (m2 M)) t) + ((((xsp (m2 M)) t) + v) / 2))) t)]) (rest := []) (w := []) ⟨hx, hb, hml, hown, hts⟩ (k_pieceOf l D g ((vp_updL (xfr (m2 M)) t (((xfr (m2 M)) t) + ((((xsp (m2 M)) t) + v) / 2))) t)) (va_cwS 1 hts (gd_S b_560 b_561 b_6 b_562) rfl rfl rfl (by decide +kernel) ⟨Nat.le_of_ble_eq_true rfl, Nat.le_of_ble_eq_true rfl⟩) hK hP hD hS hA [] rfl rfl rfl hl.1 rfl (Nat.le_of_ble_eq_true rfl) dMo_drive_167 ⟨Nat.zero_le _, Nat.zero_le _⟩ (fun H locs hP hS => ?_)
    refine lv_iload hx hb dMo_drive_170 (lv_at hl 0 rfl) ?_
    refine lv_icmp_eq (tgt := 194) hx hb dMo_drive_172 (by decide) (fun c_5 => ?_) (fun c_5 => ?_)
    · refine lv_lload_n hx hb dMo_drive_194 rfl (lv_at hl 2 rfl) ?_
      refine lv_lconst (v := 0) hx hb dMo_drive_195 (by decide) ?_
      refine mk_lif_ne (tgt := 207) hx hb dMo_drive_196 dMo_drive_197 (by decide) (fun c_6 => ?_) (fun c_6 => ?_)
      · have hE : wMo g a (yDrv2 M t v) = wMo g a ((m1 M), ((xle (m2 M)), (vp_updL (xfr (m2 M)) t (((xfr (m2 M)) t) + ((((xsp (m2 M)) t) + v) / 2))), (vp_updL (xsp (m2 M)) t v), (vp_updL (xes (m2 M)) t (((xes (m2 M)) t) + (((((xsp (m2 M)) t) + v) / 2) + (((xdr (m2 M)) t).toInt64)))), (vp_updL (xdo (m2 M)) t (((xdo (m2 M)) t) + 2)), (xwi (m2 M)), (xdr (m2 M)), (xem (m2 M)), (xec (m2 M))), (m3 M), (m4 M), (m5 M)) := (by simp only [yDrv2, yMv4, yMv3, yMv2, yMv1, if_neg c_1, if_pos c_5, if_neg c_6])
        rw [hE] at kk207
        exact kk207 H locs ls hP hD hS (lv_sub hl [3, 4] rfl)
      · refine lv_aload_n hx hb dMo_drive_200 rfl (lv_at hl 3 rfl) ?_
        refine va_get (D := D) (ci := iMo) (v := .ref (a 20)) (C := RMo) (T := TMo) (N := 32) hx hb htB inBMo hown hK hP 0 rfl rfl 20 (by decide) (htB _ b_390) (fun _ h9 => h9) rfl dMo_drive_201 ?_
        refine lv_iload_n hx hb dMo_drive_204 rfl (lv_at hl 4 rfl) ?_
        refine lv_iconst (v := 0) hx hb dMo_drive_205 (by decide) ?_
        refine mk_zast (k := t) (f := (xem (m2 M))) (z := false) hx hb hK hP hD hS 13 1 rfl rfl rfl ⟨ht, by decide⟩ dMo_drive_206 (fun H locs hP hD hS => ?_)
        have hP : va_P D vwCl (wMo g a ((m1 M), ((xle (m2 M)), (vp_updL (xfr (m2 M)) t (((xfr (m2 M)) t) + ((((xsp (m2 M)) t) + v) / 2))), (vp_updL (xsp (m2 M)) t v), (vp_updL (xes (m2 M)) t (((xes (m2 M)) t) + (((((xsp (m2 M)) t) + v) / 2) + (((xdr (m2 M)) t).toInt64)))), (vp_updL (xdo (m2 M)) t (((xdo (m2 M)) t) + 2)), (xwi (m2 M)), (xdr (m2 M)), (va_up (xem (m2 M)) t false), (xec (m2 M))), (m3 M), (m4 M), (m5 M))) H := hP
        have hD : va_D A (wMo g a ((m1 M), ((xle (m2 M)), (vp_updL (xfr (m2 M)) t (((xfr (m2 M)) t) + ((((xsp (m2 M)) t) + v) / 2))), (vp_updL (xsp (m2 M)) t v), (vp_updL (xes (m2 M)) t (((xes (m2 M)) t) + (((((xsp (m2 M)) t) + v) / 2) + (((xdr (m2 M)) t).toInt64)))), (vp_updL (xdo (m2 M)) t (((xdo (m2 M)) t) + 2)), (xwi (m2 M)), (xdr (m2 M)), (va_up (xem (m2 M)) t false), (xec (m2 M))), (m3 M), (m4 M), (m5 M))) := hD
        have hE : wMo g a (yDrv2 M t v) = wMo g a ((m1 M), ((xle (m2 M)), (vp_updL (xfr (m2 M)) t (((xfr (m2 M)) t) + ((((xsp (m2 M)) t) + v) / 2))), (vp_updL (xsp (m2 M)) t v), (vp_updL (xes (m2 M)) t (((xes (m2 M)) t) + (((((xsp (m2 M)) t) + v) / 2) + (((xdr (m2 M)) t).toInt64)))), (vp_updL (xdo (m2 M)) t (((xdo (m2 M)) t) + 2)), (xwi (m2 M)), (xdr (m2 M)), (va_up (xem (m2 M)) t false), (xec (m2 M))), (m3 M), (m4 M), (m5 M)) := (by simp only [yDrv2, yMv4, yMv3, yMv2, yMv1, if_neg c_1, if_pos c_5, if_pos c_6])
        rw [hE] at kk207
        exact kk207 H locs ls hP hD hS (lv_sub hl [3, 4] rfl)
    · refine lv_aload_n hx hb dMo_drive_175 rfl (lv_at hl 3 rfl) ?_
      refine va_get (D := D) (ci := iMo) (v := .ref (a 9)) (C := RMo) (T := TMo) (N := 32) hx hb htB inBMo hown hK hP 0 rfl rfl 9 (by decide) (htB _ b_379) (fun _ h9 => h9) rfl dMo_drive_176 ?_
      refine lv_iload_n hx hb dMo_drive_179 rfl (lv_at hl 4 rfl) ?_
      refine lv_aload_n hx hb dMo_drive_180 rfl (lv_at hl 3 rfl) ?_
      refine va_get (D := D) (ci := iMo) (v := .ref (a 7)) (C := RMo) (T := TMo) (N := 32) hx hb htB inBMo hown hK hP 0 rfl rfl 7 (by decide) (htB _ b_377) (fun _ h9 => h9) rfl dMo_drive_181 ?_
      refine lv_iload_n hx hb dMo_drive_184 rfl (lv_at hl 4 rfl) ?_
      refine mk_lald (k := t) hx hb hK hP 7 3 rfl rfl rfl ⟨ht, by decide⟩ dMo_drive_185 ?_
      refine mk_last (k := t) hx hb hK hP hD hS 9 3 rfl rfl rfl ⟨ht, by decide⟩ dMo_drive_186 (fun H locs hP hD hS => ?_)
      have hP : va_P D vwCl (wMo g a ((m1 M), ((xle (m2 M)), (vp_updL (xfr (m2 M)) t (((xfr (m2 M)) t) + ((((xsp (m2 M)) t) + v) / 2))), (vp_updL (xsp (m2 M)) t v), (vp_updL (vp_updL (xes (m2 M)) t (((xes (m2 M)) t) + (((((xsp (m2 M)) t) + v) / 2) + (((xdr (m2 M)) t).toInt64)))) t ((vp_updL (xfr (m2 M)) t (((xfr (m2 M)) t) + ((((xsp (m2 M)) t) + v) / 2))) t)), (vp_updL (xdo (m2 M)) t (((xdo (m2 M)) t) + 2)), (xwi (m2 M)), (xdr (m2 M)), (xem (m2 M)), (xec (m2 M))), (m3 M), (m4 M), (m5 M))) H := hP
      have hD : va_D A (wMo g a ((m1 M), ((xle (m2 M)), (vp_updL (xfr (m2 M)) t (((xfr (m2 M)) t) + ((((xsp (m2 M)) t) + v) / 2))), (vp_updL (xsp (m2 M)) t v), (vp_updL (vp_updL (xes (m2 M)) t (((xes (m2 M)) t) + (((((xsp (m2 M)) t) + v) / 2) + (((xdr (m2 M)) t).toInt64)))) t ((vp_updL (xfr (m2 M)) t (((xfr (m2 M)) t) + ((((xsp (m2 M)) t) + v) / 2))) t)), (vp_updL (xdo (m2 M)) t (((xdo (m2 M)) t) + 2)), (xwi (m2 M)), (xdr (m2 M)), (xem (m2 M)), (xec (m2 M))), (m3 M), (m4 M), (m5 M))) := hD
      refine lv_aload_n hx hb dMo_drive_187 rfl (lv_at hl 3 rfl) ?_
      refine va_get (D := D) (ci := iMo) (v := .ref (a 10)) (C := RMo) (T := TMo) (N := 32) hx hb htB inBMo hown hK hP 0 rfl rfl 10 (by decide) (htB _ b_380) (fun _ h9 => h9) rfl dMo_drive_188 ?_
      refine lv_iload_n hx hb dMo_drive_191 rfl (lv_at hl 4 rfl) ?_
      refine lv_lconst (v := 0) hx hb dMo_drive_192 (by decide) ?_
      refine mk_last (k := t) hx hb hK hP hD hS 10 3 rfl rfl rfl ⟨ht, by decide⟩ dMo_drive_193 (fun H locs hP hD hS => ?_)
      have hP : va_P D vwCl (wMo g a ((m1 M), ((xle (m2 M)), (vp_updL (xfr (m2 M)) t (((xfr (m2 M)) t) + ((((xsp (m2 M)) t) + v) / 2))), (vp_updL (xsp (m2 M)) t v), (vp_updL (vp_updL (xes (m2 M)) t (((xes (m2 M)) t) + (((((xsp (m2 M)) t) + v) / 2) + (((xdr (m2 M)) t).toInt64)))) t ((vp_updL (xfr (m2 M)) t (((xfr (m2 M)) t) + ((((xsp (m2 M)) t) + v) / 2))) t)), (vp_updL (vp_updL (xdo (m2 M)) t (((xdo (m2 M)) t) + 2)) t 0), (xwi (m2 M)), (xdr (m2 M)), (xem (m2 M)), (xec (m2 M))), (m3 M), (m4 M), (m5 M))) H := hP
      have hD : va_D A (wMo g a ((m1 M), ((xle (m2 M)), (vp_updL (xfr (m2 M)) t (((xfr (m2 M)) t) + ((((xsp (m2 M)) t) + v) / 2))), (vp_updL (xsp (m2 M)) t v), (vp_updL (vp_updL (xes (m2 M)) t (((xes (m2 M)) t) + (((((xsp (m2 M)) t) + v) / 2) + (((xdr (m2 M)) t).toInt64)))) t ((vp_updL (xfr (m2 M)) t (((xfr (m2 M)) t) + ((((xsp (m2 M)) t) + v) / 2))) t)), (vp_updL (vp_updL (xdo (m2 M)) t (((xdo (m2 M)) t) + 2)) t 0), (xwi (m2 M)), (xdr (m2 M)), (xem (m2 M)), (xec (m2 M))), (m3 M), (m4 M), (m5 M))) := hD
      refine lv_lload_n hx hb dMo_drive_194 rfl (lv_at hl 2 rfl) ?_
      refine lv_lconst (v := 0) hx hb dMo_drive_195 (by decide) ?_
      refine mk_lif_ne (tgt := 207) hx hb dMo_drive_196 dMo_drive_197 (by decide) (fun c_7 => ?_) (fun c_7 => ?_)
      · have hE : wMo g a (yDrv2 M t v) = wMo g a ((m1 M), ((xle (m2 M)), (vp_updL (xfr (m2 M)) t (((xfr (m2 M)) t) + ((((xsp (m2 M)) t) + v) / 2))), (vp_updL (xsp (m2 M)) t v), (vp_updL (vp_updL (xes (m2 M)) t (((xes (m2 M)) t) + (((((xsp (m2 M)) t) + v) / 2) + (((xdr (m2 M)) t).toInt64)))) t ((vp_updL (xfr (m2 M)) t (((xfr (m2 M)) t) + ((((xsp (m2 M)) t) + v) / 2))) t)), (vp_updL (vp_updL (xdo (m2 M)) t (((xdo (m2 M)) t) + 2)) t 0), (xwi (m2 M)), (xdr (m2 M)), (xem (m2 M)), (xec (m2 M))), (m3 M), (m4 M), (m5 M)) := (by simp only [yDrv2, yMv4, yMv3, yMv2, yMv1, if_neg c_1, if_neg c_5, if_neg c_7])
        rw [hE] at kk207
        exact kk207 H locs ls hP hD hS (lv_sub hl [3, 4] rfl)
      · refine lv_aload_n hx hb dMo_drive_200 rfl (lv_at hl 3 rfl) ?_
        refine va_get (D := D) (ci := iMo) (v := .ref (a 20)) (C := RMo) (T := TMo) (N := 32) hx hb htB inBMo hown hK hP 0 rfl rfl 20 (by decide) (htB _ b_390) (fun _ h9 => h9) rfl dMo_drive_201 ?_
        refine lv_iload_n hx hb dMo_drive_204 rfl (lv_at hl 4 rfl) ?_
        refine lv_iconst (v := 0) hx hb dMo_drive_205 (by decide) ?_
        refine mk_zast (k := t) (f := (xem (m2 M))) (z := false) hx hb hK hP hD hS 13 1 rfl rfl rfl ⟨ht, by decide⟩ dMo_drive_206 (fun H locs hP hD hS => ?_)
        have hP : va_P D vwCl (wMo g a ((m1 M), ((xle (m2 M)), (vp_updL (xfr (m2 M)) t (((xfr (m2 M)) t) + ((((xsp (m2 M)) t) + v) / 2))), (vp_updL (xsp (m2 M)) t v), (vp_updL (vp_updL (xes (m2 M)) t (((xes (m2 M)) t) + (((((xsp (m2 M)) t) + v) / 2) + (((xdr (m2 M)) t).toInt64)))) t ((vp_updL (xfr (m2 M)) t (((xfr (m2 M)) t) + ((((xsp (m2 M)) t) + v) / 2))) t)), (vp_updL (vp_updL (xdo (m2 M)) t (((xdo (m2 M)) t) + 2)) t 0), (xwi (m2 M)), (xdr (m2 M)), (va_up (xem (m2 M)) t false), (xec (m2 M))), (m3 M), (m4 M), (m5 M))) H := hP
        have hD : va_D A (wMo g a ((m1 M), ((xle (m2 M)), (vp_updL (xfr (m2 M)) t (((xfr (m2 M)) t) + ((((xsp (m2 M)) t) + v) / 2))), (vp_updL (xsp (m2 M)) t v), (vp_updL (vp_updL (xes (m2 M)) t (((xes (m2 M)) t) + (((((xsp (m2 M)) t) + v) / 2) + (((xdr (m2 M)) t).toInt64)))) t ((vp_updL (xfr (m2 M)) t (((xfr (m2 M)) t) + ((((xsp (m2 M)) t) + v) / 2))) t)), (vp_updL (vp_updL (xdo (m2 M)) t (((xdo (m2 M)) t) + 2)) t 0), (xwi (m2 M)), (xdr (m2 M)), (va_up (xem (m2 M)) t false), (xec (m2 M))), (m3 M), (m4 M), (m5 M))) := hD
        have hE : wMo g a (yDrv2 M t v) = wMo g a ((m1 M), ((xle (m2 M)), (vp_updL (xfr (m2 M)) t (((xfr (m2 M)) t) + ((((xsp (m2 M)) t) + v) / 2))), (vp_updL (xsp (m2 M)) t v), (vp_updL (vp_updL (xes (m2 M)) t (((xes (m2 M)) t) + (((((xsp (m2 M)) t) + v) / 2) + (((xdr (m2 M)) t).toInt64)))) t ((vp_updL (xfr (m2 M)) t (((xfr (m2 M)) t) + ((((xsp (m2 M)) t) + v) / 2))) t)), (vp_updL (vp_updL (xdo (m2 M)) t (((xdo (m2 M)) t) + 2)) t 0), (xwi (m2 M)), (xdr (m2 M)), (va_up (xem (m2 M)) t false), (xec (m2 M))), (m3 M), (m4 M), (m5 M)) := (by simp only [yDrv2, yMv4, yMv3, yMv2, yMv1, if_neg c_1, if_neg c_5, if_pos c_7])
        rw [hE] at kk207
        exact kk207 H locs ls hP hD hS (lv_sub hl [3, 4] rfl)
set_option maxHeartbeats 4000000 in
set_option maxRecDepth 100000 in
/-- drive -/
theorem k_drive (l : Launch) (D : va_G) (g : Nat → ClassId) (a : Nat → Nat) (M : zMo) (t : Nat) (ht : t < 4) : mk_Wv l yMo_drive wsMo_drive ({ frames := 3, cells := 0, slots := 0, locals := 81 }) D vwCl (zty g) [.ref (a 0), .int (nI t)] (wMo g a M) (wMo g a (yDrive M t)) := by
  intro sz
  refine Met.ofW (cc := cMo_drive) (maxL := 7) (ret := none) (by decide) rfl ?_
  intro p e s m args below meth cd s₁ B hml hv
  obtain ⟨rfl, hsz, hP, hK, hD0⟩ := hv
  have hx := B.exec
  have hb := B.bytes
  have hr := B.returns
  have hts := atoms_spec (ws := wsMo_drive) B.pre
  have htB := fun (w : Cond) (h : w ∈ BIG) => hts w (List.mem_cons_of_mem _ h)
  have hown : s.vm.findClass RMo = some m.cls := findClass_of_methodNamed B.named
  have hlocks := B.notSynchronized
  subst hsz
  have hD := hD0.self (sz := s.heap.size)
  generalize hAe : va_A (wMo g a M) s.heap.size = A at hD ⊢
  have hA : ∀ q : Nat, s.heap.size ≤ q → A q := fun q h => by rw [← hAe]; exact Or.inr h
  have hS : va_S A s.heap s.heap [] := va_S.rf
  have hl := lv_entry ([.ref (a 0), .int (nI t)]) (n := 7) (Nat.le_of_ble_eq_true rfl)
  rw [lg_entry_eq]
  generalize (lg_sl ([.ref (a 0), .int (nI t)]) ++ List.replicate (7 - (lg_sl ([.ref (a 0), .int (nI t)])).length) Slot.unset).toArray = ls at hl ⊢
  have hl : lv_has ls 7 [(0, .ref (a 0)), (1, .int (nI t))] := hl
  have hP : va_P D vwCl (wMo g a M) s.heap := hP
  refine lv_aload_n hx hb dMo_drive_0 rfl (lv_at hl 0 rfl) ?_
  refine va_get (D := D) (ci := iMo) (v := .ref (a 20)) (C := RMo) (T := TMo) (N := 32) hx hb htB inBMo hown hK hP 0 rfl rfl 20 (by decide) (htB _ b_390) (fun _ h9 => h9) rfl dMo_drive_1 ?_
  refine lv_iload_n hx hb dMo_drive_4 rfl (lv_at hl 1 rfl) ?_
  refine mk_zald (k := t) hx hb hK hP 13 1 rfl rfl rfl ⟨ht, by decide⟩ dMo_drive_5 ?_
  refine lv_if_ne (tgt := 69) hx hb dMo_drive_6 (by decide) (fun c_1 => ?_) (fun c_1 => ?_)
  · have hE1 : yDrv1 M t = M := (by simp only [yDrv1, yInto, if_neg c_1])
    have hP := mk_eqP (w2 := wMo g a (yDrv1 M t)) (by rw [hE1]) hP
    have hD : va_D A (wMo g a (yDrv1 M t)) := mk_eqD (by rw [hE1]) hD
    clear hE1
    refine lv_aload_n hx hb dMo_drive_69 rfl (lv_at hl 0 rfl) ?_
    refine lv_iload_n hx hb dMo_drive_70 rfl (lv_at hl 1 rfl) ?_
    refine lv_aload_n hx hb dMo_drive_71 rfl (lv_at hl 0 rfl) ?_
    refine lv_iload_n hx hb dMo_drive_72 rfl (lv_at hl 1 rfl) ?_
    refine mk_rdV (As := [.int (nI t)]) (rest := [.int (nI t), .ref (a 0)]) (w := (wMo g a (yDrv1 M t))) (q0 := (RMo, TMo, 32)) (ci := iMo) ⟨hx, hb, hml, hown, hts⟩ (k_pull l D g a (yDrv1 M t) t ht ) (cwV 1 hts (gd_V b_564 b_566 bp_21 b_6 b_567) rfl rfl rfl (by decide +kernel) ⟨Nat.le_of_ble_eq_true rfl, Nat.le_of_ble_eq_true rfl⟩) hK hP hD hS hA (List.range 28) mo_cutAll mo_ndAll rfl rfl rfl hl.1 rfl (Nat.le_of_ble_eq_true rfl) dMo_drive_73 ⟨Nat.zero_le _, Nat.zero_le _⟩ (fun H locs hP hS => ?_)
    refine mk_rlV (As := [.int (nI t), .int (yPull (yDrv1 M t) t)]) (rest := []) (w := (wMo g a (yDrv1 M t))) (q0 := (RMo, TMo, 32)) (ci := iMo) ⟨hx, hb, hml, hown, hts⟩ (k_next l D g a (yDrv1 M t) t ht (yPull (yDrv1 M t) t)) (cwV 2 hts (gd_V b_568 b_570 bp_22 b_6 b_571) rfl rfl rfl (by decide +kernel) ⟨Nat.le_of_ble_eq_true rfl, Nat.le_of_ble_eq_true rfl⟩) hK hP hD hS hA (List.range 28) mo_cutAll mo_ndAll rfl rfl rfl hl.1 rfl (Nat.le_of_ble_eq_true rfl) dMo_drive_76 ⟨Nat.zero_le _, Nat.zero_le _⟩ (fun H locs hP hS => ?_)
    refine sq_drive (a := a) (M := (yDrv1 M t)) (t := t) (v := yNext (yDrv1 M t) t (yPull (yDrv1 M t) t)) ht hx hb hml hown hts hK hA hP hD hS (lv_sub hl [0, 1] rfl) (fun H locs ls hP hD hS hl => ?_)
    have hE : wMo g a (yDrive M t) = wMo g a (yDrv2 (yDrv1 M t) t (yNext (yDrv1 M t) t (yPull (yDrv1 M t) t))) := (by first | rfl | (simp only [yDrive] <;> rfl))
    exact W.vret hx hb hr (fun t9 ht hW => ⟨⟨(), rfl, trivial, mk_end ht hE hP⟩, hS.F ht⟩) hS.2.2 dMo_drive_207
  · refine lv_aload_n hx hb dMo_drive_9 rfl (lv_at hl 0 rfl) ?_
    refine va_get (D := D) (ci := iMo) (v := .ref (a 8)) (C := RMo) (T := TMo) (N := 32) hx hb htB inBMo hown hK hP 0 rfl rfl 8 (by decide) (htB _ b_378) (fun _ h9 => h9) rfl dMo_drive_10 ?_
    refine lv_iload_n hx hb dMo_drive_13 rfl (lv_at hl 1 rfl) ?_
    refine mk_lald (k := t) hx hb hK hP 8 3 rfl rfl rfl ⟨ht, by decide⟩ dMo_drive_14 ?_
    refine lv_lconst (v := 0) hx hb dMo_drive_15 (by decide) ?_
    refine mk_lif_le (tgt := 69) hx hb dMo_drive_16 dMo_drive_17 (by decide) (fun c_2 => ?_) (fun c_2 => ?_)
    · have hE1 : yDrv1 M t = M := (by simp only [yDrv1, yInto, if_pos c_1, if_pos c_2])
      have hP := mk_eqP (w2 := wMo g a (yDrv1 M t)) (by rw [hE1]) hP
      have hD : va_D A (wMo g a (yDrv1 M t)) := mk_eqD (by rw [hE1]) hD
      clear hE1
      refine lv_aload_n hx hb dMo_drive_69 rfl (lv_at hl 0 rfl) ?_
      refine lv_iload_n hx hb dMo_drive_70 rfl (lv_at hl 1 rfl) ?_
      refine lv_aload_n hx hb dMo_drive_71 rfl (lv_at hl 0 rfl) ?_
      refine lv_iload_n hx hb dMo_drive_72 rfl (lv_at hl 1 rfl) ?_
      refine mk_rdV (As := [.int (nI t)]) (rest := [.int (nI t), .ref (a 0)]) (w := (wMo g a (yDrv1 M t))) (q0 := (RMo, TMo, 32)) (ci := iMo) ⟨hx, hb, hml, hown, hts⟩ (k_pull l D g a (yDrv1 M t) t ht ) (cwV 1 hts (gd_V b_564 b_566 bp_21 b_6 b_567) rfl rfl rfl (by decide +kernel) ⟨Nat.le_of_ble_eq_true rfl, Nat.le_of_ble_eq_true rfl⟩) hK hP hD hS hA (List.range 28) mo_cutAll mo_ndAll rfl rfl rfl hl.1 rfl (Nat.le_of_ble_eq_true rfl) dMo_drive_73 ⟨Nat.zero_le _, Nat.zero_le _⟩ (fun H locs hP hS => ?_)
      refine mk_rlV (As := [.int (nI t), .int (yPull (yDrv1 M t) t)]) (rest := []) (w := (wMo g a (yDrv1 M t))) (q0 := (RMo, TMo, 32)) (ci := iMo) ⟨hx, hb, hml, hown, hts⟩ (k_next l D g a (yDrv1 M t) t ht (yPull (yDrv1 M t) t)) (cwV 2 hts (gd_V b_568 b_570 bp_22 b_6 b_571) rfl rfl rfl (by decide +kernel) ⟨Nat.le_of_ble_eq_true rfl, Nat.le_of_ble_eq_true rfl⟩) hK hP hD hS hA (List.range 28) mo_cutAll mo_ndAll rfl rfl rfl hl.1 rfl (Nat.le_of_ble_eq_true rfl) dMo_drive_76 ⟨Nat.zero_le _, Nat.zero_le _⟩ (fun H locs hP hS => ?_)
      refine sq_drive (a := a) (M := (yDrv1 M t)) (t := t) (v := yNext (yDrv1 M t) t (yPull (yDrv1 M t) t)) ht hx hb hml hown hts hK hA hP hD hS (lv_sub hl [0, 1] rfl) (fun H locs ls hP hD hS hl => ?_)
      have hE : wMo g a (yDrive M t) = wMo g a (yDrv2 (yDrv1 M t) t (yNext (yDrv1 M t) t (yPull (yDrv1 M t) t))) := (by first | rfl | (simp only [yDrive] <;> rfl))
      exact W.vret hx hb hr (fun t9 ht hW => ⟨⟨(), rfl, trivial, mk_end ht hE hP⟩, hS.F ht⟩) hS.2.2 dMo_drive_207
    · refine lv_aload_n hx hb dMo_drive_20 rfl (lv_at hl 0 rfl) ?_
      refine lv_iload_n hx hb dMo_drive_21 rfl (lv_at hl 1 rfl) ?_
      refine mk_rdV (As := [.int (nI t)]) (rest := []) (w := (wMo g a M)) (q0 := (RMo, TMo, 32)) (ci := iMo) ⟨hx, hb, hml, hown, hts⟩ (k_old l D g a M t ht ) (cwV 1 hts (gd_V b_551 b_553 bp_19 b_6 b_554) rfl rfl rfl (by decide +kernel) ⟨Nat.le_of_ble_eq_true rfl, Nat.le_of_ble_eq_true rfl⟩) hK hP hD hS hA (List.range 28) mo_cutAll mo_ndAll rfl rfl rfl hl.1 rfl (Nat.le_of_ble_eq_true rfl) dMo_drive_22 ⟨Nat.zero_le _, Nat.zero_le _⟩ (fun H locs hP hS => ?_)
      refine lv_if_ne (tgt := 52) hx hb dMo_drive_25 (by decide) (fun c_3 => ?_) (fun c_3 => ?_)
      · refine lv_aload_n hx hb dMo_drive_52 rfl (lv_at hl 0 rfl) ?_
        refine va_get (D := D) (ci := iMo) (v := .ref (a 20)) (C := RMo) (T := TMo) (N := 32) hx hb htB inBMo hown hK hP 0 rfl rfl 20 (by decide) (htB _ b_390) (fun _ h9 => h9) rfl dMo_drive_53 ?_
        refine lv_iload_n hx hb dMo_drive_56 rfl (lv_at hl 1 rfl) ?_
        refine lv_iconst (v := 1) hx hb dMo_drive_57 (by decide) ?_
        refine mk_zast (k := t) (f := (xem (m2 M))) (z := true) hx hb hK hP hD hS 13 1 rfl rfl rfl ⟨ht, by decide⟩ dMo_drive_58 (fun H locs hP hD hS => ?_)
        have hP : va_P D vwCl (wMo g a ((m1 M), ((xle (m2 M)), (xfr (m2 M)), (xsp (m2 M)), (xes (m2 M)), (xdo (m2 M)), (xwi (m2 M)), (xdr (m2 M)), (va_up (xem (m2 M)) t true), (xec (m2 M))), (m3 M), (m4 M), (m5 M))) H := hP
        have hD : va_D A (wMo g a ((m1 M), ((xle (m2 M)), (xfr (m2 M)), (xsp (m2 M)), (xes (m2 M)), (xdo (m2 M)), (xwi (m2 M)), (xdr (m2 M)), (va_up (xem (m2 M)) t true), (xec (m2 M))), (m3 M), (m4 M), (m5 M))) := hD
        refine lv_aload_n hx hb dMo_drive_59 rfl (lv_at hl 0 rfl) ?_
        refine va_get (D := D) (ci := iMo) (v := .ref (a 21)) (C := RMo) (T := TMo) (N := 32) hx hb htB inBMo hown hK hP 0 rfl rfl 21 (by decide) (htB _ b_391) (fun _ h9 => h9) rfl dMo_drive_60 ?_
        refine lv_iload_n hx hb dMo_drive_63 rfl (lv_at hl 1 rfl) ?_
        refine lv_dup2_11 hx hb dMo_drive_64 rfl rfl ?_
        refine mk_iald (k := t) hx hb hK hP 14 0 rfl rfl rfl ⟨ht, by decide⟩ dMo_drive_65 ?_
        refine lv_iconst (v := 1) hx hb dMo_drive_66 (by decide) ?_
        refine lv_iadd hx hb dMo_drive_67 ?_
        refine mk_iast (k := t) hx hb hK hP hD hS 14 0 rfl rfl rfl ⟨ht, by decide⟩ dMo_drive_68 (fun H locs hP hD hS => ?_)
        have hP : va_P D vwCl (wMo g a ((m1 M), ((xle (m2 M)), (xfr (m2 M)), (xsp (m2 M)), (xes (m2 M)), (xdo (m2 M)), (xwi (m2 M)), (xdr (m2 M)), (va_up (xem (m2 M)) t true), (upd (xec (m2 M)) t (((xec (m2 M)) t) + 1))), (m3 M), (m4 M), (m5 M))) H := hP
        have hD : va_D A (wMo g a ((m1 M), ((xle (m2 M)), (xfr (m2 M)), (xsp (m2 M)), (xes (m2 M)), (xdo (m2 M)), (xwi (m2 M)), (xdr (m2 M)), (va_up (xem (m2 M)) t true), (upd (xec (m2 M)) t (((xec (m2 M)) t) + 1))), (m3 M), (m4 M), (m5 M))) := hD
        have hE1 : yDrv1 M t = ((m1 M), ((xle (m2 M)), (xfr (m2 M)), (xsp (m2 M)), (xes (m2 M)), (xdo (m2 M)), (xwi (m2 M)), (xdr (m2 M)), (va_up (xem (m2 M)) t true), (upd (xec (m2 M)) t (((xec (m2 M)) t) + 1))), (m3 M), (m4 M), (m5 M)) := (by simp only [yDrv1, yInto, if_pos c_1, if_neg c_2, if_neg c_3])
        have hP := mk_eqP (w2 := wMo g a (yDrv1 M t)) (by rw [hE1]) hP
        have hD : va_D A (wMo g a (yDrv1 M t)) := mk_eqD (by rw [hE1]) hD
        clear hE1
        refine lv_aload_n hx hb dMo_drive_69 rfl (lv_at hl 0 rfl) ?_
        refine lv_iload_n hx hb dMo_drive_70 rfl (lv_at hl 1 rfl) ?_
        refine lv_aload_n hx hb dMo_drive_71 rfl (lv_at hl 0 rfl) ?_
        refine lv_iload_n hx hb dMo_drive_72 rfl (lv_at hl 1 rfl) ?_
        refine mk_rdV (As := [.int (nI t)]) (rest := [.int (nI t), .ref (a 0)]) (w := (wMo g a (yDrv1 M t))) (q0 := (RMo, TMo, 32)) (ci := iMo) ⟨hx, hb, hml, hown, hts⟩ (k_pull l D g a (yDrv1 M t) t ht ) (cwV 1 hts (gd_V b_564 b_566 bp_21 b_6 b_567) rfl rfl rfl (by decide +kernel) ⟨Nat.le_of_ble_eq_true rfl, Nat.le_of_ble_eq_true rfl⟩) hK hP hD hS hA (List.range 28) mo_cutAll mo_ndAll rfl rfl rfl hl.1 rfl (Nat.le_of_ble_eq_true rfl) dMo_drive_73 ⟨Nat.zero_le _, Nat.zero_le _⟩ (fun H locs hP hS => ?_)
        refine mk_rlV (As := [.int (nI t), .int (yPull (yDrv1 M t) t)]) (rest := []) (w := (wMo g a (yDrv1 M t))) (q0 := (RMo, TMo, 32)) (ci := iMo) ⟨hx, hb, hml, hown, hts⟩ (k_next l D g a (yDrv1 M t) t ht (yPull (yDrv1 M t) t)) (cwV 2 hts (gd_V b_568 b_570 bp_22 b_6 b_571) rfl rfl rfl (by decide +kernel) ⟨Nat.le_of_ble_eq_true rfl, Nat.le_of_ble_eq_true rfl⟩) hK hP hD hS hA (List.range 28) mo_cutAll mo_ndAll rfl rfl rfl hl.1 rfl (Nat.le_of_ble_eq_true rfl) dMo_drive_76 ⟨Nat.zero_le _, Nat.zero_le _⟩ (fun H locs hP hS => ?_)
        refine sq_drive (a := a) (M := (yDrv1 M t)) (t := t) (v := yNext (yDrv1 M t) t (yPull (yDrv1 M t) t)) ht hx hb hml hown hts hK hA hP hD hS (lv_sub hl [0, 1] rfl) (fun H locs ls hP hD hS hl => ?_)
        have hE : wMo g a (yDrive M t) = wMo g a (yDrv2 (yDrv1 M t) t (yNext (yDrv1 M t) t (yPull (yDrv1 M t) t))) := (by first | rfl | (simp only [yDrive] <;> rfl))
        exact W.vret hx hb hr (fun t9 ht hW => ⟨⟨(), rfl, trivial, mk_end ht hE hP⟩, hS.F ht⟩) hS.2.2 dMo_drive_207
      · refine lv_aload_n hx hb dMo_drive_28 rfl (lv_at hl 0 rfl) ?_
        refine lv_iload_n hx hb dMo_drive_29 rfl (lv_at hl 1 rfl) ?_
        refine lv_aload_n hx hb dMo_drive_30 rfl (lv_at hl 0 rfl) ?_
        refine va_get (D := D) (ci := iMo) (v := .ref (a 8)) (C := RMo) (T := TMo) (N := 32) hx hb htB inBMo hown hK hP 0 rfl rfl 8 (by decide) (htB _ b_378) (fun _ h9 => h9) rfl dMo_drive_31 ?_
        refine lv_iload_n hx hb dMo_drive_34 rfl (lv_at hl 1 rfl) ?_
        refine mk_lald (k := t) hx hb hK hP 8 3 rfl rfl rfl ⟨ht, by decide⟩ dMo_drive_35 ?_
        refine lv_aload_n hx hb dMo_drive_36 rfl (lv_at hl 0 rfl) ?_
        refine lv_iload_n hx hb dMo_drive_37 rfl (lv_at hl 1 rfl) ?_
        refine mk_rlV (As := [.int (nI t)]) (rest := [.long ((xsp (m2 M)) t), .int (nI t), .ref (a 0)]) (w := (wMo g a M)) (q0 := (RMo, TMo, 32)) (ci := iMo) ⟨hx, hb, hml, hown, hts⟩ (k_reach l D g a M t ht ) (cwV 1 hts (gd_V b_514 b_516 bp_10 b_6 b_517) rfl rfl rfl (by decide +kernel) ⟨Nat.le_of_ble_eq_true rfl, Nat.le_of_ble_eq_true rfl⟩) hK hP hD hS hA (List.range 28) mo_cutAll mo_ndAll rfl rfl rfl hl.1 rfl (Nat.le_of_ble_eq_true rfl) dMo_drive_38 ⟨Nat.zero_le _, Nat.zero_le _⟩ (fun H locs hP hS => ?_)
        refine lv_aload_n hx hb dMo_drive_41 rfl (lv_at hl 0 rfl) ?_
        refine lv_iload_n hx hb dMo_drive_42 rfl (lv_at hl 1 rfl) ?_
        refine mk_rlV (As := [.int (nI t)]) (rest := [.long (yReach M t), .long ((xsp (m2 M)) t), .int (nI t), .ref (a 0)]) (w := (wMo g a M)) (q0 := (RMo, TMo, 32)) (ci := iMo) ⟨hx, hb, hml, hown, hts⟩ (k_tail l D g a M t ht ) (cwV 1 hts (gd_V b_518 b_520 bp_11 b_6 b_521) rfl rfl rfl (by decide +kernel) ⟨Nat.le_of_ble_eq_true rfl, Nat.le_of_ble_eq_true rfl⟩) hK hP hD hS hA (List.range 28) mo_cutAll mo_ndAll rfl rfl rfl hl.1 rfl (Nat.le_of_ble_eq_true rfl) dMo_drive_43 ⟨Nat.zero_le _, Nat.zero_le _⟩ (fun H locs hP hS => ?_)
        refine mk_rdV (As := [.int (nI t), .long ((xsp (m2 M)) t), .long (yReach M t), .long (yTail M t)]) (rest := []) (w := (wMo g a M)) (q0 := (RMo, TMo, 32)) (ci := iMo) ⟨hx, hb, hml, hown, hts⟩ (k_safe l D g a M t ht ((xsp (m2 M)) t) (yReach M t) (yTail M t)) (cwV 4 hts (gd_V b_555 b_557 bp_20 b_6 b_558) rfl rfl rfl (by decide +kernel) ⟨Nat.le_of_ble_eq_true rfl, Nat.le_of_ble_eq_true rfl⟩) hK hP hD hS hA (List.range 28) mo_cutAll mo_ndAll rfl rfl rfl hl.1 rfl (Nat.le_of_ble_eq_true rfl) dMo_drive_46 ⟨Nat.zero_le _, Nat.zero_le _⟩ (fun H locs hP hS => ?_)
        refine lv_if_ne (tgt := 69) hx hb dMo_drive_49 (by decide) (fun c_4 => ?_) (fun c_4 => ?_)
        · have hE1 : yDrv1 M t = M := (by simp only [yDrv1, yInto, if_pos c_1, if_neg c_2, if_pos c_3, if_neg c_4])
          have hP := mk_eqP (w2 := wMo g a (yDrv1 M t)) (by rw [hE1]) hP
          have hD : va_D A (wMo g a (yDrv1 M t)) := mk_eqD (by rw [hE1]) hD
          clear hE1
          refine lv_aload_n hx hb dMo_drive_69 rfl (lv_at hl 0 rfl) ?_
          refine lv_iload_n hx hb dMo_drive_70 rfl (lv_at hl 1 rfl) ?_
          refine lv_aload_n hx hb dMo_drive_71 rfl (lv_at hl 0 rfl) ?_
          refine lv_iload_n hx hb dMo_drive_72 rfl (lv_at hl 1 rfl) ?_
          refine mk_rdV (As := [.int (nI t)]) (rest := [.int (nI t), .ref (a 0)]) (w := (wMo g a (yDrv1 M t))) (q0 := (RMo, TMo, 32)) (ci := iMo) ⟨hx, hb, hml, hown, hts⟩ (k_pull l D g a (yDrv1 M t) t ht ) (cwV 1 hts (gd_V b_564 b_566 bp_21 b_6 b_567) rfl rfl rfl (by decide +kernel) ⟨Nat.le_of_ble_eq_true rfl, Nat.le_of_ble_eq_true rfl⟩) hK hP hD hS hA (List.range 28) mo_cutAll mo_ndAll rfl rfl rfl hl.1 rfl (Nat.le_of_ble_eq_true rfl) dMo_drive_73 ⟨Nat.zero_le _, Nat.zero_le _⟩ (fun H locs hP hS => ?_)
          refine mk_rlV (As := [.int (nI t), .int (yPull (yDrv1 M t) t)]) (rest := []) (w := (wMo g a (yDrv1 M t))) (q0 := (RMo, TMo, 32)) (ci := iMo) ⟨hx, hb, hml, hown, hts⟩ (k_next l D g a (yDrv1 M t) t ht (yPull (yDrv1 M t) t)) (cwV 2 hts (gd_V b_568 b_570 bp_22 b_6 b_571) rfl rfl rfl (by decide +kernel) ⟨Nat.le_of_ble_eq_true rfl, Nat.le_of_ble_eq_true rfl⟩) hK hP hD hS hA (List.range 28) mo_cutAll mo_ndAll rfl rfl rfl hl.1 rfl (Nat.le_of_ble_eq_true rfl) dMo_drive_76 ⟨Nat.zero_le _, Nat.zero_le _⟩ (fun H locs hP hS => ?_)
          refine sq_drive (a := a) (M := (yDrv1 M t)) (t := t) (v := yNext (yDrv1 M t) t (yPull (yDrv1 M t) t)) ht hx hb hml hown hts hK hA hP hD hS (lv_sub hl [0, 1] rfl) (fun H locs ls hP hD hS hl => ?_)
          have hE : wMo g a (yDrive M t) = wMo g a (yDrv2 (yDrv1 M t) t (yNext (yDrv1 M t) t (yPull (yDrv1 M t) t))) := (by first | rfl | (simp only [yDrive] <;> rfl))
          exact W.vret hx hb hr (fun t9 ht hW => ⟨⟨(), rfl, trivial, mk_end ht hE hP⟩, hS.F ht⟩) hS.2.2 dMo_drive_207
        · refine lv_aload_n hx hb dMo_drive_52 rfl (lv_at hl 0 rfl) ?_
          refine va_get (D := D) (ci := iMo) (v := .ref (a 20)) (C := RMo) (T := TMo) (N := 32) hx hb htB inBMo hown hK hP 0 rfl rfl 20 (by decide) (htB _ b_390) (fun _ h9 => h9) rfl dMo_drive_53 ?_
          refine lv_iload_n hx hb dMo_drive_56 rfl (lv_at hl 1 rfl) ?_
          refine lv_iconst (v := 1) hx hb dMo_drive_57 (by decide) ?_
          refine mk_zast (k := t) (f := (xem (m2 M))) (z := true) hx hb hK hP hD hS 13 1 rfl rfl rfl ⟨ht, by decide⟩ dMo_drive_58 (fun H locs hP hD hS => ?_)
          have hP : va_P D vwCl (wMo g a ((m1 M), ((xle (m2 M)), (xfr (m2 M)), (xsp (m2 M)), (xes (m2 M)), (xdo (m2 M)), (xwi (m2 M)), (xdr (m2 M)), (va_up (xem (m2 M)) t true), (xec (m2 M))), (m3 M), (m4 M), (m5 M))) H := hP
          have hD : va_D A (wMo g a ((m1 M), ((xle (m2 M)), (xfr (m2 M)), (xsp (m2 M)), (xes (m2 M)), (xdo (m2 M)), (xwi (m2 M)), (xdr (m2 M)), (va_up (xem (m2 M)) t true), (xec (m2 M))), (m3 M), (m4 M), (m5 M))) := hD
          refine lv_aload_n hx hb dMo_drive_59 rfl (lv_at hl 0 rfl) ?_
          refine va_get (D := D) (ci := iMo) (v := .ref (a 21)) (C := RMo) (T := TMo) (N := 32) hx hb htB inBMo hown hK hP 0 rfl rfl 21 (by decide) (htB _ b_391) (fun _ h9 => h9) rfl dMo_drive_60 ?_
          refine lv_iload_n hx hb dMo_drive_63 rfl (lv_at hl 1 rfl) ?_
          refine lv_dup2_11 hx hb dMo_drive_64 rfl rfl ?_
          refine mk_iald (k := t) hx hb hK hP 14 0 rfl rfl rfl ⟨ht, by decide⟩ dMo_drive_65 ?_
          refine lv_iconst (v := 1) hx hb dMo_drive_66 (by decide) ?_
          refine lv_iadd hx hb dMo_drive_67 ?_
          refine mk_iast (k := t) hx hb hK hP hD hS 14 0 rfl rfl rfl ⟨ht, by decide⟩ dMo_drive_68 (fun H locs hP hD hS => ?_)
          have hP : va_P D vwCl (wMo g a ((m1 M), ((xle (m2 M)), (xfr (m2 M)), (xsp (m2 M)), (xes (m2 M)), (xdo (m2 M)), (xwi (m2 M)), (xdr (m2 M)), (va_up (xem (m2 M)) t true), (upd (xec (m2 M)) t (((xec (m2 M)) t) + 1))), (m3 M), (m4 M), (m5 M))) H := hP
          have hD : va_D A (wMo g a ((m1 M), ((xle (m2 M)), (xfr (m2 M)), (xsp (m2 M)), (xes (m2 M)), (xdo (m2 M)), (xwi (m2 M)), (xdr (m2 M)), (va_up (xem (m2 M)) t true), (upd (xec (m2 M)) t (((xec (m2 M)) t) + 1))), (m3 M), (m4 M), (m5 M))) := hD
          have hE1 : yDrv1 M t = ((m1 M), ((xle (m2 M)), (xfr (m2 M)), (xsp (m2 M)), (xes (m2 M)), (xdo (m2 M)), (xwi (m2 M)), (xdr (m2 M)), (va_up (xem (m2 M)) t true), (upd (xec (m2 M)) t (((xec (m2 M)) t) + 1))), (m3 M), (m4 M), (m5 M)) := (by simp only [yDrv1, yInto, if_pos c_1, if_neg c_2, if_pos c_3, if_pos c_4])
          have hP := mk_eqP (w2 := wMo g a (yDrv1 M t)) (by rw [hE1]) hP
          have hD : va_D A (wMo g a (yDrv1 M t)) := mk_eqD (by rw [hE1]) hD
          clear hE1
          refine lv_aload_n hx hb dMo_drive_69 rfl (lv_at hl 0 rfl) ?_
          refine lv_iload_n hx hb dMo_drive_70 rfl (lv_at hl 1 rfl) ?_
          refine lv_aload_n hx hb dMo_drive_71 rfl (lv_at hl 0 rfl) ?_
          refine lv_iload_n hx hb dMo_drive_72 rfl (lv_at hl 1 rfl) ?_
          refine mk_rdV (As := [.int (nI t)]) (rest := [.int (nI t), .ref (a 0)]) (w := (wMo g a (yDrv1 M t))) (q0 := (RMo, TMo, 32)) (ci := iMo) ⟨hx, hb, hml, hown, hts⟩ (k_pull l D g a (yDrv1 M t) t ht ) (cwV 1 hts (gd_V b_564 b_566 bp_21 b_6 b_567) rfl rfl rfl (by decide +kernel) ⟨Nat.le_of_ble_eq_true rfl, Nat.le_of_ble_eq_true rfl⟩) hK hP hD hS hA (List.range 28) mo_cutAll mo_ndAll rfl rfl rfl hl.1 rfl (Nat.le_of_ble_eq_true rfl) dMo_drive_73 ⟨Nat.zero_le _, Nat.zero_le _⟩ (fun H locs hP hS => ?_)
          refine mk_rlV (As := [.int (nI t), .int (yPull (yDrv1 M t) t)]) (rest := []) (w := (wMo g a (yDrv1 M t))) (q0 := (RMo, TMo, 32)) (ci := iMo) ⟨hx, hb, hml, hown, hts⟩ (k_next l D g a (yDrv1 M t) t ht (yPull (yDrv1 M t) t)) (cwV 2 hts (gd_V b_568 b_570 bp_22 b_6 b_571) rfl rfl rfl (by decide +kernel) ⟨Nat.le_of_ble_eq_true rfl, Nat.le_of_ble_eq_true rfl⟩) hK hP hD hS hA (List.range 28) mo_cutAll mo_ndAll rfl rfl rfl hl.1 rfl (Nat.le_of_ble_eq_true rfl) dMo_drive_76 ⟨Nat.zero_le _, Nat.zero_le _⟩ (fun H locs hP hS => ?_)
          refine sq_drive (a := a) (M := (yDrv1 M t)) (t := t) (v := yNext (yDrv1 M t) t (yPull (yDrv1 M t) t)) ht hx hb hml hown hts hK hA hP hD hS (lv_sub hl [0, 1] rfl) (fun H locs ls hP hD hS hl => ?_)
          have hE : wMo g a (yDrive M t) = wMo g a (yDrv2 (yDrv1 M t) t (yNext (yDrv1 M t) t (yPull (yDrv1 M t) t))) := (by first | rfl | (simp only [yDrive] <;> rfl))
          exact W.vret hx hb hr (fun t9 ht hW => ⟨⟨(), rfl, trivial, mk_end ht hE hP⟩, hS.F ht⟩) hS.2.2 dMo_drive_207
