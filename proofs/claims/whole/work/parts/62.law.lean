set_option maxHeartbeats 8000000 in
set_option maxRecDepth 100000 in
theorem law_loop {p : Program} {l : Launch} {e : Env} {s : State} {m : MethodId} {below : List Frame} {meth : Method} {c : Code} {D : va_G} {g : Nat → ClassId} {G : zAd} {a : Nat → Nat} {b L : Nat} {xs : Nat → Int32} (hL : L ≤ 2048) (C0 : lw_At p s m meth c b L xs) (hG : gOK G) (hK : va_K D vwCl (zty g) s) : ∀ (n i : Nat) (S : zMB) (M : zMo) (H : Heap) (locs : List Loc) (ls : Array Slot), L + 1 ≤ i + n → i ≤ L → sn S ≤ 2 * i → Rel S M → va_P D vwCl (wMB g G S ++ wMo g a M) H → va_D (fun q : Nat => s.heap.size ≤ q) (wMB g G S ++ wMo g a M) → va_S (fun q : Nat => s.heap.size ≤ q) s.heap H locs → lv_has ls 4 [(3, .int (nI i)), (0, .ref b), (1, .ref (go G 0)), (2, .ref (a 0))] → W p l e room_1 s m #[Value.ref b] below meth c H locs 600000 7302249 (lw_Z below #[Value.ref b] s) (F0 m 18 ls []) := by
  obtain ⟨hx, hb, hr, hml, hown, hts, hX, hbl, hlocks, hgv⟩ := C0
  have htB := fun (w : Cond) (h : w ∈ BIG) => hts w (big_tbl h)
  have hA : ∀ q : Nat, s.heap.size ≤ q → (fun q : Nat => s.heap.size ≤ q) q := fun _ h => h
  have hbA : ¬ (fun q : Nat => s.heap.size ≤ q) b := Nat.not_le.mpr hbl
  intro n
  induction n with
  | zero =>
    intro i S M H locs ls h1 h2
    exact absurd h1 (by omega)
  | succ n ih =>
    intro i S M H locs ls hin hi hsn hR hP hD hS hl
    refine lv_iload_n hx hb dLa_law_18 rfl (lv_at hl 0 rfl) ?_
    refine lv_aload_n hx hb dLa_law_19 rfl (lv_at hl 1 rfl) ?_
    refine va_slen hx hb hX hbl hbA hS dLa_law_20 ?_
    refine lv_iconst (v := 4) hx hb dLa_law_21 (by decide) ?_
    refine lv_isub hx hb dLa_law_22 ?_
    refine lv_icmp_gt (tgt := 530) hx hb dLa_law_23 (by decide) (fun c_1 => ?_) (fun c_1 => ?_)
    · refine lv_iconst (v := 1) hx hb dLa_law_530 (by decide) ?_
      refine va_forget (fun q hq => hS.2.2 q hq) ?_
      exact lw_ret hx hb hr hlocks dLa_law_531
    · have hi4 : i + 4 ≤ L := law_lt hL hi c_1
      have hn4 : sn S ≤ 4096 := by omega
      obtain ⟨hb1, hb2, hb3⟩ := rel_b hR
      refine lv_aload_n hx hb dLa_law_26 rfl (lv_at hl 1 rfl) ?_
      refine lv_iload_n hx hb dLa_law_27 rfl (lv_at hl 0 rfl) ?_
      refine mk_sld (k := i) hx hb hX hbl hbA hS rfl ⟨by omega, by omega⟩ dLa_law_28 ?_
      refine lv_bipush (v := 15) hx hb dLa_law_29 (by decide) ?_
      refine lv_iand hx hb dLa_law_31 ?_
      by_cases c_2 : ((xs i) &&& 15) = 0
      · refine lv_tableIn (tgt := 96) hx hb dLa_law_32 (by rw [c_2]; decide +kernel) (by rw [c_2]; decide +kernel) (off := 64) (by rw [c_2]; decide +kernel) (by decide) ?_
        refine lv_aload_n hx hb dLa_law_96 rfl (lv_at hl 2 rfl) ?_
        refine lv_aload_n hx hb dLa_law_97 rfl (lv_at hl 1 rfl) ?_
        refine lv_iload_n hx hb dLa_law_98 rfl (lv_at hl 0 rfl) ?_
        refine lv_iconst (v := 1) hx hb dLa_law_99 (by decide) ?_
        refine lv_iadd hx hb dLa_law_100 ?_
        refine lv_topi (fun z_3 e_3 => ?_)
        have e_3 : z_3 = nI (i + 1) := e_3.trans (nI_add i 1)
        subst e_3
        refine mk_sld (k := (i + 1)) hx hb hX hbl hbA hS rfl ⟨by omega, by omega⟩ dLa_law_101 ?_
        refine lv_aload_n hx hb dLa_law_102 rfl (lv_at hl 1 rfl) ?_
        refine lv_iload_n hx hb dLa_law_103 rfl (lv_at hl 0 rfl) ?_
        refine lv_iconst (v := 2) hx hb dLa_law_104 (by decide) ?_
        refine lv_iadd hx hb dLa_law_105 ?_
        refine lv_topi (fun z_4 e_4 => ?_)
        have e_4 : z_4 = nI (i + 2) := e_4.trans (nI_add i 2)
        subst e_4
        refine mk_sld (k := (i + 2)) hx hb hX hbl hbA hS rfl ⟨by omega, by omega⟩ dLa_law_106 ?_
        refine lv_aload_n hx hb dLa_law_107 rfl (lv_at hl 1 rfl) ?_
        refine lv_iload_n hx hb dLa_law_108 rfl (lv_at hl 0 rfl) ?_
        refine lv_iconst (v := 3) hx hb dLa_law_109 (by decide) ?_
        refine lv_iadd hx hb dLa_law_110 ?_
        refine lv_topi (fun z_5 e_5 => ?_)
        have e_5 : z_5 = nI (i + 3) := e_5.trans (nI_add i 3)
        subst e_5
        refine mk_sld (k := (i + 3)) hx hb hX hbl hbA hS rfl ⟨by omega, by omega⟩ dLa_law_111 ?_
        refine mk_wrVi (As := [.int (xs (i + 1)), .int (xs (i + 2)), .int (xs (i + 3))]) (rest := []) (w := (wMB g G S)) (q0 := (RMB, TMB, 5)) (ci := iMB) (w2 := (wMB g G (xPiece S (xs (i + 1)) (xs (i + 2)) (xs (i + 3))).2)) ⟨hx, hb, hml, hown, hts⟩ (c_piece l D g G S hG hb1 (xs (i + 1)) (xs (i + 2)) (xs (i + 3))) (cwV 3 hts (gd_LV b_166 b_167 b_168 b_1 b_169) rfl rfl rfl (by decide +kernel) ⟨Nat.le_of_ble_eq_true rfl, Nat.le_of_ble_eq_true rfl⟩) hK hP hD hS hA (List.range 53) lw_cutA mb_ndAll fst_MB rfl rfl rfl hl.1 rfl (Nat.le_of_ble_eq_true rfl) dLa_law_112 ⟨Nat.le_of_ble_eq_true rfl, Nat.le_of_ble_eq_true rfl⟩ (fun H locs hP hD hS => ?_)
        rw [lw_putA] at hP hD
        have hP : va_P D vwCl (wMB g G ((xPiece S (xs (i + 1)) (xs (i + 2)) (xs (i + 3))).2) ++ wMo g a M) H := hP
        have hD : va_D (fun q : Nat => s.heap.size ≤ q) (wMB g G ((xPiece S (xs (i + 1)) (xs (i + 2)) (xs (i + 3))).2) ++ wMo g a M) := hD
        refine lv_aload_n hx hb dLa_law_115 rfl (lv_at hl 3 rfl) ?_
        refine lv_aload_n hx hb dLa_law_116 rfl (lv_at hl 1 rfl) ?_
        refine lv_iload_n hx hb dLa_law_117 rfl (lv_at hl 0 rfl) ?_
        refine lv_iconst (v := 1) hx hb dLa_law_118 (by decide) ?_
        refine lv_iadd hx hb dLa_law_119 ?_
        refine lv_topi (fun z_6 e_6 => ?_)
        have e_6 : z_6 = nI (i + 1) := e_6.trans (nI_add i 1)
        subst e_6
        refine mk_sld (k := (i + 1)) hx hb hX hbl hbA hS rfl ⟨by omega, by omega⟩ dLa_law_120 ?_
        refine lv_aload_n hx hb dLa_law_121 rfl (lv_at hl 1 rfl) ?_
        refine lv_iload_n hx hb dLa_law_122 rfl (lv_at hl 0 rfl) ?_
        refine lv_iconst (v := 2) hx hb dLa_law_123 (by decide) ?_
        refine lv_iadd hx hb dLa_law_124 ?_
        refine lv_topi (fun z_7 e_7 => ?_)
        have e_7 : z_7 = nI (i + 2) := e_7.trans (nI_add i 2)
        subst e_7
        refine mk_sld (k := (i + 2)) hx hb hX hbl hbA hS rfl ⟨by omega, by omega⟩ dLa_law_125 ?_
        refine lv_aload_n hx hb dLa_law_126 rfl (lv_at hl 1 rfl) ?_
        refine lv_iload_n hx hb dLa_law_127 rfl (lv_at hl 0 rfl) ?_
        refine lv_iconst (v := 3) hx hb dLa_law_128 (by decide) ?_
        refine lv_iadd hx hb dLa_law_129 ?_
        refine lv_topi (fun z_8 e_8 => ?_)
        have e_8 : z_8 = nI (i + 3) := e_8.trans (nI_add i 3)
        subst e_8
        refine mk_sld (k := (i + 3)) hx hb hX hbl hbA hS rfl ⟨by omega, by omega⟩ dLa_law_130 ?_
        refine mk_wrVi (As := [.int (xs (i + 1)), .int (xs (i + 2)), .int (xs (i + 3))]) (rest := [.int ((xPiece S (xs (i + 1)) (xs (i + 2)) (xs (i + 3))).1)]) (w := (wMo g a M)) (q0 := (RMo, TMo, 32)) (ci := iMo) (w2 := (wMo g a (yPiece M (xs (i + 1)) (xs (i + 2)) (xs (i + 3))).2)) ⟨hx, hb, hml, hown, hts⟩ (k_piece l D g a M (xs (i + 1)) (xs (i + 2)) (xs (i + 3))) (cwV 3 hts (gd_LV b_468 b_469 b_470 b_6 b_471) rfl rfl rfl (by decide +kernel) ⟨Nat.le_of_ble_eq_true rfl, Nat.le_of_ble_eq_true rfl⟩) hK hP hD hS hA pB lw_cutB lw_ndB fst_Mo rfl rfl rfl hl.1 rfl (Nat.le_of_ble_eq_true rfl) dLa_law_131 ⟨Nat.le_of_ble_eq_true rfl, Nat.le_of_ble_eq_true rfl⟩ (fun H locs hP hD hS => ?_)
        rw [lw_putB] at hP hD
        have hP : va_P D vwCl (wMB g G ((xPiece S (xs (i + 1)) (xs (i + 2)) (xs (i + 3))).2) ++ wMo g a ((yPiece M (xs (i + 1)) (xs (i + 2)) (xs (i + 3))).2)) H := hP
        have hD : va_D (fun q : Nat => s.heap.size ≤ q) (wMB g G ((xPiece S (xs (i + 1)) (xs (i + 2)) (xs (i + 3))).2) ++ wMo g a ((yPiece M (xs (i + 1)) (xs (i + 2)) (xs (i + 3))).2)) := hD
        have hr9 := rel_piece hR hn4 (xs (i + 1)) (xs (i + 2)) (xs (i + 3))
        refine lv_icmp_eq (tgt := 524) hx hb dLa_law_134 (by decide) (fun _ => ?_) (fun c_9 => absurd hr9.1 c_9)
        refine lv_iinc (v := nI (i + 4)) (lv' := [(3, .int (nI (i + 4))), (0, .ref b), (1, .ref (go G 0)), (2, .ref (a 0))]) hx hb dLa_law_524 hl (k := 0) rfl (nI_add i 4) (by decide) rfl (fun ls hl => ?_)
        refine lv_goto (tgt := 18) hx hb dLa_law_527 (by decide) ?_
        exact ih (i + 4) ((xPiece S (xs (i + 1)) (xs (i + 2)) (xs (i + 3))).2) ((yPiece M (xs (i + 1)) (xs (i + 2)) (xs (i + 3))).2) H locs ls (by omega) (by omega) (by have e9 := hr9.2.2; omega) hr9.2.1 hP hD hS (lv_sub hl [0, 1, 2, 3] rfl)
      by_cases c_10 : ((xs i) &&& 15) = 1
      · refine lv_tableIn (tgt := 139) hx hb dLa_law_32 (by rw [c_10]; decide +kernel) (by rw [c_10]; decide +kernel) (off := 107) (by rw [c_10]; decide +kernel) (by decide) ?_
        refine lv_aload_n hx hb dLa_law_139 rfl (lv_at hl 2 rfl) ?_
        refine lv_aload_n hx hb dLa_law_140 rfl (lv_at hl 1 rfl) ?_
        refine lv_iload_n hx hb dLa_law_141 rfl (lv_at hl 0 rfl) ?_
        refine lv_iconst (v := 1) hx hb dLa_law_142 (by decide) ?_
        refine lv_iadd hx hb dLa_law_143 ?_
        refine lv_topi (fun z_11 e_11 => ?_)
        have e_11 : z_11 = nI (i + 1) := e_11.trans (nI_add i 1)
        subst e_11
        refine mk_sld (k := (i + 1)) hx hb hX hbl hbA hS rfl ⟨by omega, by omega⟩ dLa_law_144 ?_
        refine lv_aload_n hx hb dLa_law_145 rfl (lv_at hl 1 rfl) ?_
        refine lv_iload_n hx hb dLa_law_146 rfl (lv_at hl 0 rfl) ?_
        refine lv_iconst (v := 2) hx hb dLa_law_147 (by decide) ?_
        refine lv_iadd hx hb dLa_law_148 ?_
        refine lv_topi (fun z_12 e_12 => ?_)
        have e_12 : z_12 = nI (i + 2) := e_12.trans (nI_add i 2)
        subst e_12
        refine mk_sld (k := (i + 2)) hx hb hX hbl hbA hS rfl ⟨by omega, by omega⟩ dLa_law_149 ?_
        refine lv_aload_n hx hb dLa_law_150 rfl (lv_at hl 1 rfl) ?_
        refine lv_iload_n hx hb dLa_law_151 rfl (lv_at hl 0 rfl) ?_
        refine lv_iconst (v := 3) hx hb dLa_law_152 (by decide) ?_
        refine lv_iadd hx hb dLa_law_153 ?_
        refine lv_topi (fun z_13 e_13 => ?_)
        have e_13 : z_13 = nI (i + 3) := e_13.trans (nI_add i 3)
        subst e_13
        refine mk_sld (k := (i + 3)) hx hb hX hbl hbA hS rfl ⟨by omega, by omega⟩ dLa_law_154 ?_
        refine lv_if_eq (tgt := 162) hx hb dLa_law_155 (by decide) (fun c_14 => ?_) (fun c_14 => ?_)
        · refine lv_iconst (v := 0) hx hb dLa_law_162 (by decide) ?_
          refine mk_wrVi (As := [.int (xs (i + 1)), .int (xs (i + 2)), .int 0]) (rest := []) (w := (wMB g G S)) (q0 := (RMB, TMB, 5)) (ci := iMB) (w2 := (wMB g G (xHold S (xs (i + 1)) (xs (i + 2)) false).2)) ⟨hx, hb, hml, hown, hts⟩ (c_hold l D g G S hG hb1 (xs (i + 1)) (xs (i + 2)) false) (cwV 3 hts (gd_LV b_174 b_175 b_176 b_1 b_177) rfl rfl rfl (by decide +kernel) ⟨Nat.le_of_ble_eq_true rfl, Nat.le_of_ble_eq_true rfl⟩) hK hP hD hS hA (List.range 53) lw_cutA mb_ndAll fst_MB rfl rfl rfl hl.1 rfl (Nat.le_of_ble_eq_true rfl) dLa_law_163 ⟨Nat.le_of_ble_eq_true rfl, Nat.le_of_ble_eq_true rfl⟩ (fun H locs hP hD hS => ?_)
          rw [lw_putA] at hP hD
          have hP : va_P D vwCl (wMB g G ((xHold S (xs (i + 1)) (xs (i + 2)) false).2) ++ wMo g a M) H := hP
          have hD : va_D (fun q : Nat => s.heap.size ≤ q) (wMB g G ((xHold S (xs (i + 1)) (xs (i + 2)) false).2) ++ wMo g a M) := hD
          refine lv_aload_n hx hb dLa_law_166 rfl (lv_at hl 3 rfl) ?_
          refine lv_aload_n hx hb dLa_law_167 rfl (lv_at hl 1 rfl) ?_
          refine lv_iload_n hx hb dLa_law_168 rfl (lv_at hl 0 rfl) ?_
          refine lv_iconst (v := 1) hx hb dLa_law_169 (by decide) ?_
          refine lv_iadd hx hb dLa_law_170 ?_
          refine lv_topi (fun z_15 e_15 => ?_)
          have e_15 : z_15 = nI (i + 1) := e_15.trans (nI_add i 1)
          subst e_15
          refine mk_sld (k := (i + 1)) hx hb hX hbl hbA hS rfl ⟨by omega, by omega⟩ dLa_law_171 ?_
          refine lv_aload_n hx hb dLa_law_172 rfl (lv_at hl 1 rfl) ?_
          refine lv_iload_n hx hb dLa_law_173 rfl (lv_at hl 0 rfl) ?_
          refine lv_iconst (v := 2) hx hb dLa_law_174 (by decide) ?_
          refine lv_iadd hx hb dLa_law_175 ?_
          refine lv_topi (fun z_16 e_16 => ?_)
          have e_16 : z_16 = nI (i + 2) := e_16.trans (nI_add i 2)
          subst e_16
          refine mk_sld (k := (i + 2)) hx hb hX hbl hbA hS rfl ⟨by omega, by omega⟩ dLa_law_176 ?_
          refine lv_aload_n hx hb dLa_law_177 rfl (lv_at hl 1 rfl) ?_
          refine lv_iload_n hx hb dLa_law_178 rfl (lv_at hl 0 rfl) ?_
          refine lv_iconst (v := 3) hx hb dLa_law_179 (by decide) ?_
          refine lv_iadd hx hb dLa_law_180 ?_
          refine lv_topi (fun z_17 e_17 => ?_)
          have e_17 : z_17 = nI (i + 3) := e_17.trans (nI_add i 3)
          subst e_17
          refine mk_sld (k := (i + 3)) hx hb hX hbl hbA hS rfl ⟨by omega, by omega⟩ dLa_law_181 ?_
          refine lv_if_eq (tgt := 189) hx hb dLa_law_182 (by decide) (fun _ => ?_) (fun c_18 => absurd c_14 c_18)
          refine lv_iconst (v := 0) hx hb dLa_law_189 (by decide) ?_
          refine mk_wrVi (As := [.int (xs (i + 1)), .int (xs (i + 2)), .int 0]) (rest := [.int ((xHold S (xs (i + 1)) (xs (i + 2)) false).1)]) (w := (wMo g a M)) (q0 := (RMo, TMo, 32)) (ci := iMo) (w2 := (wMo g a (yHold M (xs (i + 1)) (xs (i + 2)) false).2)) ⟨hx, hb, hml, hown, hts⟩ (k_hold l D g a M (xs (i + 1)) (xs (i + 2)) false) (cwV 3 hts (gd_LV b_476 b_477 b_478 b_6 b_479) rfl rfl rfl (by decide +kernel) ⟨Nat.le_of_ble_eq_true rfl, Nat.le_of_ble_eq_true rfl⟩) hK hP hD hS hA pB lw_cutB lw_ndB fst_Mo rfl rfl rfl hl.1 rfl (Nat.le_of_ble_eq_true rfl) dLa_law_190 ⟨Nat.le_of_ble_eq_true rfl, Nat.le_of_ble_eq_true rfl⟩ (fun H locs hP hD hS => ?_)
          rw [lw_putB] at hP hD
          have hP : va_P D vwCl (wMB g G ((xHold S (xs (i + 1)) (xs (i + 2)) false).2) ++ wMo g a ((yHold M (xs (i + 1)) (xs (i + 2)) false).2)) H := hP
          have hD : va_D (fun q : Nat => s.heap.size ≤ q) (wMB g G ((xHold S (xs (i + 1)) (xs (i + 2)) false).2) ++ wMo g a ((yHold M (xs (i + 1)) (xs (i + 2)) false).2)) := hD
          have hr9 := rel_hold hR hn4 (xs (i + 1)) (xs (i + 2)) false
          refine lv_icmp_eq (tgt := 524) hx hb dLa_law_193 (by decide) (fun _ => ?_) (fun c_19 => absurd hr9.1 c_19)
          refine lv_iinc (v := nI (i + 4)) (lv' := [(3, .int (nI (i + 4))), (0, .ref b), (1, .ref (go G 0)), (2, .ref (a 0))]) hx hb dLa_law_524 hl (k := 0) rfl (nI_add i 4) (by decide) rfl (fun ls hl => ?_)
          refine lv_goto (tgt := 18) hx hb dLa_law_527 (by decide) ?_
          exact ih (i + 4) ((xHold S (xs (i + 1)) (xs (i + 2)) false).2) ((yHold M (xs (i + 1)) (xs (i + 2)) false).2) H locs ls (by omega) (by omega) (by have e9 := hr9.2.2; omega) hr9.2.1 hP hD hS (lv_sub hl [0, 1, 2, 3] rfl)
        · refine lv_iconst (v := 1) hx hb dLa_law_158 (by decide) ?_
          refine lv_goto (tgt := 163) hx hb dLa_law_159 (by decide) ?_
          refine mk_wrVi (As := [.int (xs (i + 1)), .int (xs (i + 2)), .int 1]) (rest := []) (w := (wMB g G S)) (q0 := (RMB, TMB, 5)) (ci := iMB) (w2 := (wMB g G (xHold S (xs (i + 1)) (xs (i + 2)) true).2)) ⟨hx, hb, hml, hown, hts⟩ (c_hold l D g G S hG hb1 (xs (i + 1)) (xs (i + 2)) true) (cwV 3 hts (gd_LV b_174 b_175 b_176 b_1 b_177) rfl rfl rfl (by decide +kernel) ⟨Nat.le_of_ble_eq_true rfl, Nat.le_of_ble_eq_true rfl⟩) hK hP hD hS hA (List.range 53) lw_cutA mb_ndAll fst_MB rfl rfl rfl hl.1 rfl (Nat.le_of_ble_eq_true rfl) dLa_law_163 ⟨Nat.le_of_ble_eq_true rfl, Nat.le_of_ble_eq_true rfl⟩ (fun H locs hP hD hS => ?_)
          rw [lw_putA] at hP hD
          have hP : va_P D vwCl (wMB g G ((xHold S (xs (i + 1)) (xs (i + 2)) true).2) ++ wMo g a M) H := hP
          have hD : va_D (fun q : Nat => s.heap.size ≤ q) (wMB g G ((xHold S (xs (i + 1)) (xs (i + 2)) true).2) ++ wMo g a M) := hD
          refine lv_aload_n hx hb dLa_law_166 rfl (lv_at hl 3 rfl) ?_
          refine lv_aload_n hx hb dLa_law_167 rfl (lv_at hl 1 rfl) ?_
          refine lv_iload_n hx hb dLa_law_168 rfl (lv_at hl 0 rfl) ?_
          refine lv_iconst (v := 1) hx hb dLa_law_169 (by decide) ?_
          refine lv_iadd hx hb dLa_law_170 ?_
          refine lv_topi (fun z_20 e_20 => ?_)
          have e_20 : z_20 = nI (i + 1) := e_20.trans (nI_add i 1)
          subst e_20
          refine mk_sld (k := (i + 1)) hx hb hX hbl hbA hS rfl ⟨by omega, by omega⟩ dLa_law_171 ?_
          refine lv_aload_n hx hb dLa_law_172 rfl (lv_at hl 1 rfl) ?_
          refine lv_iload_n hx hb dLa_law_173 rfl (lv_at hl 0 rfl) ?_
          refine lv_iconst (v := 2) hx hb dLa_law_174 (by decide) ?_
          refine lv_iadd hx hb dLa_law_175 ?_
          refine lv_topi (fun z_21 e_21 => ?_)
          have e_21 : z_21 = nI (i + 2) := e_21.trans (nI_add i 2)
          subst e_21
          refine mk_sld (k := (i + 2)) hx hb hX hbl hbA hS rfl ⟨by omega, by omega⟩ dLa_law_176 ?_
          refine lv_aload_n hx hb dLa_law_177 rfl (lv_at hl 1 rfl) ?_
          refine lv_iload_n hx hb dLa_law_178 rfl (lv_at hl 0 rfl) ?_
          refine lv_iconst (v := 3) hx hb dLa_law_179 (by decide) ?_
          refine lv_iadd hx hb dLa_law_180 ?_
          refine lv_topi (fun z_22 e_22 => ?_)
          have e_22 : z_22 = nI (i + 3) := e_22.trans (nI_add i 3)
          subst e_22
          refine mk_sld (k := (i + 3)) hx hb hX hbl hbA hS rfl ⟨by omega, by omega⟩ dLa_law_181 ?_
          refine lv_if_eq (tgt := 189) hx hb dLa_law_182 (by decide) (fun c_23 => absurd c_23 c_14) (fun _ => ?_)
          refine lv_iconst (v := 1) hx hb dLa_law_185 (by decide) ?_
          refine lv_goto (tgt := 190) hx hb dLa_law_186 (by decide) ?_
          refine mk_wrVi (As := [.int (xs (i + 1)), .int (xs (i + 2)), .int 1]) (rest := [.int ((xHold S (xs (i + 1)) (xs (i + 2)) true).1)]) (w := (wMo g a M)) (q0 := (RMo, TMo, 32)) (ci := iMo) (w2 := (wMo g a (yHold M (xs (i + 1)) (xs (i + 2)) true).2)) ⟨hx, hb, hml, hown, hts⟩ (k_hold l D g a M (xs (i + 1)) (xs (i + 2)) true) (cwV 3 hts (gd_LV b_476 b_477 b_478 b_6 b_479) rfl rfl rfl (by decide +kernel) ⟨Nat.le_of_ble_eq_true rfl, Nat.le_of_ble_eq_true rfl⟩) hK hP hD hS hA pB lw_cutB lw_ndB fst_Mo rfl rfl rfl hl.1 rfl (Nat.le_of_ble_eq_true rfl) dLa_law_190 ⟨Nat.le_of_ble_eq_true rfl, Nat.le_of_ble_eq_true rfl⟩ (fun H locs hP hD hS => ?_)
          rw [lw_putB] at hP hD
          have hP : va_P D vwCl (wMB g G ((xHold S (xs (i + 1)) (xs (i + 2)) true).2) ++ wMo g a ((yHold M (xs (i + 1)) (xs (i + 2)) true).2)) H := hP
          have hD : va_D (fun q : Nat => s.heap.size ≤ q) (wMB g G ((xHold S (xs (i + 1)) (xs (i + 2)) true).2) ++ wMo g a ((yHold M (xs (i + 1)) (xs (i + 2)) true).2)) := hD
          have hr9 := rel_hold hR hn4 (xs (i + 1)) (xs (i + 2)) true
          refine lv_icmp_eq (tgt := 524) hx hb dLa_law_193 (by decide) (fun _ => ?_) (fun c_24 => absurd hr9.1 c_24)
          refine lv_iinc (v := nI (i + 4)) (lv' := [(3, .int (nI (i + 4))), (0, .ref b), (1, .ref (go G 0)), (2, .ref (a 0))]) hx hb dLa_law_524 hl (k := 0) rfl (nI_add i 4) (by decide) rfl (fun ls hl => ?_)
          refine lv_goto (tgt := 18) hx hb dLa_law_527 (by decide) ?_
          exact ih (i + 4) ((xHold S (xs (i + 1)) (xs (i + 2)) true).2) ((yHold M (xs (i + 1)) (xs (i + 2)) true).2) H locs ls (by omega) (by omega) (by have e9 := hr9.2.2; omega) hr9.2.1 hP hD hS (lv_sub hl [0, 1, 2, 3] rfl)
      by_cases c_25 : ((xs i) &&& 15) = 2
      · refine lv_tableIn (tgt := 198) hx hb dLa_law_32 (by rw [c_25]; decide +kernel) (by rw [c_25]; decide +kernel) (off := 166) (by rw [c_25]; decide +kernel) (by decide) ?_
        refine lv_aload_n hx hb dLa_law_198 rfl (lv_at hl 2 rfl) ?_
        refine lv_aload_n hx hb dLa_law_199 rfl (lv_at hl 1 rfl) ?_
        refine lv_iload_n hx hb dLa_law_200 rfl (lv_at hl 0 rfl) ?_
        refine lv_iconst (v := 1) hx hb dLa_law_201 (by decide) ?_
        refine lv_iadd hx hb dLa_law_202 ?_
        refine lv_topi (fun z_26 e_26 => ?_)
        have e_26 : z_26 = nI (i + 1) := e_26.trans (nI_add i 1)
        subst e_26
        refine mk_sld (k := (i + 1)) hx hb hX hbl hbA hS rfl ⟨by omega, by omega⟩ dLa_law_203 ?_
        refine lv_aload_n hx hb dLa_law_204 rfl (lv_at hl 1 rfl) ?_
        refine lv_iload_n hx hb dLa_law_205 rfl (lv_at hl 0 rfl) ?_
        refine lv_iconst (v := 2) hx hb dLa_law_206 (by decide) ?_
        refine lv_iadd hx hb dLa_law_207 ?_
        refine lv_topi (fun z_27 e_27 => ?_)
        have e_27 : z_27 = nI (i + 2) := e_27.trans (nI_add i 2)
        subst e_27
        refine mk_sld (k := (i + 2)) hx hb hX hbl hbA hS rfl ⟨by omega, by omega⟩ dLa_law_208 ?_
        refine lv_if_eq (tgt := 216) hx hb dLa_law_209 (by decide) (fun c_28 => ?_) (fun c_28 => ?_)
        · refine lv_iconst (v := 0) hx hb dLa_law_216 (by decide) ?_
          refine mk_wrVi (As := [.int (xs (i + 1)), .int 0]) (rest := []) (w := (wMB g G S)) (q0 := (RMB, TMB, 5)) (ci := iMB) (w2 := (wMB g G (xCtl S (xs (i + 1)) false).2)) ⟨hx, hb, hml, hown, hts⟩ (c_controller l D g G S hG hb1 (xs (i + 1)) false) (cwV 2 hts (gd_LV b_178 b_179 b_180 b_1 b_181) rfl rfl rfl (by decide +kernel) ⟨Nat.le_of_ble_eq_true rfl, Nat.le_of_ble_eq_true rfl⟩) hK hP hD hS hA (List.range 53) lw_cutA mb_ndAll fst_MB rfl rfl rfl hl.1 rfl (Nat.le_of_ble_eq_true rfl) dLa_law_217 ⟨Nat.le_of_ble_eq_true rfl, Nat.le_of_ble_eq_true rfl⟩ (fun H locs hP hD hS => ?_)
          rw [lw_putA] at hP hD
          have hP : va_P D vwCl (wMB g G ((xCtl S (xs (i + 1)) false).2) ++ wMo g a M) H := hP
          have hD : va_D (fun q : Nat => s.heap.size ≤ q) (wMB g G ((xCtl S (xs (i + 1)) false).2) ++ wMo g a M) := hD
          refine lv_aload_n hx hb dLa_law_220 rfl (lv_at hl 3 rfl) ?_
          refine lv_aload_n hx hb dLa_law_221 rfl (lv_at hl 1 rfl) ?_
          refine lv_iload_n hx hb dLa_law_222 rfl (lv_at hl 0 rfl) ?_
          refine lv_iconst (v := 1) hx hb dLa_law_223 (by decide) ?_
          refine lv_iadd hx hb dLa_law_224 ?_
          refine lv_topi (fun z_29 e_29 => ?_)
          have e_29 : z_29 = nI (i + 1) := e_29.trans (nI_add i 1)
          subst e_29
          refine mk_sld (k := (i + 1)) hx hb hX hbl hbA hS rfl ⟨by omega, by omega⟩ dLa_law_225 ?_
          refine lv_aload_n hx hb dLa_law_226 rfl (lv_at hl 1 rfl) ?_
          refine lv_iload_n hx hb dLa_law_227 rfl (lv_at hl 0 rfl) ?_
          refine lv_iconst (v := 2) hx hb dLa_law_228 (by decide) ?_
          refine lv_iadd hx hb dLa_law_229 ?_
          refine lv_topi (fun z_30 e_30 => ?_)
          have e_30 : z_30 = nI (i + 2) := e_30.trans (nI_add i 2)
          subst e_30
          refine mk_sld (k := (i + 2)) hx hb hX hbl hbA hS rfl ⟨by omega, by omega⟩ dLa_law_230 ?_
          refine lv_if_eq (tgt := 238) hx hb dLa_law_231 (by decide) (fun _ => ?_) (fun c_31 => absurd c_28 c_31)
          refine lv_iconst (v := 0) hx hb dLa_law_238 (by decide) ?_
          refine mk_wrVi (As := [.int (xs (i + 1)), .int 0]) (rest := [.int ((xCtl S (xs (i + 1)) false).1)]) (w := (wMo g a M)) (q0 := (RMo, TMo, 32)) (ci := iMo) (w2 := (wMo g a (yCtl M (xs (i + 1)) false).2)) ⟨hx, hb, hml, hown, hts⟩ (k_controller l D g a M (xs (i + 1)) false) (cwV 2 hts (gd_LV b_481 b_482 b_483 b_6 b_484) rfl rfl rfl (by decide +kernel) ⟨Nat.le_of_ble_eq_true rfl, Nat.le_of_ble_eq_true rfl⟩) hK hP hD hS hA pB lw_cutB lw_ndB fst_Mo rfl rfl rfl hl.1 rfl (Nat.le_of_ble_eq_true rfl) dLa_law_239 ⟨Nat.le_of_ble_eq_true rfl, Nat.le_of_ble_eq_true rfl⟩ (fun H locs hP hD hS => ?_)
          rw [lw_putB] at hP hD
          have hP : va_P D vwCl (wMB g G ((xCtl S (xs (i + 1)) false).2) ++ wMo g a ((yCtl M (xs (i + 1)) false).2)) H := hP
          have hD : va_D (fun q : Nat => s.heap.size ≤ q) (wMB g G ((xCtl S (xs (i + 1)) false).2) ++ wMo g a ((yCtl M (xs (i + 1)) false).2)) := hD
          have hr9 := rel_controller hR hn4 (xs (i + 1)) false
          refine lv_icmp_eq (tgt := 524) hx hb dLa_law_242 (by decide) (fun _ => ?_) (fun c_32 => absurd hr9.1 c_32)
          refine lv_iinc (v := nI (i + 4)) (lv' := [(3, .int (nI (i + 4))), (0, .ref b), (1, .ref (go G 0)), (2, .ref (a 0))]) hx hb dLa_law_524 hl (k := 0) rfl (nI_add i 4) (by decide) rfl (fun ls hl => ?_)
          refine lv_goto (tgt := 18) hx hb dLa_law_527 (by decide) ?_
          exact ih (i + 4) ((xCtl S (xs (i + 1)) false).2) ((yCtl M (xs (i + 1)) false).2) H locs ls (by omega) (by omega) (by have e9 := hr9.2.2; omega) hr9.2.1 hP hD hS (lv_sub hl [0, 1, 2, 3] rfl)
        · refine lv_iconst (v := 1) hx hb dLa_law_212 (by decide) ?_
          refine lv_goto (tgt := 217) hx hb dLa_law_213 (by decide) ?_
          refine mk_wrVi (As := [.int (xs (i + 1)), .int 1]) (rest := []) (w := (wMB g G S)) (q0 := (RMB, TMB, 5)) (ci := iMB) (w2 := (wMB g G (xCtl S (xs (i + 1)) true).2)) ⟨hx, hb, hml, hown, hts⟩ (c_controller l D g G S hG hb1 (xs (i + 1)) true) (cwV 2 hts (gd_LV b_178 b_179 b_180 b_1 b_181) rfl rfl rfl (by decide +kernel) ⟨Nat.le_of_ble_eq_true rfl, Nat.le_of_ble_eq_true rfl⟩) hK hP hD hS hA (List.range 53) lw_cutA mb_ndAll fst_MB rfl rfl rfl hl.1 rfl (Nat.le_of_ble_eq_true rfl) dLa_law_217 ⟨Nat.le_of_ble_eq_true rfl, Nat.le_of_ble_eq_true rfl⟩ (fun H locs hP hD hS => ?_)
          rw [lw_putA] at hP hD
          have hP : va_P D vwCl (wMB g G ((xCtl S (xs (i + 1)) true).2) ++ wMo g a M) H := hP
          have hD : va_D (fun q : Nat => s.heap.size ≤ q) (wMB g G ((xCtl S (xs (i + 1)) true).2) ++ wMo g a M) := hD
          refine lv_aload_n hx hb dLa_law_220 rfl (lv_at hl 3 rfl) ?_
          refine lv_aload_n hx hb dLa_law_221 rfl (lv_at hl 1 rfl) ?_
          refine lv_iload_n hx hb dLa_law_222 rfl (lv_at hl 0 rfl) ?_
          refine lv_iconst (v := 1) hx hb dLa_law_223 (by decide) ?_
          refine lv_iadd hx hb dLa_law_224 ?_
          refine lv_topi (fun z_33 e_33 => ?_)
          have e_33 : z_33 = nI (i + 1) := e_33.trans (nI_add i 1)
          subst e_33
          refine mk_sld (k := (i + 1)) hx hb hX hbl hbA hS rfl ⟨by omega, by omega⟩ dLa_law_225 ?_
          refine lv_aload_n hx hb dLa_law_226 rfl (lv_at hl 1 rfl) ?_
          refine lv_iload_n hx hb dLa_law_227 rfl (lv_at hl 0 rfl) ?_
          refine lv_iconst (v := 2) hx hb dLa_law_228 (by decide) ?_
          refine lv_iadd hx hb dLa_law_229 ?_
          refine lv_topi (fun z_34 e_34 => ?_)
          have e_34 : z_34 = nI (i + 2) := e_34.trans (nI_add i 2)
          subst e_34
          refine mk_sld (k := (i + 2)) hx hb hX hbl hbA hS rfl ⟨by omega, by omega⟩ dLa_law_230 ?_
          refine lv_if_eq (tgt := 238) hx hb dLa_law_231 (by decide) (fun c_35 => absurd c_35 c_28) (fun _ => ?_)
          refine lv_iconst (v := 1) hx hb dLa_law_234 (by decide) ?_
          refine lv_goto (tgt := 239) hx hb dLa_law_235 (by decide) ?_
          refine mk_wrVi (As := [.int (xs (i + 1)), .int 1]) (rest := [.int ((xCtl S (xs (i + 1)) true).1)]) (w := (wMo g a M)) (q0 := (RMo, TMo, 32)) (ci := iMo) (w2 := (wMo g a (yCtl M (xs (i + 1)) true).2)) ⟨hx, hb, hml, hown, hts⟩ (k_controller l D g a M (xs (i + 1)) true) (cwV 2 hts (gd_LV b_481 b_482 b_483 b_6 b_484) rfl rfl rfl (by decide +kernel) ⟨Nat.le_of_ble_eq_true rfl, Nat.le_of_ble_eq_true rfl⟩) hK hP hD hS hA pB lw_cutB lw_ndB fst_Mo rfl rfl rfl hl.1 rfl (Nat.le_of_ble_eq_true rfl) dLa_law_239 ⟨Nat.le_of_ble_eq_true rfl, Nat.le_of_ble_eq_true rfl⟩ (fun H locs hP hD hS => ?_)
          rw [lw_putB] at hP hD
          have hP : va_P D vwCl (wMB g G ((xCtl S (xs (i + 1)) true).2) ++ wMo g a ((yCtl M (xs (i + 1)) true).2)) H := hP
          have hD : va_D (fun q : Nat => s.heap.size ≤ q) (wMB g G ((xCtl S (xs (i + 1)) true).2) ++ wMo g a ((yCtl M (xs (i + 1)) true).2)) := hD
          have hr9 := rel_controller hR hn4 (xs (i + 1)) true
          refine lv_icmp_eq (tgt := 524) hx hb dLa_law_242 (by decide) (fun _ => ?_) (fun c_36 => absurd hr9.1 c_36)
          refine lv_iinc (v := nI (i + 4)) (lv' := [(3, .int (nI (i + 4))), (0, .ref b), (1, .ref (go G 0)), (2, .ref (a 0))]) hx hb dLa_law_524 hl (k := 0) rfl (nI_add i 4) (by decide) rfl (fun ls hl => ?_)
          refine lv_goto (tgt := 18) hx hb dLa_law_527 (by decide) ?_
          exact ih (i + 4) ((xCtl S (xs (i + 1)) true).2) ((yCtl M (xs (i + 1)) true).2) H locs ls (by omega) (by omega) (by have e9 := hr9.2.2; omega) hr9.2.1 hP hD hS (lv_sub hl [0, 1, 2, 3] rfl)
      by_cases c_37 : ((xs i) &&& 15) = 3
      · refine lv_tableIn (tgt := 247) hx hb dLa_law_32 (by rw [c_37]; decide +kernel) (by rw [c_37]; decide +kernel) (off := 215) (by rw [c_37]; decide +kernel) (by decide) ?_
        refine lv_aload_n hx hb dLa_law_247 rfl (lv_at hl 2 rfl) ?_
        refine lv_aload_n hx hb dLa_law_248 rfl (lv_at hl 1 rfl) ?_
        refine lv_iload_n hx hb dLa_law_249 rfl (lv_at hl 0 rfl) ?_
        refine lv_iconst (v := 1) hx hb dLa_law_250 (by decide) ?_
        refine lv_iadd hx hb dLa_law_251 ?_
        refine lv_topi (fun z_38 e_38 => ?_)
        have e_38 : z_38 = nI (i + 1) := e_38.trans (nI_add i 1)
        subst e_38
        refine mk_sld (k := (i + 1)) hx hb hX hbl hbA hS rfl ⟨by omega, by omega⟩ dLa_law_252 ?_
        refine lv_aload_n hx hb dLa_law_253 rfl (lv_at hl 1 rfl) ?_
        refine lv_iload_n hx hb dLa_law_254 rfl (lv_at hl 0 rfl) ?_
        refine lv_iconst (v := 2) hx hb dLa_law_255 (by decide) ?_
        refine lv_iadd hx hb dLa_law_256 ?_
        refine lv_topi (fun z_39 e_39 => ?_)
        have e_39 : z_39 = nI (i + 2) := e_39.trans (nI_add i 2)
        subst e_39
        refine mk_sld (k := (i + 2)) hx hb hX hbl hbA hS rfl ⟨by omega, by omega⟩ dLa_law_257 ?_
        refine mk_wrVi (As := [.int (xs (i + 1)), .int (xs (i + 2))]) (rest := []) (w := (wMB g G S)) (q0 := (RMB, TMB, 5)) (ci := iMB) (w2 := (wMB g G (xEnter S (xs (i + 1)) (xs (i + 2))).2)) ⟨hx, hb, hml, hown, hts⟩ (c_enter l D g G S hG hb1 (xs (i + 1)) (xs (i + 2))) (cwV 2 hts (gd_LV b_182 b_183 b_184 b_1 b_185) rfl rfl rfl (by decide +kernel) ⟨Nat.le_of_ble_eq_true rfl, Nat.le_of_ble_eq_true rfl⟩) hK hP hD hS hA (List.range 53) lw_cutA mb_ndAll fst_MB rfl rfl rfl hl.1 rfl (Nat.le_of_ble_eq_true rfl) dLa_law_258 ⟨Nat.le_of_ble_eq_true rfl, Nat.le_of_ble_eq_true rfl⟩ (fun H locs hP hD hS => ?_)
        rw [lw_putA] at hP hD
        have hP : va_P D vwCl (wMB g G ((xEnter S (xs (i + 1)) (xs (i + 2))).2) ++ wMo g a M) H := hP
        have hD : va_D (fun q : Nat => s.heap.size ≤ q) (wMB g G ((xEnter S (xs (i + 1)) (xs (i + 2))).2) ++ wMo g a M) := hD
        refine lv_aload_n hx hb dLa_law_261 rfl (lv_at hl 3 rfl) ?_
        refine lv_aload_n hx hb dLa_law_262 rfl (lv_at hl 1 rfl) ?_
        refine lv_iload_n hx hb dLa_law_263 rfl (lv_at hl 0 rfl) ?_
        refine lv_iconst (v := 1) hx hb dLa_law_264 (by decide) ?_
        refine lv_iadd hx hb dLa_law_265 ?_
        refine lv_topi (fun z_40 e_40 => ?_)
        have e_40 : z_40 = nI (i + 1) := e_40.trans (nI_add i 1)
        subst e_40
        refine mk_sld (k := (i + 1)) hx hb hX hbl hbA hS rfl ⟨by omega, by omega⟩ dLa_law_266 ?_
        refine lv_aload_n hx hb dLa_law_267 rfl (lv_at hl 1 rfl) ?_
        refine lv_iload_n hx hb dLa_law_268 rfl (lv_at hl 0 rfl) ?_
        refine lv_iconst (v := 2) hx hb dLa_law_269 (by decide) ?_
        refine lv_iadd hx hb dLa_law_270 ?_
        refine lv_topi (fun z_41 e_41 => ?_)
        have e_41 : z_41 = nI (i + 2) := e_41.trans (nI_add i 2)
        subst e_41
        refine mk_sld (k := (i + 2)) hx hb hX hbl hbA hS rfl ⟨by omega, by omega⟩ dLa_law_271 ?_
        refine mk_wrVi (As := [.int (xs (i + 1)), .int (xs (i + 2))]) (rest := [.int ((xEnter S (xs (i + 1)) (xs (i + 2))).1)]) (w := (wMo g a M)) (q0 := (RMo, TMo, 32)) (ci := iMo) (w2 := (wMo g a (yEnter M (xs (i + 1)) (xs (i + 2))).2)) ⟨hx, hb, hml, hown, hts⟩ (k_enter l D g a M hb2 (xs (i + 1)) (xs (i + 2))) (cwV 2 hts (gd_LV b_485 b_486 b_487 b_6 b_488) rfl rfl rfl (by decide +kernel) ⟨Nat.le_of_ble_eq_true rfl, Nat.le_of_ble_eq_true rfl⟩) hK hP hD hS hA pB lw_cutB lw_ndB fst_Mo rfl rfl rfl hl.1 rfl (Nat.le_of_ble_eq_true rfl) dLa_law_272 ⟨Nat.le_of_ble_eq_true rfl, Nat.le_of_ble_eq_true rfl⟩ (fun H locs hP hD hS => ?_)
        rw [lw_putB] at hP hD
        have hP : va_P D vwCl (wMB g G ((xEnter S (xs (i + 1)) (xs (i + 2))).2) ++ wMo g a ((yEnter M (xs (i + 1)) (xs (i + 2))).2)) H := hP
        have hD : va_D (fun q : Nat => s.heap.size ≤ q) (wMB g G ((xEnter S (xs (i + 1)) (xs (i + 2))).2) ++ wMo g a ((yEnter M (xs (i + 1)) (xs (i + 2))).2)) := hD
        have hr9 := rel_enter hR hn4 (xs (i + 1)) (xs (i + 2))
        refine lv_icmp_eq (tgt := 524) hx hb dLa_law_275 (by decide) (fun _ => ?_) (fun c_42 => absurd hr9.1 c_42)
        refine lv_iinc (v := nI (i + 4)) (lv' := [(3, .int (nI (i + 4))), (0, .ref b), (1, .ref (go G 0)), (2, .ref (a 0))]) hx hb dLa_law_524 hl (k := 0) rfl (nI_add i 4) (by decide) rfl (fun ls hl => ?_)
        refine lv_goto (tgt := 18) hx hb dLa_law_527 (by decide) ?_
        exact ih (i + 4) ((xEnter S (xs (i + 1)) (xs (i + 2))).2) ((yEnter M (xs (i + 1)) (xs (i + 2))).2) H locs ls (by omega) (by omega) (by have e9 := hr9.2.2; omega) hr9.2.1 hP hD hS (lv_sub hl [0, 1, 2, 3] rfl)
      by_cases c_43 : ((xs i) &&& 15) = 4
      · refine lv_tableIn (tgt := 280) hx hb dLa_law_32 (by rw [c_43]; decide +kernel) (by rw [c_43]; decide +kernel) (off := 248) (by rw [c_43]; decide +kernel) (by decide) ?_
        refine lv_aload_n hx hb dLa_law_280 rfl (lv_at hl 2 rfl) ?_
        refine lv_aload_n hx hb dLa_law_281 rfl (lv_at hl 1 rfl) ?_
        refine lv_iload_n hx hb dLa_law_282 rfl (lv_at hl 0 rfl) ?_
        refine lv_iconst (v := 1) hx hb dLa_law_283 (by decide) ?_
        refine lv_iadd hx hb dLa_law_284 ?_
        refine lv_topi (fun z_44 e_44 => ?_)
        have e_44 : z_44 = nI (i + 1) := e_44.trans (nI_add i 1)
        subst e_44
        refine mk_sld (k := (i + 1)) hx hb hX hbl hbA hS rfl ⟨by omega, by omega⟩ dLa_law_285 ?_
        refine lv_aload_n hx hb dLa_law_286 rfl (lv_at hl 1 rfl) ?_
        refine lv_iload_n hx hb dLa_law_287 rfl (lv_at hl 0 rfl) ?_
        refine lv_iconst (v := 2) hx hb dLa_law_288 (by decide) ?_
        refine lv_iadd hx hb dLa_law_289 ?_
        refine lv_topi (fun z_45 e_45 => ?_)
        have e_45 : z_45 = nI (i + 2) := e_45.trans (nI_add i 2)
        subst e_45
        refine mk_sld (k := (i + 2)) hx hb hX hbl hbA hS rfl ⟨by omega, by omega⟩ dLa_law_290 ?_
        refine mk_wrVi (As := [.int (xs (i + 1)), .int (xs (i + 2))]) (rest := []) (w := (wMB g G S)) (q0 := (RMB, TMB, 5)) (ci := iMB) (w2 := (wMB g G (xDemand S (xs (i + 1)) (xs (i + 2))).2)) ⟨hx, hb, hml, hown, hts⟩ (c_demand l D g G S hG hb1 (xs (i + 1)) (xs (i + 2))) (cwV 2 hts (gd_LV b_194 b_195 b_196 b_1 b_197) rfl rfl rfl (by decide +kernel) ⟨Nat.le_of_ble_eq_true rfl, Nat.le_of_ble_eq_true rfl⟩) hK hP hD hS hA (List.range 53) lw_cutA mb_ndAll fst_MB rfl rfl rfl hl.1 rfl (Nat.le_of_ble_eq_true rfl) dLa_law_291 ⟨Nat.le_of_ble_eq_true rfl, Nat.le_of_ble_eq_true rfl⟩ (fun H locs hP hD hS => ?_)
        rw [lw_putA] at hP hD
        have hP : va_P D vwCl (wMB g G ((xDemand S (xs (i + 1)) (xs (i + 2))).2) ++ wMo g a M) H := hP
        have hD : va_D (fun q : Nat => s.heap.size ≤ q) (wMB g G ((xDemand S (xs (i + 1)) (xs (i + 2))).2) ++ wMo g a M) := hD
        refine lv_aload_n hx hb dLa_law_294 rfl (lv_at hl 3 rfl) ?_
        refine lv_aload_n hx hb dLa_law_295 rfl (lv_at hl 1 rfl) ?_
        refine lv_iload_n hx hb dLa_law_296 rfl (lv_at hl 0 rfl) ?_
        refine lv_iconst (v := 1) hx hb dLa_law_297 (by decide) ?_
        refine lv_iadd hx hb dLa_law_298 ?_
        refine lv_topi (fun z_46 e_46 => ?_)
        have e_46 : z_46 = nI (i + 1) := e_46.trans (nI_add i 1)
        subst e_46
        refine mk_sld (k := (i + 1)) hx hb hX hbl hbA hS rfl ⟨by omega, by omega⟩ dLa_law_299 ?_
        refine lv_aload_n hx hb dLa_law_300 rfl (lv_at hl 1 rfl) ?_
        refine lv_iload_n hx hb dLa_law_301 rfl (lv_at hl 0 rfl) ?_
        refine lv_iconst (v := 2) hx hb dLa_law_302 (by decide) ?_
        refine lv_iadd hx hb dLa_law_303 ?_
        refine lv_topi (fun z_47 e_47 => ?_)
        have e_47 : z_47 = nI (i + 2) := e_47.trans (nI_add i 2)
        subst e_47
        refine mk_sld (k := (i + 2)) hx hb hX hbl hbA hS rfl ⟨by omega, by omega⟩ dLa_law_304 ?_
        refine mk_wrVi (As := [.int (xs (i + 1)), .int (xs (i + 2))]) (rest := [.int ((xDemand S (xs (i + 1)) (xs (i + 2))).1)]) (w := (wMo g a M)) (q0 := (RMo, TMo, 32)) (ci := iMo) (w2 := (wMo g a (yDemand M (xs (i + 1)) (xs (i + 2))).2)) ⟨hx, hb, hml, hown, hts⟩ (k_demand l D g a M hb2 (xs (i + 1)) (xs (i + 2))) (cwV 2 hts (gd_LV b_494 b_495 b_496 b_6 b_497) rfl rfl rfl (by decide +kernel) ⟨Nat.le_of_ble_eq_true rfl, Nat.le_of_ble_eq_true rfl⟩) hK hP hD hS hA pB lw_cutB lw_ndB fst_Mo rfl rfl rfl hl.1 rfl (Nat.le_of_ble_eq_true rfl) dLa_law_305 ⟨Nat.le_of_ble_eq_true rfl, Nat.le_of_ble_eq_true rfl⟩ (fun H locs hP hD hS => ?_)
        rw [lw_putB] at hP hD
        have hP : va_P D vwCl (wMB g G ((xDemand S (xs (i + 1)) (xs (i + 2))).2) ++ wMo g a ((yDemand M (xs (i + 1)) (xs (i + 2))).2)) H := hP
        have hD : va_D (fun q : Nat => s.heap.size ≤ q) (wMB g G ((xDemand S (xs (i + 1)) (xs (i + 2))).2) ++ wMo g a ((yDemand M (xs (i + 1)) (xs (i + 2))).2)) := hD
        have hr9 := rel_demand hR hn4 (xs (i + 1)) (xs (i + 2))
        refine lv_icmp_eq (tgt := 524) hx hb dLa_law_308 (by decide) (fun _ => ?_) (fun c_48 => absurd hr9.1 c_48)
        refine lv_iinc (v := nI (i + 4)) (lv' := [(3, .int (nI (i + 4))), (0, .ref b), (1, .ref (go G 0)), (2, .ref (a 0))]) hx hb dLa_law_524 hl (k := 0) rfl (nI_add i 4) (by decide) rfl (fun ls hl => ?_)
        refine lv_goto (tgt := 18) hx hb dLa_law_527 (by decide) ?_
        exact ih (i + 4) ((xDemand S (xs (i + 1)) (xs (i + 2))).2) ((yDemand M (xs (i + 1)) (xs (i + 2))).2) H locs ls (by omega) (by omega) (by have e9 := hr9.2.2; omega) hr9.2.1 hP hD hS (lv_sub hl [0, 1, 2, 3] rfl)
      by_cases c_49 : ((xs i) &&& 15) = 5
      · refine lv_tableIn (tgt := 313) hx hb dLa_law_32 (by rw [c_49]; decide +kernel) (by rw [c_49]; decide +kernel) (off := 281) (by rw [c_49]; decide +kernel) (by decide) ?_
        refine lv_aload_n hx hb dLa_law_313 rfl (lv_at hl 2 rfl) ?_
        refine lv_aload_n hx hb dLa_law_314 rfl (lv_at hl 1 rfl) ?_
        refine lv_iload_n hx hb dLa_law_315 rfl (lv_at hl 0 rfl) ?_
        refine lv_iconst (v := 1) hx hb dLa_law_316 (by decide) ?_
        refine lv_iadd hx hb dLa_law_317 ?_
        refine lv_topi (fun z_50 e_50 => ?_)
        have e_50 : z_50 = nI (i + 1) := e_50.trans (nI_add i 1)
        subst e_50
        refine mk_sld (k := (i + 1)) hx hb hX hbl hbA hS rfl ⟨by omega, by omega⟩ dLa_law_318 ?_
        refine lv_aload_n hx hb dLa_law_319 rfl (lv_at hl 1 rfl) ?_
        refine lv_iload_n hx hb dLa_law_320 rfl (lv_at hl 0 rfl) ?_
        refine lv_iconst (v := 2) hx hb dLa_law_321 (by decide) ?_
        refine lv_iadd hx hb dLa_law_322 ?_
        refine lv_topi (fun z_51 e_51 => ?_)
        have e_51 : z_51 = nI (i + 2) := e_51.trans (nI_add i 2)
        subst e_51
        refine mk_sld (k := (i + 2)) hx hb hX hbl hbA hS rfl ⟨by omega, by omega⟩ dLa_law_323 ?_
        refine mk_wrVi (As := [.int (xs (i + 1)), .int (xs (i + 2))]) (rest := []) (w := (wMB g G S)) (q0 := (RMB, TMB, 5)) (ci := iMB) (w2 := (wMB g G (xDrift S (xs (i + 1)) (xs (i + 2))).2)) ⟨hx, hb, hml, hown, hts⟩ (c_drift l D g G S hG hb1 (xs (i + 1)) (xs (i + 2))) (cwV 2 hts (gd_LV b_202 b_203 b_204 b_1 b_205) rfl rfl rfl (by decide +kernel) ⟨Nat.le_of_ble_eq_true rfl, Nat.le_of_ble_eq_true rfl⟩) hK hP hD hS hA (List.range 53) lw_cutA mb_ndAll fst_MB rfl rfl rfl hl.1 rfl (Nat.le_of_ble_eq_true rfl) dLa_law_324 ⟨Nat.le_of_ble_eq_true rfl, Nat.le_of_ble_eq_true rfl⟩ (fun H locs hP hD hS => ?_)
        rw [lw_putA] at hP hD
        have hP : va_P D vwCl (wMB g G ((xDrift S (xs (i + 1)) (xs (i + 2))).2) ++ wMo g a M) H := hP
        have hD : va_D (fun q : Nat => s.heap.size ≤ q) (wMB g G ((xDrift S (xs (i + 1)) (xs (i + 2))).2) ++ wMo g a M) := hD
        refine lv_aload_n hx hb dLa_law_327 rfl (lv_at hl 3 rfl) ?_
        refine lv_aload_n hx hb dLa_law_328 rfl (lv_at hl 1 rfl) ?_
        refine lv_iload_n hx hb dLa_law_329 rfl (lv_at hl 0 rfl) ?_
        refine lv_iconst (v := 1) hx hb dLa_law_330 (by decide) ?_
        refine lv_iadd hx hb dLa_law_331 ?_
        refine lv_topi (fun z_52 e_52 => ?_)
        have e_52 : z_52 = nI (i + 1) := e_52.trans (nI_add i 1)
        subst e_52
        refine mk_sld (k := (i + 1)) hx hb hX hbl hbA hS rfl ⟨by omega, by omega⟩ dLa_law_332 ?_
        refine lv_aload_n hx hb dLa_law_333 rfl (lv_at hl 1 rfl) ?_
        refine lv_iload_n hx hb dLa_law_334 rfl (lv_at hl 0 rfl) ?_
        refine lv_iconst (v := 2) hx hb dLa_law_335 (by decide) ?_
        refine lv_iadd hx hb dLa_law_336 ?_
        refine lv_topi (fun z_53 e_53 => ?_)
        have e_53 : z_53 = nI (i + 2) := e_53.trans (nI_add i 2)
        subst e_53
        refine mk_sld (k := (i + 2)) hx hb hX hbl hbA hS rfl ⟨by omega, by omega⟩ dLa_law_337 ?_
        refine mk_wrVi (As := [.int (xs (i + 1)), .int (xs (i + 2))]) (rest := [.int ((xDrift S (xs (i + 1)) (xs (i + 2))).1)]) (w := (wMo g a M)) (q0 := (RMo, TMo, 32)) (ci := iMo) (w2 := (wMo g a (yDrift M (xs (i + 1)) (xs (i + 2))).2)) ⟨hx, hb, hml, hown, hts⟩ (k_drift l D g a M hb2 (xs (i + 1)) (xs (i + 2))) (cwV 2 hts (gd_LV b_502 b_503 b_504 b_6 b_505) rfl rfl rfl (by decide +kernel) ⟨Nat.le_of_ble_eq_true rfl, Nat.le_of_ble_eq_true rfl⟩) hK hP hD hS hA pB lw_cutB lw_ndB fst_Mo rfl rfl rfl hl.1 rfl (Nat.le_of_ble_eq_true rfl) dLa_law_338 ⟨Nat.le_of_ble_eq_true rfl, Nat.le_of_ble_eq_true rfl⟩ (fun H locs hP hD hS => ?_)
        rw [lw_putB] at hP hD
        have hP : va_P D vwCl (wMB g G ((xDrift S (xs (i + 1)) (xs (i + 2))).2) ++ wMo g a ((yDrift M (xs (i + 1)) (xs (i + 2))).2)) H := hP
        have hD : va_D (fun q : Nat => s.heap.size ≤ q) (wMB g G ((xDrift S (xs (i + 1)) (xs (i + 2))).2) ++ wMo g a ((yDrift M (xs (i + 1)) (xs (i + 2))).2)) := hD
        have hr9 := rel_drift hR hn4 (xs (i + 1)) (xs (i + 2))
        refine lv_icmp_eq (tgt := 524) hx hb dLa_law_341 (by decide) (fun _ => ?_) (fun c_54 => absurd hr9.1 c_54)
        refine lv_iinc (v := nI (i + 4)) (lv' := [(3, .int (nI (i + 4))), (0, .ref b), (1, .ref (go G 0)), (2, .ref (a 0))]) hx hb dLa_law_524 hl (k := 0) rfl (nI_add i 4) (by decide) rfl (fun ls hl => ?_)
        refine lv_goto (tgt := 18) hx hb dLa_law_527 (by decide) ?_
        exact ih (i + 4) ((xDrift S (xs (i + 1)) (xs (i + 2))).2) ((yDrift M (xs (i + 1)) (xs (i + 2))).2) H locs ls (by omega) (by omega) (by have e9 := hr9.2.2; omega) hr9.2.1 hP hD hS (lv_sub hl [0, 1, 2, 3] rfl)
      by_cases c_55 : ((xs i) &&& 15) = 6
      · refine lv_tableIn (tgt := 346) hx hb dLa_law_32 (by rw [c_55]; decide +kernel) (by rw [c_55]; decide +kernel) (off := 314) (by rw [c_55]; decide +kernel) (by decide) ?_
        refine lv_aload_n hx hb dLa_law_346 rfl (lv_at hl 2 rfl) ?_
        refine lv_aload_n hx hb dLa_law_347 rfl (lv_at hl 1 rfl) ?_
        refine lv_iload_n hx hb dLa_law_348 rfl (lv_at hl 0 rfl) ?_
        refine lv_iconst (v := 1) hx hb dLa_law_349 (by decide) ?_
        refine lv_iadd hx hb dLa_law_350 ?_
        refine lv_topi (fun z_56 e_56 => ?_)
        have e_56 : z_56 = nI (i + 1) := e_56.trans (nI_add i 1)
        subst e_56
        refine mk_sld (k := (i + 1)) hx hb hX hbl hbA hS rfl ⟨by omega, by omega⟩ dLa_law_351 ?_
        refine lv_aload_n hx hb dLa_law_352 rfl (lv_at hl 1 rfl) ?_
        refine lv_iload_n hx hb dLa_law_353 rfl (lv_at hl 0 rfl) ?_
        refine lv_iconst (v := 2) hx hb dLa_law_354 (by decide) ?_
        refine lv_iadd hx hb dLa_law_355 ?_
        refine lv_topi (fun z_57 e_57 => ?_)
        have e_57 : z_57 = nI (i + 2) := e_57.trans (nI_add i 2)
        subst e_57
        refine mk_sld (k := (i + 2)) hx hb hX hbl hbA hS rfl ⟨by omega, by omega⟩ dLa_law_356 ?_
        refine lv_aload_n hx hb dLa_law_357 rfl (lv_at hl 1 rfl) ?_
        refine lv_iload_n hx hb dLa_law_358 rfl (lv_at hl 0 rfl) ?_
        refine lv_iconst (v := 3) hx hb dLa_law_359 (by decide) ?_
        refine lv_iadd hx hb dLa_law_360 ?_
        refine lv_topi (fun z_58 e_58 => ?_)
        have e_58 : z_58 = nI (i + 3) := e_58.trans (nI_add i 3)
        subst e_58
        refine mk_sld (k := (i + 3)) hx hb hX hbl hbA hS rfl ⟨by omega, by omega⟩ dLa_law_361 ?_
        refine mk_wrVi (As := [.int (xs (i + 1)), .int (xs (i + 2)), .int (xs (i + 3))]) (rest := []) (w := (wMB g G S)) (q0 := (RMB, TMB, 5)) (ci := iMB) (w2 := (wMB g G (xRadio S (xs (i + 1)) (xs (i + 2)) (xs (i + 3))).2)) ⟨hx, hb, hml, hown, hts⟩ (c_radio l D g G S hG hb1 (xs (i + 1)) (xs (i + 2)) (xs (i + 3))) (cwV 3 hts (gd_LV b_206 b_207 b_208 b_1 b_209) rfl rfl rfl (by decide +kernel) ⟨Nat.le_of_ble_eq_true rfl, Nat.le_of_ble_eq_true rfl⟩) hK hP hD hS hA (List.range 53) lw_cutA mb_ndAll fst_MB rfl rfl rfl hl.1 rfl (Nat.le_of_ble_eq_true rfl) dLa_law_362 ⟨Nat.le_of_ble_eq_true rfl, Nat.le_of_ble_eq_true rfl⟩ (fun H locs hP hD hS => ?_)
        rw [lw_putA] at hP hD
        have hP : va_P D vwCl (wMB g G ((xRadio S (xs (i + 1)) (xs (i + 2)) (xs (i + 3))).2) ++ wMo g a M) H := hP
        have hD : va_D (fun q : Nat => s.heap.size ≤ q) (wMB g G ((xRadio S (xs (i + 1)) (xs (i + 2)) (xs (i + 3))).2) ++ wMo g a M) := hD
        refine lv_aload_n hx hb dLa_law_365 rfl (lv_at hl 3 rfl) ?_
        refine lv_aload_n hx hb dLa_law_366 rfl (lv_at hl 1 rfl) ?_
        refine lv_iload_n hx hb dLa_law_367 rfl (lv_at hl 0 rfl) ?_
        refine lv_iconst (v := 1) hx hb dLa_law_368 (by decide) ?_
        refine lv_iadd hx hb dLa_law_369 ?_
        refine lv_topi (fun z_59 e_59 => ?_)
        have e_59 : z_59 = nI (i + 1) := e_59.trans (nI_add i 1)
        subst e_59
        refine mk_sld (k := (i + 1)) hx hb hX hbl hbA hS rfl ⟨by omega, by omega⟩ dLa_law_370 ?_
        refine lv_aload_n hx hb dLa_law_371 rfl (lv_at hl 1 rfl) ?_
        refine lv_iload_n hx hb dLa_law_372 rfl (lv_at hl 0 rfl) ?_
        refine lv_iconst (v := 2) hx hb dLa_law_373 (by decide) ?_
        refine lv_iadd hx hb dLa_law_374 ?_
        refine lv_topi (fun z_60 e_60 => ?_)
        have e_60 : z_60 = nI (i + 2) := e_60.trans (nI_add i 2)
        subst e_60
        refine mk_sld (k := (i + 2)) hx hb hX hbl hbA hS rfl ⟨by omega, by omega⟩ dLa_law_375 ?_
        refine lv_aload_n hx hb dLa_law_376 rfl (lv_at hl 1 rfl) ?_
        refine lv_iload_n hx hb dLa_law_377 rfl (lv_at hl 0 rfl) ?_
        refine lv_iconst (v := 3) hx hb dLa_law_378 (by decide) ?_
        refine lv_iadd hx hb dLa_law_379 ?_
        refine lv_topi (fun z_61 e_61 => ?_)
        have e_61 : z_61 = nI (i + 3) := e_61.trans (nI_add i 3)
        subst e_61
        refine mk_sld (k := (i + 3)) hx hb hX hbl hbA hS rfl ⟨by omega, by omega⟩ dLa_law_380 ?_
        refine mk_wrVi (As := [.int (xs (i + 1)), .int (xs (i + 2)), .int (xs (i + 3))]) (rest := [.int ((xRadio S (xs (i + 1)) (xs (i + 2)) (xs (i + 3))).1)]) (w := (wMo g a M)) (q0 := (RMo, TMo, 32)) (ci := iMo) (w2 := (wMo g a (yRadio M (xs (i + 1)) (xs (i + 2)) (xs (i + 3))).2)) ⟨hx, hb, hml, hown, hts⟩ (k_radio l D g a M hb2 (xs (i + 1)) (xs (i + 2)) (xs (i + 3))) (cwV 3 hts (gd_LV b_506 b_507 b_508 b_6 b_509) rfl rfl rfl (by decide +kernel) ⟨Nat.le_of_ble_eq_true rfl, Nat.le_of_ble_eq_true rfl⟩) hK hP hD hS hA pB lw_cutB lw_ndB fst_Mo rfl rfl rfl hl.1 rfl (Nat.le_of_ble_eq_true rfl) dLa_law_381 ⟨Nat.le_of_ble_eq_true rfl, Nat.le_of_ble_eq_true rfl⟩ (fun H locs hP hD hS => ?_)
        rw [lw_putB] at hP hD
        have hP : va_P D vwCl (wMB g G ((xRadio S (xs (i + 1)) (xs (i + 2)) (xs (i + 3))).2) ++ wMo g a ((yRadio M (xs (i + 1)) (xs (i + 2)) (xs (i + 3))).2)) H := hP
        have hD : va_D (fun q : Nat => s.heap.size ≤ q) (wMB g G ((xRadio S (xs (i + 1)) (xs (i + 2)) (xs (i + 3))).2) ++ wMo g a ((yRadio M (xs (i + 1)) (xs (i + 2)) (xs (i + 3))).2)) := hD
        have hr9 := rel_radio hR hn4 (xs (i + 1)) (xs (i + 2)) (xs (i + 3))
        refine lv_icmp_eq (tgt := 524) hx hb dLa_law_384 (by decide) (fun _ => ?_) (fun c_62 => absurd hr9.1 c_62)
        refine lv_iinc (v := nI (i + 4)) (lv' := [(3, .int (nI (i + 4))), (0, .ref b), (1, .ref (go G 0)), (2, .ref (a 0))]) hx hb dLa_law_524 hl (k := 0) rfl (nI_add i 4) (by decide) rfl (fun ls hl => ?_)
        refine lv_goto (tgt := 18) hx hb dLa_law_527 (by decide) ?_
        exact ih (i + 4) ((xRadio S (xs (i + 1)) (xs (i + 2)) (xs (i + 3))).2) ((yRadio M (xs (i + 1)) (xs (i + 2)) (xs (i + 3))).2) H locs ls (by omega) (by omega) (by have e9 := hr9.2.2; omega) hr9.2.1 hP hD hS (lv_sub hl [0, 1, 2, 3] rfl)
      by_cases c_63 : ((xs i) &&& 15) = 7
      · refine lv_tableIn (tgt := 389) hx hb dLa_law_32 (by rw [c_63]; decide +kernel) (by rw [c_63]; decide +kernel) (off := 357) (by rw [c_63]; decide +kernel) (by decide) ?_
        refine lv_aload_n hx hb dLa_law_389 rfl (lv_at hl 2 rfl) ?_
        refine lv_aload_n hx hb dLa_law_390 rfl (lv_at hl 1 rfl) ?_
        refine lv_iload_n hx hb dLa_law_391 rfl (lv_at hl 0 rfl) ?_
        refine lv_iconst (v := 1) hx hb dLa_law_392 (by decide) ?_
        refine lv_iadd hx hb dLa_law_393 ?_
        refine lv_topi (fun z_64 e_64 => ?_)
        have e_64 : z_64 = nI (i + 1) := e_64.trans (nI_add i 1)
        subst e_64
        refine mk_sld (k := (i + 1)) hx hb hX hbl hbA hS rfl ⟨by omega, by omega⟩ dLa_law_394 ?_
        refine mk_wrVi (As := [.int (xs (i + 1))]) (rest := []) (w := (wMB g G S)) (q0 := (RMB, TMB, 5)) (ci := iMB) (w2 := (wMB g G (xTick S (xs (i + 1))).2)) ⟨hx, hb, hml, hown, hts⟩ (c_tick l D g G S hG hb1 (xs (i + 1)) (by omega)) (cwV 1 hts (gd_LV b_210 b_211 b_212 b_1 b_213) rfl rfl rfl (by decide +kernel) ⟨Nat.le_of_ble_eq_true rfl, Nat.le_of_ble_eq_true rfl⟩) hK hP hD hS hA (List.range 53) lw_cutA mb_ndAll fst_MB rfl rfl rfl hl.1 rfl (Nat.le_of_ble_eq_true rfl) dLa_law_395 ⟨Nat.le_of_ble_eq_true rfl, Nat.le_of_ble_eq_true rfl⟩ (fun H locs hP hD hS => ?_)
        rw [lw_putA] at hP hD
        have hP : va_P D vwCl (wMB g G ((xTick S (xs (i + 1))).2) ++ wMo g a M) H := hP
        have hD : va_D (fun q : Nat => s.heap.size ≤ q) (wMB g G ((xTick S (xs (i + 1))).2) ++ wMo g a M) := hD
        refine lv_aload_n hx hb dLa_law_398 rfl (lv_at hl 3 rfl) ?_
        refine lv_aload_n hx hb dLa_law_399 rfl (lv_at hl 1 rfl) ?_
        refine lv_iload_n hx hb dLa_law_400 rfl (lv_at hl 0 rfl) ?_
        refine lv_iconst (v := 1) hx hb dLa_law_401 (by decide) ?_
        refine lv_iadd hx hb dLa_law_402 ?_
        refine lv_topi (fun z_65 e_65 => ?_)
        have e_65 : z_65 = nI (i + 1) := e_65.trans (nI_add i 1)
        subst e_65
        refine mk_sld (k := (i + 1)) hx hb hX hbl hbA hS rfl ⟨by omega, by omega⟩ dLa_law_403 ?_
        refine mk_wrVi (As := [.int (xs (i + 1))]) (rest := [.int ((xTick S (xs (i + 1))).1)]) (w := (wMo g a M)) (q0 := (RMo, TMo, 32)) (ci := iMo) (w2 := (wMo g a (yTick M (xs (i + 1))).2)) ⟨hx, hb, hml, hown, hts⟩ (k_tick l D g a M (xs (i + 1)) (rel_H hR hn4)) (cwV 1 hts (gd_LV b_510 b_511 b_512 b_6 b_513) rfl rfl rfl (by decide +kernel) ⟨Nat.le_of_ble_eq_true rfl, Nat.le_of_ble_eq_true rfl⟩) hK hP hD hS hA pB lw_cutB lw_ndB fst_Mo rfl rfl rfl hl.1 rfl (Nat.le_of_ble_eq_true rfl) dLa_law_404 ⟨Nat.le_of_ble_eq_true rfl, Nat.le_of_ble_eq_true rfl⟩ (fun H locs hP hD hS => ?_)
        rw [lw_putB] at hP hD
        have hP : va_P D vwCl (wMB g G ((xTick S (xs (i + 1))).2) ++ wMo g a ((yTick M (xs (i + 1))).2)) H := hP
        have hD : va_D (fun q : Nat => s.heap.size ≤ q) (wMB g G ((xTick S (xs (i + 1))).2) ++ wMo g a ((yTick M (xs (i + 1))).2)) := hD
        have hr9 := rel_tick hR hn4 (xs (i + 1))
        refine lv_icmp_eq (tgt := 524) hx hb dLa_law_407 (by decide) (fun _ => ?_) (fun c_66 => absurd hr9.1 c_66)
        refine lv_iinc (v := nI (i + 4)) (lv' := [(3, .int (nI (i + 4))), (0, .ref b), (1, .ref (go G 0)), (2, .ref (a 0))]) hx hb dLa_law_524 hl (k := 0) rfl (nI_add i 4) (by decide) rfl (fun ls hl => ?_)
        refine lv_goto (tgt := 18) hx hb dLa_law_527 (by decide) ?_
        exact ih (i + 4) ((xTick S (xs (i + 1))).2) ((yTick M (xs (i + 1))).2) H locs ls (by omega) (by omega) (by have e9 := hr9.2.2; omega) hr9.2.1 hP hD hS (lv_sub hl [0, 1, 2, 3] rfl)
      by_cases c_67 : ((xs i) &&& 15) = 8
      · refine lv_tableIn (tgt := 412) hx hb dLa_law_32 (by rw [c_67]; decide +kernel) (by rw [c_67]; decide +kernel) (off := 380) (by rw [c_67]; decide +kernel) (by decide) ?_
        refine lv_aload_n hx hb dLa_law_412 rfl (lv_at hl 2 rfl) ?_
        refine lv_aload_n hx hb dLa_law_413 rfl (lv_at hl 1 rfl) ?_
        refine lv_iload_n hx hb dLa_law_414 rfl (lv_at hl 0 rfl) ?_
        refine lv_iconst (v := 1) hx hb dLa_law_415 (by decide) ?_
        refine lv_iadd hx hb dLa_law_416 ?_
        refine lv_topi (fun z_68 e_68 => ?_)
        have e_68 : z_68 = nI (i + 1) := e_68.trans (nI_add i 1)
        subst e_68
        refine mk_sld (k := (i + 1)) hx hb hX hbl hbA hS rfl ⟨by omega, by omega⟩ dLa_law_417 ?_
        refine lv_aload_n hx hb dLa_law_418 rfl (lv_at hl 1 rfl) ?_
        refine lv_iload_n hx hb dLa_law_419 rfl (lv_at hl 0 rfl) ?_
        refine lv_iconst (v := 2) hx hb dLa_law_420 (by decide) ?_
        refine lv_iadd hx hb dLa_law_421 ?_
        refine lv_topi (fun z_69 e_69 => ?_)
        have e_69 : z_69 = nI (i + 2) := e_69.trans (nI_add i 2)
        subst e_69
        refine mk_sld (k := (i + 2)) hx hb hX hbl hbA hS rfl ⟨by omega, by omega⟩ dLa_law_422 ?_
        refine mk_rdV (As := [.int (xs (i + 1)), .int (xs (i + 2))]) (rest := []) (w := (wMB g G S)) (q0 := (RMB, TMB, 5)) (ci := iMB) ⟨hx, hb, hml, hown, hts⟩ (c_measure l D g G S hG hb1 (xs (i + 1)) (xs (i + 2))) (cwV 2 hts (gd_LV b_317 b_318 b_319 b_1 b_320) rfl rfl rfl (by decide +kernel) ⟨Nat.le_of_ble_eq_true rfl, Nat.le_of_ble_eq_true rfl⟩) hK hP hD hS hA (List.range 53) lw_cutA mb_ndAll rfl rfl rfl hl.1 rfl (Nat.le_of_ble_eq_true rfl) dLa_law_423 ⟨Nat.le_of_ble_eq_true rfl, Nat.le_of_ble_eq_true rfl⟩ (fun H locs hP hS => ?_)
        refine lv_aload_n hx hb dLa_law_426 rfl (lv_at hl 3 rfl) ?_
        refine lv_aload_n hx hb dLa_law_427 rfl (lv_at hl 1 rfl) ?_
        refine lv_iload_n hx hb dLa_law_428 rfl (lv_at hl 0 rfl) ?_
        refine lv_iconst (v := 1) hx hb dLa_law_429 (by decide) ?_
        refine lv_iadd hx hb dLa_law_430 ?_
        refine lv_topi (fun z_70 e_70 => ?_)
        have e_70 : z_70 = nI (i + 1) := e_70.trans (nI_add i 1)
        subst e_70
        refine mk_sld (k := (i + 1)) hx hb hX hbl hbA hS rfl ⟨by omega, by omega⟩ dLa_law_431 ?_
        refine lv_aload_n hx hb dLa_law_432 rfl (lv_at hl 1 rfl) ?_
        refine lv_iload_n hx hb dLa_law_433 rfl (lv_at hl 0 rfl) ?_
        refine lv_iconst (v := 2) hx hb dLa_law_434 (by decide) ?_
        refine lv_iadd hx hb dLa_law_435 ?_
        refine lv_topi (fun z_71 e_71 => ?_)
        have e_71 : z_71 = nI (i + 2) := e_71.trans (nI_add i 2)
        subst e_71
        refine mk_sld (k := (i + 2)) hx hb hX hbl hbA hS rfl ⟨by omega, by omega⟩ dLa_law_436 ?_
        refine mk_rdV (As := [.int (xs (i + 1)), .int (xs (i + 2))]) (rest := [.int (xMeasure S (xs (i + 1)) (xs (i + 2)))]) (w := (wMo g a M)) (q0 := (RMo, TMo, 32)) (ci := iMo) ⟨hx, hb, hml, hown, hts⟩ (k_measure l D g a M hb2 (xs (i + 1)) (xs (i + 2))) (cwV 2 hts (gd_LV b_573 b_574 b_575 b_6 b_576) rfl rfl rfl (by decide +kernel) ⟨Nat.le_of_ble_eq_true rfl, Nat.le_of_ble_eq_true rfl⟩) hK hP hD hS hA pB lw_cutB lw_ndB rfl rfl rfl hl.1 rfl (Nat.le_of_ble_eq_true rfl) dLa_law_437 ⟨Nat.le_of_ble_eq_true rfl, Nat.le_of_ble_eq_true rfl⟩ (fun H locs hP hS => ?_)
        have hr9 := rel_measure hR hn4 (xs (i + 1)) (xs (i + 2))
        refine lv_icmp_eq (tgt := 524) hx hb dLa_law_440 (by decide) (fun _ => ?_) (fun c_72 => absurd hr9 c_72)
        refine lv_iinc (v := nI (i + 4)) (lv' := [(3, .int (nI (i + 4))), (0, .ref b), (1, .ref (go G 0)), (2, .ref (a 0))]) hx hb dLa_law_524 hl (k := 0) rfl (nI_add i 4) (by decide) rfl (fun ls hl => ?_)
        refine lv_goto (tgt := 18) hx hb dLa_law_527 (by decide) ?_
        exact ih (i + 4) S M H locs ls (by omega) (by omega) (by omega) hR hP hD hS (lv_sub hl [0, 1, 2, 3] rfl)
      by_cases c_73 : ((xs i) &&& 15) = 9
      · refine lv_tableIn (tgt := 445) hx hb dLa_law_32 (by rw [c_73]; decide +kernel) (by rw [c_73]; decide +kernel) (off := 413) (by rw [c_73]; decide +kernel) (by decide) ?_
        refine lv_aload_n hx hb dLa_law_445 rfl (lv_at hl 2 rfl) ?_
        refine lv_aload_n hx hb dLa_law_446 rfl (lv_at hl 1 rfl) ?_
        refine lv_iload_n hx hb dLa_law_447 rfl (lv_at hl 0 rfl) ?_
        refine lv_iconst (v := 1) hx hb dLa_law_448 (by decide) ?_
        refine lv_iadd hx hb dLa_law_449 ?_
        refine lv_topi (fun z_74 e_74 => ?_)
        have e_74 : z_74 = nI (i + 1) := e_74.trans (nI_add i 1)
        subst e_74
        refine mk_sld (k := (i + 1)) hx hb hX hbl hbA hS rfl ⟨by omega, by omega⟩ dLa_law_450 ?_
        refine lv_aload_n hx hb dLa_law_451 rfl (lv_at hl 1 rfl) ?_
        refine lv_iload_n hx hb dLa_law_452 rfl (lv_at hl 0 rfl) ?_
        refine lv_iconst (v := 2) hx hb dLa_law_453 (by decide) ?_
        refine lv_iadd hx hb dLa_law_454 ?_
        refine lv_topi (fun z_75 e_75 => ?_)
        have e_75 : z_75 = nI (i + 2) := e_75.trans (nI_add i 2)
        subst e_75
        refine mk_sld (k := (i + 2)) hx hb hX hbl hbA hS rfl ⟨by omega, by omega⟩ dLa_law_455 ?_
        refine mk_rdV (As := [.int (xs (i + 1)), .int (xs (i + 2))]) (rest := []) (w := (wMB g G S)) (q0 := (RMB, TMB, 5)) (ci := iMB) ⟨hx, hb, hml, hown, hts⟩ (c_state l D g G S hG hb1 (xs (i + 1)) (xs (i + 2))) (cwV 2 hts (gd_LV b_321 b_322 b_323 b_1 b_324) rfl rfl rfl (by decide +kernel) ⟨Nat.le_of_ble_eq_true rfl, Nat.le_of_ble_eq_true rfl⟩) hK hP hD hS hA (List.range 53) lw_cutA mb_ndAll rfl rfl rfl hl.1 rfl (Nat.le_of_ble_eq_true rfl) dLa_law_456 ⟨Nat.le_of_ble_eq_true rfl, Nat.le_of_ble_eq_true rfl⟩ (fun H locs hP hS => ?_)
        refine lv_aload_n hx hb dLa_law_459 rfl (lv_at hl 3 rfl) ?_
        refine lv_aload_n hx hb dLa_law_460 rfl (lv_at hl 1 rfl) ?_
        refine lv_iload_n hx hb dLa_law_461 rfl (lv_at hl 0 rfl) ?_
        refine lv_iconst (v := 1) hx hb dLa_law_462 (by decide) ?_
        refine lv_iadd hx hb dLa_law_463 ?_
        refine lv_topi (fun z_76 e_76 => ?_)
        have e_76 : z_76 = nI (i + 1) := e_76.trans (nI_add i 1)
        subst e_76
        refine mk_sld (k := (i + 1)) hx hb hX hbl hbA hS rfl ⟨by omega, by omega⟩ dLa_law_464 ?_
        refine lv_aload_n hx hb dLa_law_465 rfl (lv_at hl 1 rfl) ?_
        refine lv_iload_n hx hb dLa_law_466 rfl (lv_at hl 0 rfl) ?_
        refine lv_iconst (v := 2) hx hb dLa_law_467 (by decide) ?_
        refine lv_iadd hx hb dLa_law_468 ?_
        refine lv_topi (fun z_77 e_77 => ?_)
        have e_77 : z_77 = nI (i + 2) := e_77.trans (nI_add i 2)
        subst e_77
        refine mk_sld (k := (i + 2)) hx hb hX hbl hbA hS rfl ⟨by omega, by omega⟩ dLa_law_469 ?_
        refine mk_rdV (As := [.int (xs (i + 1)), .int (xs (i + 2))]) (rest := [.int (xState S (xs (i + 1)) (xs (i + 2)))]) (w := (wMo g a M)) (q0 := (RMo, TMo, 32)) (ci := iMo) ⟨hx, hb, hml, hown, hts⟩ (k_state l D g a M hb2 hb3 (xs (i + 1)) (xs (i + 2))) (cwV 2 hts (gd_LV b_580 b_581 b_582 b_6 b_583) rfl rfl rfl (by decide +kernel) ⟨Nat.le_of_ble_eq_true rfl, Nat.le_of_ble_eq_true rfl⟩) hK hP hD hS hA pB lw_cutB lw_ndB rfl rfl rfl hl.1 rfl (Nat.le_of_ble_eq_true rfl) dLa_law_470 ⟨Nat.le_of_ble_eq_true rfl, Nat.le_of_ble_eq_true rfl⟩ (fun H locs hP hS => ?_)
        have hr9 := rel_state hR hn4 (xs (i + 1)) (xs (i + 2))
        refine lv_icmp_eq (tgt := 524) hx hb dLa_law_473 (by decide) (fun _ => ?_) (fun c_78 => absurd hr9 c_78)
        refine lv_iinc (v := nI (i + 4)) (lv' := [(3, .int (nI (i + 4))), (0, .ref b), (1, .ref (go G 0)), (2, .ref (a 0))]) hx hb dLa_law_524 hl (k := 0) rfl (nI_add i 4) (by decide) rfl (fun ls hl => ?_)
        refine lv_goto (tgt := 18) hx hb dLa_law_527 (by decide) ?_
        exact ih (i + 4) S M H locs ls (by omega) (by omega) (by omega) hR hP hD hS (lv_sub hl [0, 1, 2, 3] rfl)
      by_cases c_79 : ((xs i) &&& 15) = 10
      · refine lv_tableIn (tgt := 478) hx hb dLa_law_32 (by rw [c_79]; decide +kernel) (by rw [c_79]; decide +kernel) (off := 446) (by rw [c_79]; decide +kernel) (by decide) ?_
        refine lv_aload_n hx hb dLa_law_478 rfl (lv_at hl 2 rfl) ?_
        refine lv_aload_n hx hb dLa_law_479 rfl (lv_at hl 1 rfl) ?_
        refine lv_iload_n hx hb dLa_law_480 rfl (lv_at hl 0 rfl) ?_
        refine lv_iconst (v := 1) hx hb dLa_law_481 (by decide) ?_
        refine lv_iadd hx hb dLa_law_482 ?_
        refine lv_topi (fun z_80 e_80 => ?_)
        have e_80 : z_80 = nI (i + 1) := e_80.trans (nI_add i 1)
        subst e_80
        refine mk_sld (k := (i + 1)) hx hb hX hbl hbA hS rfl ⟨by omega, by omega⟩ dLa_law_483 ?_
        refine mk_rdV (As := [.int (xs (i + 1))]) (rest := []) (w := (wMB g G S)) (q0 := (RMB, TMB, 5)) (ci := iMB) ⟨hx, hb, hml, hown, hts⟩ (c_permitted l D g G S hG hb1 (xs (i + 1))) (cwV 1 hts (gd_LV b_334 b_335 b_336 b_1 b_337) rfl rfl rfl (by decide +kernel) ⟨Nat.le_of_ble_eq_true rfl, Nat.le_of_ble_eq_true rfl⟩) hK hP hD hS hA (List.range 53) lw_cutA mb_ndAll rfl rfl rfl hl.1 rfl (Nat.le_of_ble_eq_true rfl) dLa_law_484 ⟨Nat.le_of_ble_eq_true rfl, Nat.le_of_ble_eq_true rfl⟩ (fun H locs hP hS => ?_)
        refine lv_aload_n hx hb dLa_law_487 rfl (lv_at hl 3 rfl) ?_
        refine lv_aload_n hx hb dLa_law_488 rfl (lv_at hl 1 rfl) ?_
        refine lv_iload_n hx hb dLa_law_489 rfl (lv_at hl 0 rfl) ?_
        refine lv_iconst (v := 1) hx hb dLa_law_490 (by decide) ?_
        refine lv_iadd hx hb dLa_law_491 ?_
        refine lv_topi (fun z_81 e_81 => ?_)
        have e_81 : z_81 = nI (i + 1) := e_81.trans (nI_add i 1)
        subst e_81
        refine mk_sld (k := (i + 1)) hx hb hX hbl hbA hS rfl ⟨by omega, by omega⟩ dLa_law_492 ?_
        refine mk_rdV (As := [.int (xs (i + 1))]) (rest := [.int (xPermitted S (xs (i + 1)))]) (w := (wMo g a M)) (q0 := (RMo, TMo, 32)) (ci := iMo) ⟨hx, hb, hml, hown, hts⟩ (k_permitted l D g a M hb2 (xs (i + 1))) (cwV 1 hts (gd_LV b_584 b_585 b_586 b_6 b_587) rfl rfl rfl (by decide +kernel) ⟨Nat.le_of_ble_eq_true rfl, Nat.le_of_ble_eq_true rfl⟩) hK hP hD hS hA pB lw_cutB lw_ndB rfl rfl rfl hl.1 rfl (Nat.le_of_ble_eq_true rfl) dLa_law_493 ⟨Nat.le_of_ble_eq_true rfl, Nat.le_of_ble_eq_true rfl⟩ (fun H locs hP hS => ?_)
        have hr9 := rel_permitted hR hn4 (xs (i + 1))
        refine lv_icmp_eq (tgt := 524) hx hb dLa_law_496 (by decide) (fun _ => ?_) (fun c_82 => absurd hr9 c_82)
        refine lv_iinc (v := nI (i + 4)) (lv' := [(3, .int (nI (i + 4))), (0, .ref b), (1, .ref (go G 0)), (2, .ref (a 0))]) hx hb dLa_law_524 hl (k := 0) rfl (nI_add i 4) (by decide) rfl (fun ls hl => ?_)
        refine lv_goto (tgt := 18) hx hb dLa_law_527 (by decide) ?_
        exact ih (i + 4) S M H locs ls (by omega) (by omega) (by omega) hR hP hD hS (lv_sub hl [0, 1, 2, 3] rfl)
      by_cases c_83 : ((xs i) &&& 15) = 11
      · refine lv_tableIn (tgt := 501) hx hb dLa_law_32 (by rw [c_83]; decide +kernel) (by rw [c_83]; decide +kernel) (off := 469) (by rw [c_83]; decide +kernel) (by decide) ?_
        refine lv_aload_n hx hb dLa_law_501 rfl (lv_at hl 2 rfl) ?_
        refine lv_aload_n hx hb dLa_law_502 rfl (lv_at hl 1 rfl) ?_
        refine lv_iload_n hx hb dLa_law_503 rfl (lv_at hl 0 rfl) ?_
        refine lv_iconst (v := 1) hx hb dLa_law_504 (by decide) ?_
        refine lv_iadd hx hb dLa_law_505 ?_
        refine lv_topi (fun z_84 e_84 => ?_)
        have e_84 : z_84 = nI (i + 1) := e_84.trans (nI_add i 1)
        subst e_84
        refine mk_sld (k := (i + 1)) hx hb hX hbl hbA hS rfl ⟨by omega, by omega⟩ dLa_law_506 ?_
        refine mk_rdV (As := [.int (xs (i + 1))]) (rest := []) (w := (wMB g G S)) (q0 := (RMB, TMB, 5)) (ci := iMB) ⟨hx, hb, hml, hown, hts⟩ (c_count l D g G S hG hb1 (xs (i + 1))) (cwV 1 hts (gd_LV b_342 b_343 b_344 b_1 b_345) rfl rfl rfl (by decide +kernel) ⟨Nat.le_of_ble_eq_true rfl, Nat.le_of_ble_eq_true rfl⟩) hK hP hD hS hA (List.range 53) lw_cutA mb_ndAll rfl rfl rfl hl.1 rfl (Nat.le_of_ble_eq_true rfl) dLa_law_507 ⟨Nat.le_of_ble_eq_true rfl, Nat.le_of_ble_eq_true rfl⟩ (fun H locs hP hS => ?_)
        refine lv_aload_n hx hb dLa_law_510 rfl (lv_at hl 3 rfl) ?_
        refine lv_aload_n hx hb dLa_law_511 rfl (lv_at hl 1 rfl) ?_
        refine lv_iload_n hx hb dLa_law_512 rfl (lv_at hl 0 rfl) ?_
        refine lv_iconst (v := 1) hx hb dLa_law_513 (by decide) ?_
        refine lv_iadd hx hb dLa_law_514 ?_
        refine lv_topi (fun z_85 e_85 => ?_)
        have e_85 : z_85 = nI (i + 1) := e_85.trans (nI_add i 1)
        subst e_85
        refine mk_sld (k := (i + 1)) hx hb hX hbl hbA hS rfl ⟨by omega, by omega⟩ dLa_law_515 ?_
        refine mk_rdV (As := [.int (xs (i + 1))]) (rest := [.int (xCount S (xs (i + 1)))]) (w := (wMo g a M)) (q0 := (RMo, TMo, 32)) (ci := iMo) ⟨hx, hb, hml, hown, hts⟩ (k_count l D g a M hb2 (xs (i + 1))) (cwV 1 hts (gd_LV b_588 b_589 b_590 b_6 b_591) rfl rfl rfl (by decide +kernel) ⟨Nat.le_of_ble_eq_true rfl, Nat.le_of_ble_eq_true rfl⟩) hK hP hD hS hA pB lw_cutB lw_ndB rfl rfl rfl hl.1 rfl (Nat.le_of_ble_eq_true rfl) dLa_law_516 ⟨Nat.le_of_ble_eq_true rfl, Nat.le_of_ble_eq_true rfl⟩ (fun H locs hP hS => ?_)
        have hr9 := rel_count hR hn4 (xs (i + 1))
        refine lv_icmp_eq (tgt := 524) hx hb dLa_law_519 (by decide) (fun _ => ?_) (fun c_86 => absurd hr9 c_86)
        refine lv_iinc (v := nI (i + 4)) (lv' := [(3, .int (nI (i + 4))), (0, .ref b), (1, .ref (go G 0)), (2, .ref (a 0))]) hx hb dLa_law_524 hl (k := 0) rfl (nI_add i 4) (by decide) rfl (fun ls hl => ?_)
        refine lv_goto (tgt := 18) hx hb dLa_law_527 (by decide) ?_
        exact ih (i + 4) S M H locs ls (by omega) (by omega) (by omega) hR hP hD hS (lv_sub hl [0, 1, 2, 3] rfl)
      refine lv_tableOut (tgt := 524) hx hb dLa_law_32 (mk_tab12 c_2 c_10 c_25 c_37 c_43 c_49 c_55 c_63 c_67 c_73 c_79 c_83) (by decide) ?_
      refine lv_iinc (v := nI (i + 4)) (lv' := [(3, .int (nI (i + 4))), (0, .ref b), (1, .ref (go G 0)), (2, .ref (a 0))]) hx hb dLa_law_524 hl (k := 0) rfl (nI_add i 4) (by decide) rfl (fun ls hl => ?_)
      refine lv_goto (tgt := 18) hx hb dLa_law_527 (by decide) ?_
      exact ih (i + 4) S M H locs ls (by omega) (by omega) (by omega) hR hP hD hS (lv_sub hl [0, 1, 2, 3] rfl)
