set_option maxHeartbeats 8000000 in
set_option maxRecDepth 100000 in
theorem whole_start {p : Program} {e : Env} {s : State} {m : MethodId} {below : List Frame} {meth : Method} {c : Code} (l : Launch) {b L : Nat} {xs : Nat → Int32} (hL : L ≤ 2048) (C0 : lw_At p s m meth c b L xs) : W p l e room_1 s m #[Value.ref b] below meth c s.heap [] 0 0 (lw_Z below #[Value.ref b] s) (entryFrame m ([Value.ref b] : List Value).toArray 4) := by
  obtain ⟨hx, hb, hr, hml, hown, hts, hX, hbl, hlocks, hgv⟩ := id C0
  have htB := fun (w : Cond) (h : w ∈ BIG) => hts w (big_tbl h)
  have hA : ∀ q : Nat, s.heap.size ≤ q → (fun q : Nat => s.heap.size ≤ q) q := fun _ h => h
  have hbA : ¬ (fun q : Nat => s.heap.size ≤ q) b := Nat.not_le.mpr hbl
  obtain ⟨c0, iS0, hKn0⟩ := u_known (C := RCh) (T := TCh) (N := 10) (n := 10) htB inBCh (htB _ b_62)
  obtain ⟨c1, iS1, hKn1⟩ := u_known (C := RTk) (T := TTk) (N := 2) (n := 2) htB inBTk (htB _ b_17)
  obtain ⟨c2, iS2, hKn2⟩ := u_known (C := RTr) (T := TTr) (N := 11) (n := 11) htB inBTr (htB _ b_56)
  obtain ⟨c3, iS3, hKn3⟩ := u_known (C := RWy) (T := TWy) (N := 3) (n := 3) htB inBWy (htB _ b_34)
  obtain ⟨c4, iS4, hKn4⟩ := u_known (C := RMB) (T := TMB) (N := 5) (n := 5) htB inBMB (htB _ b_9)
  obtain ⟨c5, iS5, hKn5⟩ := u_known (C := RMo) (T := TMo) (N := 32) (n := 32) htB inBMo (htB _ b_363)
  obtain ⟨D, hKc⟩ : ∃ D : va_G, ∀ (k : Nat) (q : vw_C), vwCl[k]? = some q → u_Kn s q.1 q.2.1 q.2.2 (D.1 k) (D.2 k) := by
    refine ⟨(fun k => if k = 0 then c0 else if k = 1 then c1 else if k = 2 then c2 else if k = 3 then c3 else if k = 4 then c4 else c5, fun k => if k = 0 then iS0 else if k = 1 then iS1 else if k = 2 then iS2 else if k = 3 then iS3 else if k = 4 then iS4 else iS5), ?_⟩
    intro k q hq
    match k, hq with
    | 0, hq => cases hq; exact hKn0
    | 1, hq => cases hq; exact hKn1
    | 2, hq => cases hq; exact hKn2
    | 3, hq => cases hq; exact hKn3
    | 4, hq => cases hq; exact hKn4
    | 5, hq => cases hq; exact hKn5
    | k + 6, hq => simp [vwCl] at hq
  obtain ⟨g0, hg0⟩ := mk_tyP (ty := .int) (fun C h => by cases h) (htB _ b_32)
  obtain ⟨g1, hg1⟩ := mk_tyP (ty := .boolean) (fun C h => by cases h) (htB _ b_53)
  have hAO0 : (Cond.arrayOver (.object "MovingBlock$Train")).before #[Value.ref b] s = true := hts _ (List.mem_append_right _ (List.mem_append_left _ (List.mem_of_getElem? (i := 55) rfl)))
  have hAO : va_AO "MovingBlock$Train" s := va_AO.of hAO0
  obtain ⟨g2, hg2⟩ := mk_tyQ hAO0
  obtain ⟨g3, hg3⟩ := mk_tyP (ty := .long) (fun C h => by cases h) (htB _ b_467)
  obtain ⟨g, hK⟩ : ∃ g : Nat → ClassId, va_K D vwCl (zty g) s := by
    refine ⟨fun k => if k = 0 then g0 else if k = 1 then g1 else if k = 2 then g2 else g3, hKc, ?_⟩
    intro k q hq
    match k, hq with
    | 0, hq => cases hq; exact hg0
    | 1, hq => cases hq; exact hg1
    | 2, hq => cases hq; exact hg2
    | 3, hq => cases hq; exact hg3
    | k + 4, hq => simp [zty] at hq
  have hS : va_S (fun q : Nat => s.heap.size ≤ q) s.heap s.heap [] := va_S.rf
  have hP : va_P D vwCl [] s.heap := fun k q h => by simp at h
  have hD : va_D (fun q : Nat => s.heap.size ≤ q) [] := ⟨fun i j p q h => by simp at h, fun k q h => by simp at h⟩
  have hl := lv_entry ([.ref b]) (n := 4) (Nat.le_of_ble_eq_true rfl)
  rw [lg_entry_eq]
  generalize (lg_sl ([.ref b]) ++ List.replicate (4 - (lg_sl ([.ref b])).length) Slot.unset).toArray = ls at hl ⊢
  have hl : lv_has ls 4 [(0, .ref b)] := hl
  refine va_new (ci := iMB) (fs := [.null, .null, .null, .int 0, .int 0]) (C := RMB) (T := TMB) (N := 5) hx hb htB inBMB tyMB tyMB_ok hown (htB _ b_8) (htB _ b_9) (htB _ b_1) hK hP hD hS hA rfl (fun j hj => by rcases (show j = 0 ∨ j = 1 ∨ j = 2 ∨ j = 3 ∨ j = 4 by omega) with rfl | rfl | rfl | rfl | rfl <;> rfl) (Nat.le_of_ble_eq_true rfl) (Nat.le_of_ble_eq_true rfl) dLa_law_0 (fun q1 H hP hD hS => ?_)
  have hP : va_P D vwCl ([(q1, .inr (iMB, [.null, .null, .null, .int 0, .int 0]))]) H := hP
  have hD : va_D (fun q : Nat => s.heap.size ≤ q) ([(q1, .inr (iMB, [.null, .null, .null, .int 0, .int 0]))]) := hD
  refine W.widen (k := 1) (n := 5) (by omega) (by omega) ?_
  refine lv_dup hx hb dLa_law_3 rfl ?_
  refine mk_initO (w0 := [(q1, .inr (iMB, [.null, .null, .null, .int 0, .int 0]))]) (rest := [.ref q1]) ⟨hx, hb, hml, hown, hts⟩ (c_MB_init l D g q1) (cwI 0 hts (gd_LI b_12) rfl rfl rfl (htB _ b_1) (htB _ b_10) (htB _ b_11) rfl (by decide +kernel) ⟨Nat.le_of_ble_eq_true rfl, Nat.le_of_ble_eq_true rfl⟩) hK hAO hP hD hS hA rfl hl.1 rfl (Nat.le_of_ble_eq_true rfl) dLa_law_4 ⟨Nat.le_of_ble_eq_true rfl, Nat.le_of_ble_eq_true rfl⟩ (fun G Hn locsn hoG hPn hDn hSn => ?_)
  obtain ⟨hq9, hG⟩ := hoG
  subst hq9
  generalize Hn = H at hPn hSn ⊢
  generalize locsn = locs at hSn ⊢
  have hP : va_P D vwCl (wMB g G zs0) H := hPn
  have hD : va_D (fun q : Nat => s.heap.size ≤ q) (wMB g G zs0) := hDn
  have hS := hSn
  clear hPn hDn hSn
  refine W.widen (k := 53) (n := 324) (by omega) (by omega) ?_
  refine lv_astore_n (lv' := [(1, .ref (go G 0)), (0, .ref b)]) hx hb dLa_law_7 rfl hl (by decide) rfl (fun ls hl => ?_)
  refine va_new (ci := iMo) (fs := [.null, .null, .null, .null, .null, .int 0, .null, .null, .null, .null, .null, .null, .null, .null, .null, .null, .null, .null, .null, .null, .null, .null, .null, .null, .null, .null, .null, .null, .int 0, .int 0, .int 0, .int 0]) (C := RMo) (T := TMo) (N := 32) hx hb htB inBMo tyMo tyMo_ok hown (htB _ b_362) (htB _ b_363) (htB _ b_6) hK hP hD hS hA rfl (fun j hj => by rcases (show j = 0 ∨ j = 1 ∨ j = 2 ∨ j = 3 ∨ j = 4 ∨ j = 5 ∨ j = 6 ∨ j = 7 ∨ j = 8 ∨ j = 9 ∨ j = 10 ∨ j = 11 ∨ j = 12 ∨ j = 13 ∨ j = 14 ∨ j = 15 ∨ j = 16 ∨ j = 17 ∨ j = 18 ∨ j = 19 ∨ j = 20 ∨ j = 21 ∨ j = 22 ∨ j = 23 ∨ j = 24 ∨ j = 25 ∨ j = 26 ∨ j = 27 ∨ j = 28 ∨ j = 29 ∨ j = 30 ∨ j = 31 by omega) with rfl | rfl | rfl | rfl | rfl | rfl | rfl | rfl | rfl | rfl | rfl | rfl | rfl | rfl | rfl | rfl | rfl | rfl | rfl | rfl | rfl | rfl | rfl | rfl | rfl | rfl | rfl | rfl | rfl | rfl | rfl | rfl <;> rfl) (Nat.le_of_ble_eq_true rfl) (Nat.le_of_ble_eq_true rfl) dLa_law_8 (fun q2 H hP hD hS => ?_)
  have hP : va_P D vwCl (wMB g G zs0 ++ [(q2, .inr (iMo, [.null, .null, .null, .null, .null, .int 0, .null, .null, .null, .null, .null, .null, .null, .null, .null, .null, .null, .null, .null, .null, .null, .null, .null, .null, .null, .null, .null, .null, .int 0, .int 0, .int 0, .int 0]))]) H := hP
  have hD : va_D (fun q : Nat => s.heap.size ≤ q) (wMB g G zs0 ++ [(q2, .inr (iMo, [.null, .null, .null, .null, .null, .int 0, .null, .null, .null, .null, .null, .null, .null, .null, .null, .null, .null, .null, .null, .null, .null, .null, .null, .null, .null, .null, .null, .null, .int 0, .int 0, .int 0, .int 0]))]) := hD
  refine W.widen (k := 54) (n := 356) (by omega) (by omega) ?_
  refine lv_dup hx hb dLa_law_11 rfl ?_
  refine mk_init (Wr := wMB g G zs0) (w0 := [(q2, .inr (iMo, [.null, .null, .null, .null, .null, .int 0, .null, .null, .null, .null, .null, .null, .null, .null, .null, .null, .null, .null, .null, .null, .null, .null, .null, .null, .null, .null, .null, .null, .int 0, .int 0, .int 0, .int 0]))]) (rest := [.ref q2]) ⟨hx, hb, hml, hown, hts⟩ (k_init l D g q2) (cwI 0 hts (gd_LI b_366) rfl rfl rfl (htB _ b_6) (htB _ b_364) (htB _ b_365) rfl (by decide +kernel) ⟨Nat.le_of_ble_eq_true rfl, Nat.le_of_ble_eq_true rfl⟩) hK hP hD hS hA rfl hl.1 rfl (Nat.le_of_ble_eq_true rfl) dLa_law_12 ⟨Nat.le_of_ble_eq_true rfl, Nat.le_of_ble_eq_true rfl⟩ (fun a3 Hn locsn hoa3 hPn hDn hSn => ?_)
  subst hoa3
  generalize Hn = H at hPn hSn ⊢
  generalize locsn = locs at hSn ⊢
  have hP : va_P D vwCl (wMB g G zs0 ++ wMo g a3 zo0) H := hPn
  have hD : va_D (fun q : Nat => s.heap.size ≤ q) (wMB g G zs0 ++ wMo g a3 zo0) := hDn
  have hS := hSn
  clear hPn hDn hSn
  refine W.widen (k := 81) (n := 830) (by omega) (by omega) ?_
  refine lv_astore_n (lv' := [(2, .ref (a3 0)), (1, .ref (go G 0)), (0, .ref b)]) hx hb dLa_law_15 rfl hl (by decide) rfl (fun ls hl => ?_)
  refine lv_iconst (v := 0) hx hb dLa_law_16 (by decide) ?_
  refine lv_istore_n (lv' := [(3, .int 0), (2, .ref (a3 0)), (1, .ref (go G 0)), (0, .ref b)]) hx hb dLa_law_17 rfl hl (by decide) rfl (fun ls hl => ?_)
  refine W.widen (k := 600000) (n := 7302249) (by omega) (by omega) ?_
  exact law_loop (a := a3) hL C0 hG hK (L + 1) 0 zs0 zo0 _ _ ls (by omega) (Nat.zero_le L) (Nat.zero_le _) rel_0 hP hD hS (lv_sub hl [0, 3, 2, 1] rfl)
