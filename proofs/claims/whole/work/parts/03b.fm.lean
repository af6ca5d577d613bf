theorem fx_xor (a b : Nat) : nI a ^^^ nI b = nI (a ^^^ b) := by
  apply Int32.toBitVec_inj.mp
  show BitVec.ofNat 32 a ^^^ BitVec.ofNat 32 b = BitVec.ofNat 32 (a ^^^ b)
  apply BitVec.eq_of_toNat_eq
  simp [BitVec.toNat_xor, Nat.xor_mod_two_pow]
theorem fm_pos {n : Nat} (hn : n < 2 ^ 31) : (0 : Int32) ≤ nI n ^^^ 5 := by
  have e : nI n ^^^ 5 = nI (n ^^^ 5) := fx_xor n 5
  rw [e]
  exact nI_pos' (Nat.xor_lt_two_pow hn (by decide))
theorem mk_end {D : va_G} {cl : List vw_C} {w1 w2 : va_W} {H : Heap} {t : State} (ht : t.heap = H) (hE : w1 = w2) (hP : va_P D cl w2 H) : va_P D cl w1 t.heap := by
  rw [ht, hE]
  exact hP
theorem fst_Ch {g : Nat → ClassId} {a : Nat → Nat} {c c' : zCh} : (wCh g a c').map Prod.fst = (wCh g a c).map Prod.fst := rfl
theorem fst_Tr {g : Nat → ClassId} {a : Nat → Nat → Nat} {t t' : zTr} : (wTr g a t').map Prod.fst = (wTr g a t).map Prod.fst := rfl
theorem fst_TrTk {g : Nat → ClassId} {a : Nat → Nat → Nat} {b : Nat → Nat} {t t' : zTr} {k : zTk} : (wTr g a t' ++ wTk g b k).map Prod.fst = (wTr g a t ++ wTk g b k).map Prod.fst := rfl
theorem put_Tr1 {g : Nat → ClassId} {a : Nat → Nat → Nat} {b : Nat → Nat} {t t' : zTr} {k : zTk} : mk_put (wTr g a t ++ wTk g b k) [0, 1, 2, 3, 4, 5, 6, 7, 8, 9, 10] (wTr g a t') = wTr g a t' ++ wTk g b k := rfl
theorem set_em0 {g : Nat → ClassId} {a : Nat → Nat → Nat} {b : Nat → Nat} {t : zTr} {k : zTk} : (wTr g a t ++ wTk g b k).set 0 (a 0 0, .inr (iTr, (fTr a t).set 9 (.int 0))) = wTr g a (tOut t) ++ wTk g b k := rfl
