def mB (k : Nat) (M : zMo) : Prop := xtr (m5 M) ≤ 4 ∧ xme (m5 M) ≤ k ∧ ∀ j, j < xme (m5 M) → xmt (m4 M) j < 4
theorem ySend_ok {k : Nat} {M : zMo} {z : Bool} {t : Nat} {dl : Int32} {f1 f2 : Int64} (h : mB k M) (ht : t < 4) : mB (k + 1) (ySend M z t dl f1 f2) := by
  obtain ⟨h1, h2, h3⟩ := h
  unfold ySend
  split
  · exact ⟨h1, Nat.le_succ_of_le h2, h3⟩
  · refine ⟨h1, Nat.succ_le_succ h2, ?_⟩
    intro j hj
    show va_up (xmt (m4 M)) (xme (m5 M)) t j < 4
    by_cases e : j = xme (m5 M)
    · rw [e, va_up_self]; exact ht
    · rw [va_up_ne _ _ e]
      have hj2 : j < xme (m5 M) + 1 := hj
      exact h3 j (by omega)
theorem mB_mono {k n : Nat} {M : zMo} (h : mB k M) (hk : k ≤ n) : mB n M := ⟨h.1, Nat.le_trans h.2.1 hk, h.2.2⟩
theorem yL_ok {F : zMo → Nat → zMo} (hF : ∀ k M i, i < 4 → mB k M → mB (k + 1) (F M i)) : ∀ (j i k : Nat) (M : zMo), i + j ≤ 4 → mB k M → mB (k + j) (yL F j i M) := by
  intro j
  induction j with
  | zero => intro i k M _ h; exact h
  | succ j ih =>
    intro i k M hi h
    have h1 := ih (i + 1) (k + 1) (F M i) (by omega) (hF k M i (by omega) h)
    rw [show k + (j + 1) = k + 1 + j by omega]
    exact h1
theorem yL_tr {F : zMo → Nat → zMo} (hF : ∀ M i, xtr (m5 (F M i)) = xtr (m5 M)) : ∀ (j i : Nat) (M : zMo), xtr (m5 (yL F j i M)) = xtr (m5 M) := by
  intro j
  induction j with
  | zero => intro i M; rfl
  | succ j ih => intro i M; exact (ih (i + 1) (F M i)).trans (hF M i)
theorem yConL_eq : ∀ (j i : Nat) (M : zMo), yConL j i M = yL yCon1 j i M := by
  intro j
  induction j with
  | zero => intro i M; rfl
  | succ j ih => intro i M; exact ih (i + 1) (yCon1 M i)
theorem yCon1_ok (k : Nat) (M : zMo) (i : Nat) (hi : i < 4) (h : mB k M) : mB (k + 1) (yCon1 M i) := by
  unfold yCon1
  split
  · exact mB_mono h (Nat.le_succ k)
  · split
    · exact ySend_ok h hi
    · exact mB_mono h (Nat.le_succ k)
theorem yCon1_tr (M : zMo) (i : Nat) : xtr (m5 (yCon1 M i)) = xtr (m5 M) := by
  unfold yCon1
  split
  · rfl
  · split
    · exact ySend_tr
    · rfl
theorem mB_1 {k : Nat} {M : zMo} (h : mB k M) : mB (k + 4) (yL yF1 (xtr (m5 M)) 0 (yClk M)) := by
  have h0 : mB k (yClk M) := h
  have h1 := yL_ok (F := yF1) (fun k M i hi h => ySend_ok h hi) (xtr (m5 M)) 0 k (yClk M) (by have := h.1; omega) h0
  exact mB_mono h1 (by have := h.1; omega)
theorem mB_con {k : Nat} {M : zMo} (h : mB k M) : mB (k + 4) (yControl M) := by
  unfold yControl
  rw [yConL_eq]
  have h1 := yL_ok (F := yCon1) yCon1_ok (xtr (m5 M)) 0 k M (by have := h.1; omega) h
  exact mB_mono h1 (by have := h.1; omega)
theorem tr_1 {M : zMo} : xtr (m5 (yL yF1 (xtr (m5 M)) 0 (yClk M))) = xtr (m5 M) := yL_tr (F := yF1) (fun _ _ => ySend_tr) _ _ _
theorem tr_con {M : zMo} : xtr (m5 (yControl M)) = xtr (m5 M) := by
  unfold yControl
  rw [yConL_eq]
  exact yL_tr (F := yCon1) yCon1_tr _ _ _
theorem yTake_tr {M : zMo} {k : Nat} : xtr (m5 (yTake M k)) = xtr (m5 M) := by
  unfold yTake
  split <;> split <;> rfl
theorem yArrL_ok {z : Bool} {k : Nat} : ∀ (j i : Nat) (M : zMo), mB k M → mB k (yArrL z j i M) ∧ xtr (m5 (yArrL z j i M)) = xtr (m5 M) := by
  intro j
  induction j with
  | zero => intro i M h; exact ⟨h, rfl⟩
  | succ j ih =>
    intro i M h
    rw [yArrL]
    split
    · exact ⟨h, rfl⟩
    · split
      · split
        · have h1 : mB k (yDrop (yTake M i) i) := ⟨by show xtr (m5 (yTake M i)) ≤ 4; rw [yTake_tr]; exact h.1, by rw [yDT_me]; have := h.2.1; omega, yDT_ok h.2.2⟩
          refine ⟨(ih i _ h1).1, (ih i _ h1).2.trans ?_⟩
          show xtr (m5 (yTake M i)) = _
          exact yTake_tr
        · exact ih (i + 1) M h
      · exact ih (i + 1) M h
theorem mB_arr {k : Nat} {M : zMo} {z : Bool} (h : mB k M) : mB k (yArr M z) := (yArrL_ok _ _ M h).1
theorem tr_arr {k : Nat} {M : zMo} {z : Bool} (h : mB k M) : xtr (m5 (yArr M z)) = xtr (m5 M) := (yArrL_ok _ _ M h).2
theorem yDrv1_m {M : zMo} {t : Nat} : m5 (yDrv1 M t) = m5 M ∧ m4 (yDrv1 M t) = m4 M := by
  unfold yDrv1
  split
  · split
    · exact ⟨rfl, rfl⟩
    · split
      · split <;> exact ⟨rfl, rfl⟩
      · exact ⟨rfl, rfl⟩
  · exact ⟨rfl, rfl⟩
theorem yMv2_m {M : zMo} {t : Nat} {w : Int64} : m5 (yMv2 M t w) = m5 M ∧ m4 (yMv2 M t w) = m4 M := by
  unfold yMv2
  split <;> exact ⟨rfl, rfl⟩
theorem yMv3_m {M : zMo} {t pb : Nat} : m5 (yMv3 M t pb) = m5 M ∧ m4 (yMv3 M t pb) = m4 M := by
  unfold yMv3
  split <;> exact ⟨rfl, rfl⟩
theorem yMv4_m {M : zMo} {t : Nat} {v : Int64} : m5 (yMv4 M t v) = m5 M ∧ m4 (yMv4 M t v) = m4 M := by
  unfold yMv4
  split <;> exact ⟨rfl, rfl⟩
theorem yDrive_m {M : zMo} {t : Nat} : m5 (yDrive M t) = m5 M ∧ m4 (yDrive M t) = m4 M := by
  unfold yDrive yDrv2
  refine ⟨?_, ?_⟩
  · rw [yMv4_m.1, yMv3_m.1, yMv2_m.1]
    exact yDrv1_m.1
  · rw [yMv4_m.2, yMv3_m.2, yMv2_m.2]
    exact yDrv1_m.2
