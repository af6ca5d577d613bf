theorem jOut_0 {x lo hi : Int32} (h : bI (jOut x lo hi) = 0) : ¬ x < lo ∧ x ≤ hi := by
  have h := bI_0.mp h
  unfold jOut at h
  by_cases h1 : x < lo
  · rw [if_pos h1] at h; cases h
  · rw [if_neg h1] at h
    by_cases h2 : x ≤ hi
    · exact ⟨h1, h2⟩
    · rw [if_neg h2] at h; cases h
theorem nIx {x : Int32} (h : ¬ x < 0) : x = nI x.toNatClampNeg ∧ x.toNatClampNeg < 2 ^ 31 := by
  obtain ⟨j, hj, rfl⟩ := nI_of h
  rw [nI_clamp hj]
  exact ⟨rfl, hj⟩
theorem jOut_ix {x hi : Int32} (h : bI (jOut x 0 hi) = 0) : x = nI x.toNatClampNeg := (nIx (jOut_0 h).1).1
theorem jOut_lt {n : Nat} {x hi : Int32} (h : bI (jOut x 0 hi) = 0) (hn : 0 < n ∧ n < 2 ^ 31) (he : hi = nI (n - 1)) : x.toNatClampNeg < n := by
  obtain ⟨h1, h2⟩ := jOut_0 h
  obtain ⟨e, hj⟩ := nIx h1
  rw [e, he, nI_leI hj (by omega)] at h2
  omega
theorem sNo_ix {S : zMB} {x : Int32} (h : bI (sNo S x) = 0) : x = nI x.toNatClampNeg := jOut_ix h
theorem sNo_m {S : zMB} {x : Int32} (hm : sm S ≤ 4) (h : bI (sNo S x) = 0) : x.toNatClampNeg < sm S := by
  obtain ⟨h1, h2⟩ := jOut_0 h
  obtain ⟨e, hj⟩ := nIx h1
  have h3 := Int32.le_iff_toInt_le.mp h2
  rw [e, nI_toInt hj] at h3
  have h4 : (nI (sm S) - 1).toInt = (sm S : Int) - (1 : Nat) := pk_sub_toInt (a := sm S) (b := 1) (by omega) (by decide)
  rw [h4] at h3
  omega
theorem sNo_lt {S : zMB} {x : Int32} (hm : sm S ≤ 4) (h : bI (sNo S x) = 0) : x.toNatClampNeg < 4 := Nat.lt_of_lt_of_le (sNo_m hm h) hm
theorem pos_of {m : Nat} (h : ¬ nI m ≤ 0) : 1 ≤ m := by
  rcases Nat.eq_zero_or_pos m with rfl | h1
  · exact absurd (by decide) h
  · exact h1
theorem lt4_of {m : Nat} (h : nI m < 4) (hm : m ≤ 4) : m < 4 := by
  rcases Nat.lt_or_ge m 4 with q | q
  · exact q
  · exact absurd h (nI_nlt (a := m) (b := 4) q (by omega))
theorem lt4_of1 {m : Nat} (h : nI m < 4) (hm : m ≤ 4) : m - 1 < 4 := Nat.lt_of_le_of_lt (Nat.sub_le m 1) (lt4_of h hm)
theorem tick_ix {n : Int32} (h : bI (jOut n 1 8) = 0) : n = nI n.toNatClampNeg ∧ n.toNatClampNeg ≤ 8 := by
  obtain ⟨h1, h2⟩ := jOut_0 h
  obtain ⟨e, hj⟩ := nIx (x := n) (by
    intro h0
    apply h1
    have a1 := Int32.lt_iff_toInt_lt.mp h0
    apply Int32.lt_iff_toInt_lt.mpr
    have a2 : (0 : Int32).toInt = 0 := by decide
    have a3 : (1 : Int32).toInt = 1 := by decide
    omega)
  refine ⟨e, ?_⟩
  have h3 : nI n.toNatClampNeg ≤ nI 8 := by rw [← e]; exact h2
  exact (nI_leI hj (by decide)).mp h3
theorem sAuth_m {S : zMB} {i : Nat} : sm (sAuth S i) = sm S := by
  unfold sAuth
  split
  · rfl
  · split <;> rfl
theorem sAuth_n {S : zMB} {i : Nat} : sn (sAuth S i) = sn S := by
  unfold sAuth
  split
  · rfl
  · split <;> rfl
theorem sL_m {F : zMB → Nat → zMB} (hF : ∀ S i, sm (F S i) = sm S) : ∀ (j i : Nat) (S : zMB), sm (sL F j i S) = sm S := by
  intro j
  induction j with
  | zero => intro i S; rfl
  | succ j ih => intro i S; exact (ih (i + 1) (F S i)).trans (hF S i)
theorem sL_n {F : zMB → Nat → zMB} (hF : ∀ S i, sn (F S i) = sn S) : ∀ (j i : Nat) (S : zMB), sn (sL F j i S) = sn S := by
  intro j
  induction j with
  | zero => intro i S; rfl
  | succ j ih => intro i S; exact (ih (i + 1) (F S i)).trans (hF S i)
theorem sL_m1 {j i : Nat} {S : zMB} : sm (sL sF1 j i S) = sm S := sL_m (F := sF1) (fun _ _ => rfl) j i S
theorem sL_m2 {j i : Nat} {S : zMB} : sm (sL sF2 j i S) = sm S := sL_m (F := sF2) (fun _ _ => rfl) j i S
theorem sL_m3 {j i : Nat} {S : zMB} : sm (sL sAuth j i S) = sm S := sL_m (F := sAuth) (fun _ _ => sAuth_m) j i S
theorem sL_m4 {j i : Nat} {S : zMB} : sm (sL sF4 j i S) = sm S := sL_m (F := sF4) (fun _ _ => rfl) j i S
theorem sL_m5 {j i : Nat} {S : zMB} : sm (sL sF5 j i S) = sm S := sL_m (F := sF5) (fun _ _ => rfl) j i S
theorem sL_n1 {j i : Nat} {S : zMB} : sn (sL sF1 j i S) = sn S := sL_n (F := sF1) (fun _ _ => rfl) j i S
theorem sL_n2 {j i : Nat} {S : zMB} : sn (sL sF2 j i S) = sn S := sL_n (F := sF2) (fun _ _ => rfl) j i S
theorem sL_n3 {j i : Nat} {S : zMB} : sn (sL sAuth j i S) = sn S := sL_n (F := sAuth) (fun _ _ => sAuth_n) j i S
theorem sL_n4 {j i : Nat} {S : zMB} : sn (sL sF4 j i S) = sn S := sL_n (F := sF4) (fun _ _ => rfl) j i S
theorem sL_n5 {j i : Nat} {S : zMB} : sn (sL sF5 j i S) = sn S := sL_n (F := sF5) (fun _ _ => rfl) j i S
theorem sSec_m {S : zMB} : sm (sSec S) = sm S := by
  unfold sSec
  rw [sL_m5, sL_m4, sL_m3, sL_m2, sL_m1]
  rfl
theorem sSec_n {S : zMB} : sn (sSec S) = sn S + 1 := by
  unfold sSec
  rw [sL_n5, sL_n4, sL_n3, sL_n2, sL_n1]
  rfl
