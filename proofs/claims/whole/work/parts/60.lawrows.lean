/-! rows for the law -/
theorem gd_LV {cy : Cond} {own C : String} {idx : Nat} {y : MethodName} (h1 : Cond.methodLink own idx y ∈ BIG) (h2 : Cond.instanceMethod y ∈ BIG) (h3 : Cond.selects C y y ∈ BIG) (h4 : Cond.initialized C ∈ BIG) (h5 : cy ∈ BIG) : GoodIn lw_tbl (wsV own idx C y (cy :: BIG)) := by
  have key : ∀ w ∈ wsV own idx C y (cy :: BIG), w ∈ BIG := by
    intro w h
    simp only [wsV, List.cons_append, List.nil_append, List.mem_cons] at h
    rcases h with rfl | rfl | rfl | rfl | rfl | h
    · exact h1
    · exact h2
    · exact h3
    · exact h4
    · exact h5
    · exact h
  exact fun w h => ⟨big_tbl (key w h), big_good (key w h)⟩
theorem gd_LI {cy : Cond} (h5 : cy ∈ BIG) : GoodIn lw_tbl (cy :: BIG) := fun w h => ⟨(List.mem_cons.mp h).elim (fun e => big_tbl (e ▸ h5)) big_tbl, (List.mem_cons.mp h).elim (fun e => big_good (e ▸ h5)) big_good⟩
section LWW
variable {g : Nat → ClassId} {G : zAd} {S S2 : zMB} {a : Nat → Nat} {M M2 : zMo}
def pB : List Nat := List.range' 53 28
theorem lw_cutA : (List.range 53).map (fun k => (wMB g G S ++ wMo g a M)[k]?) = (wMB g G S).map some := by
  have h : (List.range 53).map (fun k => (wMB g G S ++ wMo g a M)[k]?) = (List.range 53).map (fun k => (wMB g G S)[k]?) := by
    apply List.map_congr_left
    intro k hk
    have hk := List.mem_range.mp hk
    exact List.getElem?_append_left (show k < (wMB g G S).length from hk)
  rw [h]
  exact mb_cutAll
theorem lw_cutB : pB.map (fun k => (wMB g G S ++ wMo g a M)[k]?) = (wMo g a M).map some := by
  have e : pB = (List.range 28).map (fun k => 53 + k) := by decide +kernel
  rw [e, List.map_map]
  have h : (List.range 28).map ((fun k => (wMB g G S ++ wMo g a M)[k]?) ∘ fun k => 53 + k) = (List.range 28).map (fun k => (wMo g a M)[k]?) := by
    apply List.map_congr_left
    intro k hk
    show (wMB g G S ++ wMo g a M)[53 + k]? = _
    rw [List.getElem?_append_right (show (wMB g G S).length ≤ 53 + k from Nat.le_add_right 53 k)]
    show (wMo g a M)[53 + k - 53]? = _
    rw [Nat.add_sub_cancel_left]
  rw [h]
  exact mo_cutAll
theorem lw_ndB : va_nd pB = true := by decide +kernel
theorem lw_putA : mk_put (wMB g G S ++ wMo g a M) (List.range 53) (wMB g G S2) = wMB g G S2 ++ wMo g a M := by
  have h := mk_put_mid (wMB g G S) (wMB g G S2) [] (wMo g a M) rfl
  rw [List.nil_append, List.nil_append] at h
  exact h
theorem lw_putB : mk_put (wMB g G S ++ wMo g a M) pB (wMo g a M2) = wMB g G S ++ wMo g a M2 := by
  have h := mk_put_mid (wMo g a M) (wMo g a M2) (wMB g G S) [] rfl
  rw [List.append_nil, List.append_nil] at h
  exact h
end LWW
theorem mk_tab12 {x : Int32} (h0 : ¬ x = 0) (h1 : ¬ x = 1) (h2 : ¬ x = 2) (h3 : ¬ x = 3) (h4 : ¬ x = 4) (h5 : ¬ x = 5) (h6 : ¬ x = 6) (h7 : ¬ x = 7) (h8 : ¬ x = 8) (h9 : ¬ x = 9) (h10 : ¬ x = 10) (h11 : ¬ x = 11) : x.toInt < 0 ∨ 11 < x.toInt :=
  mk_tabN 12 (by decide) (fun k hk => by
    rcases (show k = 0 ∨ k = 1 ∨ k = 2 ∨ k = 3 ∨ k = 4 ∨ k = 5 ∨ k = 6 ∨ k = 7 ∨ k = 8 ∨ k = 9 ∨ k = 10 ∨ k = 11 by omega) with rfl | rfl | rfl | rfl | rfl | rfl | rfl | rfl | rfl | rfl | rfl | rfl <;> assumption)
theorem law_lt {L i : Nat} (hL : L ≤ 2048) (hi : i ≤ L) (h : ¬ nI L - 4 < nI i) : i + 4 ≤ L := by
  rcases Nat.lt_or_ge L (i + 4) with q | q
  · exfalso
    apply h
    apply Int32.lt_iff_toInt_lt.mpr
    have h1 : (nI L - 4).toInt = (L : Int) - (4 : Nat) := pk_sub_toInt (a := L) (b := 4) (by omega) (by decide)
    rw [h1, nI_toInt (by omega)]
    omega
  · exact q
section MKS
variable {p : Program} {l : Launch} {e : Env} {R : Room} {s : State} {m : MethodId} {args : Array Value} {below : List Frame} {meth : Method} {c : Code} {H : Heap} {locs : List Loc} {cells slots : Nat} {Q : State → Prop}
variable {cc : ByteArray} {pc : Nat} {ls : Array Slot} {rest : List Value} {A : Nat → Prop} {H0 : Heap}
theorem mk_sld (hexec : p.tables.exec = Jvm.exec) (hb : c.code = cc) {b L : Nat} {xs : Nat → Int32} (hX : va_X b L xs s H0) (hbl : b < H0.size) (hbA : ¬ A b) (hS : va_S A H0 H locs) {i : Int32} {k : Nat} (hi : i = nI k) (hk : k < L ∧ L < 2 ^ 31) (hdg : decode cc pc = .ok (.iaload, 1))
    (kk : W p l e R s m args below meth c H locs cells slots Q (F0 m (pc + 1) ls (.int (xs k) :: rest))) : W p l e R s m args below meth c H locs cells slots Q (F0 m pc ls (.int i :: .ref b :: rest)) := by
  subst hi
  refine va_sld hexec hb hX hbl hbA hS (vp_in_nI hk.1 hk.2) hdg ?_
  rw [nI_clamp (Nat.lt_trans hk.1 hk.2)]
  exact kk
end MKS
section MKO
variable {p : Program} {l : Launch} {e : Env} {R : Room} {s : State} {m : MethodId} {args : Array Value} {below : List Frame} {meth : Method} {c : Code} {H : Heap} {locs : List Loc} {cells slots : Nat} {Q : State → Prop}
variable {y : MethodName} {bytes cc : ByteArray} {maxL nL n index mc ms : Nat} {ws : List Cond} {rm : Room} {Ts : List Cond} {own : String} {b : Nat} {rest st0 : List Value} {pc : Nat} {ls : Array Slot}
variable {D : va_G} {cl : List vw_C} {tys : List (ClassId × FieldType)} {w0 : va_W} {A : Nat → Prop} {H0 : Heap}
theorem mk_initO {α : Type} {Wf : α → va_W} {ok : α → Prop} (S : CallFix p m c cc nL s args Ts own) (hM : mk_CvO l y ws rm D cl tys b w0 Wf ok mc ms) (cw : CallB R s args own index y bytes maxL none ws rm mc ms n ∧ y.name = "<init>" ∧ (Cond.instanceMethod y).before args s = true) (hK : va_K D cl tys s) (hAO : va_AO "MovingBlock$Train" s) (hP : va_P D cl w0 H) (hD : va_D A w0) (hS : va_S A H0 H locs) (hA : ∀ q, H0.size ≤ q → A q) (hn : 0 = n) (hsize : ls.size = nL) (hst : st0 = .ref b :: rest) (hW : (rest.map fun v => v.category).sum ≤ 8) (hdg : decode cc pc = .ok (.invokespecial index, 3)) (hf : cells + mc ≤ R.cells ∧ slots + ms ≤ R.slots)
    (kk : ∀ (a : α) (H1 : Heap) (locs1 : List Loc), ok a → va_P D cl (Wf a) H1 → va_D A (Wf a) → va_S A H0 H1 locs1 → W p l e R s m args below meth c H1 locs1 (cells + mc) (slots + ms) Q (F0 m (pc + 3) ls rest)) : W p l e R s m args below meth c H locs cells slots Q (F0 m pc ls st0) := by
  have hDc : va_D (fun _ => True) w0 := hD.weaken (fun _ _ _ _ => trivial)
  have hFc : ∀ q, va_A w0 H.size q → A q := by
    intro q h
    rcases h with ⟨k, e, h⟩ | h
    · exact hD.2 _ _ h
    · exact hA q (Nat.le_trans hS.1 h)
  have hbl : FrameBlind (va_Pc [.ref b] (fun U => mk_pre D cl tys w0 H.size U ∧ va_AO "MovingBlock$Train" U)) := fun a U g mk q => by
    obtain ⟨q0, ⟨q1, qP, qK, qD⟩, q2⟩ := q
    exact ⟨q0, ⟨q1, qP, va_K.moved (u := U) (U := U.calling g mk a) (Vm.Alike.refl U.vm) qK, qD⟩, va_AO.moved (u := U) (U := U.calling g mk a) (Vm.Alike.refl U.vm) q2⟩
  refine va_callv (va_runI (As := []) (rest := rest) S (hM H.size) cw ⟨hbl, fun U hU hW => ⟨rfl, ⟨by rw [hU], by rw [hU]; exact hP, va_K.moved hW.alike hK, hDc⟩, va_AO.moved hW.alike hAO⟩⟩ rfl hn hsize hst (lv_room hW) hdg hf) hS (fun q _ h => hFc q h) hFc (fun a t H1 locs1 ht hvm hw hB hz1 hk1 hS1 => ?_)
  obtain ⟨hP1, hD1⟩ := hB
  rw [ht] at hP1
  exact kk a H1 locs1 hw hP1 (hD1.weaken (fun k x _ h => hFc x.1 h)) hS1
end MKO
theorem mk_tyP {args : Array Value} {s : State} {ty : FieldType} (hob : ∀ C, ty ≠ .object C) (h : (Cond.arrayClass ty).before args s = true) : ∃ cA : ClassId, ArrOfT s cA ty ∧ va_RA s cA ty := by
  obtain ⟨cA, kA, comp, h1, h2, h3⟩ := Cond.arrayClass_spec h
  refine ⟨cA, fun n z => ⟨fun k h => (by cases h), kA, h2, comp, h3⟩, ?_⟩
  cases ty with
  | object C => exact absurd rfl (hob C)
  | _ => exact h1
theorem mk_tyQ {args : Array Value} {s : State} {C : String} (h : (Cond.arrayOver (.object C)).before args s = true) : ∃ cA : ClassId, ArrOfT s cA (.object C) ∧ va_RA s cA (.object C) := by
  obtain ⟨comp, cA, kA, h1, -, h3, h4, h5⟩ := Cond.arrayOver_spec h
  exact ⟨cA, fun n z => ⟨fun k h => (by cases h), kA, h3, comp, h4⟩, kA, comp, h3, h4, h1, h5⟩
