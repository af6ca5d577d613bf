/-! the reference's queue as a list -/
abbrev zQ : Type := Bool × Nat × Int32 × Int32 × Int64 × Int64
abbrev qz (m : zQ) : Bool := m.1
abbrev qt (m : zQ) : Nat := m.2.1
abbrev qs (m : zQ) : Int32 := m.2.2.1
abbrev qd (m : zQ) : Int32 := m.2.2.2.1
abbrev qf (m : zQ) : Int64 := m.2.2.2.2.1
abbrev qg (m : zQ) : Int64 := m.2.2.2.2.2
def qAt (u : zM4) (j : Nat) : zQ := (xma u j, xmt u j, xms u j, xmd u j, xmf u j, xmg u j)
def qL (u : zM4) (n : Nat) : List zQ := (List.range n).map (qAt u)
theorem qL_get {u : zM4} {n j : Nat} : (qL u n)[j]? = if j < n then some (qAt u j) else none := by
  unfold qL
  rw [List.getElem?_map]
  by_cases h : j < n
  · rw [if_pos h, List.getElem?_range h]; rfl
  · rw [if_neg h]
    have : (List.range n)[j]? = none := List.getElem?_eq_none (by rw [List.length_range]; omega)
    rw [this]; rfl
theorem qL_len {u : zM4} {n : Nat} : (qL u n).length = n := by unfold qL; rw [List.length_map, List.length_range]
theorem q_send {M : zMo} {z : Bool} {t : Nat} {dl : Int32} {f1 f2 : Int64} (h : ¬ dl = 0) : qL (m4 (ySend M z t dl f1 f2)) (xme (m5 (ySend M z t dl f1 f2))) = qL (m4 M) (xme (m5 M)) ++ [(z, t, nI (xck (m5 M)), nI (xck (m5 M)) + dl - 1, f1, f2)] := by
  have e : ySend M z t dl f1 f2 = _ := if_neg h
  rw [e]
  apply List.ext_getElem?
  intro j
  rw [qL_get]
  show (if j < xme (m5 M) + 1 then _ else _) = _
  by_cases h1 : j < xme (m5 M)
  · rw [if_pos (by omega), List.getElem?_append_left (by rw [qL_len]; exact h1), qL_get, if_pos h1]
    have hne : j ≠ xme (m5 M) := by omega
    show some (va_up (xma (m4 M)) (xme (m5 M)) z j, va_up (xmt (m4 M)) (xme (m5 M)) t j, upd (xms (m4 M)) (xme (m5 M)) (nI (xck (m5 M))) j, upd (xmd (m4 M)) (xme (m5 M)) (nI (xck (m5 M)) + dl - 1) j, vp_updL (xmf (m4 M)) (xme (m5 M)) f1 j, vp_updL (xmg (m4 M)) (xme (m5 M)) f2 j) = _
    rw [va_up_ne _ _ hne, va_up_ne _ _ hne, pk_un hne, pk_un hne, pk_uLn hne, pk_uLn hne]
    rfl
  · rw [List.getElem?_append_right (by rw [qL_len]; omega), qL_len]
    by_cases h2 : j = xme (m5 M)
    · subst h2
      rw [if_pos (by omega), Nat.sub_self]
      show some (va_up (xma (m4 M)) (xme (m5 M)) z (xme (m5 M)), va_up (xmt (m4 M)) (xme (m5 M)) t (xme (m5 M)), upd (xms (m4 M)) (xme (m5 M)) (nI (xck (m5 M))) (xme (m5 M)), upd (xmd (m4 M)) (xme (m5 M)) (nI (xck (m5 M)) + dl - 1) (xme (m5 M)), vp_updL (xmf (m4 M)) (xme (m5 M)) f1 (xme (m5 M)), vp_updL (xmg (m4 M)) (xme (m5 M)) f2 (xme (m5 M))) = _
      rw [va_up_self, va_up_self, pk_us, pk_us, pk_uLs, pk_uLs]
      rfl
    · rw [if_neg (by omega)]
      symm
      exact List.getElem?_eq_none (by simp; omega)
theorem qAt_shift {u : zM4} {i q : Nat} : qAt (yShift u i) q = if q = i then qAt u (i + 1) else qAt u q := by
  by_cases h : q = i
  · subst h
    rw [if_pos rfl]
    show (va_up (xma u) q (xma u (q + 1)) q, va_up (xmt u) q (xmt u (q + 1)) q, upd (xms u) q (xms u (q + 1)) q, upd (xmd u) q (xmd u (q + 1)) q, vp_updL (xmf u) q (xmf u (q + 1)) q, vp_updL (xmg u) q (xmg u (q + 1)) q) = _
    rw [va_up_self, va_up_self, pk_us, pk_us, pk_uLs, pk_uLs]
    rfl
  · rw [if_neg h]
    show (va_up (xma u) i (xma u (i + 1)) q, va_up (xmt u) i (xmt u (i + 1)) q, upd (xms u) i (xms u (i + 1)) q, upd (xmd u) i (xmd u (i + 1)) q, vp_updL (xmf u) i (xmf u (i + 1)) q, vp_updL (xmg u) i (xmg u (i + 1)) q) = _
    rw [va_up_ne _ _ h, va_up_ne _ _ h, pk_un h, pk_un h, pk_uLn h, pk_uLn h]
    rfl
theorem qAt_shL : ∀ (j i : Nat) (u : zM4) (q : Nat), qAt (yShL j i u) q = if i ≤ q ∧ q < i + j then qAt u (q + 1) else qAt u q := by
  intro j
  induction j with
  | zero => intro i u q; rw [if_neg (by omega)]; rfl
  | succ j ih =>
    intro i u q
    show qAt (yShL j (i + 1) (yShift u i)) q = _
    rw [ih]
    by_cases h1 : i + 1 ≤ q ∧ q < i + 1 + j
    · rw [if_pos h1, if_pos (by omega), qAt_shift, if_neg (by omega)]
    · rw [if_neg h1, qAt_shift]
      by_cases h2 : q = i
      · subst h2
        rw [if_pos rfl, if_pos (by omega)]
      · rw [if_neg h2, if_neg (by omega)]
theorem q_drop {M : zMo} {k : Nat} (hk : k < xme (m5 M)) : qL (m4 (yDrop M k)) (xme (m5 (yDrop M k))) = (qL (m4 M) (xme (m5 M))).eraseIdx k := by
  apply List.ext_getElem?
  intro j
  rw [qL_get, List.getElem?_eraseIdx, qL_get, qL_get]
  show (if j < xme (m5 M) - 1 then some (qAt (yShL (xme (m5 M) - 1 - k) k (m4 M)) j) else none) = _
  rw [qAt_shL]
  by_cases h1 : j < k
  · have c1 : ¬ (k ≤ j ∧ j < k + (xme (m5 M) - 1 - k)) := by omega
    have c2 : j < xme (m5 M) - 1 := by omega
    have c3 : j < xme (m5 M) := by omega
    rw [if_neg c1, if_pos c2, if_pos h1, if_pos c3]
  · rw [if_neg h1]
    by_cases h2 : j < xme (m5 M) - 1
    · have c1 : k ≤ j ∧ j < k + (xme (m5 M) - 1 - k) := by omega
      have c3 : j + 1 < xme (m5 M) := by omega
      rw [if_pos h2, if_pos c1, if_pos c3]
    · have c3 : ¬ j + 1 < xme (m5 M) := by omega
      rw [if_neg h2, if_neg c3]
-- a message is taken
def takQ (A : zM3 × Int32) (m : zQ) : zM3 × Int32 := if bI (qz m) = 0 then (if xrs A.1 (qt m) < qs m then ((xau A.1, xas A.1, vp_updL (xsr A.1) (qt m) (qf m), vp_updL (xst A.1) (qt m) (qg m), upd (xrs A.1) (qt m) (qs m), xup A.1, xbk A.1), A.2) else (A.1, A.2 + 1)) else (if xas A.1 (qt m) < qs m then ((vp_updL (xau A.1) (qt m) (qf m), upd (xas A.1) (qt m) (qs m), xsr A.1, xst A.1, xrs A.1, xup A.1, xbk A.1), A.2) else (A.1, A.2 + 1))
theorem yTake_q {M : zMo} {k : Nat} : yTake M k = (m1 M, m2 M, (takQ (m3 M, xsl (m5 M)) (qAt (m4 M) k)).1, m4 M, (xtr (m5 M), xme (m5 M), xlo (m5 M), (takQ (m3 M, xsl (m5 M)) (qAt (m4 M) k)).2, xck (m5 M))) := by
  unfold yTake takQ
  by_cases h : bI (xma (m4 M) k) = 0
  · have h' : bI (qz (qAt (m4 M) k)) = 0 := h
    rw [if_pos h, if_pos h']
    by_cases h2 : xrs (m3 M) (xmt (m4 M) k) < xms (m4 M) k
    · have h2' : xrs (m3 M, xsl (m5 M)).1 (qt (qAt (m4 M) k)) < qs (qAt (m4 M) k) := h2
      rw [if_pos h2, if_pos h2']; rfl
    · have h2' : ¬ xrs (m3 M, xsl (m5 M)).1 (qt (qAt (m4 M) k)) < qs (qAt (m4 M) k) := h2
      rw [if_neg h2, if_neg h2']; rfl
  · have h' : ¬ bI (qz (qAt (m4 M) k)) = 0 := h
    rw [if_neg h, if_neg h']
    by_cases h2 : xas (m3 M) (xmt (m4 M) k) < xms (m4 M) k
    · have h2' : xas (m3 M, xsl (m5 M)).1 (qt (qAt (m4 M) k)) < qs (qAt (m4 M) k) := h2
      rw [if_pos h2, if_pos h2']; rfl
    · have h2' : ¬ xas (m3 M, xsl (m5 M)).1 (qt (qAt (m4 M) k)) < qs (qAt (m4 M) k) := h2
      rw [if_neg h2, if_neg h2']; rfl
def mch (n : Nat) (z : Bool) (m : zQ) : Bool := decide (qd m = nI n) && (qz m == z)
theorem bI_inj {a b : Bool} : bI a = bI b ↔ a = b := by cases a <;> cases b <;> decide
theorem arrL_z {z : Bool} : ∀ (j i : Nat) (M : zMo), xme (m5 M) ≤ i + j → i ≤ xme (m5 M) → xme (m5 M) ≤ 64 →
    m1 (yArrL z (j + 1) i M) = m1 M ∧ m2 (yArrL z (j + 1) i M) = m2 M ∧ xtr (m5 (yArrL z (j + 1) i M)) = xtr (m5 M) ∧ xlo (m5 (yArrL z (j + 1) i M)) = xlo (m5 M) ∧ xck (m5 (yArrL z (j + 1) i M)) = xck (m5 M) ∧
    qL (m4 (yArrL z (j + 1) i M)) (xme (m5 (yArrL z (j + 1) i M))) = (qL (m4 M) (xme (m5 M))).take i ++ ((qL (m4 M) (xme (m5 M))).drop i).filter (fun m => !mch (xck (m5 M)) z m) ∧
    (m3 (yArrL z (j + 1) i M), xsl (m5 (yArrL z (j + 1) i M))) = (((qL (m4 M) (xme (m5 M))).drop i).filter (mch (xck (m5 M)) z)).foldl takQ (m3 M, xsl (m5 M)) := by
  intro j
  induction j with
  | zero =>
    intro i M h1 h2 h3
    have hi : i = xme (m5 M) := by omega
    have e : yArrL z (0 + 1) i M = M := by
      rw [yArrL]
      exact if_pos (nI_le (by omega) (by omega))
    have hd : (qL (m4 M) (xme (m5 M))).drop i = [] := List.drop_eq_nil_of_le (by rw [qL_len]; omega)
    have ht : (qL (m4 M) (xme (m5 M))).take i = qL (m4 M) (xme (m5 M)) := List.take_of_length_le (by rw [qL_len]; omega)
    rw [e, hd, ht]
    exact ⟨rfl, rfl, rfl, rfl, rfl, by simp, rfl⟩
  | succ j ih =>
    intro i M h1 h2 h3
    by_cases hx : i = xme (m5 M)
    · have e : yArrL z (j + 1 + 1) i M = M := by
        rw [yArrL]
        exact if_pos (nI_le (by omega) (by omega))
      have hd : (qL (m4 M) (xme (m5 M))).drop i = [] := List.drop_eq_nil_of_le (by rw [qL_len]; omega)
      have ht : (qL (m4 M) (xme (m5 M))).take i = qL (m4 M) (xme (m5 M)) := List.take_of_length_le (by rw [qL_len]; omega)
      rw [e, hd, ht]
      exact ⟨rfl, rfl, rfl, rfl, rfl, by simp, rfl⟩
    · have hlt : i < xme (m5 M) := by omega
      have hlen : i < (qL (m4 M) (xme (m5 M))).length := by rw [qL_len]; exact hlt
      have hget : (qL (m4 M) (xme (m5 M)))[i] = qAt (m4 M) i := by
        have := qL_get (u := m4 M) (n := xme (m5 M)) (j := i)
        rw [if_pos hlt, List.getElem?_eq_getElem hlen] at this
        exact Option.some.inj this
      have hdr : (qL (m4 M) (xme (m5 M))).drop i = qAt (m4 M) i :: (qL (m4 M) (xme (m5 M))).drop (i + 1) := by
        rw [List.drop_eq_getElem_cons hlen, hget]
      have hn : ¬ nI (xme (m5 M)) ≤ nI i := nI_ge hlt (by omega)
      have hstep : ∀ (b : Bool), mch (xck (m5 M)) z (qAt (m4 M) i) = b → b = false → yArrL z (j + 1 + 1) i M = yArrL z (j + 1) (i + 1) M := by
        intro b hb hf
        rw [hf] at hb
        rw [yArrL, if_neg hn]
        by_cases q1 : xmd (m4 M) i = nI (xck (m5 M))
        · rw [if_pos q1]
          have q2 : ¬ bI (xma (m4 M) i) = bI z := fun q => by
            have q := bI_inj.mp q
            have : mch (xck (m5 M)) z (qAt (m4 M) i) = true := by
              unfold mch
              show (decide (xmd (m4 M) i = nI (xck (m5 M))) && (xma (m4 M) i == z)) = true
              simp [q1, q]
            rw [this] at hb; cases hb
          rw [if_neg q2]
        · rw [if_neg q1]
      cases hm : mch (xck (m5 M)) z (qAt (m4 M) i) with
      | false =>
        rw [hstep false hm rfl]
        obtain ⟨a1, a2, a3, a4, a5, a6, a7⟩ := ih (i + 1) M (by omega) (by omega) h3
        refine ⟨a1, a2, a3, a4, a5, ?_, ?_⟩
        · rw [a6, hdr, List.filter_cons, hm]
          have ht : (qL (m4 M) (xme (m5 M))).take (i + 1) = (qL (m4 M) (xme (m5 M))).take i ++ [qAt (m4 M) i] := by
            rw [List.take_succ_eq_append_getElem hlen, hget]
          rw [ht]
          simp
        · rw [a7, hdr, List.filter_cons, hm]
          rfl
      | true =>
        have q1 : xmd (m4 M) i = nI (xck (m5 M)) ∧ bI (xma (m4 M) i) = bI z := by
          have hm2 : (decide (xmd (m4 M) i = nI (xck (m5 M))) && (xma (m4 M) i == z)) = true := hm
          simp at hm2
          exact ⟨hm2.1, by rw [hm2.2]⟩
        have e : yArrL z (j + 1 + 1) i M = yArrL z (j + 1) i (yDrop (yTake M i) i) := by
          rw [yArrL, if_neg hn, if_pos q1.1, if_pos q1.2]
        have eT := yTake_q (M := M) (k := i)
        have hq : qL (m4 (yDrop (yTake M i) i)) (xme (m5 (yDrop (yTake M i) i))) = (qL (m4 M) (xme (m5 M))).eraseIdx i := by
          rw [q_drop (by rw [yTake_me]; exact hlt), yTake_m4, yTake_me]
        have hme : xme (m5 (yDrop (yTake M i) i)) = xme (m5 M) - 1 := yDT_me
        obtain ⟨a1, a2, a3, a4, a5, a6, a7⟩ := ih i (yDrop (yTake M i) i) (by rw [hme]; omega) (by rw [hme]; omega) (by rw [hme]; omega)
        have k1 : m1 (yDrop (yTake M i) i) = m1 M := by show m1 (yTake M i) = _; rw [eT]
        have k2 : m2 (yDrop (yTake M i) i) = m2 M := by show m2 (yTake M i) = _; rw [eT]
        have k3 : m3 (yDrop (yTake M i) i) = (takQ (m3 M, xsl (m5 M)) (qAt (m4 M) i)).1 := by show m3 (yTake M i) = _; rw [eT]
        have k4 : xtr (m5 (yDrop (yTake M i) i)) = xtr (m5 M) := by show xtr (m5 (yTake M i)) = _; rw [eT]
        have k5 : xlo (m5 (yDrop (yTake M i) i)) = xlo (m5 M) := by show xlo (m5 (yTake M i)) = _; rw [eT]
        have k6 : xck (m5 (yDrop (yTake M i) i)) = xck (m5 M) := by show xck (m5 (yTake M i)) = _; rw [eT]
        have k7 : xsl (m5 (yDrop (yTake M i) i)) = (takQ (m3 M, xsl (m5 M)) (qAt (m4 M) i)).2 := by show xsl (m5 (yTake M i)) = _; rw [eT]
        have he : (qL (m4 M) (xme (m5 M))).eraseIdx i = (qL (m4 M) (xme (m5 M))).take i ++ (qL (m4 M) (xme (m5 M))).drop (i + 1) := List.eraseIdx_eq_take_drop_succ _ _
        have hl9 : ((qL (m4 M) (xme (m5 M))).take i).length = i := by rw [List.length_take, qL_len]; omega
        have ht : ((qL (m4 M) (xme (m5 M))).eraseIdx i).take i = (qL (m4 M) (xme (m5 M))).take i := by
          rw [he, List.take_left' hl9]
        have hd : ((qL (m4 M) (xme (m5 M))).eraseIdx i).drop i = (qL (m4 M) (xme (m5 M))).drop (i + 1) := by
          rw [he, List.drop_left' hl9]
        rw [e]
        refine ⟨a1.trans k1, a2.trans k2, a3.trans k4, a4.trans k5, a5.trans k6, ?_, ?_⟩
        · rw [a6, hq, k6, ht, hd, hdr, List.filter_cons, hm]
          simp
        · rw [a7, hq, k6, hd, hdr, List.filter_cons, hm, k3, k7]
          rfl
theorem arr_z {z : Bool} {M : zMo} (h3 : xme (m5 M) ≤ 64) : m1 (yArr M z) = m1 M ∧ m2 (yArr M z) = m2 M ∧ xtr (m5 (yArr M z)) = xtr (m5 M) ∧ xlo (m5 (yArr M z)) = xlo (m5 M) ∧ xck (m5 (yArr M z)) = xck (m5 M) ∧
    qL (m4 (yArr M z)) (xme (m5 (yArr M z))) = (qL (m4 M) (xme (m5 M))).filter (fun m => !mch (xck (m5 M)) z m) ∧
    (m3 (yArr M z), xsl (m5 (yArr M z))) = ((qL (m4 M) (xme (m5 M))).filter (mch (xck (m5 M)) z)).foldl takQ (m3 M, xsl (m5 M)) := by
  have h := arrL_z (z := z) (xme (m5 M)) 0 M (by omega) (by omega) h3
  rw [List.take_zero, List.nil_append, List.drop_zero] at h
  exact h
