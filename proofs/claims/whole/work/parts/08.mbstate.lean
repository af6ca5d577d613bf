/-! The whole object: its trains, track, wayside, how many trains, the clock; its cells; what its methods do. -/
abbrev zMB : Type := (Nat → zTr) × zTk × zWy × Nat × Nat
abbrev sT (S : zMB) : Nat → zTr := S.1
abbrev sk (S : zMB) : zTk := S.2.1
abbrev sy (S : zMB) : zWy := S.2.2.1
abbrev sm (S : zMB) : Nat := S.2.2.2.1
abbrev sn (S : zMB) : Nat := S.2.2.2.2
-- its addresses: itself and the array of trains; what the array holds; the trains'; the track's; the wayside's
abbrev zAd : Type := (Nat → Nat) × (Nat → Option Nat) × (Nat → Nat → Nat → Nat) × (Nat → Nat) × (Nat → Nat)
abbrev go (G : zAd) : Nat → Nat := G.1
abbrev gf (G : zAd) : Nat → Option Nat := G.2.1
abbrev ga (G : zAd) : Nat → Nat → Nat → Nat := G.2.2.1
abbrev gb (G : zAd) : Nat → Nat := G.2.2.2.1
abbrev gd (G : zAd) : Nat → Nat := G.2.2.2.2
def gOK (G : zAd) : Prop := ∀ i, i < 4 → gf G i = some (ga G i 0 0)
def fMB (G : zAd) (S : zMB) : List Value := [.ref (gb G 0), .ref (gd G 0), .ref (go G 1), .int (nI (sm S)), .int (nI (sn S))]
def wMB (g : Nat → ClassId) (G : zAd) (S : zMB) : va_W := [(go G 0, .inr (iMB, fMB G S))] ++ wTk g (gb G) (sk S) ++ wWy g (gd G) (sy S) ++ [(go G 1, .inl (g 2, 4, .inr (.inr (.inr (.inr (gf G))))))] ++ wTr g (ga G 0) (sT S 0) ++ wTr g (ga G 1) (sT S 1) ++ wTr g (ga G 2) (sT S 2) ++ wTr g (ga G 3) (sT S 3)
def sSetT (S : zMB) (i : Nat) (t : zTr) : zMB := (va_up (sT S) i t, sk S, sy S, sm S, sn S)
def pTr (i : Nat) : List Nat := [9 + 11 * i, 9 + 11 * i + 1, 9 + 11 * i + 2, 9 + 11 * i + 3, 9 + 11 * i + 4, 9 + 11 * i + 5, 9 + 11 * i + 6, 9 + 11 * i + 7, 9 + 11 * i + 8, 9 + 11 * i + 9, 9 + 11 * i + 10]
def pTk (i : Nat) : List Nat := pTr i ++ [1, 2, 3]
def pRp (i : Nat) : List Nat := [9 + 11 * i + 1, 9 + 11 * i + 2, 9 + 11 * i + 3, 9 + 11 * i + 4, 9 + 11 * i + 5]
def pAu (i : Nat) : List Nat := [9 + 11 * i + 6, 9 + 11 * i + 7, 9 + 11 * i + 8, 9 + 11 * i + 9, 9 + 11 * i + 10]
theorem i4 {i : Nat} (h : i < 4) : i = 0 ∨ i = 1 ∨ i = 2 ∨ i = 3 := by omega
theorem pTr_nd {i : Nat} (h : i < 4) : va_nd (pTr i) = true := by rcases i4 h with rfl | rfl | rfl | rfl <;> decide
theorem pTk_nd {i : Nat} (h : i < 4) : va_nd (pTk i) = true := by rcases i4 h with rfl | rfl | rfl | rfl <;> decide
theorem pRp_nd {i : Nat} (h : i < 4) : va_nd (pRp i) = true := by rcases i4 h with rfl | rfl | rfl | rfl <;> decide
theorem pAu_nd {i : Nat} (h : i < 4) : va_nd (pAu i) = true := by rcases i4 h with rfl | rfl | rfl | rfl <;> decide
section MBW
variable {g : Nat → ClassId} {G : zAd} {S : zMB} {i : Nat}
theorem mb_cutTr (h : i < 4) : (pTr i).map (fun k => (wMB g G S)[k]?) = (wTr g (ga G i) (sT S i)).map some := by rcases i4 h with rfl | rfl | rfl | rfl <;> rfl
theorem mb_cutTk (h : i < 4) : (pTk i).map (fun k => (wMB g G S)[k]?) = (wTr g (ga G i) (sT S i) ++ wTk g (gb G) (sk S)).map some := by rcases i4 h with rfl | rfl | rfl | rfl <;> rfl
theorem mb_cutRp (h : i < 4) : (pRp i).map (fun k => (wMB g G S)[k]?) = (wCh g (ga G i 1) (trp (sT S i))).map some := by rcases i4 h with rfl | rfl | rfl | rfl <;> rfl
theorem mb_cutAu (h : i < 4) : (pAu i).map (fun k => (wMB g G S)[k]?) = (wCh g (ga G i 2) (tau (sT S i))).map some := by rcases i4 h with rfl | rfl | rfl | rfl <;> rfl
theorem mk_put_mid : ∀ (w w2 X Y : va_W), w2.length = w.length → mk_put (X ++ (w ++ Y)) (List.range' X.length w.length) w2 = X ++ (w2 ++ Y) := by
  intro w
  induction w with
  | nil =>
    intro w2 X Y h
    cases w2 with
    | nil => rfl
    | cons a b => simp at h
  | cons x w ih =>
    intro w2 X Y h
    cases w2 with
    | nil => simp at h
    | cons y w2 =>
      have h1 : w2.length = w.length := by simpa using h
      have e1 : List.range' X.length (x :: w).length = X.length :: List.range' (X.length + 1) w.length := rfl
      rw [e1]
      show mk_put ((X ++ (x :: w ++ Y)).set X.length y) (List.range' (X.length + 1) w.length) w2 = X ++ (y :: w2 ++ Y)
      have e2 : (X ++ (x :: w ++ Y)).set X.length y = (X ++ [y]) ++ (w ++ Y) := by
        rw [List.set_append_right _ _ (Nat.le_refl _), Nat.sub_self]
        simp
      rw [e2]
      have h2 := ih w2 (X ++ [y]) Y h1
      rw [List.length_append, List.length_singleton] at h2
      rw [h2]
      simp
theorem mk_put_app : ∀ (is : List Nat) (xs W : va_W) (js : List Nat) (ys : va_W), xs.length = is.length → mk_put W (is ++ js) (xs ++ ys) = mk_put (mk_put W is xs) js ys := by
  intro is
  induction is with
  | nil =>
    intro xs W js ys h
    cases xs with
    | nil => cases js <;> cases ys <;> rfl
    | cons a b => simp at h
  | cons i is ih =>
    intro xs W js ys h
    cases xs with
    | nil => simp at h
    | cons x xs => exact ih xs (W.set i x) js ys (by simpa using h)
def xMB (g : Nat → ClassId) (G : zAd) (S : zMB) : va_W := [(go G 0, .inr (iMB, fMB G S))] ++ wTk g (gb G) (sk S) ++ wWy g (gd G) (sy S) ++ [(go G 1, .inl (g 2, 4, .inr (.inr (.inr (.inr (gf G))))))]
theorem mb_putTr0 {t : zTr} : mk_put (wMB g G S) (pTr 0) (wTr g (ga G 0) t) = wMB g G (sSetT S 0 t) := by
  have h := mk_put_mid (wTr g (ga G 0) (sT S 0)) (wTr g (ga G 0) t) (xMB g G S) (wTr g (ga G 1) (sT S 1) ++ (wTr g (ga G 2) (sT S 2) ++ wTr g (ga G 3) (sT S 3))) rfl
  have e1 : wMB g G S = xMB g G S ++ (wTr g (ga G 0) (sT S 0) ++ (wTr g (ga G 1) (sT S 1) ++ (wTr g (ga G 2) (sT S 2) ++ wTr g (ga G 3) (sT S 3)))) := by simp only [wMB, xMB, List.append_assoc]
  have e2 : wMB g G (sSetT S 0 t) = xMB g G S ++ (wTr g (ga G 0) t ++ (wTr g (ga G 1) (sT S 1) ++ (wTr g (ga G 2) (sT S 2) ++ wTr g (ga G 3) (sT S 3)))) := by
    show xMB g G S ++ wTr g (ga G 0) t ++ wTr g (ga G 1) (sT S 1) ++ wTr g (ga G 2) (sT S 2) ++ wTr g (ga G 3) (sT S 3) = _
    simp only [List.append_assoc]
  rw [e1, e2]
  exact h
theorem mb_putTr1 {t : zTr} : mk_put (wMB g G S) (pTr 1) (wTr g (ga G 1) t) = wMB g G (sSetT S 1 t) := by
  have h := mk_put_mid (wTr g (ga G 1) (sT S 1)) (wTr g (ga G 1) t) (xMB g G S ++ wTr g (ga G 0) (sT S 0)) (wTr g (ga G 2) (sT S 2) ++ wTr g (ga G 3) (sT S 3)) rfl
  have e1 : wMB g G S = (xMB g G S ++ wTr g (ga G 0) (sT S 0)) ++ (wTr g (ga G 1) (sT S 1) ++ (wTr g (ga G 2) (sT S 2) ++ wTr g (ga G 3) (sT S 3))) := by simp only [wMB, xMB, List.append_assoc]
  have e2 : wMB g G (sSetT S 1 t) = (xMB g G S ++ wTr g (ga G 0) (sT S 0)) ++ (wTr g (ga G 1) t ++ (wTr g (ga G 2) (sT S 2) ++ wTr g (ga G 3) (sT S 3))) := by
    show xMB g G S ++ wTr g (ga G 0) (sT S 0) ++ wTr g (ga G 1) t ++ wTr g (ga G 2) (sT S 2) ++ wTr g (ga G 3) (sT S 3) = _
    simp only [List.append_assoc]
  rw [e1, e2]
  exact h
theorem mb_putTr2 {t : zTr} : mk_put (wMB g G S) (pTr 2) (wTr g (ga G 2) t) = wMB g G (sSetT S 2 t) := by
  have h := mk_put_mid (wTr g (ga G 2) (sT S 2)) (wTr g (ga G 2) t) (xMB g G S ++ wTr g (ga G 0) (sT S 0) ++ wTr g (ga G 1) (sT S 1)) (wTr g (ga G 3) (sT S 3)) rfl
  have e1 : wMB g G S = (xMB g G S ++ wTr g (ga G 0) (sT S 0) ++ wTr g (ga G 1) (sT S 1)) ++ (wTr g (ga G 2) (sT S 2) ++ wTr g (ga G 3) (sT S 3)) := by simp only [wMB, xMB, List.append_assoc]
  have e2 : wMB g G (sSetT S 2 t) = (xMB g G S ++ wTr g (ga G 0) (sT S 0) ++ wTr g (ga G 1) (sT S 1)) ++ (wTr g (ga G 2) t ++ wTr g (ga G 3) (sT S 3)) := by
    show xMB g G S ++ wTr g (ga G 0) (sT S 0) ++ wTr g (ga G 1) (sT S 1) ++ wTr g (ga G 2) t ++ wTr g (ga G 3) (sT S 3) = _
    simp only [List.append_assoc]
  rw [e1, e2]
  exact h
theorem mb_putTr3 {t : zTr} : mk_put (wMB g G S) (pTr 3) (wTr g (ga G 3) t) = wMB g G (sSetT S 3 t) := by
  have h := mk_put_mid (wTr g (ga G 3) (sT S 3)) (wTr g (ga G 3) t) (xMB g G S ++ wTr g (ga G 0) (sT S 0) ++ wTr g (ga G 1) (sT S 1) ++ wTr g (ga G 2) (sT S 2)) [] rfl
  have e1 : wMB g G S = (xMB g G S ++ wTr g (ga G 0) (sT S 0) ++ wTr g (ga G 1) (sT S 1) ++ wTr g (ga G 2) (sT S 2)) ++ (wTr g (ga G 3) (sT S 3) ++ []) := by simp only [wMB, xMB, List.append_assoc, List.append_nil]
  have e2 : wMB g G (sSetT S 3 t) = (xMB g G S ++ wTr g (ga G 0) (sT S 0) ++ wTr g (ga G 1) (sT S 1) ++ wTr g (ga G 2) (sT S 2)) ++ (wTr g (ga G 3) t ++ []) := by
    show xMB g G S ++ wTr g (ga G 0) (sT S 0) ++ wTr g (ga G 1) (sT S 1) ++ wTr g (ga G 2) (sT S 2) ++ wTr g (ga G 3) t = _
    simp only [List.append_assoc, List.append_nil]
  rw [e1, e2]
  exact h
theorem mb_putTr (h : i < 4) (t : zTr) : mk_put (wMB g G S) (pTr i) (wTr g (ga G i) t) = wMB g G (sSetT S i t) := by
  rcases i4 h with rfl | rfl | rfl | rfl
  · exact mb_putTr0
  · exact mb_putTr1
  · exact mb_putTr2
  · exact mb_putTr3
theorem mb_putK {S2 : zMB} : mk_put (wMB g G S2) [1, 2, 3] (wTk g (gb G) (sk S2)) = wMB g G S2 := by
  have h := mk_put_mid (wTk g (gb G) (sk S2)) (wTk g (gb G) (sk S2)) [(go G 0, .inr (iMB, fMB G S2))] (wWy g (gd G) (sy S2) ++ ([(go G 1, .inl (g 2, 4, .inr (.inr (.inr (.inr (gf G))))))] ++ (wTr g (ga G 0) (sT S2 0) ++ (wTr g (ga G 1) (sT S2 1) ++ (wTr g (ga G 2) (sT S2 2) ++ wTr g (ga G 3) (sT S2 3)))))) rfl
  have e1 : wMB g G S2 = [(go G 0, .inr (iMB, fMB G S2))] ++ (wTk g (gb G) (sk S2) ++ (wWy g (gd G) (sy S2) ++ ([(go G 1, .inl (g 2, 4, .inr (.inr (.inr (.inr (gf G))))))] ++ (wTr g (ga G 0) (sT S2 0) ++ (wTr g (ga G 1) (sT S2 1) ++ (wTr g (ga G 2) (sT S2 2) ++ wTr g (ga G 3) (sT S2 3))))))) := by simp only [wMB, List.append_assoc]
  rw [e1]
  exact h
theorem mb_putTk (h : i < 4) (t : zTr) : mk_put (wMB g G S) (pTk i) (wTr g (ga G i) t ++ wTk g (gb G) (sk S)) = wMB g G (sSetT S i t) := by
  unfold pTk
  rw [mk_put_app (pTr i) (wTr g (ga G i) t) _ _ _ rfl, mb_putTr h]
  exact mb_putK (S2 := sSetT S i t)
theorem mb_putAll {S2 : zMB} : mk_put (wMB g G S) (List.range 53) (wMB g G S2) = wMB g G S2 := by
  have h := mk_put_mid (wMB g G S) (wMB g G S2) [] [] rfl
  rw [List.nil_append, List.append_nil, List.nil_append, List.append_nil] at h
  exact h
def tSetR (t : zTr) (c : zCh) : zTr := (c, tau t, tle t, tfr t, tsp t, tes t, tdo t, tde t, tdr t, tem t, tec t)
def tSetA (t : zTr) (c : zCh) : zTr := (trp t, c, tle t, tfr t, tsp t, tes t, tdo t, tde t, tdr t, tem t, tec t)
theorem mb_sg (X Y : va_W) (k : Nat) (w w2 : va_W) (hl : w2.length = w.length) (hk : k = X.length) {P : List Nat} (hp : P = List.range' k w.length) : mk_put (X ++ (w ++ Y)) P w2 = X ++ (w2 ++ Y) := by
  subst hp; subst hk
  exact mk_put_mid w w2 X Y hl
theorem mb_putRp (h : i < 4) (c : zCh) : mk_put (wMB g G S) (pRp i) (wCh g (ga G i 1) c) = wMB g G (sSetT S i (tSetR (sT S i) c)) := by
  rcases i4 h with rfl | rfl | rfl | rfl
  · have e1 : wMB g G S = (xMB g G S ++ [(ga G 0 0 0, .inr (iTr, fTr (ga G 0) (sT S 0)))]) ++ (wCh g (ga G 0 1) (trp (sT S 0)) ++ (wCh g (ga G 0 2) (tau (sT S 0)) ++ (wTr g (ga G 1) (sT S 1) ++ (wTr g (ga G 2) (sT S 2) ++ wTr g (ga G 3) (sT S 3))))) := by simp only [wMB, xMB, wTr, List.append_assoc]
    rw [e1]
    refine Eq.trans (mb_sg _ _ 10 _ (wCh g (ga G 0 1) c) ?_ ?_ ?_) ?_
    · rfl
    · rfl
    · rfl
    show _ = xMB g G S ++ ([(ga G 0 0 0, .inr (iTr, fTr (ga G 0) (sT S 0)))] ++ wCh g (ga G 0 1) c ++ wCh g (ga G 0 2) (tau (sT S 0))) ++ wTr g (ga G 1) (sT S 1) ++ wTr g (ga G 2) (sT S 2) ++ wTr g (ga G 3) (sT S 3)
    simp only [List.append_assoc]
  · have e1 : wMB g G S = (xMB g G S ++ wTr g (ga G 0) (sT S 0) ++ [(ga G 1 0 0, .inr (iTr, fTr (ga G 1) (sT S 1)))]) ++ (wCh g (ga G 1 1) (trp (sT S 1)) ++ (wCh g (ga G 1 2) (tau (sT S 1)) ++ (wTr g (ga G 2) (sT S 2) ++ wTr g (ga G 3) (sT S 3)))) := by simp only [wMB, xMB, wTr, List.append_assoc]
    rw [e1]
    refine Eq.trans (mb_sg _ _ 21 _ (wCh g (ga G 1 1) c) ?_ ?_ ?_) ?_
    · rfl
    · rfl
    · rfl
    show _ = xMB g G S ++ wTr g (ga G 0) (sT S 0) ++ ([(ga G 1 0 0, .inr (iTr, fTr (ga G 1) (sT S 1)))] ++ wCh g (ga G 1 1) c ++ wCh g (ga G 1 2) (tau (sT S 1))) ++ wTr g (ga G 2) (sT S 2) ++ wTr g (ga G 3) (sT S 3)
    simp only [List.append_assoc]
  · have e1 : wMB g G S = (xMB g G S ++ wTr g (ga G 0) (sT S 0) ++ wTr g (ga G 1) (sT S 1) ++ [(ga G 2 0 0, .inr (iTr, fTr (ga G 2) (sT S 2)))]) ++ (wCh g (ga G 2 1) (trp (sT S 2)) ++ (wCh g (ga G 2 2) (tau (sT S 2)) ++ wTr g (ga G 3) (sT S 3))) := by simp only [wMB, xMB, wTr, List.append_assoc]
    rw [e1]
    refine Eq.trans (mb_sg _ _ 32 _ (wCh g (ga G 2 1) c) ?_ ?_ ?_) ?_
    · rfl
    · rfl
    · rfl
    show _ = xMB g G S ++ wTr g (ga G 0) (sT S 0) ++ wTr g (ga G 1) (sT S 1) ++ ([(ga G 2 0 0, .inr (iTr, fTr (ga G 2) (sT S 2)))] ++ wCh g (ga G 2 1) c ++ wCh g (ga G 2 2) (tau (sT S 2))) ++ wTr g (ga G 3) (sT S 3)
    simp only [List.append_assoc]
  · have e1 : wMB g G S = (xMB g G S ++ wTr g (ga G 0) (sT S 0) ++ wTr g (ga G 1) (sT S 1) ++ wTr g (ga G 2) (sT S 2) ++ [(ga G 3 0 0, .inr (iTr, fTr (ga G 3) (sT S 3)))]) ++ (wCh g (ga G 3 1) (trp (sT S 3)) ++ wCh g (ga G 3 2) (tau (sT S 3))) := by simp only [wMB, xMB, wTr, List.append_assoc]
    rw [e1]
    refine Eq.trans (mb_sg _ _ 43 _ (wCh g (ga G 3 1) c) ?_ ?_ ?_) ?_
    · rfl
    · rfl
    · rfl
    show _ = xMB g G S ++ wTr g (ga G 0) (sT S 0) ++ wTr g (ga G 1) (sT S 1) ++ wTr g (ga G 2) (sT S 2) ++ ([(ga G 3 0 0, .inr (iTr, fTr (ga G 3) (sT S 3)))] ++ wCh g (ga G 3 1) c ++ wCh g (ga G 3 2) (tau (sT S 3)))
    simp only [List.append_assoc]
theorem mb_putAu (h : i < 4) (c : zCh) : mk_put (wMB g G S) (pAu i) (wCh g (ga G i 2) c) = wMB g G (sSetT S i (tSetA (sT S i) c)) := by
  rcases i4 h with rfl | rfl | rfl | rfl
  · have e1 : wMB g G S = (xMB g G S ++ [(ga G 0 0 0, .inr (iTr, fTr (ga G 0) (sT S 0)))] ++ wCh g (ga G 0 1) (trp (sT S 0))) ++ (wCh g (ga G 0 2) (tau (sT S 0)) ++ (wTr g (ga G 1) (sT S 1) ++ (wTr g (ga G 2) (sT S 2) ++ wTr g (ga G 3) (sT S 3)))) := by simp only [wMB, xMB, wTr, List.append_assoc]
    rw [e1]
    refine Eq.trans (mb_sg _ _ 15 _ (wCh g (ga G 0 2) c) ?_ ?_ ?_) ?_
    · rfl
    · rfl
    · rfl
    show _ = xMB g G S ++ ([(ga G 0 0 0, .inr (iTr, fTr (ga G 0) (sT S 0)))] ++ wCh g (ga G 0 1) (trp (sT S 0)) ++ wCh g (ga G 0 2) c) ++ wTr g (ga G 1) (sT S 1) ++ wTr g (ga G 2) (sT S 2) ++ wTr g (ga G 3) (sT S 3)
    simp only [List.append_assoc]
  · have e1 : wMB g G S = (xMB g G S ++ wTr g (ga G 0) (sT S 0) ++ [(ga G 1 0 0, .inr (iTr, fTr (ga G 1) (sT S 1)))] ++ wCh g (ga G 1 1) (trp (sT S 1))) ++ (wCh g (ga G 1 2) (tau (sT S 1)) ++ (wTr g (ga G 2) (sT S 2) ++ wTr g (ga G 3) (sT S 3))) := by simp only [wMB, xMB, wTr, List.append_assoc]
    rw [e1]
    refine Eq.trans (mb_sg _ _ 26 _ (wCh g (ga G 1 2) c) ?_ ?_ ?_) ?_
    · rfl
    · rfl
    · rfl
    show _ = xMB g G S ++ wTr g (ga G 0) (sT S 0) ++ ([(ga G 1 0 0, .inr (iTr, fTr (ga G 1) (sT S 1)))] ++ wCh g (ga G 1 1) (trp (sT S 1)) ++ wCh g (ga G 1 2) c) ++ wTr g (ga G 2) (sT S 2) ++ wTr g (ga G 3) (sT S 3)
    simp only [List.append_assoc]
  · have e1 : wMB g G S = (xMB g G S ++ wTr g (ga G 0) (sT S 0) ++ wTr g (ga G 1) (sT S 1) ++ [(ga G 2 0 0, .inr (iTr, fTr (ga G 2) (sT S 2)))] ++ wCh g (ga G 2 1) (trp (sT S 2))) ++ (wCh g (ga G 2 2) (tau (sT S 2)) ++ wTr g (ga G 3) (sT S 3)) := by simp only [wMB, xMB, wTr, List.append_assoc]
    rw [e1]
    refine Eq.trans (mb_sg _ _ 37 _ (wCh g (ga G 2 2) c) ?_ ?_ ?_) ?_
    · rfl
    · rfl
    · rfl
    show _ = xMB g G S ++ wTr g (ga G 0) (sT S 0) ++ wTr g (ga G 1) (sT S 1) ++ ([(ga G 2 0 0, .inr (iTr, fTr (ga G 2) (sT S 2)))] ++ wCh g (ga G 2 1) (trp (sT S 2)) ++ wCh g (ga G 2 2) c) ++ wTr g (ga G 3) (sT S 3)
    simp only [List.append_assoc]
  · have e1 : wMB g G S = (xMB g G S ++ wTr g (ga G 0) (sT S 0) ++ wTr g (ga G 1) (sT S 1) ++ wTr g (ga G 2) (sT S 2) ++ [(ga G 3 0 0, .inr (iTr, fTr (ga G 3) (sT S 3)))] ++ wCh g (ga G 3 1) (trp (sT S 3))) ++ (wCh g (ga G 3 2) (tau (sT S 3)) ++ []) := by simp only [wMB, xMB, wTr, List.append_assoc, List.append_nil]
    rw [e1]
    refine Eq.trans (mb_sg _ _ 48 _ (wCh g (ga G 3 2) c) ?_ ?_ ?_) ?_
    · rfl
    · rfl
    · rfl
    show _ = xMB g G S ++ wTr g (ga G 0) (sT S 0) ++ wTr g (ga G 1) (sT S 1) ++ wTr g (ga G 2) (sT S 2) ++ ([(ga G 3 0 0, .inr (iTr, fTr (ga G 3) (sT S 3)))] ++ wCh g (ga G 3 1) (trp (sT S 3)) ++ wCh g (ga G 3 2) c)
    simp only [List.append_assoc, List.append_nil]
theorem mb_atTr (h : i < 4) : (wMB g G S)[9 + 11 * i]? = some (ga G i 0 0, .inr (iTr, fTr (ga G i) (sT S i))) := by rcases i4 h with rfl | rfl | rfl | rfl <;> rfl
theorem mb_atRp (h : i < 4) : (wMB g G S)[9 + 11 * i + 1]? = some (ga G i 1 0, .inr (iCh, fCh (ga G i 1) (trp (sT S i)))) := by rcases i4 h with rfl | rfl | rfl | rfl <;> rfl
theorem mb_atAu (h : i < 4) : (wMB g G S)[9 + 11 * i + 6]? = some (ga G i 2 0, .inr (iCh, fCh (ga G i 2) (tau (sT S i)))) := by rcases i4 h with rfl | rfl | rfl | rfl <;> rfl
theorem mb_setTr (h : i < 4) (le fr sp es do' de dr : Int32) (em : Bool) (ec : Int32) : (wMB g G S).set (9 + 11 * i) (ga G i 0 0, .inr (iTr, fTr (ga G i) (trp (sT S i), tau (sT S i), le, fr, sp, es, do', de, dr, em, ec))) = wMB g G (sSetT S i (trp (sT S i), tau (sT S i), le, fr, sp, es, do', de, dr, em, ec)) := by rcases i4 h with rfl | rfl | rfl | rfl <;> rfl
def cSetD (c : zCh) (x : Int32) : zCh := (cst c, car c, cfi c, cse c, x, csp c, cf1 c, cf2 c, clo c, cnt c)
theorem mb_setRp (h : i < 4) (x : Int32) : (wMB g G S).set (9 + 11 * i + 1) (ga G i 1 0, .inr (iCh, fCh (ga G i 1) (cSetD (trp (sT S i)) x))) = wMB g G (sSetT S i (tSetR (sT S i) (cSetD (trp (sT S i)) x))) := by rcases i4 h with rfl | rfl | rfl | rfl <;> rfl
theorem mb_setAu (h : i < 4) (x : Int32) : (wMB g G S).set (9 + 11 * i + 6) (ga G i 2 0, .inr (iCh, fCh (ga G i 2) (cSetD (tau (sT S i)) x))) = wMB g G (sSetT S i (tSetA (sT S i) (cSetD (tau (sT S i)) x))) := by rcases i4 h with rfl | rfl | rfl | rfl <;> rfl
theorem mb_cutAll : (List.range 53).map (fun k => (wMB g G S)[k]?) = (wMB g G S).map some := rfl
theorem mb_ndAll : va_nd (List.range 53) = true := by decide +kernel
theorem fst_MB {S2 : zMB} : (wMB g G S2).map Prod.fst = (wMB g G S).map Prod.fst := rfl
end MBW
def zs0 : zMB := (fun _ => zt0, zk0, zy0, 0, 0)
abbrev REF : Int32 := (-1000000)
def sNo (S : zMB) (x : Int32) : Bool := jOut x 0 (nI (sm S) - 1)
def xPiece (S : zMB) (p li gr : Int32) : Int32 × zMB := if bI (jOut p 0 7) = 0 then (if bI (jOut li 1 40) = 0 then (if bI (jOut gr (-1) 1) = 0 then (1, (sT S, (upd (kli (sk S)) p.toNatClampNeg (li * 8), upd (kgr (sk S)) p.toNatClampNeg gr), sy S, sm S, sn S)) else (REF, S)) else (REF, S)) else (REF, S)
def xHold (S : zMB) (h pl : Int32) (z : Bool) : Int32 × zMB := if bI (jOut h 0 3) = 0 then (if bI (jOut pl 0 4096) = 0 then (1, (sT S, sk S, (upd (ypl (sy S)) h.toNatClampNeg (pl * 8), va_up (ycl (sy S)) h.toNatClampNeg z, yup (sy S)), sm S, sn S)) else (REF, S)) else (REF, S)
def xCtl (S : zMB) (o : Int32) (z : Bool) : Int32 × zMB := if bI (jOut o 0 1) = 0 then (if bI (yup (sy S) o.toNatClampNeg) = bI z then (0, S) else (1, (sT S, sk S, (ypl (sy S), ycl (sy S), va_up (yup (sy S)) o.toNatClampNeg z), sm S, sn S))) else (REF, S)
def xEnt2 (S : zMB) (le fr : Int32) : Int32 × zMB := (nI (sm S), (va_up (sT S) (sm S) (tPlace (sT S (sm S)) (le * 8) (fr * 8)), sk S, sy S, sm S + 1, sn S))
def xEnter (S : zMB) (le fr : Int32) : Int32 × zMB := if bI (jOut le 20 200) = 0 then (if bI (jOut fr le 4000) = 0 then (if nI (sm S) < 4 then (if nI (sm S) ≤ 0 then xEnt2 S le fr else if fr * 8 ≤ tRear (sT S (sm S - 1)) - 64 then xEnt2 S le fr else (REF, S)) else (REF, S)) else (REF, S)) else (REF, S)
def tSetDe (t : zTr) (x : Int32) : zTr := (trp t, tau t, tle t, tfr t, tsp t, tes t, tdo t, x, tdr t, tem t, tec t)
def tSetDr (t : zTr) (x : Int32) : zTr := (trp t, tau t, tle t, tfr t, tsp t, tes t, tdo t, tde t, x, tem t, tec t)
def xDemand (S : zMB) (x de : Int32) : Int32 × zMB := if bI (sNo S x) = 0 then (if bI (jOut de (-1) 1) = 0 then (1, sSetT S x.toNatClampNeg (tSetDe (sT S x.toNatClampNeg) de)) else (REF, S)) else (REF, S)
def xDrift (S : zMB) (x dr : Int32) : Int32 × zMB := if bI (sNo S x) = 0 then (if bI (jOut dr (-2) 2) = 0 then (1, sSetT S x.toNatClampNeg (tSetDr (sT S x.toNatClampNeg) dr)) else (REF, S)) else (REF, S)
def tSetDl (t : zTr) (u d : Int32) : zTr := (cSetD (trp t) u, cSetD (tau t) d, tle t, tfr t, tsp t, tes t, tdo t, tde t, tdr t, tem t, tec t)
def xRadio (S : zMB) (x u d : Int32) : Int32 × zMB := if bI (sNo S x) = 0 then (if bI (jOut u 0 5) = 0 then (if bI (jOut d 0 5) = 0 then (1, sSetT S x.toNatClampNeg (tSetDl (sT S x.toNatClampNeg) u d)) else (REF, S)) else (REF, S)) else (REF, S)
def sL (F : zMB → Nat → zMB) : Nat → Nat → zMB → zMB
  | 0, _, S => S
  | j + 1, i, S => sL F j (i + 1) (F S i)
def behL (S : zMB) : Nat → Nat → Int32 → Int32
  | 0, _, q => q
  | j + 1, i, q => behL S j (i + 1) (mn q (if bI (cTaken (trp (sT S i))) = 0 then 0 else cf2 (trp (sT S i)) - 64))
def sBehind (S : zMB) (i : Nat) : Int32 := behL S i 0 32768
def sAuth (S : zMB) (i : Nat) : zMB := if bI (cTaken (trp (sT S i))) = 0 then S else if bI (jUp (sy S) (cf1 (trp (sT S i)))) = 0 then S else sSetT S i (tSetA (sT S i) (cSend (tau (sT S i)) (sn S) (mn (endFor (sy S) (cf1 (trp (sT S i)))) (sBehind S i)) 0))
def sF1 (S : zMB) (i : Nat) : zMB := sSetT S i (tSendR (sT S i) (sn S))
def sF2 (S : zMB) (i : Nat) : zMB := sSetT S i (tSetR (sT S i) (cRec (trp (sT S i)) (sn S)))
def sF4 (S : zMB) (i : Nat) : zMB := sSetT S i (tSetA (sT S i) (cRec (tau (sT S i)) (sn S)))
def sF5 (S : zMB) (i : Nat) : zMB := sSetT S i (tDrive (sT S i) (sn S) (sk S))
def sClk (S : zMB) : zMB := (sT S, sk S, sy S, sm S, sn S + 1)
def sSec (S : zMB) : zMB := sL sF5 (sm S) 0 (sL sF4 (sm S) 0 (sL sAuth (sm S) 0 (sL sF2 (sm S) 0 (sL sF1 (sm S) 0 (sClk S)))))
def sTicks : Nat → zMB → zMB
  | 0, S => S
  | j + 1, S => sTicks j (sSec S)
def xTick (S : zMB) (n : Int32) : Int32 × zMB := if bI (jOut n 1 8) = 0 then (nI (sn (sTicks n.toNatClampNeg S)), sTicks n.toNatClampNeg S) else (REF, S)
def xMeasure (S : zMB) (x w : Int32) : Int32 := if bI (sNo S x) = 0 then (if w = 0 then tfr (sT S x.toNatClampNeg) else if w = 1 then tsp (sT S x.toNatClampNeg) else if w = 2 then tes (sT S x.toNatClampNeg) else if w = 3 then tdo (sT S x.toNatClampNeg) else if w = 4 then (if bI (cTaken (tau (sT S x.toNatClampNeg))) = 0 then (-1) else cf1 (tau (sT S x.toNatClampNeg))) else if w = 5 then (if bI (cTaken (trp (sT S x.toNatClampNeg))) = 0 then (-1) else cf1 (trp (sT S x.toNatClampNeg))) else if w = 6 then (if bI (cTaken (trp (sT S x.toNatClampNeg))) = 0 then (-1) else cf2 (trp (sT S x.toNatClampNeg))) else if w = 7 then tRear (sT S x.toNatClampNeg) else REF) else REF
def xState (S : zMB) (x w : Int32) : Int32 := if bI (sNo S x) = 0 then (if w = 0 then (if bI (tem (sT S x.toNatClampNeg)) = 0 then 0 else 1) else if w = 1 then csp (trp (sT S x.toNatClampNeg)) else if w = 2 then csp (tau (sT S x.toNatClampNeg)) else if w = 3 then tec (sT S x.toNatClampNeg) else if w = 4 then tOtw (sT S x.toNatClampNeg) (sn S) else if w = 5 then nI (nPiece (tfr (sT S x.toNatClampNeg))) else REF) else REF
def xPermitted (S : zMB) (x : Int32) : Int32 := if bI (sNo S x) = 0 then tBest (sT S x.toNatClampNeg) (sk S) else REF
def beyL (S : zMB) : Nat → Nat → Int32 → Int32
  | 0, _, q => q
  | j + 1, i, q => beyL S j (i + 1) (if tfr (sT S i) ≤ tRear (sT S (i - 1)) then q else q + 1)
def otwL (S : zMB) : Nat → Nat → Int32 → Int32
  | 0, _, q => q
  | j + 1, i, q => otwL S j (i + 1) (q + tOtw (sT S i) (sn S))
def losL (S : zMB) : Nat → Nat → Int32 → Int32
  | 0, _, q => q
  | j + 1, i, q => losL S j (i + 1) (q + (clo (trp (sT S i)) + clo (tau (sT S i))))
def notL (S : zMB) : Nat → Nat → Int32 → Int32
  | 0, _, q => q
  | j + 1, i, q => notL S j (i + 1) (q + (cnt (trp (sT S i)) + cnt (tau (sT S i))))
def xCount (S : zMB) (w : Int32) : Int32 := if w = 0 then nI (sn S) else if w = 1 then nI (sm S) else if w = 2 then beyL S (sm S - 1) 1 0 else if w = 3 then otwL S (sm S) 0 0 else if w = 4 then losL S (sm S) 0 0 else if w = 5 then notL S (sm S) 0 0 else REF
