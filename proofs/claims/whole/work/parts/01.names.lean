-- ===== PART A: goes FIRST, ahead of the names: the tables' words, and 'selects' of the private methods out of them =====
/-- a private method of a class that the tables say can be made, by its rows of tables_1 -/
def lw_okq (q : MethodName × Nat) : Prop := (q.1.cls ≠ "java/lang/invoke/MethodHandle" ∧ q.1.cls ≠ "java/lang/invoke/VarHandle") ∧ Cond.instantiable q.1.cls q.2 ∈ tables_1 ∧ Cond.privateMethod q.1 ∈ tables_1 ∧ Cond.instanceMethod q.1 ∈ tables_1
theorem lw_p0 : lw_okq (⟨"MovingBlock", "isNoTrain", "(I)Z"⟩, 5) := ⟨⟨by decide +kernel, by decide +kernel⟩, List.mem_of_getElem? (i := 9) (by decide +kernel), List.mem_of_getElem? (i := 199) (by decide +kernel), List.mem_of_getElem? (i := 200) (by decide +kernel)⟩
theorem lw_p1 : lw_okq (⟨"MovingBlock", "passOneSecond", "()V"⟩, 5) := ⟨⟨by decide +kernel, by decide +kernel⟩, List.mem_of_getElem? (i := 9) (by decide +kernel), List.mem_of_getElem? (i := 215) (by decide +kernel), List.mem_of_getElem? (i := 216) (by decide +kernel)⟩
theorem lw_p2 : lw_okq (⟨"MovingBlock", "sendAuthority", "(I)V"⟩, 5) := ⟨⟨by decide +kernel, by decide +kernel⟩, List.mem_of_getElem? (i := 9) (by decide +kernel), List.mem_of_getElem? (i := 246) (by decide +kernel), List.mem_of_getElem? (i := 247) (by decide +kernel)⟩
theorem lw_p3 : lw_okq (⟨"MovingBlock", "endBehindTrainsAhead", "(I)I"⟩, 5) := ⟨⟨by decide +kernel, by decide +kernel⟩, List.mem_of_getElem? (i := 9) (by decide +kernel), List.mem_of_getElem? (i := 265) (by decide +kernel), List.mem_of_getElem? (i := 266) (by decide +kernel)⟩
theorem lw_p4 : lw_okq (⟨"MovingBlock", "trainsBeyondTheOneBefore", "()I"⟩, 5) := ⟨⟨by decide +kernel, by decide +kernel⟩, List.mem_of_getElem? (i := 9) (by decide +kernel), List.mem_of_getElem? (i := 347) (by decide +kernel), List.mem_of_getElem? (i := 348) (by decide +kernel)⟩
theorem lw_p5 : lw_okq (⟨"MovingBlock", "messagesOnTheWay", "()I"⟩, 5) := ⟨⟨by decide +kernel, by decide +kernel⟩, List.mem_of_getElem? (i := 9) (by decide +kernel), List.mem_of_getElem? (i := 351) (by decide +kernel), List.mem_of_getElem? (i := 352) (by decide +kernel)⟩
theorem lw_p6 : lw_okq (⟨"MovingBlock", "messagesLost", "()I"⟩, 5) := ⟨⟨by decide +kernel, by decide +kernel⟩, List.mem_of_getElem? (i := 9) (by decide +kernel), List.mem_of_getElem? (i := 355) (by decide +kernel), List.mem_of_getElem? (i := 356) (by decide +kernel)⟩
theorem lw_p7 : lw_okq (⟨"MovingBlock", "messagesNotTaken", "()I"⟩, 5) := ⟨⟨by decide +kernel, by decide +kernel⟩, List.mem_of_getElem? (i := 9) (by decide +kernel), List.mem_of_getElem? (i := 359) (by decide +kernel), List.mem_of_getElem? (i := 360) (by decide +kernel)⟩
theorem lw_p8 : lw_okq (⟨"MovingBlockModel", "rear", "(I)J"⟩, 32) := ⟨⟨by decide +kernel, by decide +kernel⟩, List.mem_of_getElem? (i := 363) (by decide +kernel), List.mem_of_getElem? (i := 490) (by decide +kernel), List.mem_of_getElem? (i := 491) (by decide +kernel)⟩
theorem lw_p9 : lw_okq (⟨"MovingBlockModel", "noTrain", "(I)Z"⟩, 32) := ⟨⟨by decide +kernel, by decide +kernel⟩, List.mem_of_getElem? (i := 363) (by decide +kernel), List.mem_of_getElem? (i := 499) (by decide +kernel), List.mem_of_getElem? (i := 500) (by decide +kernel)⟩
theorem lw_p10 : lw_okq (⟨"MovingBlockModel", "reach", "(I)J"⟩, 32) := ⟨⟨by decide +kernel, by decide +kernel⟩, List.mem_of_getElem? (i := 363) (by decide +kernel), List.mem_of_getElem? (i := 515) (by decide +kernel), List.mem_of_getElem? (i := 516) (by decide +kernel)⟩
theorem lw_p11 : lw_okq (⟨"MovingBlockModel", "tail", "(I)J"⟩, 32) := ⟨⟨by decide +kernel, by decide +kernel⟩, List.mem_of_getElem? (i := 363) (by decide +kernel), List.mem_of_getElem? (i := 519) (by decide +kernel), List.mem_of_getElem? (i := 520) (by decide +kernel)⟩
theorem lw_p12 : lw_okq (⟨"MovingBlockModel", "send", "(ZIIJJ)V"⟩, 32) := ⟨⟨by decide +kernel, by decide +kernel⟩, List.mem_of_getElem? (i := 363) (by decide +kernel), List.mem_of_getElem? (i := 523) (by decide +kernel), List.mem_of_getElem? (i := 524) (by decide +kernel)⟩
theorem lw_p13 : lw_okq (⟨"MovingBlockModel", "arrive", "(Z)V"⟩, 32) := ⟨⟨by decide +kernel, by decide +kernel⟩, List.mem_of_getElem? (i := 363) (by decide +kernel), List.mem_of_getElem? (i := 527) (by decide +kernel), List.mem_of_getElem? (i := 528) (by decide +kernel)⟩
theorem lw_p14 : lw_okq (⟨"MovingBlockModel", "take", "(I)V"⟩, 32) := ⟨⟨by decide +kernel, by decide +kernel⟩, List.mem_of_getElem? (i := 363) (by decide +kernel), List.mem_of_getElem? (i := 531) (by decide +kernel), List.mem_of_getElem? (i := 532) (by decide +kernel)⟩
theorem lw_p15 : lw_okq (⟨"MovingBlockModel", "drop", "(I)V"⟩, 32) := ⟨⟨by decide +kernel, by decide +kernel⟩, List.mem_of_getElem? (i := 363) (by decide +kernel), List.mem_of_getElem? (i := 535) (by decide +kernel), List.mem_of_getElem? (i := 536) (by decide +kernel)⟩
def lw_privs_1 : List (MethodName × Nat) := [(⟨"MovingBlock", "isNoTrain", "(I)Z"⟩, 5), (⟨"MovingBlock", "passOneSecond", "()V"⟩, 5), (⟨"MovingBlock", "sendAuthority", "(I)V"⟩, 5), (⟨"MovingBlock", "endBehindTrainsAhead", "(I)I"⟩, 5), (⟨"MovingBlock", "trainsBeyondTheOneBefore", "()I"⟩, 5), (⟨"MovingBlock", "messagesOnTheWay", "()I"⟩, 5), (⟨"MovingBlock", "messagesLost", "()I"⟩, 5), (⟨"MovingBlock", "messagesNotTaken", "()I"⟩, 5), (⟨"MovingBlockModel", "rear", "(I)J"⟩, 32), (⟨"MovingBlockModel", "noTrain", "(I)Z"⟩, 32), (⟨"MovingBlockModel", "reach", "(I)J"⟩, 32), (⟨"MovingBlockModel", "tail", "(I)J"⟩, 32), (⟨"MovingBlockModel", "send", "(ZIIJJ)V"⟩, 32), (⟨"MovingBlockModel", "arrive", "(Z)V"⟩, 32), (⟨"MovingBlockModel", "take", "(I)V"⟩, 32), (⟨"MovingBlockModel", "drop", "(I)V"⟩, 32)]
theorem lw_r1 : ∀ q ∈ lw_privs_1, lw_okq q := List.forall_mem_cons.mpr ⟨lw_p0, List.forall_mem_cons.mpr ⟨lw_p1, List.forall_mem_cons.mpr ⟨lw_p2, List.forall_mem_cons.mpr ⟨lw_p3, List.forall_mem_cons.mpr ⟨lw_p4, List.forall_mem_cons.mpr ⟨lw_p5, List.forall_mem_cons.mpr ⟨lw_p6, List.forall_mem_cons.mpr ⟨lw_p7, List.forall_mem_cons.mpr ⟨lw_p8, List.forall_mem_cons.mpr ⟨lw_p9, List.forall_mem_cons.mpr ⟨lw_p10, List.forall_mem_cons.mpr ⟨lw_p11, List.forall_mem_cons.mpr ⟨lw_p12, List.forall_mem_cons.mpr ⟨lw_p13, List.forall_mem_cons.mpr ⟨lw_p14, List.forall_mem_cons.mpr ⟨lw_p15, fun _ h => absurd h List.not_mem_nil⟩⟩⟩⟩⟩⟩⟩⟩⟩⟩⟩⟩⟩⟩⟩⟩
theorem lw_p16 : lw_okq (⟨"MovingBlockModel", "control", "()V"⟩, 32) := ⟨⟨by decide +kernel, by decide +kernel⟩, List.mem_of_getElem? (i := 363) (by decide +kernel), List.mem_of_getElem? (i := 539) (by decide +kernel), List.mem_of_getElem? (i := 540) (by decide +kernel)⟩
theorem lw_p17 : lw_okq (⟨"MovingBlockModel", "worked", "(I)J"⟩, 32) := ⟨⟨by decide +kernel, by decide +kernel⟩, List.mem_of_getElem? (i := 363) (by decide +kernel), List.mem_of_getElem? (i := 544) (by decide +kernel), List.mem_of_getElem? (i := 545) (by decide +kernel)⟩
theorem lw_p18 : lw_okq (⟨"MovingBlockModel", "drive", "(I)V"⟩, 32) := ⟨⟨by decide +kernel, by decide +kernel⟩, List.mem_of_getElem? (i := 363) (by decide +kernel), List.mem_of_getElem? (i := 548) (by decide +kernel), List.mem_of_getElem? (i := 549) (by decide +kernel)⟩
theorem lw_p19 : lw_okq (⟨"MovingBlockModel", "old", "(I)Z"⟩, 32) := ⟨⟨by decide +kernel, by decide +kernel⟩, List.mem_of_getElem? (i := 363) (by decide +kernel), List.mem_of_getElem? (i := 552) (by decide +kernel), List.mem_of_getElem? (i := 553) (by decide +kernel)⟩
theorem lw_p20 : lw_okq (⟨"MovingBlockModel", "safe", "(IJJJ)Z"⟩, 32) := ⟨⟨by decide +kernel, by decide +kernel⟩, List.mem_of_getElem? (i := 363) (by decide +kernel), List.mem_of_getElem? (i := 556) (by decide +kernel), List.mem_of_getElem? (i := 557) (by decide +kernel)⟩
theorem lw_p21 : lw_okq (⟨"MovingBlockModel", "pull", "(I)I"⟩, 32) := ⟨⟨by decide +kernel, by decide +kernel⟩, List.mem_of_getElem? (i := 363) (by decide +kernel), List.mem_of_getElem? (i := 565) (by decide +kernel), List.mem_of_getElem? (i := 566) (by decide +kernel)⟩
theorem lw_p22 : lw_okq (⟨"MovingBlockModel", "next", "(II)J"⟩, 32) := ⟨⟨by decide +kernel, by decide +kernel⟩, List.mem_of_getElem? (i := 363) (by decide +kernel), List.mem_of_getElem? (i := 569) (by decide +kernel), List.mem_of_getElem? (i := 570) (by decide +kernel)⟩
def lw_privs_2 : List (MethodName × Nat) := [(⟨"MovingBlockModel", "control", "()V"⟩, 32), (⟨"MovingBlockModel", "worked", "(I)J"⟩, 32), (⟨"MovingBlockModel", "drive", "(I)V"⟩, 32), (⟨"MovingBlockModel", "old", "(I)Z"⟩, 32), (⟨"MovingBlockModel", "safe", "(IJJJ)Z"⟩, 32), (⟨"MovingBlockModel", "pull", "(I)I"⟩, 32), (⟨"MovingBlockModel", "next", "(II)J"⟩, 32)]
theorem lw_r2 : ∀ q ∈ lw_privs_2, lw_okq q := List.forall_mem_cons.mpr ⟨lw_p16, List.forall_mem_cons.mpr ⟨lw_p17, List.forall_mem_cons.mpr ⟨lw_p18, List.forall_mem_cons.mpr ⟨lw_p19, List.forall_mem_cons.mpr ⟨lw_p20, List.forall_mem_cons.mpr ⟨lw_p21, List.forall_mem_cons.mpr ⟨lw_p22, fun _ h => absurd h List.not_mem_nil⟩⟩⟩⟩⟩⟩⟩
def lw_privs : List (MethodName × Nat) := lw_privs_1 ++ (lw_privs_2)
def lw_tbl : List Cond := k2_sels lw_privs ++ tables_1
theorem lw_privs_ok : ∀ q ∈ lw_privs, lw_okq q := by
  show ∀ q ∈ lw_privs_1 ++ (lw_privs_2), lw_okq q
  exact List.forall_mem_append.mpr ⟨lw_r1, lw_r2⟩
-- names
def RCh : String := "MovingBlock$Channel"
def RTk : String := "MovingBlock$Track"
def RTr : String := "MovingBlock$Train"
def RWy : String := "MovingBlock$Wayside"
def RMB : String := "MovingBlock"
def RMo : String := "MovingBlockModel"
def RLa : String := "MovingBlockLaw"
def RMa : String := "java/lang/Math"
def ROb : String := "java/lang/Object"
def TCh : u_T := fun k => match k with
  | 0 => ("MovingBlock$Channel", "stamps", "[I", true)
  | 1 => ("MovingBlock$Channel", "arrivals", "[I", true)
  | 2 => ("MovingBlock$Channel", "firsts", "[I", true)
  | 3 => ("MovingBlock$Channel", "seconds", "[I", true)
  | 4 => ("MovingBlock$Channel", "delay", "I", false)
  | 5 => ("MovingBlock$Channel", "stamp", "I", false)
  | 6 => ("MovingBlock$Channel", "first", "I", false)
  | 7 => ("MovingBlock$Channel", "second", "I", false)
  | 8 => ("MovingBlock$Channel", "lost", "I", false)
  | _ => ("MovingBlock$Channel", "notTaken", "I", false)
def tyCh : Nat → FieldType := fun k => match k with
  | 0 => .array .int
  | 1 => .array .int
  | 2 => .array .int
  | 3 => .array .int
  | 4 => .int
  | 5 => .int
  | 6 => .int
  | 7 => .int
  | 8 => .int
  | _ => .int
theorem nmCh : ∀ a, a < 10 → ∀ b, b < 10 → a ≠ b → (TCh a).2.1 ≠ (TCh b).2.1 := by decide +kernel
theorem tyCh_ok : ∀ k, k < 10 → parseFieldDescriptor (TCh k).2.2.1 = some (tyCh k) := by decide +kernel
def TTk : u_T := fun k => match k with
  | 0 => ("MovingBlock$Track", "limits", "[I", true)
  | _ => ("MovingBlock$Track", "grades", "[I", true)
def tyTk : Nat → FieldType := fun k => match k with
  | 0 => .array .int
  | _ => .array .int
theorem nmTk : ∀ a, a < 2 → ∀ b, b < 2 → a ≠ b → (TTk a).2.1 ≠ (TTk b).2.1 := by decide +kernel
theorem tyTk_ok : ∀ k, k < 2 → parseFieldDescriptor (TTk k).2.2.1 = some (tyTk k) := by decide +kernel
def TTr : u_T := fun k => match k with
  | 0 => ("MovingBlock$Train", "reports", "LMovingBlock$Channel;", true)
  | 1 => ("MovingBlock$Train", "authorities", "LMovingBlock$Channel;", true)
  | 2 => ("MovingBlock$Train", "length", "I", false)
  | 3 => ("MovingBlock$Train", "front", "I", false)
  | 4 => ("MovingBlock$Train", "speed", "I", false)
  | 5 => ("MovingBlock$Train", "estimate", "I", false)
  | 6 => ("MovingBlock$Train", "doubt", "I", false)
  | 7 => ("MovingBlock$Train", "demand", "I", false)
  | 8 => ("MovingBlock$Train", "drift", "I", false)
  | 9 => ("MovingBlock$Train", "emergency", "Z", false)
  | _ => ("MovingBlock$Train", "emergencies", "I", false)
def tyTr : Nat → FieldType := fun k => match k with
  | 0 => .object "MovingBlock$Channel"
  | 1 => .object "MovingBlock$Channel"
  | 2 => .int
  | 3 => .int
  | 4 => .int
  | 5 => .int
  | 6 => .int
  | 7 => .int
  | 8 => .int
  | 9 => .boolean
  | _ => .int
theorem nmTr : ∀ a, a < 11 → ∀ b, b < 11 → a ≠ b → (TTr a).2.1 ≠ (TTr b).2.1 := by decide +kernel
theorem tyTr_ok : ∀ k, k < 11 → parseFieldDescriptor (TTr k).2.2.1 = some (tyTr k) := by decide +kernel
def TWy : u_T := fun k => match k with
  | 0 => ("MovingBlock$Wayside", "places", "[I", true)
  | 1 => ("MovingBlock$Wayside", "closed", "[Z", true)
  | _ => ("MovingBlock$Wayside", "up", "[Z", true)
def tyWy : Nat → FieldType := fun k => match k with
  | 0 => .array .int
  | 1 => .array .boolean
  | _ => .array .boolean
theorem nmWy : ∀ a, a < 3 → ∀ b, b < 3 → a ≠ b → (TWy a).2.1 ≠ (TWy b).2.1 := by decide +kernel
theorem tyWy_ok : ∀ k, k < 3 → parseFieldDescriptor (TWy k).2.2.1 = some (tyWy k) := by decide +kernel
def TMB : u_T := fun k => match k with
  | 0 => ("MovingBlock", "track", "LMovingBlock$Track;", true)
  | 1 => ("MovingBlock", "wayside", "LMovingBlock$Wayside;", true)
  | 2 => ("MovingBlock", "trains", "[LMovingBlock$Train;", true)
  | 3 => ("MovingBlock", "entered", "I", false)
  | _ => ("MovingBlock", "clock", "I", false)
def tyMB : Nat → FieldType := fun k => match k with
  | 0 => .object "MovingBlock$Track"
  | 1 => .object "MovingBlock$Wayside"
  | 2 => .array (.object "MovingBlock$Train")
  | 3 => .int
  | _ => .int
theorem nmMB : ∀ a, a < 5 → ∀ b, b < 5 → a ≠ b → (TMB a).2.1 ≠ (TMB b).2.1 := by decide +kernel
theorem tyMB_ok : ∀ k, k < 5 → parseFieldDescriptor (TMB k).2.2.1 = some (tyMB k) := by decide +kernel
def TMo : u_T := fun k => match k with
  | 0 => ("MovingBlockModel", "limit", "[I", true)
  | 1 => ("MovingBlockModel", "grade", "[I", true)
  | 2 => ("MovingBlockModel", "holdAt", "[J", true)
  | 3 => ("MovingBlockModel", "holdClosed", "[Z", true)
  | 4 => ("MovingBlockModel", "down", "[Z", true)
  | 5 => ("MovingBlockModel", "trains", "I", false)
  | 6 => ("MovingBlockModel", "length", "[J", true)
  | 7 => ("MovingBlockModel", "front", "[J", true)
  | 8 => ("MovingBlockModel", "speed", "[J", true)
  | 9 => ("MovingBlockModel", "estimate", "[J", true)
  | 10 => ("MovingBlockModel", "doubt", "[J", true)
  | 11 => ("MovingBlockModel", "authority", "[J", true)
  | 12 => ("MovingBlockModel", "authorityStamp", "[I", true)
  | 13 => ("MovingBlockModel", "saidReach", "[J", true)
  | 14 => ("MovingBlockModel", "saidTail", "[J", true)
  | 15 => ("MovingBlockModel", "reportStamp", "[I", true)
  | 16 => ("MovingBlockModel", "wish", "[I", true)
  | 17 => ("MovingBlockModel", "drift", "[I", true)
  | 18 => ("MovingBlockModel", "up", "[I", true)
  | 19 => ("MovingBlockModel", "back", "[I", true)
  | 20 => ("MovingBlockModel", "emergency", "[Z", true)
  | 21 => ("MovingBlockModel", "emergencies", "[I", true)
  | 22 => ("MovingBlockModel", "mAuthority", "[Z", true)
  | 23 => ("MovingBlockModel", "mTrain", "[I", true)
  | 24 => ("MovingBlockModel", "mStamp", "[I", true)
  | 25 => ("MovingBlockModel", "mDue", "[I", true)
  | 26 => ("MovingBlockModel", "mFirst", "[J", true)
  | 27 => ("MovingBlockModel", "mSecond", "[J", true)
  | 28 => ("MovingBlockModel", "messages", "I", false)
  | 29 => ("MovingBlockModel", "lost", "I", false)
  | 30 => ("MovingBlockModel", "stale", "I", false)
  | _ => ("MovingBlockModel", "clock", "I", false)
def tyMo : Nat → FieldType := fun k => match k with
  | 0 => .array .int
  | 1 => .array .int
  | 2 => .array .long
  | 3 => .array .boolean
  | 4 => .array .boolean
  | 5 => .int
  | 6 => .array .long
  | 7 => .array .long
  | 8 => .array .long
  | 9 => .array .long
  | 10 => .array .long
  | 11 => .array .long
  | 12 => .array .int
  | 13 => .array .long
  | 14 => .array .long
  | 15 => .array .int
  | 16 => .array .int
  | 17 => .array .int
  | 18 => .array .int
  | 19 => .array .int
  | 20 => .array .boolean
  | 21 => .array .int
  | 22 => .array .boolean
  | 23 => .array .int
  | 24 => .array .int
  | 25 => .array .int
  | 26 => .array .long
  | 27 => .array .long
  | 28 => .int
  | 29 => .int
  | 30 => .int
  | _ => .int
theorem nmMo : ∀ a, a < 32 → ∀ b, b < 32 → a ≠ b → (TMo a).2.1 ≠ (TMo b).2.1 := by decide +kernel
theorem tyMo_ok : ∀ k, k < 32 → parseFieldDescriptor (TMo k).2.2.1 = some (tyMo k) := by decide +kernel
abbrev iCh : Nat := 0
abbrev iTk : Nat := 1
abbrev iTr : Nat := 2
abbrev iWy : Nat := 3
abbrev iMB : Nat := 4
abbrev iMo : Nat := 5
abbrev vwCl : List vw_C := [(RCh, TCh, 10), (RTk, TTk, 2), (RTr, TTr, 11), (RWy, TWy, 3), (RMB, TMB, 5), (RMo, TMo, 32)]
def BIG : List Cond := lw_tbl.filter goodWord
theorem big_good {w : Cond} (h : w ∈ BIG) : (w.onTables && w.keeps) = true ∨ ∃ ty, w = .arrayClass ty := good_of_word (List.mem_filter.mp h).2
theorem big_tbl {w : Cond} (h : w ∈ BIG) : w ∈ lw_tbl := (List.mem_filter.mp h).1
theorem big_t {w : Cond} (h : w ∈ tables_1) (g : goodWord w = true) : w ∈ BIG := List.mem_filter.mpr ⟨List.mem_append_right _ h, g⟩
theorem big_p {w : Cond} (h : w ∈ k2_sels lw_privs) (g : goodWord w = true) : w ∈ BIG := List.mem_filter.mpr ⟨List.mem_append_left _ h, g⟩
theorem big_1 {w : Cond} (k : Nat) (h : tables_1_1[k]? = some w) (g : goodWord w = true) : w ∈ BIG := big_t (List.mem_append_left _ (List.mem_of_getElem? h)) g
theorem big_2 {w : Cond} (k : Nat) (h : tables_1_2[k]? = some w) (g : goodWord w = true) : w ∈ BIG := big_t (List.mem_append_right _ (List.mem_append_left _ (List.mem_of_getElem? h))) g
theorem big_3 {w : Cond} (k : Nat) (h : tables_1_3[k]? = some w) (g : goodWord w = true) : w ∈ BIG := big_t (List.mem_append_right _ (List.mem_append_right _ (List.mem_of_getElem? h))) g
