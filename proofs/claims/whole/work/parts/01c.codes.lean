theorem inBCh : ∀ w ∈ u_ws RCh TCh 10, w ∈ BIG := by
  intro w h
  obtain ⟨k, hk, rfl⟩ := List.mem_map.mp h
  have hk := List.mem_range.mp hk
  rcases (show k = 0 ∨ k = 1 ∨ k = 2 ∨ k = 3 ∨ k = 4 ∨ k = 5 ∨ k = 6 ∨ k = 7 ∨ k = 8 ∨ k = 9 by omega) with rfl | rfl | rfl | rfl | rfl | rfl | rfl | rfl | rfl | rfl
  · exact b_85
  · exact b_87
  · exact b_89
  · exact b_91
  · exact b_93
  · exact b_95
  · exact b_97
  · exact b_99
  · exact b_101
  · exact b_103
theorem inBTk : ∀ w ∈ u_ws RTk TTk 2, w ∈ BIG := by
  intro w h
  obtain ⟨k, hk, rfl⟩ := List.mem_map.mp h
  have hk := List.mem_range.mp hk
  rcases (show k = 0 ∨ k = 1 by omega) with rfl | rfl
  · exact b_27
  · exact b_29
theorem inBTr : ∀ w ∈ u_ws RTr TTr 11, w ∈ BIG := by
  intro w h
  obtain ⟨k, hk, rfl⟩ := List.mem_map.mp h
  have hk := List.mem_range.mp hk
  rcases (show k = 0 ∨ k = 1 ∨ k = 2 ∨ k = 3 ∨ k = 4 ∨ k = 5 ∨ k = 6 ∨ k = 7 ∨ k = 8 ∨ k = 9 ∨ k = 10 by omega) with rfl | rfl | rfl | rfl | rfl | rfl | rfl | rfl | rfl | rfl | rfl
  · exact b_127
  · exact b_129
  · exact b_131
  · exact b_133
  · exact b_135
  · exact b_137
  · exact b_139
  · exact b_141
  · exact b_143
  · exact b_145
  · exact b_147
theorem inBWy : ∀ w ∈ u_ws RWy TWy 3, w ∈ BIG := by
  intro w h
  obtain ⟨k, hk, rfl⟩ := List.mem_map.mp h
  have hk := List.mem_range.mp hk
  rcases (show k = 0 ∨ k = 1 ∨ k = 2 by omega) with rfl | rfl | rfl
  · exact b_46
  · exact b_48
  · exact b_50
theorem inBMB : ∀ w ∈ u_ws RMB TMB 5, w ∈ BIG := by
  intro w h
  obtain ⟨k, hk, rfl⟩ := List.mem_map.mp h
  have hk := List.mem_range.mp hk
  rcases (show k = 0 ∨ k = 1 ∨ k = 2 ∨ k = 3 ∨ k = 4 by omega) with rfl | rfl | rfl | rfl | rfl
  · exact b_155
  · exact b_157
  · exact b_159
  · exact b_161
  · exact b_163
theorem inBMo : ∀ w ∈ u_ws RMo TMo 32, w ∈ BIG := by
  intro w h
  obtain ⟨k, hk, rfl⟩ := List.mem_map.mp h
  have hk := List.mem_range.mp hk
  rcases (show k = 0 ∨ k = 1 ∨ k = 2 ∨ k = 3 ∨ k = 4 ∨ k = 5 ∨ k = 6 ∨ k = 7 ∨ k = 8 ∨ k = 9 ∨ k = 10 ∨ k = 11 ∨ k = 12 ∨ k = 13 ∨ k = 14 ∨ k = 15 ∨ k = 16 ∨ k = 17 ∨ k = 18 ∨ k = 19 ∨ k = 20 ∨ k = 21 ∨ k = 22 ∨ k = 23 ∨ k = 24 ∨ k = 25 ∨ k = 26 ∨ k = 27 ∨ k = 28 ∨ k = 29 ∨ k = 30 ∨ k = 31 by omega) with rfl | rfl | rfl | rfl | rfl | rfl | rfl | rfl | rfl | rfl | rfl | rfl | rfl | rfl | rfl | rfl | rfl | rfl | rfl | rfl | rfl | rfl | rfl | rfl | rfl | rfl | rfl | rfl | rfl | rfl | rfl | rfl
  · exact b_402
  · exact b_404
  · exact b_406
  · exact b_408
  · exact b_410
  · exact b_412
  · exact b_414
  · exact b_416
  · exact b_418
  · exact b_420
  · exact b_422
  · exact b_424
  · exact b_426
  · exact b_428
  · exact b_430
  · exact b_432
  · exact b_434
  · exact b_436
  · exact b_438
  · exact b_440
  · exact b_442
  · exact b_444
  · exact b_446
  · exact b_448
  · exact b_450
  · exact b_452
  · exact b_454
  · exact b_456
  · exact b_458
  · exact b_460
  · exact b_462
  · exact b_464
theorem gd_V {cx cy : Cond} {own C : String} {idx : Nat} {y : MethodName} (h1 : Cond.methodLink own idx y ∈ BIG) (h2 : Cond.instanceMethod y ∈ BIG) (h3 : Cond.selects C y y ∈ BIG) (h4 : Cond.initialized C ∈ BIG) (h5 : cy ∈ BIG) : GoodIn (cx :: BIG) (wsV own idx C y (cy :: BIG)) := by
  have key : ∀ w ∈ wsV own idx C y (cy :: BIG), w ∈ BIG := by
    intro w h
    simp only [wsV, List.cons_append, List.nil_append, List.mem_cons] at h
    rcases h with rfl | rfl | rfl | rfl | rfl | h
    · exact h1
    · exact h2
    · exact h3
    · exact h4
    · exact h5
    · exact h
  exact fun w h => ⟨List.mem_cons_of_mem _ (key w h), big_good (key w h)⟩
theorem gd_S {cx cy : Cond} {own : String} {idx : Nat} {y : MethodName} (h1 : Cond.methodLink own idx y ∈ BIG) (h2 : Cond.static y ∈ BIG) (h3 : Cond.initialized y.cls ∈ BIG) (h5 : cy ∈ BIG) : GoodIn (cx :: BIG) (va_wsS own idx y (cy :: BIG)) := by
  have key : ∀ w ∈ va_wsS own idx y (cy :: BIG), w ∈ BIG := by
    intro w h
    simp only [va_wsS, List.cons_append, List.nil_append, List.mem_cons] at h
    rcases h with rfl | rfl | rfl | rfl | h
    · exact h1
    · exact h2
    · exact h3
    · exact h5
    · exact h
  exact fun w h => ⟨List.mem_cons_of_mem _ (key w h), big_good (key w h)⟩
theorem gd_I {cx cy : Cond} (h5 : cy ∈ BIG) : GoodIn (cx :: BIG) (cy :: BIG) := fun w h => ⟨(List.mem_cons.mp h).elim (fun e => List.mem_cons_of_mem _ (e ▸ h5)) (fun h => List.mem_cons_of_mem _ h), (List.mem_cons.mp h).elim (fun e => big_good (e ▸ h5)) big_good⟩
abbrev cMB_init : ByteArray := prog_1_method_1_code
def yMB_init : MethodName := ⟨RMB, "<init>", "()V"⟩
def wsMB_init : List Cond := .code yMB_init cMB_init 2 none :: BIG
abbrev cTk_init : ByteArray := prog_3_method_1_code
def yTk_init : MethodName := ⟨RTk, "<init>", "()V"⟩
def wsTk_init : List Cond := .code yTk_init cTk_init 2 none :: BIG
abbrev cWy_init : ByteArray := prog_5_method_1_code
def yWy_init : MethodName := ⟨RWy, "<init>", "()V"⟩
def wsWy_init : List Cond := .code yWy_init cWy_init 2 none :: BIG
abbrev cTr_init : ByteArray := prog_4_method_1_code
def yTr_init : MethodName := ⟨RTr, "<init>", "()V"⟩
def wsTr_init : List Cond := .code yTr_init cTr_init 1 none :: BIG
abbrev cCh_init : ByteArray := prog_2_method_1_code
def yCh_init : MethodName := ⟨RCh, "<init>", "()V"⟩
def wsCh_init : List Cond := .code yCh_init cCh_init 1 none :: BIG
abbrev cMB_piece : ByteArray := prog_1_method_2_code
def yMB_piece : MethodName := ⟨RMB, "piece", "(III)I"⟩
def wsMB_piece : List Cond := .code yMB_piece cMB_piece 4 (some .int) :: BIG
abbrev cMB_isOutside : ByteArray := prog_1_method_14_code
def yMB_isOutside : MethodName := ⟨RMB, "isOutside", "(III)Z"⟩
def wsMB_isOutside : List Cond := .code yMB_isOutside cMB_isOutside 3 (some .boolean) :: BIG
abbrev cMB_hold : ByteArray := prog_1_method_3_code
def yMB_hold : MethodName := ⟨RMB, "hold", "(IIZ)I"⟩
def wsMB_hold : List Cond := .code yMB_hold cMB_hold 4 (some .int) :: BIG
abbrev cMB_controller : ByteArray := prog_1_method_4_code
def yMB_controller : MethodName := ⟨RMB, "controller", "(IZ)I"⟩
def wsMB_controller : List Cond := .code yMB_controller cMB_controller 3 (some .int) :: BIG
abbrev cMB_enter : ByteArray := prog_1_method_5_code
def yMB_enter : MethodName := ⟨RMB, "enter", "(II)I"⟩
def wsMB_enter : List Cond := .code yMB_enter cMB_enter 3 (some .int) :: BIG
abbrev cTr_rear : ByteArray := prog_4_method_3_code
def yTr_rear : MethodName := ⟨RTr, "rear", "()I"⟩
def wsTr_rear : List Cond := .code yTr_rear cTr_rear 1 (some .int) :: BIG
abbrev cTr_place : ByteArray := prog_4_method_2_code
def yTr_place : MethodName := ⟨RTr, "place", "(II)V"⟩
def wsTr_place : List Cond := .code yTr_place cTr_place 3 none :: BIG
abbrev cMB_demand : ByteArray := prog_1_method_6_code
def yMB_demand : MethodName := ⟨RMB, "demand", "(II)I"⟩
def wsMB_demand : List Cond := .code yMB_demand cMB_demand 3 (some .int) :: BIG
abbrev cMB_isNoTrain : ByteArray := prog_1_method_15_code
def yMB_isNoTrain : MethodName := ⟨RMB, "isNoTrain", "(I)Z"⟩
def wsMB_isNoTrain : List Cond := .code yMB_isNoTrain cMB_isNoTrain 2 (some .boolean) :: BIG
abbrev cMB_drift : ByteArray := prog_1_method_7_code
def yMB_drift : MethodName := ⟨RMB, "drift", "(II)I"⟩
def wsMB_drift : List Cond := .code yMB_drift cMB_drift 3 (some .int) :: BIG
abbrev cMB_radio : ByteArray := prog_1_method_8_code
def yMB_radio : MethodName := ⟨RMB, "radio", "(III)I"⟩
def wsMB_radio : List Cond := .code yMB_radio cMB_radio 4 (some .int) :: BIG
abbrev cMB_tick : ByteArray := prog_1_method_9_code
def yMB_tick : MethodName := ⟨RMB, "tick", "(I)I"⟩
def wsMB_tick : List Cond := .code yMB_tick cMB_tick 3 (some .int) :: BIG
abbrev cMB_passOneSecond : ByteArray := prog_1_method_16_code
def yMB_passOneSecond : MethodName := ⟨RMB, "passOneSecond", "()V"⟩
def wsMB_passOneSecond : List Cond := .code yMB_passOneSecond cMB_passOneSecond 2 none :: BIG
abbrev cTr_sendReport : ByteArray := prog_4_method_7_code
def yTr_sendReport : MethodName := ⟨RTr, "sendReport", "(I)V"⟩
def wsTr_sendReport : List Cond := .code yTr_sendReport cTr_sendReport 2 none :: BIG
abbrev cTr_reach : ByteArray := prog_4_method_4_code
def yTr_reach : MethodName := ⟨RTr, "reach", "()I"⟩
def wsTr_reach : List Cond := .code yTr_reach cTr_reach 1 (some .int) :: BIG
abbrev cTr_tail : ByteArray := prog_4_method_5_code
def yTr_tail : MethodName := ⟨RTr, "tail", "()I"⟩
def wsTr_tail : List Cond := .code yTr_tail cTr_tail 1 (some .int) :: BIG
abbrev cCh_send : ByteArray := prog_2_method_3_code
def yCh_send : MethodName := ⟨RCh, "send", "(III)V"⟩
def wsCh_send : List Cond := .code yCh_send cCh_send 5 none :: BIG
abbrev cMa_floorMod : ByteArray := prog_8_method_50_code
def yMa_floorMod : MethodName := ⟨RMa, "floorMod", "(II)I"⟩
def wsMa_floorMod : List Cond := .code yMa_floorMod cMa_floorMod 3 (some .int) :: BIG
abbrev cCh_receive : ByteArray := prog_2_method_4_code
def yCh_receive : MethodName := ⟨RCh, "receive", "(I)V"⟩
def wsCh_receive : List Cond := .code yCh_receive cCh_receive 4 none :: BIG
abbrev cCh_takeIfNewer : ByteArray := prog_2_method_5_code
def yCh_takeIfNewer : MethodName := ⟨RCh, "takeIfNewer", "(I)V"⟩
def wsCh_takeIfNewer : List Cond := .code yCh_takeIfNewer cCh_takeIfNewer 2 none :: BIG
abbrev cMB_sendAuthority : ByteArray := prog_1_method_17_code
def yMB_sendAuthority : MethodName := ⟨RMB, "sendAuthority", "(I)V"⟩
def wsMB_sendAuthority : List Cond := .code yMB_sendAuthority cMB_sendAuthority 4 none :: BIG
abbrev cCh_wasTaken : ByteArray := prog_2_method_2_code
def yCh_wasTaken : MethodName := ⟨RCh, "wasTaken", "()Z"⟩
def wsCh_wasTaken : List Cond := .code yCh_wasTaken cCh_wasTaken 1 (some .boolean) :: BIG
abbrev cWy_isUpAt : ByteArray := prog_5_method_2_code
def yWy_isUpAt : MethodName := ⟨RWy, "isUpAt", "(I)Z"⟩
def wsWy_isUpAt : List Cond := .code yWy_isUpAt cWy_isUpAt 2 (some .boolean) :: BIG
abbrev cWy_endFor : ByteArray := prog_5_method_3_code
def yWy_endFor : MethodName := ⟨RWy, "endFor", "(I)I"⟩
def wsWy_endFor : List Cond := .code yWy_endFor cWy_endFor 4 (some .int) :: BIG
abbrev cMB_endBehindTrainsAhead : ByteArray := prog_1_method_18_code
def yMB_endBehindTrainsAhead : MethodName := ⟨RMB, "endBehindTrainsAhead", "(I)I"⟩
def wsMB_endBehindTrainsAhead : List Cond := .code yMB_endBehindTrainsAhead cMB_endBehindTrainsAhead 5 (some .int) :: BIG
abbrev cTr_drive : ByteArray := prog_4_method_8_code
def yTr_drive : MethodName := ⟨RTr, "drive", "(ILMovingBlock$Track;)V"⟩
def wsTr_drive : List Cond := .code yTr_drive cTr_drive 5 none :: BIG
abbrev cTr_hasFreshAuthority : ByteArray := prog_4_method_9_code
def yTr_hasFreshAuthority : MethodName := ⟨RTr, "hasFreshAuthority", "(I)Z"⟩
def wsTr_hasFreshAuthority : List Cond := .code yTr_hasFreshAuthority cTr_hasFreshAuthority 2 (some .boolean) :: BIG
abbrev cTr_greatestSafeSquareHere : ByteArray := prog_4_method_10_code
def yTr_greatestSafeSquareHere : MethodName := ⟨RTr, "greatestSafeSquareHere", "(LMovingBlock$Track;)I"⟩
def wsTr_greatestSafeSquareHere : List Cond := .code yTr_greatestSafeSquareHere cTr_greatestSafeSquareHere 2 (some .int) :: BIG
abbrev cTk_greatestSafeSquare : ByteArray := prog_3_method_3_code
def yTk_greatestSafeSquare : MethodName := ⟨RTk, "greatestSafeSquare", "(III)I"⟩
def wsTk_greatestSafeSquare : List Cond := .code yTk_greatestSafeSquare cTk_greatestSafeSquare 8 (some .int) :: BIG
abbrev cTk_pieceAt : ByteArray := prog_3_method_2_code
def yTk_pieceAt : MethodName := ⟨RTk, "pieceAt", "(I)I"⟩
def wsTk_pieceAt : List Cond := .code yTk_pieceAt cTk_pieceAt 1 (some .int) :: BIG
abbrev cTr_pullByDemand : ByteArray := prog_4_method_11_code
def yTr_pullByDemand : MethodName := ⟨RTr, "pullByDemand", "(ZLMovingBlock$Track;)I"⟩
def wsTr_pullByDemand : List Cond := .code yTr_pullByDemand cTr_pullByDemand 4 (some .int) :: BIG
abbrev cTr_staysSafe : ByteArray := prog_4_method_12_code
def yTr_staysSafe : MethodName := ⟨RTr, "staysSafe", "(ILMovingBlock$Track;)Z"⟩
def wsTr_staysSafe : List Cond := .code yTr_staysSafe cTr_staysSafe 6 (some .boolean) :: BIG
abbrev cTr_speedAfter : ByteArray := prog_4_method_13_code
def yTr_speedAfter : MethodName := ⟨RTr, "speedAfter", "(ILMovingBlock$Track;)I"⟩
def wsTr_speedAfter : List Cond := .code yTr_speedAfter cTr_speedAfter 3 (some .int) :: BIG
abbrev cTr_wayTo : ByteArray := prog_4_method_14_code
def yTr_wayTo : MethodName := ⟨RTr, "wayTo", "(I)I"⟩
def wsTr_wayTo : List Cond := .code yTr_wayTo cTr_wayTo 2 (some .int) :: BIG
abbrev cTr_move : ByteArray := prog_4_method_15_code
def yTr_move : MethodName := ⟨RTr, "move", "(I)V"⟩
def wsTr_move : List Cond := .code yTr_move cTr_move 4 none :: BIG
abbrev cMB_measure : ByteArray := prog_1_method_10_code
def yMB_measure : MethodName := ⟨RMB, "measure", "(II)I"⟩
def wsMB_measure : List Cond := .code yMB_measure cMB_measure 4 (some .int) :: BIG
abbrev cMB_state : ByteArray := prog_1_method_11_code
def yMB_state : MethodName := ⟨RMB, "state", "(II)I"⟩
def wsMB_state : List Cond := .code yMB_state cMB_state 4 (some .int) :: BIG
abbrev cTr_messagesOnTheWay : ByteArray := prog_4_method_6_code
def yTr_messagesOnTheWay : MethodName := ⟨RTr, "messagesOnTheWay", "(I)I"⟩
def wsTr_messagesOnTheWay : List Cond := .code yTr_messagesOnTheWay cTr_messagesOnTheWay 2 (some .int) :: BIG
abbrev cCh_onTheWay : ByteArray := prog_2_method_6_code
def yCh_onTheWay : MethodName := ⟨RCh, "onTheWay", "(I)I"⟩
def wsCh_onTheWay : List Cond := .code yCh_onTheWay cCh_onTheWay 4 (some .int) :: BIG
abbrev cMB_permitted : ByteArray := prog_1_method_12_code
def yMB_permitted : MethodName := ⟨RMB, "permitted", "(I)I"⟩
def wsMB_permitted : List Cond := .code yMB_permitted cMB_permitted 2 (some .int) :: BIG
abbrev cTr_greatestSafeSpeed : ByteArray := prog_4_method_16_code
def yTr_greatestSafeSpeed : MethodName := ⟨RTr, "greatestSafeSpeed", "(LMovingBlock$Track;)I"⟩
def wsTr_greatestSafeSpeed : List Cond := .code yTr_greatestSafeSpeed cTr_greatestSafeSpeed 4 (some .int) :: BIG
abbrev cMB_count : ByteArray := prog_1_method_13_code
def yMB_count : MethodName := ⟨RMB, "count", "(I)I"⟩
def wsMB_count : List Cond := .code yMB_count cMB_count 2 (some .int) :: BIG
abbrev cMB_trainsBeyondTheOneBefore : ByteArray := prog_1_method_19_code
def yMB_trainsBeyondTheOneBefore : MethodName := ⟨RMB, "trainsBeyondTheOneBefore", "()I"⟩
def wsMB_trainsBeyondTheOneBefore : List Cond := .code yMB_trainsBeyondTheOneBefore cMB_trainsBeyondTheOneBefore 3 (some .int) :: BIG
abbrev cMB_messagesOnTheWay : ByteArray := prog_1_method_20_code
def yMB_messagesOnTheWay : MethodName := ⟨RMB, "messagesOnTheWay", "()I"⟩
def wsMB_messagesOnTheWay : List Cond := .code yMB_messagesOnTheWay cMB_messagesOnTheWay 3 (some .int) :: BIG
abbrev cMB_messagesLost : ByteArray := prog_1_method_21_code
def yMB_messagesLost : MethodName := ⟨RMB, "messagesLost", "()I"⟩
def wsMB_messagesLost : List Cond := .code yMB_messagesLost cMB_messagesLost 3 (some .int) :: BIG
abbrev cMB_messagesNotTaken : ByteArray := prog_1_method_22_code
def yMB_messagesNotTaken : MethodName := ⟨RMB, "messagesNotTaken", "()I"⟩
def wsMB_messagesNotTaken : List Cond := .code yMB_messagesNotTaken cMB_messagesNotTaken 3 (some .int) :: BIG
abbrev cMo_init : ByteArray := prog_7_method_1_code
def yMo_init : MethodName := ⟨RMo, "<init>", "()V"⟩
def wsMo_init : List Cond := .code yMo_init cMo_init 1 none :: BIG
abbrev cMo_piece : ByteArray := prog_7_method_4_code
def yMo_piece : MethodName := ⟨RMo, "piece", "(III)I"⟩
def wsMo_piece : List Cond := .code yMo_piece cMo_piece 4 (some .int) :: BIG
abbrev cMo_in : ByteArray := prog_7_method_2_code
def yMo_in : MethodName := ⟨RMo, "in", "(III)Z"⟩
def wsMo_in : List Cond := .code yMo_in cMo_in 3 (some .boolean) :: BIG
abbrev cMo_hold : ByteArray := prog_7_method_5_code
def yMo_hold : MethodName := ⟨RMo, "hold", "(IIZ)I"⟩
def wsMo_hold : List Cond := .code yMo_hold cMo_hold 4 (some .int) :: BIG
abbrev cMo_controller : ByteArray := prog_7_method_6_code
def yMo_controller : MethodName := ⟨RMo, "controller", "(IZ)I"⟩
def wsMo_controller : List Cond := .code yMo_controller cMo_controller 4 (some .int) :: BIG
abbrev cMo_enter : ByteArray := prog_7_method_8_code
def yMo_enter : MethodName := ⟨RMo, "enter", "(II)I"⟩
def wsMo_enter : List Cond := .code yMo_enter cMo_enter 3 (some .int) :: BIG
abbrev cMo_rear : ByteArray := prog_7_method_7_code
def yMo_rear : MethodName := ⟨RMo, "rear", "(I)J"⟩
def wsMo_rear : List Cond := .code yMo_rear cMo_rear 2 (some .long) :: BIG
abbrev cMo_demand : ByteArray := prog_7_method_9_code
def yMo_demand : MethodName := ⟨RMo, "demand", "(II)I"⟩
def wsMo_demand : List Cond := .code yMo_demand cMo_demand 3 (some .int) :: BIG
abbrev cMo_noTrain : ByteArray := prog_7_method_3_code
def yMo_noTrain : MethodName := ⟨RMo, "noTrain", "(I)Z"⟩
def wsMo_noTrain : List Cond := .code yMo_noTrain cMo_noTrain 2 (some .boolean) :: BIG
abbrev cMo_drift : ByteArray := prog_7_method_10_code
def yMo_drift : MethodName := ⟨RMo, "drift", "(II)I"⟩
def wsMo_drift : List Cond := .code yMo_drift cMo_drift 3 (some .int) :: BIG
abbrev cMo_radio : ByteArray := prog_7_method_11_code
def yMo_radio : MethodName := ⟨RMo, "radio", "(III)I"⟩
def wsMo_radio : List Cond := .code yMo_radio cMo_radio 4 (some .int) :: BIG
abbrev cMo_tick : ByteArray := prog_7_method_26_code
def yMo_tick : MethodName := ⟨RMo, "tick", "(I)I"⟩
def wsMo_tick : List Cond := .code yMo_tick cMo_tick 4 (some .int) :: BIG
abbrev cMo_reach : ByteArray := prog_7_method_20_code
def yMo_reach : MethodName := ⟨RMo, "reach", "(I)J"⟩
def wsMo_reach : List Cond := .code yMo_reach cMo_reach 2 (some .long) :: BIG
abbrev cMo_tail : ByteArray := prog_7_method_21_code
def yMo_tail : MethodName := ⟨RMo, "tail", "(I)J"⟩
def wsMo_tail : List Cond := .code yMo_tail cMo_tail 2 (some .long) :: BIG
abbrev cMo_send : ByteArray := prog_7_method_12_code
def yMo_send : MethodName := ⟨RMo, "send", "(ZIIJJ)V"⟩
def wsMo_send : List Cond := .code yMo_send cMo_send 8 none :: BIG
abbrev cMo_arrive : ByteArray := prog_7_method_15_code
def yMo_arrive : MethodName := ⟨RMo, "arrive", "(Z)V"⟩
def wsMo_arrive : List Cond := .code yMo_arrive cMo_arrive 3 none :: BIG
abbrev cMo_take : ByteArray := prog_7_method_14_code
def yMo_take : MethodName := ⟨RMo, "take", "(I)V"⟩
def wsMo_take : List Cond := .code yMo_take cMo_take 4 none :: BIG
abbrev cMo_drop : ByteArray := prog_7_method_13_code
def yMo_drop : MethodName := ⟨RMo, "drop", "(I)V"⟩
def wsMo_drop : List Cond := .code yMo_drop cMo_drop 3 none :: BIG
abbrev cMo_control : ByteArray := prog_7_method_17_code
def yMo_control : MethodName := ⟨RMo, "control", "()V"⟩
def wsMo_control : List Cond := .code yMo_control cMo_control 3 none :: BIG
abbrev cMo_worked : ByteArray := prog_7_method_16_code
def yMo_worked : MethodName := ⟨RMo, "worked", "(I)J"⟩
def wsMo_worked : List Cond := .code yMo_worked cMo_worked 9 (some .long) :: BIG
abbrev cMo_drive : ByteArray := prog_7_method_25_code
def yMo_drive : MethodName := ⟨RMo, "drive", "(I)V"⟩
def wsMo_drive : List Cond := .code yMo_drive cMo_drive 7 none :: BIG
abbrev cMo_old : ByteArray := prog_7_method_22_code
def yMo_old : MethodName := ⟨RMo, "old", "(I)Z"⟩
def wsMo_old : List Cond := .code yMo_old cMo_old 2 (some .boolean) :: BIG
abbrev cMo_safe : ByteArray := prog_7_method_19_code
def yMo_safe : MethodName := ⟨RMo, "safe", "(IJJJ)Z"⟩
def wsMo_safe : List Cond := .code yMo_safe cMo_safe 12 (some .boolean) :: BIG
abbrev cMo_pieceOf : ByteArray := prog_7_method_18_code
def yMo_pieceOf : MethodName := ⟨RMo, "pieceOf", "(J)I"⟩
def wsMo_pieceOf : List Cond := .code yMo_pieceOf cMo_pieceOf 2 (some .int) :: BIG
abbrev cMo_pull : ByteArray := prog_7_method_24_code
def yMo_pull : MethodName := ⟨RMo, "pull", "(I)I"⟩
def wsMo_pull : List Cond := .code yMo_pull cMo_pull 10 (some .int) :: BIG
abbrev cMo_next : ByteArray := prog_7_method_23_code
def yMo_next : MethodName := ⟨RMo, "next", "(II)J"⟩
def wsMo_next : List Cond := .code yMo_next cMo_next 5 (some .long) :: BIG
abbrev cMo_measure : ByteArray := prog_7_method_28_code
def yMo_measure : MethodName := ⟨RMo, "measure", "(II)I"⟩
def wsMo_measure : List Cond := .code yMo_measure cMo_measure 3 (some .int) :: BIG
abbrev cMo_told : ByteArray := prog_7_method_27_code
def yMo_told : MethodName := ⟨RMo, "told", "(J)I"⟩
def wsMo_told : List Cond := .code yMo_told cMo_told 2 (some .int) :: BIG
abbrev cMo_state : ByteArray := prog_7_method_29_code
def yMo_state : MethodName := ⟨RMo, "state", "(II)I"⟩
def wsMo_state : List Cond := .code yMo_state cMo_state 5 (some .int) :: BIG
abbrev cMo_permitted : ByteArray := prog_7_method_30_code
def yMo_permitted : MethodName := ⟨RMo, "permitted", "(I)I"⟩
def wsMo_permitted : List Cond := .code yMo_permitted cMo_permitted 3 (some .int) :: BIG
abbrev cMo_count : ByteArray := prog_7_method_31_code
def yMo_count : MethodName := ⟨RMo, "count", "(I)I"⟩
def wsMo_count : List Cond := .code yMo_count cMo_count 4 (some .int) :: BIG
