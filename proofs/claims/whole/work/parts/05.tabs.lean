/-! ===== the methods' infos, the words of the tables that their instructions want, fields; codes as items ===== -/
abbrev zq_In : Type := MethodName × ByteArray × Nat × Option FieldType × Room
abbrev zq_It : Type := zq_Op ⊕ ((Nat × (Nat ⊕ List (Nat × Nat))) ⊕ Nat)
theorem zq_bz (x : Int32) (h : true = true → x = 0 ∨ x = 1) : narrow .boolean (.int x) = .int x ∧ fits .boolean (.int x) = true := by
  rcases h rfl with rfl | rfl
  · exact ⟨by decide +kernel, by decide +kernel⟩
  · exact ⟨by decide +kernel, by decide +kernel⟩
theorem zq_tb {pc d : Nat} {offs : Array Int} {tg : List Nat} (h : ((List.range tg.length).all fun n => (offs[n]?).any fun off => (pc : Int) + off == (tg.getD n d : Int)) = true) : ∀ n, n < tg.length → ∃ off, offs[n]? = some off ∧ (pc : Int) + off = (tg.getD n d : Int) := by
  intro n hn
  have h1 := List.all_eq_true.mp h n (List.mem_range.mpr hn)
  cases ho : offs[n]? with
  | none => rw [ho] at h1; cases h1
  | some off =>
    rw [ho] at h1
    exact ⟨off, rfl, eq_of_beq h1⟩
theorem zq_x0 : Cond.selects RX0 yX6_understand yX6_understand ∈ zq_W := zq_inX (List.mem_of_getElem? (i := 0) rfl) rfl
theorem zq_x1 : Cond.selects RX3 yX6_understand yX6_understand ∈ zq_W := zq_inX (List.mem_of_getElem? (i := 1) rfl) rfl
theorem zq_x2 : Cond.selects RX0 yX6_firstFault yX6_firstFault ∈ zq_W := zq_inX (List.mem_of_getElem? (i := 2) rfl) rfl
theorem zq_x3 : Cond.selects RX3 yX6_firstFault yX6_firstFault ∈ zq_W := zq_inX (List.mem_of_getElem? (i := 3) rfl) rfl
theorem zq_t1 {w : Cond} (h : w ∈ tables_1_1) : w ∈ lw_tbl := List.mem_append_right _ (List.mem_append_left _ h)
theorem zq_t2 {w : Cond} (h : w ∈ tables_1_2) : w ∈ lw_tbl := List.mem_append_right _ (List.mem_append_right _ (List.mem_append_left _ h))
theorem zq_t3 {w : Cond} (h : w ∈ tables_1_3) : w ∈ lw_tbl := List.mem_append_right _ (List.mem_append_right _ (List.mem_append_right _ (List.mem_append_left _ h)))
theorem zq_t4 {w : Cond} (h : w ∈ tables_1_4) : w ∈ lw_tbl := List.mem_append_right _ (List.mem_append_right _ (List.mem_append_right _ (List.mem_append_right _ (List.mem_append_left _ h))))
theorem zq_t5 {w : Cond} (h : w ∈ tables_1_5) : w ∈ lw_tbl := List.mem_append_right _ (List.mem_append_right _ (List.mem_append_right _ (List.mem_append_right _ (List.mem_append_right _ (List.mem_append_left _ h)))))
theorem zq_t6 {w : Cond} (h : w ∈ tables_1_6) : w ∈ lw_tbl := List.mem_append_right _ (List.mem_append_right _ (List.mem_append_right _ (List.mem_append_right _ (List.mem_append_right _ (List.mem_append_right _ (h))))))
theorem zq_ug0 : ∀ w ∈ u_ws RX0 TX0 9, goodWord w = true := by decide +kernel
theorem zq_ug1 : ∀ w ∈ u_ws RX1 TX1 4, goodWord w = true := by decide +kernel
theorem zq_ug2 : ∀ w ∈ u_ws RX2 TX2 1, goodWord w = true := by decide +kernel
theorem zq_ug3 : ∀ w ∈ u_ws RX3 TX3 9, goodWord w = true := by decide +kernel
theorem zq_ug4 : ∀ w ∈ u_ws RX4 TX4 3, goodWord w = true := by decide +kernel
theorem zq_ug5 : ∀ w ∈ u_ws RX5 TX5 4, goodWord w = true := by decide +kernel
theorem zq_ug7 : ∀ w ∈ u_ws RX7 TX7 14, goodWord w = true := by decide +kernel
theorem zq_ug8 : ∀ w ∈ u_ws RX8 TX8 17, goodWord w = true := by decide +kernel
theorem zq_ug9 : ∀ w ∈ u_ws RX9 TX9 37, goodWord w = true := by decide +kernel
theorem zq_uw0 : ∀ w ∈ u_ws RX0 TX0 9, w ∈ zq_W := fun w h => zq_inW (zq_in0 w h) (zq_ug0 w h)
theorem zq_uw1 : ∀ w ∈ u_ws RX1 TX1 4, w ∈ zq_W := fun w h => zq_inW (zq_in1 w h) (zq_ug1 w h)
theorem zq_uw2 : ∀ w ∈ u_ws RX2 TX2 1, w ∈ zq_W := fun w h => zq_inW (zq_in2 w h) (zq_ug2 w h)
theorem zq_uw3 : ∀ w ∈ u_ws RX3 TX3 9, w ∈ zq_W := fun w h => zq_inW (zq_in3 w h) (zq_ug3 w h)
theorem zq_uw4 : ∀ w ∈ u_ws RX4 TX4 3, w ∈ zq_W := fun w h => zq_inW (zq_in4 w h) (zq_ug4 w h)
theorem zq_uw5 : ∀ w ∈ u_ws RX5 TX5 4, w ∈ zq_W := fun w h => zq_inW (zq_in5 w h) (zq_ug5 w h)
theorem zq_uw7 : ∀ w ∈ u_ws RX7 TX7 14, w ∈ zq_W := fun w h => zq_inW (zq_in7 w h) (zq_ug7 w h)
theorem zq_uw8 : ∀ w ∈ u_ws RX8 TX8 17, w ∈ zq_W := fun w h => zq_inW (zq_in8 w h) (zq_ug8 w h)
theorem zq_uw9 : ∀ w ∈ u_ws RX9 TX9 37, w ∈ zq_W := fun w h => zq_inW (zq_in9 w h) (zq_ug9 w h)
abbrev zn_X0_fits : Nat := 0
def zi_X0_fits : zq_In := (yX0_fits, cX0_fits, 3, (some .boolean), { frames := 1, cells := 0, slots := 0, locals := 21 })
abbrev zn_X0_readThings : Nat := 1
def zi_X0_readThings : zq_In := (yX0_readThings, cX0_readThings, 2, none, { frames := 1, cells := 0, slots := 0, locals := 21 })
abbrev zn_X0_openAllBut : Nat := 2
def zi_X0_openAllBut : zq_In := (yX0_openAllBut, cX0_openAllBut, 3, none, { frames := 0, cells := 0, slots := 0, locals := 0 })
abbrev zn_X0_fillStepsTo : Nat := 3
def zi_X0_fillStepsTo : zq_In := (yX0_fillStepsTo, cX0_fillStepsTo, 11, none, { frames := 0, cells := 0, slots := 0, locals := 0 })
abbrev zn_X1_add : Nat := 4
def zi_X1_add : zq_In := (yX1_add, cX1_add, 4, none, { frames := 0, cells := 0, slots := 0, locals := 0 })
abbrev zn_X1_become : Nat := 5
def zi_X1_become : zq_In := (yX1_become, cX1_become, 3, none, { frames := 1, cells := 0, slots := 0, locals := 23 })
abbrev zn_X2_draw : Nat := 6
def zi_X2_draw : zq_In := (yX2_draw, cX2_draw, 2, (some .int), { frames := 0, cells := 0, slots := 0, locals := 0 })
abbrev zn_X3_fits : Nat := 7
def zi_X3_fits : zq_In := (yX3_fits, cX3_fits, 3, (some .boolean), { frames := 1, cells := 0, slots := 0, locals := 21 })
abbrev zn_X3_readThings : Nat := 8
def zi_X3_readThings : zq_In := (yX3_readThings, cX3_readThings, 2, none, { frames := 1, cells := 0, slots := 0, locals := 21 })
abbrev zn_X3_sortAt : Nat := 9
def zi_X3_sortAt : zq_In := (yX3_sortAt, cX3_sortAt, 2, (some .int), { frames := 0, cells := 0, slots := 0, locals := 0 })
abbrev zn_X4_isLost : Nat := 10
def zi_X4_isLost : zq_In := (yX4_isLost, cX4_isLost, 1, (some .boolean), { frames := 0, cells := 0, slots := 0, locals := 0 })
abbrev zn_X4_become : Nat := 11
def zi_X4_become : zq_In := (yX4_become, cX4_become, 3, none, { frames := 1, cells := 0, slots := 0, locals := 23 })
abbrev zn_X4_holds : Nat := 12
def zi_X4_holds : zq_In := (yX4_holds, cX4_holds, 3, (some .boolean), { frames := 0, cells := 0, slots := 0, locals := 0 })
abbrev zn_X4_lay : Nat := 13
def zi_X4_lay : zq_In := (yX4_lay, cX4_lay, 3, none, { frames := 0, cells := 0, slots := 0, locals := 0 })
abbrev zn_X5_add : Nat := 14
def zi_X5_add : zq_In := (yX5_add, cX5_add, 4, none, { frames := 0, cells := 0, slots := 0, locals := 0 })
abbrev zn_X5_allIn : Nat := 15
def zi_X5_allIn : zq_In := (yX5_allIn, cX5_allIn, 4, (some .boolean), { frames := 1, cells := 0, slots := 0, locals := 22 })
abbrev zn_X6_isFull : Nat := 16
def zi_X6_isFull : zq_In := (yX6_isFull, cX6_isFull, 1, (some .boolean), { frames := 0, cells := 0, slots := 0, locals := 0 })
abbrev zn_X6_add : Nat := 17
def zi_X6_add : zq_In := (yX6_add, cX6_add, 2, none, { frames := 4, cells := 0, slots := 0, locals := 85 })
abbrev zn_X6_shorten : Nat := 18
def zi_X6_shorten : zq_In := (yX6_shorten, cX6_shorten, 2, none, { frames := 4, cells := 0, slots := 0, locals := 85 })
abbrev zn_X6_isFigure : Nat := 19
def zi_X6_isFigure : zq_In := (yX6_isFigure, cX6_isFigure, 2, (some .boolean), { frames := 0, cells := 0, slots := 0, locals := 0 })
abbrev zn_X6_figure : Nat := 20
def zi_X6_figure : zq_In := (yX6_figure, cX6_figure, 2, (some .int), { frames := 0, cells := 0, slots := 0, locals := 0 })
abbrev zn_X6_understand : Nat := 21
def zi_X6_understand : zq_In := (yX6_understand, cX6_understand, 1, none, { frames := 3, cells := 0, slots := 0, locals := 65 })
abbrev zn_X6_firstFault : Nat := 22
def zi_X6_firstFault : zq_In := (yX6_firstFault, cX6_firstFault, 3, (some .int), { frames := 2, cells := 0, slots := 0, locals := 43 })
abbrev zn_X7_forgetSteps : Nat := 23
def zi_X7_forgetSteps : zq_In := (yX7_forgetSteps, cX7_forgetSteps, 1, none, { frames := 1, cells := 0, slots := 0, locals := 23 })
abbrev zn_X7_suppose : Nat := 24
def zi_X7_suppose : zq_In := (yX7_suppose, cX7_suppose, 4, none, { frames := 0, cells := 0, slots := 0, locals := 0 })
abbrev zn_X7_runWith : Nat := 25
def zi_X7_runWith : zq_In := (yX7_runWith, cX7_runWith, 7, none, { frames := 2, cells := 0, slots := 0, locals := 53 })
abbrev zn_X7_layHours : Nat := 26
def zi_X7_layHours : zq_In := (yX7_layHours, cX7_layHours, 5, none, { frames := 0, cells := 0, slots := 0, locals := 0 })
abbrev zn_X7_layTables : Nat := 27
def zi_X7_layTables : zq_In := (yX7_layTables, cX7_layTables, 4, none, { frames := 1, cells := 0, slots := 0, locals := 30 })
abbrev zn_X7_walk : Nat := 28
def zi_X7_walk : zq_In := (yX7_walk, cX7_walk, 9, none, { frames := 1, cells := 0, slots := 0, locals := 22 })
abbrev zn_X7_sortOf : Nat := 29
def zi_X7_sortOf : zq_In := (yX7_sortOf, cX7_sortOf, 2, (some .int), { frames := 0, cells := 0, slots := 0, locals := 0 })
abbrev zn_X7_bedOf : Nat := 30
def zi_X7_bedOf : zq_In := (yX7_bedOf, cX7_bedOf, 2, (some .int), { frames := 0, cells := 0, slots := 0, locals := 0 })
abbrev zn_X7_roomOf : Nat := 31
def zi_X7_roomOf : zq_In := (yX7_roomOf, cX7_roomOf, 3, (some .int), { frames := 0, cells := 0, slots := 0, locals := 0 })
abbrev zn_X7_whoIn : Nat := 32
def zi_X7_whoIn : zq_In := (yX7_whoIn, cX7_whoIn, 5, (some .int), { frames := 1, cells := 0, slots := 0, locals := 22 })
abbrev zn_X7_doorsBetween : Nat := 33
def zi_X7_doorsBetween : zq_In := (yX7_doorsBetween, cX7_doorsBetween, 6, (some .int), { frames := 0, cells := 0, slots := 0, locals := 0 })
abbrev zn_X7_emptyHours : Nat := 34
def zi_X7_emptyHours : zq_In := (yX7_emptyHours, cX7_emptyHours, 4, (some .int), { frames := 2, cells := 0, slots := 0, locals := 46 })
abbrev zn_X7_aloneBehind : Nat := 35
def zi_X7_aloneBehind : zq_In := (yX7_aloneBehind, cX7_aloneBehind, 6, (some .int), { frames := 1, cells := 0, slots := 0, locals := 22 })
abbrev zn_X7_hoursAlone : Nat := 36
def zi_X7_hoursAlone : zq_In := (yX7_hoursAlone, cX7_hoursAlone, 4, (some .int), { frames := 2, cells := 0, slots := 0, locals := 47 })
abbrev zn_X7_mostIn : Nat := 37
def zi_X7_mostIn : zq_In := (yX7_mostIn, cX7_mostIn, 4, (some .int), { frames := 2, cells := 0, slots := 0, locals := 46 })
abbrev zn_X7_firstRoomOf : Nat := 38
def zi_X7_firstRoomOf : zq_In := (yX7_firstRoomOf, cX7_firstRoomOf, 4, (some .int), { frames := 2, cells := 0, slots := 0, locals := 46 })
abbrev zn_X7_findingHour : Nat := 39
def zi_X7_findingHour : zq_In := (yX7_findingHour, cX7_findingHour, 2, (some .int), { frames := 3, cells := 0, slots := 0, locals := 67 })
abbrev zn_X7_finder : Nat := 40
def zi_X7_finder : zq_In := (yX7_finder, cX7_finder, 3, (some .int), { frames := 2, cells := 0, slots := 0, locals := 45 })
abbrev zn_X7_childWith : Nat := 41
def zi_X7_childWith : zq_In := (yX7_childWith, cX7_childWith, 4, (some .int), { frames := 1, cells := 0, slots := 0, locals := 22 })
abbrev zn_X8_type : Nat := 42
def zi_X8_type : zq_In := (yX8_type, cX8_type, 4, (some .int), { frames := 5, cells := 0, slots := 0, locals := 106 })
abbrev zn_X8_wipe : Nat := 43
def zi_X8_wipe : zq_In := (yX8_wipe, cX8_wipe, 4, (some .int), { frames := 5, cells := 0, slots := 0, locals := 106 })
abbrev zn_X8_undo : Nat := 44
def zi_X8_undo : zq_In := (yX8_undo, cX8_undo, 3, (some .int), { frames := 5, cells := 0, slots := 0, locals := 106 })
abbrev zn_X8_fault : Nat := 45
def zi_X8_fault : zq_In := (yX8_fault, cX8_fault, 3, (some .int), { frames := 1, cells := 0, slots := 0, locals := 21 })
abbrev zn_X8_door : Nat := 46
def zi_X8_door : zq_In := (yX8_door, cX8_door, 3, (some .int), { frames := 1, cells := 0, slots := 0, locals := 22 })
abbrev zn_X8_person : Nat := 47
def zi_X8_person : zq_In := (yX8_person, cX8_person, 3, (some .int), { frames := 2, cells := 0, slots := 0, locals := 43 })
abbrev zn_X8_ahead : Nat := 48
def zi_X8_ahead : zq_In := (yX8_ahead, cX8_ahead, 3, (some .int), { frames := 1, cells := 0, slots := 0, locals := 22 })
abbrev zn_X8_event : Nat := 49
def zi_X8_event : zq_In := (yX8_event, cX8_event, 4, (some .int), { frames := 3, cells := 0, slots := 0, locals := 65 })
abbrev zn_X8_back : Nat := 50
def zi_X8_back : zq_In := (yX8_back, cX8_back, 1, (some .int), { frames := 1, cells := 0, slots := 0, locals := 20 })
abbrev zn_X8_read : Nat := 51
def zi_X8_read : zq_In := (yX8_read, cX8_read, 5, (some .int), { frames := 4, cells := 0, slots := 0, locals := 88 })
abbrev zn_X8_at : Nat := 52
def zi_X8_at : zq_In := (yX8_at, cX8_at, 5, (some .int), { frames := 4, cells := 0, slots := 0, locals := 99 })
abbrev zn_X8_room : Nat := 53
def zi_X8_room : zq_In := (yX8_room, cX8_room, 3, (some .int), { frames := 4, cells := 0, slots := 0, locals := 99 })
abbrev zn_X8_far : Nat := 54
def zi_X8_far : zq_In := (yX8_far, cX8_far, 4, (some .int), { frames := 4, cells := 0, slots := 0, locals := 99 })
abbrev zn_X8_meet : Nat := 55
def zi_X8_meet : zq_In := (yX8_meet, cX8_meet, 5, (some .int), { frames := 4, cells := 0, slots := 0, locals := 99 })
abbrev zn_X8_empty : Nat := 56
def zi_X8_empty : zq_In := (yX8_empty, cX8_empty, 2, (some .int), { frames := 4, cells := 0, slots := 0, locals := 99 })
abbrev zn_X8_found : Nat := 57
def zi_X8_found : zq_In := (yX8_found, cX8_found, 5, (some .int), { frames := 4, cells := 0, slots := 0, locals := 99 })
abbrev zn_X8_crowd : Nat := 58
def zi_X8_crowd : zq_In := (yX8_crowd, cX8_crowd, 5, (some .int), { frames := 4, cells := 0, slots := 0, locals := 99 })
abbrev zn_X8_alone : Nat := 59
def zi_X8_alone : zq_In := (yX8_alone, cX8_alone, 1, (some .int), { frames := 4, cells := 0, slots := 0, locals := 99 })
abbrev zn_X8_sleep : Nat := 60
def zi_X8_sleep : zq_In := (yX8_sleep, cX8_sleep, 7, (some .int), { frames := 3, cells := 0, slots := 0, locals := 79 })
abbrev zn_X8_nice : Nat := 61
def zi_X8_nice : zq_In := (yX8_nice, cX8_nice, 7, (some .int), { frames := 3, cells := 0, slots := 0, locals := 79 })
abbrev zn_X8_lens : Nat := 62
def zi_X8_lens : zq_In := (yX8_lens, cX8_lens, 6, (some .int), { frames := 4, cells := 0, slots := 0, locals := 88 })
abbrev zn_X8_spare : Nat := 63
def zi_X8_spare : zq_In := (yX8_spare, cX8_spare, 3, (some .int), { frames := 5, cells := 0, slots := 0, locals := 122 })
abbrev zn_X8_seen : Nat := 64
def zi_X8_seen : zq_In := (yX8_seen, cX8_seen, 4, (some .int), { frames := 2, cells := 0, slots := 0, locals := 42 })
abbrev zn_X8_forget : Nat := 65
def zi_X8_forget : zq_In := (yX8_forget, cX8_forget, 2, (some .int), { frames := 0, cells := 0, slots := 0, locals := 0 })
abbrev zn_X8_never : Nat := 66
def zi_X8_never : zq_In := (yX8_never, cX8_never, 3, (some .int), { frames := 3, cells := 0, slots := 0, locals := 79 })
abbrev zn_X8_was : Nat := 67
def zi_X8_was : zq_In := (yX8_was, cX8_was, 3, (some .int), { frames := 4, cells := 0, slots := 0, locals := 103 })
abbrev zn_X8_ask : Nat := 68
def zi_X8_ask : zq_In := (yX8_ask, cX8_ask, 7, (some .int), { frames := 4, cells := 0, slots := 0, locals := 103 })
abbrev zn_X8_chance : Nat := 69
def zi_X8_chance : zq_In := (yX8_chance, cX8_chance, 10, (some .long), { frames := 4, cells := 0, slots := 0, locals := 104 })
abbrev zn_X8_weeks : Nat := 70
def zi_X8_weeks : zq_In := (yX8_weeks, cX8_weeks, 7, (some .int), { frames := 3, cells := 0, slots := 0, locals := 79 })
abbrev zn_X8_sheet : Nat := 71
def zi_X8_sheet : zq_In := (yX8_sheet, cX8_sheet, 4, (some .int), { frames := 2, cells := 0, slots := 0, locals := 45 })
abbrev zn_X8_lose : Nat := 72
def zi_X8_lose : zq_In := (yX8_lose, cX8_lose, 4, (some .int), { frames := 2, cells := 0, slots := 0, locals := 42 })
abbrev zn_X8_put : Nat := 73
def zi_X8_put : zq_In := (yX8_put, cX8_put, 6, (some .int), { frames := 3, cells := 0, slots := 0, locals := 66 })
abbrev zn_X8_get : Nat := 74
def zi_X8_get : zq_In := (yX8_get, cX8_get, 4, (some .int), { frames := 3, cells := 0, slots := 0, locals := 66 })
abbrev zn_X8_copy : Nat := 75
def zi_X8_copy : zq_In := (yX8_copy, cX8_copy, 8, (some .int), { frames := 2, cells := 0, slots := 0, locals := 42 })
abbrev zn_X8_write : Nat := 76
def zi_X8_write : zq_In := (yX8_write, cX8_write, 7, (some .int), { frames := 4, cells := 0, slots := 0, locals := 99 })
abbrev zn_X8_count : Nat := 77
def zi_X8_count : zq_In := (yX8_count, cX8_count, 2, (some .int), { frames := 5, cells := 0, slots := 0, locals := 122 })
abbrev zn_X8_digest : Nat := 78
def zi_X8_digest : zq_In := (yX8_digest, cX8_digest, 4, (some .long), { frames := 6, cells := 0, slots := 0, locals := 158 })
abbrev zn_X8_mix : Nat := 79
def zi_X8_mix : zq_In := (yX8_mix, cX8_mix, 4, (some .long), { frames := 0, cells := 0, slots := 0, locals := 0 })
abbrev zn_X8_mixStays : Nat := 80
def zi_X8_mixStays : zq_In := (yX8_mixStays, cX8_mixStays, 7, (some .long), { frames := 5, cells := 0, slots := 0, locals := 123 })
abbrev zn_X8_mixGuesses : Nat := 81
def zi_X8_mixGuesses : zq_In := (yX8_mixGuesses, cX8_mixGuesses, 6, (some .long), { frames := 5, cells := 0, slots := 0, locals := 133 })
abbrev zn_X8_within : Nat := 82
def zi_X8_within : zq_In := (yX8_within, cX8_within, 3, (some .boolean), { frames := 0, cells := 0, slots := 0, locals := 0 })
abbrev zn_X8_isHour : Nat := 83
def zi_X8_isHour : zq_In := (yX8_isHour, cX8_isHour, 1, (some .boolean), { frames := 1, cells := 0, slots := 0, locals := 22 })
abbrev zn_X8_isRoom : Nat := 84
def zi_X8_isRoom : zq_In := (yX8_isRoom, cX8_isRoom, 1, (some .boolean), { frames := 1, cells := 0, slots := 0, locals := 22 })
abbrev zn_X8_isSheet : Nat := 85
def zi_X8_isSheet : zq_In := (yX8_isSheet, cX8_isSheet, 1, (some .boolean), { frames := 1, cells := 0, slots := 0, locals := 22 })
abbrev zn_X8_isForm : Nat := 86
def zi_X8_isForm : zq_In := (yX8_isForm, cX8_isForm, 1, (some .boolean), { frames := 1, cells := 0, slots := 0, locals := 22 })
abbrev zn_X8_isEvent : Nat := 87
def zi_X8_isEvent : zq_In := (yX8_isEvent, cX8_isEvent, 4, (some .boolean), { frames := 2, cells := 0, slots := 0, locals := 42 })
abbrev zn_X8_isPerson : Nat := 88
def zi_X8_isPerson : zq_In := (yX8_isPerson, cX8_isPerson, 2, (some .boolean), { frames := 1, cells := 0, slots := 0, locals := 22 })
abbrev zn_X8_textOf : Nat := 89
def zi_X8_textOf : zq_In := (yX8_textOf, cX8_textOf, 2, (some (.object "DollsAhead$Text")), { frames := 0, cells := 0, slots := 0, locals := 0 })
abbrev zn_X8_textChanged : Nat := 90
def zi_X8_textChanged : zq_In := (yX8_textChanged, cX8_textChanged, 1, none, { frames := 2, cells := 0, slots := 0, locals := 43 })
abbrev zn_X8_changed : Nat := 91
def zi_X8_changed : zq_In := (yX8_changed, cX8_changed, 1, none, { frames := 0, cells := 0, slots := 0, locals := 0 })
abbrev zn_X8_weekAsTold : Nat := 92
def zi_X8_weekAsTold : zq_In := (yX8_weekAsTold, cX8_weekAsTold, 1, (some (.object "DollsAhead$Week")), { frames := 3, cells := 0, slots := 0, locals := 79 })
abbrev zn_X8_emptyHoursOfAll : Nat := 93
def zi_X8_emptyHoursOfAll : zq_In := (yX8_emptyHoursOfAll, cX8_emptyHoursOfAll, 4, (some .int), { frames := 4, cells := 0, slots := 0, locals := 99 })
abbrev zn_X8_sparedRow : Nat := 94
def zi_X8_sparedRow : zq_In := (yX8_sparedRow, cX8_sparedRow, 3, (some .int), { frames := 4, cells := 0, slots := 0, locals := 100 })
abbrev zn_X8_nobodyAloneWithout : Nat := 95
def zi_X8_nobodyAloneWithout : zq_In := (yX8_nobodyAloneWithout, cX8_nobodyAloneWithout, 2, (some .boolean), { frames := 3, cells := 0, slots := 0, locals := 79 })
abbrev zn_X8_placeOfBit : Nat := 96
def zi_X8_placeOfBit : zq_In := (yX8_placeOfBit, cX8_placeOfBit, 4, (some .int), { frames := 0, cells := 0, slots := 0, locals := 0 })
abbrev zn_X8_sortsThatFit : Nat := 97
def zi_X8_sortsThatFit : zq_In := (yX8_sortsThatFit, cX8_sortsThatFit, 4, (some .int), { frames := 3, cells := 0, slots := 0, locals := 79 })
abbrev zn_X8_bedsThatFit : Nat := 98
def zi_X8_bedsThatFit : zq_In := (yX8_bedsThatFit, cX8_bedsThatFit, 5, (some .int), { frames := 3, cells := 0, slots := 0, locals := 79 })
abbrev zn_X8_mostBedsInOneRoom : Nat := 99
def zi_X8_mostBedsInOneRoom : zq_In := (yX8_mostBedsInOneRoom, cX8_mostBedsInOneRoom, 6, (some .int), { frames := 1, cells := 0, slots := 0, locals := 23 })
abbrev zn_X8_weighOdds : Nat := 100
def zi_X8_weighOdds : zq_In := (yX8_weighOdds, cX8_weighOdds, 6, none, { frames := 3, cells := 0, slots := 0, locals := 79 })
abbrev zn_X8_weightOf : Nat := 101
def zi_X8_weightOf : zq_In := (yX8_weightOf, cX8_weightOf, 6, (some .long), { frames := 0, cells := 0, slots := 0, locals := 0 })
abbrev zn_X8_addOdds : Nat := 102
def zi_X8_addOdds : zq_In := (yX8_addOdds, cX8_addOdds, 5, none, { frames := 0, cells := 0, slots := 0, locals := 0 })
abbrev zn_X8_refuse : Nat := 103
def zi_X8_refuse : zq_In := (yX8_refuse, cX8_refuse, 2, (some .int), { frames := 0, cells := 0, slots := 0, locals := 0 })
abbrev zn_X8_refusalOfItem : Nat := 104
def zi_X8_refusalOfItem : zq_In := (yX8_refusalOfItem, cX8_refusalOfItem, 5, (some .int), { frames := 2, cells := 0, slots := 0, locals := 42 })
abbrev zn_X9_in : Nat := 105
def zi_X9_in : zq_In := (yX9_in, cX9_in, 3, (some .boolean), { frames := 0, cells := 0, slots := 0, locals := 0 })
abbrev zn_X9_isIn : Nat := 106
def zi_X9_isIn : zq_In := (yX9_isIn, cX9_isIn, 2, (some .boolean), { frames := 0, cells := 0, slots := 0, locals := 0 })
abbrev zn_X9_no : Nat := 107
def zi_X9_no : zq_In := (yX9_no, cX9_no, 1, (some .long), { frames := 0, cells := 0, slots := 0, locals := 0 })
abbrev zn_X9_lowest : Nat := 108
def zi_X9_lowest : zq_In := (yX9_lowest, cX9_lowest, 11, (some .long), { frames := 0, cells := 0, slots := 0, locals := 0 })
abbrev zn_X9_isText : Nat := 109
def zi_X9_isText : zq_In := (yX9_isText, cX9_isText, 1, (some .boolean), { frames := 1, cells := 0, slots := 0, locals := 22 })
abbrev zn_X9_isHour : Nat := 110
def zi_X9_isHour : zq_In := (yX9_isHour, cX9_isHour, 1, (some .boolean), { frames := 1, cells := 0, slots := 0, locals := 22 })
abbrev zn_X9_isTwo : Nat := 111
def zi_X9_isTwo : zq_In := (yX9_isTwo, cX9_isTwo, 1, (some .boolean), { frames := 1, cells := 0, slots := 0, locals := 22 })
abbrev zn_X9_isThree : Nat := 112
def zi_X9_isThree : zq_In := (yX9_isThree, cX9_isThree, 1, (some .boolean), { frames := 1, cells := 0, slots := 0, locals := 22 })
abbrev zn_X9_isEight : Nat := 113
def zi_X9_isEight : zq_In := (yX9_isEight, cX9_isEight, 1, (some .boolean), { frames := 1, cells := 0, slots := 0, locals := 22 })
abbrev zn_X9_type : Nat := 114
def zi_X9_type : zq_In := (yX9_type, cX9_type, 3, (some .int), { frames := 2, cells := 0, slots := 0, locals := 42 })
abbrev zn_X9_wipe : Nat := 115
def zi_X9_wipe : zq_In := (yX9_wipe, cX9_wipe, 3, (some .int), { frames := 2, cells := 0, slots := 0, locals := 42 })
abbrev zn_X9_undo : Nat := 116
def zi_X9_undo : zq_In := (yX9_undo, cX9_undo, 2, (some .int), { frames := 2, cells := 0, slots := 0, locals := 42 })
abbrev zn_X9_byteAt : Nat := 117
def zi_X9_byteAt : zq_In := (yX9_byteAt, cX9_byteAt, 3, (some .int), { frames := 0, cells := 0, slots := 0, locals := 0 })
abbrev zn_X9_readsDoor : Nat := 118
def zi_X9_readsDoor : zq_In := (yX9_readsDoor, cX9_readsDoor, 5, (some .int), { frames := 2, cells := 0, slots := 0, locals := 42 })
abbrev zn_X9_readsPerson : Nat := 119
def zi_X9_readsPerson : zq_In := (yX9_readsPerson, cX9_readsPerson, 7, (some .int), { frames := 2, cells := 0, slots := 0, locals := 42 })
abbrev zn_X9_readsParts : Nat := 120
def zi_X9_readsParts : zq_In := (yX9_readsParts, cX9_readsParts, 6, (some .int), { frames := 3, cells := 0, slots := 0, locals := 68 })
abbrev zn_X9_faultOf : Nat := 121
def zi_X9_faultOf : zq_In := (yX9_faultOf, cX9_faultOf, 4, (some .int), { frames := 4, cells := 0, slots := 0, locals := 93 })
abbrev zn_X9_reads : Nat := 122
def zi_X9_reads : zq_In := (yX9_reads, cX9_reads, 2, none, { frames := 5, cells := 0, slots := 0, locals := 116 })
abbrev zn_X9_fault : Nat := 123
def zi_X9_fault : zq_In := (yX9_fault, cX9_fault, 2, (some .int), { frames := 5, cells := 0, slots := 0, locals := 116 })
abbrev zn_X9_isDoor : Nat := 124
def zi_X9_isDoor : zq_In := (yX9_isDoor, cX9_isDoor, 2, (some .boolean), { frames := 6, cells := 0, slots := 0, locals := 137 })
abbrev zn_X9_isPerson : Nat := 125
def zi_X9_isPerson : zq_In := (yX9_isPerson, cX9_isPerson, 2, (some .boolean), { frames := 6, cells := 0, slots := 0, locals := 137 })
abbrev zn_X9_doorOf : Nat := 126
def zi_X9_doorOf : zq_In := (yX9_doorOf, cX9_doorOf, 3, (some .int), { frames := 0, cells := 0, slots := 0, locals := 0 })
abbrev zn_X9_door : Nat := 127
def zi_X9_door : zq_In := (yX9_door, cX9_door, 3, (some .int), { frames := 7, cells := 0, slots := 0, locals := 158 })
abbrev zn_X9_personOf : Nat := 128
def zi_X9_personOf : zq_In := (yX9_personOf, cX9_personOf, 3, (some .int), { frames := 0, cells := 0, slots := 0, locals := 0 })
abbrev zn_X9_person : Nat := 129
def zi_X9_person : zq_In := (yX9_person, cX9_person, 3, (some .int), { frames := 7, cells := 0, slots := 0, locals := 158 })
abbrev zn_X9_ahead : Nat := 130
def zi_X9_ahead : zq_In := (yX9_ahead, cX9_ahead, 3, (some .int), { frames := 1, cells := 0, slots := 0, locals := 22 })
abbrev zn_X9_event : Nat := 131
def zi_X9_event : zq_In := (yX9_event, cX9_event, 4, (some .int), { frames := 2, cells := 0, slots := 0, locals := 42 })
abbrev zn_X9_back : Nat := 132
def zi_X9_back : zq_In := (yX9_back, cX9_back, 1, (some .int), { frames := 0, cells := 0, slots := 0, locals := 0 })
abbrev zn_X9_read : Nat := 133
def zi_X9_read : zq_In := (yX9_read, cX9_read, 4, (some .int), { frames := 3, cells := 0, slots := 0, locals := 65 })
abbrev zn_X9_asTold : Nat := 134
def zi_X9_asTold : zq_In := (yX9_asTold, cX9_asTold, 2, none, { frames := 6, cells := 0, slots := 0, locals := 137 })
abbrev zn_X9_befalls : Nat := 135
def zi_X9_befalls : zq_In := (yX9_befalls, cX9_befalls, 3, none, { frames := 1, cells := 0, slots := 0, locals := 21 })
abbrev zn_X9_nears : Nat := 136
def zi_X9_nears : zq_In := (yX9_nears, cX9_nears, 6, none, { frames := 0, cells := 0, slots := 0, locals := 0 })
abbrev zn_X9_measures : Nat := 137
def zi_X9_measures : zq_In := (yX9_measures, cX9_measures, 6, none, { frames := 1, cells := 0, slots := 0, locals := 25 })
abbrev zn_X9_isBeside : Nat := 138
def zi_X9_isBeside : zq_In := (yX9_isBeside, cX9_isBeside, 4, (some .boolean), { frames := 0, cells := 0, slots := 0, locals := 0 })
abbrev zn_X9_step : Nat := 139
def zi_X9_step : zq_In := (yX9_step, cX9_step, 8, (some .int), { frames := 1, cells := 0, slots := 0, locals := 23 })
abbrev zn_X9_leastChild : Nat := 140
def zi_X9_leastChild : zq_In := (yX9_leastChild, cX9_leastChild, 3, (some .int), { frames := 0, cells := 0, slots := 0, locals := 0 })
abbrev zn_X9_goesThrough : Nat := 141
def zi_X9_goesThrough : zq_In := (yX9_goesThrough, cX9_goesThrough, 8, none, { frames := 2, cells := 0, slots := 0, locals := 50 })
abbrev zn_X9_runs : Nat := 142
def zi_X9_runs : zq_In := (yX9_runs, cX9_runs, 3, none, { frames := 3, cells := 0, slots := 0, locals := 77 })
abbrev zn_X9_runsTold : Nat := 143
def zi_X9_runsTold : zq_In := (yX9_runsTold, cX9_runsTold, 1, none, { frames := 7, cells := 0, slots := 0, locals := 158 })
abbrev zn_X9_atOf : Nat := 144
def zi_X9_atOf : zq_In := (yX9_atOf, cX9_atOf, 5, (some .int), { frames := 8, cells := 0, slots := 0, locals := 178 })
abbrev zn_X9_at : Nat := 145
def zi_X9_at : zq_In := (yX9_at, cX9_at, 4, (some .int), { frames := 9, cells := 0, slots := 0, locals := 202 })
abbrev zn_X9_inRoom : Nat := 146
def zi_X9_inRoom : zq_In := (yX9_inRoom, cX9_inRoom, 5, (some .int), { frames := 0, cells := 0, slots := 0, locals := 0 })
abbrev zn_X9_roomOf : Nat := 147
def zi_X9_roomOf : zq_In := (yX9_roomOf, cX9_roomOf, 3, (some .int), { frames := 8, cells := 0, slots := 0, locals := 178 })
abbrev zn_X9_room : Nat := 148
def zi_X9_room : zq_In := (yX9_room, cX9_room, 3, (some .int), { frames := 9, cells := 0, slots := 0, locals := 200 })
abbrev zn_X9_farOf : Nat := 149
def zi_X9_farOf : zq_In := (yX9_farOf, cX9_farOf, 5, (some .int), { frames := 8, cells := 0, slots := 0, locals := 178 })
abbrev zn_X9_far : Nat := 150
def zi_X9_far : zq_In := (yX9_far, cX9_far, 4, (some .int), { frames := 9, cells := 0, slots := 0, locals := 202 })
abbrev zn_X9_metOf : Nat := 151
def zi_X9_metOf : zq_In := (yX9_metOf, cX9_metOf, 5, (some .int), { frames := 8, cells := 0, slots := 0, locals := 178 })
abbrev zn_X9_meet : Nat := 152
def zi_X9_meet : zq_In := (yX9_meet, cX9_meet, 3, (some .int), { frames := 9, cells := 0, slots := 0, locals := 202 })
abbrev zn_X9_emptyNow : Nat := 153
def zi_X9_emptyNow : zq_In := (yX9_emptyNow, cX9_emptyNow, 4, (some .int), { frames := 1, cells := 0, slots := 0, locals := 24 })
abbrev zn_X9_emptyOf : Nat := 154
def zi_X9_emptyOf : zq_In := (yX9_emptyOf, cX9_emptyOf, 2, (some .int), { frames := 8, cells := 0, slots := 0, locals := 178 })
abbrev zn_X9_empty : Nat := 155
def zi_X9_empty : zq_In := (yX9_empty, cX9_empty, 2, (some .int), { frames := 9, cells := 0, slots := 0, locals := 199 })
abbrev zn_X9_foundNow : Nat := 156
def zi_X9_foundNow : zq_In := (yX9_foundNow, cX9_foundNow, 5, (some .int), { frames := 0, cells := 0, slots := 0, locals := 0 })
abbrev zn_X9_foundOf : Nat := 157
def zi_X9_foundOf : zq_In := (yX9_foundOf, cX9_foundOf, 2, (some .int), { frames := 8, cells := 0, slots := 0, locals := 178 })
abbrev zn_X9_found : Nat := 158
def zi_X9_found : zq_In := (yX9_found, cX9_found, 2, (some .int), { frames := 9, cells := 0, slots := 0, locals := 199 })
abbrev zn_X9_many : Nat := 159
def zi_X9_many : zq_In := (yX9_many, cX9_many, 4, (some .int), { frames := 1, cells := 0, slots := 0, locals := 21 })
abbrev zn_X9_crowdOf : Nat := 160
def zi_X9_crowdOf : zq_In := (yX9_crowdOf, cX9_crowdOf, 6, (some .int), { frames := 8, cells := 0, slots := 0, locals := 178 })
abbrev zn_X9_crowd : Nat := 161
def zi_X9_crowd : zq_In := (yX9_crowd, cX9_crowd, 2, (some .int), { frames := 9, cells := 0, slots := 0, locals := 203 })
abbrev zn_X9_isByItself : Nat := 162
def zi_X9_isByItself : zq_In := (yX9_isByItself, cX9_isByItself, 3, (some .boolean), { frames := 1, cells := 0, slots := 0, locals := 24 })
abbrev zn_X9_aloneNow : Nat := 163
def zi_X9_aloneNow : zq_In := (yX9_aloneNow, cX9_aloneNow, 3, (some .int), { frames := 2, cells := 0, slots := 0, locals := 46 })
abbrev zn_X9_aloneOf : Nat := 164
def zi_X9_aloneOf : zq_In := (yX9_aloneOf, cX9_aloneOf, 1, (some .int), { frames := 8, cells := 0, slots := 0, locals := 178 })
abbrev zn_X9_alone : Nat := 165
def zi_X9_alone : zq_In := (yX9_alone, cX9_alone, 1, (some .int), { frames := 9, cells := 0, slots := 0, locals := 198 })
abbrev zn_X9_hoursByItself : Nat := 166
def zi_X9_hoursByItself : zq_In := (yX9_hoursByItself, cX9_hoursByItself, 4, (some .int), { frames := 2, cells := 0, slots := 0, locals := 46 })
abbrev zn_X9_sleepOf : Nat := 167
def zi_X9_sleepOf : zq_In := (yX9_sleepOf, cX9_sleepOf, 8, (some .int), { frames := 7, cells := 0, slots := 0, locals := 158 })
abbrev zn_X9_sleep : Nat := 168
def zi_X9_sleep : zq_In := (yX9_sleep, cX9_sleep, 3, (some .int), { frames := 8, cells := 0, slots := 0, locals := 185 })
abbrev zn_X9_mostAt : Nat := 169
def zi_X9_mostAt : zq_In := (yX9_mostAt, cX9_mostAt, 5, (some .int), { frames := 2, cells := 0, slots := 0, locals := 44 })
abbrev zn_X9_niceOf : Nat := 170
def zi_X9_niceOf : zq_In := (yX9_niceOf, cX9_niceOf, 7, (some .int), { frames := 7, cells := 0, slots := 0, locals := 158 })
abbrev zn_X9_nice : Nat := 171
def zi_X9_nice : zq_In := (yX9_nice, cX9_nice, 3, (some .int), { frames := 8, cells := 0, slots := 0, locals := 184 })
abbrev zn_X9_lensOf : Nat := 172
def zi_X9_lensOf : zq_In := (yX9_lensOf, cX9_lensOf, 7, (some .int), { frames := 7, cells := 0, slots := 0, locals := 158 })
abbrev zn_X9_lens : Nat := 173
def zi_X9_lens : zq_In := (yX9_lens, cX9_lens, 2, (some .int), { frames := 8, cells := 0, slots := 0, locals := 184 })
abbrev zn_X9_isSpared : Nat := 174
def zi_X9_isSpared : zq_In := (yX9_isSpared, cX9_isSpared, 2, (some .boolean), { frames := 4, cells := 0, slots := 0, locals := 99 })
abbrev zn_X9_spareBy : Nat := 175
def zi_X9_spareBy : zq_In := (yX9_spareBy, cX9_spareBy, 3, (some .int), { frames := 7, cells := 0, slots := 0, locals := 158 })
abbrev zn_X9_ofRow : Nat := 176
def zi_X9_ofRow : zq_In := (yX9_ofRow, cX9_ofRow, 3, (some .int), { frames := 0, cells := 0, slots := 0, locals := 0 })
abbrev zn_X9_spare : Nat := 177
def zi_X9_spare : zq_In := (yX9_spare, cX9_spare, 2, (some .int), { frames := 8, cells := 0, slots := 0, locals := 180 })
abbrev zn_X9_seen : Nat := 178
def zi_X9_seen : zq_In := (yX9_seen, cX9_seen, 4, (some .int), { frames := 2, cells := 0, slots := 0, locals := 42 })
abbrev zn_X9_forget : Nat := 179
def zi_X9_forget : zq_In := (yX9_forget, cX9_forget, 2, (some .int), { frames := 0, cells := 0, slots := 0, locals := 0 })
abbrev zn_X9_isSeen : Nat := 180
def zi_X9_isSeen : zq_In := (yX9_isSeen, cX9_isSeen, 3, (some .boolean), { frames := 4, cells := 0, slots := 0, locals := 99 })
abbrev zn_X9_neverNow : Nat := 181
def zi_X9_neverNow : zq_In := (yX9_neverNow, cX9_neverNow, 3, (some .int), { frames := 7, cells := 0, slots := 0, locals := 158 })
abbrev zn_X9_never : Nat := 182
def zi_X9_never : zq_In := (yX9_never, cX9_never, 1, (some .int), { frames := 8, cells := 0, slots := 0, locals := 180 })
abbrev zn_X9_sortsBy : Nat := 183
def zi_X9_sortsBy : zq_In := (yX9_sortsBy, cX9_sortsBy, 5, (some .int), { frames := 7, cells := 0, slots := 0, locals := 158 })
abbrev zn_X9_bedsBy : Nat := 184
def zi_X9_bedsBy : zq_In := (yX9_bedsBy, cX9_bedsBy, 6, (some .int), { frames := 7, cells := 0, slots := 0, locals := 158 })
abbrev zn_X9_was : Nat := 185
def zi_X9_was : zq_In := (yX9_was, cX9_was, 3, (some .int), { frames := 8, cells := 0, slots := 0, locals := 183 })
abbrev zn_X9_askOf : Nat := 186
def zi_X9_askOf : zq_In := (yX9_askOf, cX9_askOf, 10, (some .int), { frames := 8, cells := 0, slots := 0, locals := 183 })
abbrev zn_X9_ask : Nat := 187
def zi_X9_ask : zq_In := (yX9_ask, cX9_ask, 2, (some .int), { frames := 9, cells := 0, slots := 0, locals := 212 })
abbrev zn_X9_chanceOf : Nat := 188
def zi_X9_chanceOf : zq_In := (yX9_chanceOf, cX9_chanceOf, 11, (some .long), { frames := 7, cells := 0, slots := 0, locals := 158 })
abbrev zn_X9_chance : Nat := 189
def zi_X9_chance : zq_In := (yX9_chance, cX9_chance, 5, (some .long), { frames := 8, cells := 0, slots := 0, locals := 188 })
abbrev zn_X9_weeksOf : Nat := 190
def zi_X9_weeksOf : zq_In := (yX9_weeksOf, cX9_weeksOf, 6, (some .int), { frames := 7, cells := 0, slots := 0, locals := 158 })
abbrev zn_X9_weeks : Nat := 191
def zi_X9_weeks : zq_In := (yX9_weeks, cX9_weeks, 4, (some .int), { frames := 8, cells := 0, slots := 0, locals := 183 })
abbrev zn_X9_meets : Nat := 192
def zi_X9_meets : zq_In := (yX9_meets, cX9_meets, 2, (some .int), { frames := 0, cells := 0, slots := 0, locals := 0 })
abbrev zn_X9_isSheet : Nat := 193
def zi_X9_isSheet : zq_In := (yX9_isSheet, cX9_isSheet, 1, (some .boolean), { frames := 1, cells := 0, slots := 0, locals := 22 })
abbrev zn_X9_sheet : Nat := 194
def zi_X9_sheet : zq_In := (yX9_sheet, cX9_sheet, 5, (some .int), { frames := 2, cells := 0, slots := 0, locals := 42 })
abbrev zn_X9_lose : Nat := 195
def zi_X9_lose : zq_In := (yX9_lose, cX9_lose, 2, (some .int), { frames := 2, cells := 0, slots := 0, locals := 42 })
abbrev zn_X9_lacks : Nat := 196
def zi_X9_lacks : zq_In := (yX9_lacks, cX9_lacks, 4, (some .int), { frames := 1, cells := 0, slots := 0, locals := 22 })
abbrev zn_X9_keep : Nat := 197
def zi_X9_keep : zq_In := (yX9_keep, cX9_keep, 4, none, { frames := 0, cells := 0, slots := 0, locals := 0 })
abbrev zn_X9_put : Nat := 198
def zi_X9_put : zq_In := (yX9_put, cX9_put, 6, (some .int), { frames := 2, cells := 0, slots := 0, locals := 45 })
abbrev zn_X9_get : Nat := 199
def zi_X9_get : zq_In := (yX9_get, cX9_get, 5, (some .int), { frames := 2, cells := 0, slots := 0, locals := 45 })
abbrev zn_X9_copy : Nat := 200
def zi_X9_copy : zq_In := (yX9_copy, cX9_copy, 7, (some .int), { frames := 2, cells := 0, slots := 0, locals := 42 })
abbrev zn_X9_write : Nat := 201
def zi_X9_write : zq_In := (yX9_write, cX9_write, 4, (some .int), { frames := 8, cells := 0, slots := 0, locals := 178 })
abbrev zn_X9_sumOf : Nat := 202
def zi_X9_sumOf : zq_In := (yX9_sumOf, cX9_sumOf, 4, (some .int), { frames := 8, cells := 0, slots := 0, locals := 178 })
abbrev zn_X9_count : Nat := 203
def zi_X9_count : zq_In := (yX9_count, cX9_count, 2, (some .int), { frames := 9, cells := 0, slots := 0, locals := 201 })
abbrev zn_X9_hourDigest : Nat := 204
def zi_X9_hourDigest : zq_In := (yX9_hourDigest, cX9_hourDigest, 7, (some .long), { frames := 9, cells := 0, slots := 0, locals := 202 })
abbrev zn_X9_personDigest : Nat := 205
def zi_X9_personDigest : zq_In := (yX9_personDigest, cX9_personDigest, 7, (some .long), { frames := 10, cells := 0, slots := 0, locals := 228 })
abbrev zn_X9_digest : Nat := 206
def zi_X9_digest : zq_In := (yX9_digest, cX9_digest, 4, (some .long), { frames := 11, cells := 0, slots := 0, locals := 254 })
abbrev zn_J6_bitCount_0f7a4 : Nat := 207
def zi_J6_bitCount_0f7a4 : zq_In := (yJ6_bitCount_0f7a4, cJ6_bitCount_0f7a4, 1, (some .int), { frames := 0, cells := 0, slots := 0, locals := 0 })
abbrev zn_J7_fill_d0a16 : Nat := 208
def zi_J7_fill_d0a16 : zq_In := (yJ7_fill_d0a16, cJ7_fill_d0a16, 5, none, { frames := 0, cells := 0, slots := 0, locals := 0 })
abbrev zn_J7_fill_53178 : Nat := 209
def zi_J7_fill_53178 : zq_In := (yJ7_fill_53178, cJ7_fill_53178, 4, none, { frames := 0, cells := 0, slots := 0, locals := 0 })
abbrev zn_L_law : Nat := 210
def zi_L_law : zq_In := (x, code, 4, (some .boolean), room_1)
def zq_inf : List zq_In := [zi_X0_fits, zi_X0_readThings, zi_X0_openAllBut, zi_X0_fillStepsTo, zi_X1_add, zi_X1_become, zi_X2_draw, zi_X3_fits, zi_X3_readThings, zi_X3_sortAt, zi_X4_isLost, zi_X4_become, zi_X4_holds, zi_X4_lay, zi_X5_add, zi_X5_allIn, zi_X6_isFull, zi_X6_add, zi_X6_shorten, zi_X6_isFigure, zi_X6_figure, zi_X6_understand, zi_X6_firstFault, zi_X7_forgetSteps, zi_X7_suppose, zi_X7_runWith, zi_X7_layHours, zi_X7_layTables, zi_X7_walk, zi_X7_sortOf, zi_X7_bedOf, zi_X7_roomOf, zi_X7_whoIn, zi_X7_doorsBetween, zi_X7_emptyHours, zi_X7_aloneBehind, zi_X7_hoursAlone, zi_X7_mostIn, zi_X7_firstRoomOf, zi_X7_findingHour, zi_X7_finder, zi_X7_childWith, zi_X8_type, zi_X8_wipe, zi_X8_undo, zi_X8_fault, zi_X8_door, zi_X8_person, zi_X8_ahead, zi_X8_event, zi_X8_back, zi_X8_read, zi_X8_at, zi_X8_room, zi_X8_far, zi_X8_meet, zi_X8_empty, zi_X8_found, zi_X8_crowd, zi_X8_alone, zi_X8_sleep, zi_X8_nice, zi_X8_lens, zi_X8_spare, zi_X8_seen, zi_X8_forget, zi_X8_never, zi_X8_was, zi_X8_ask, zi_X8_chance, zi_X8_weeks, zi_X8_sheet, zi_X8_lose, zi_X8_put, zi_X8_get, zi_X8_copy, zi_X8_write, zi_X8_count, zi_X8_digest, zi_X8_mix, zi_X8_mixStays, zi_X8_mixGuesses, zi_X8_within, zi_X8_isHour, zi_X8_isRoom, zi_X8_isSheet, zi_X8_isForm, zi_X8_isEvent, zi_X8_isPerson, zi_X8_textOf, zi_X8_textChanged, zi_X8_changed, zi_X8_weekAsTold, zi_X8_emptyHoursOfAll, zi_X8_sparedRow, zi_X8_nobodyAloneWithout, zi_X8_placeOfBit, zi_X8_sortsThatFit, zi_X8_bedsThatFit, zi_X8_mostBedsInOneRoom, zi_X8_weighOdds, zi_X8_weightOf, zi_X8_addOdds, zi_X8_refuse, zi_X8_refusalOfItem, zi_X9_in, zi_X9_isIn, zi_X9_no, zi_X9_lowest, zi_X9_isText, zi_X9_isHour, zi_X9_isTwo, zi_X9_isThree, zi_X9_isEight, zi_X9_type, zi_X9_wipe, zi_X9_undo, zi_X9_byteAt, zi_X9_readsDoor, zi_X9_readsPerson, zi_X9_readsParts, zi_X9_faultOf, zi_X9_reads, zi_X9_fault, zi_X9_isDoor, zi_X9_isPerson, zi_X9_doorOf, zi_X9_door, zi_X9_personOf, zi_X9_person, zi_X9_ahead, zi_X9_event, zi_X9_back, zi_X9_read, zi_X9_asTold, zi_X9_befalls, zi_X9_nears, zi_X9_measures, zi_X9_isBeside, zi_X9_step, zi_X9_leastChild, zi_X9_goesThrough, zi_X9_runs, zi_X9_runsTold, zi_X9_atOf, zi_X9_at, zi_X9_inRoom, zi_X9_roomOf, zi_X9_room, zi_X9_farOf, zi_X9_far, zi_X9_metOf, zi_X9_meet, zi_X9_emptyNow, zi_X9_emptyOf, zi_X9_empty, zi_X9_foundNow, zi_X9_foundOf, zi_X9_found, zi_X9_many, zi_X9_crowdOf, zi_X9_crowd, zi_X9_isByItself, zi_X9_aloneNow, zi_X9_aloneOf, zi_X9_alone, zi_X9_hoursByItself, zi_X9_sleepOf, zi_X9_sleep, zi_X9_mostAt, zi_X9_niceOf, zi_X9_nice, zi_X9_lensOf, zi_X9_lens, zi_X9_isSpared, zi_X9_spareBy, zi_X9_ofRow, zi_X9_spare, zi_X9_seen, zi_X9_forget, zi_X9_isSeen, zi_X9_neverNow, zi_X9_never, zi_X9_sortsBy, zi_X9_bedsBy, zi_X9_was, zi_X9_askOf, zi_X9_ask, zi_X9_chanceOf, zi_X9_chance, zi_X9_weeksOf, zi_X9_weeks, zi_X9_meets, zi_X9_isSheet, zi_X9_sheet, zi_X9_lose, zi_X9_lacks, zi_X9_keep, zi_X9_put, zi_X9_get, zi_X9_copy, zi_X9_write, zi_X9_sumOf, zi_X9_count, zi_X9_hourDigest, zi_X9_personDigest, zi_X9_digest, zi_J6_bitCount_0f7a4, zi_J7_fill_d0a16, zi_J7_fill_53178, zi_L_law]
def zq_rok (i : zq_In) (pc kind : Nat) : Prop := match kind with
  | 0 => i.2.2.2.1 = none ∧ decode i.2.1 pc = .ok (.return_, 1)
  | 1 => i.2.2.2.1 = some .int ∧ decode i.2.1 pc = .ok (.ireturn, 1)
  | 2 => i.2.2.2.1 = some .boolean ∧ decode i.2.1 pc = .ok (.ireturn, 1)
  | 3 => i.2.2.2.1 = some .long ∧ decode i.2.1 pc = .ok (.lreturn, 1)
  | _ => (∃ n, i.2.2.2.1 = some (.object n)) ∧ decode i.2.1 pc = .ok (.areturn, 1)
def zq_ok (i : zq_In) (pc : Nat) (it : zq_It) : Prop := match it with
  | .inl f => zq_snd i.2.1 i.2.2.1 i.1.cls i.2.2.2.2.frames i.2.2.2.2.locals pc f
  | .inr (.inl (n, .inl k)) => ∃ i', zq_inf[k]? = some i' ∧ zq_sndc i.2.1 i.2.2.1 i.1.cls i.2.2.2.2.frames i.2.2.2.2.locals pc n none i'.1 i'.2.1 i'.2.2.1 i'.2.2.2.1 i'.2.2.2.2
  | .inr (.inl (n, .inr cj)) => ∀ q ∈ cj, ∃ i', zq_inf[q.2]? = some i' ∧ zq_sndc i.2.1 i.2.2.1 i.1.cls i.2.2.2.2.frames i.2.2.2.2.locals pc n (some q.1) i'.1 i'.2.1 i'.2.2.1 i'.2.2.2.1 i'.2.2.2.2
  | .inr (.inr kind) => zq_rok i pc kind
def zq_oks (i : zq_In) (c : List (Nat × zq_It)) : Prop := ∀ q ∈ c, zq_ok i q.1 q.2
theorem zq_nil {i : zq_In} : zq_oks i [] := fun _ h => absurd h List.not_mem_nil
theorem zq_cons {i : zq_In} {pc : Nat} {it : zq_It} {c : List (Nat × zq_It)} (h : zq_ok i pc it) (t : zq_oks i c) : zq_oks i ((pc, it) :: c) := List.forall_mem_cons.mpr ⟨h, t⟩
theorem zq_app {i : zq_In} {c1 c2 : List (Nat × zq_It)} (h : zq_oks i c1) (t : zq_oks i c2) : zq_oks i (c1 ++ c2) := List.forall_mem_append.mpr ⟨h, t⟩
theorem zw_0 : Cond.selects RX8 yX8_textOf yX8_textOf ∈ zq_W := zq_inW (List.mem_append_left _ (List.mem_of_getElem? (i := 0) rfl)) rfl
theorem zw_1 : Cond.selects RX3 yX3_sortAt yX3_sortAt ∈ zq_W := zq_inW (List.mem_append_left _ (List.mem_of_getElem? (i := 1) rfl)) rfl
theorem zw_2 : Cond.selects RX8 yX8_textChanged yX8_textChanged ∈ zq_W := zq_inW (List.mem_append_left _ (List.mem_of_getElem? (i := 2) rfl)) rfl
theorem zw_3 : Cond.selects RX8 yX8_changed yX8_changed ∈ zq_W := zq_inW (List.mem_append_left _ (List.mem_of_getElem? (i := 3) rfl)) rfl
theorem zw_4 : Cond.selects RX8 yX8_isPerson yX8_isPerson ∈ zq_W := zq_inW (List.mem_append_left _ (List.mem_of_getElem? (i := 4) rfl)) rfl
theorem zw_5 : Cond.selects RX8 yX8_refuse yX8_refuse ∈ zq_W := zq_inW (List.mem_append_left _ (List.mem_of_getElem? (i := 5) rfl)) rfl
theorem zw_6 : Cond.selects RX8 yX8_weekAsTold yX8_weekAsTold ∈ zq_W := zq_inW (List.mem_append_left _ (List.mem_of_getElem? (i := 6) rfl)) rfl
theorem zw_7 : Cond.selects RX7 yX7_layHours yX7_layHours ∈ zq_W := zq_inW (List.mem_append_left _ (List.mem_of_getElem? (i := 7) rfl)) rfl
theorem zw_8 : Cond.selects RX7 yX7_layTables yX7_layTables ∈ zq_W := zq_inW (List.mem_append_left _ (List.mem_of_getElem? (i := 8) rfl)) rfl
theorem zw_9 : Cond.selects RX7 yX7_sortOf yX7_sortOf ∈ zq_W := zq_inW (List.mem_append_left _ (List.mem_of_getElem? (i := 9) rfl)) rfl
theorem zw_10 : Cond.selects RX7 yX7_walk yX7_walk ∈ zq_W := zq_inW (List.mem_append_left _ (List.mem_of_getElem? (i := 10) rfl)) rfl
theorem zw_11 : Cond.selects RX7 yX7_bedOf yX7_bedOf ∈ zq_W := zq_inW (List.mem_append_left _ (List.mem_of_getElem? (i := 11) rfl)) rfl
theorem zw_12 : Cond.selects RX8 yX8_sparedRow yX8_sparedRow ∈ zq_W := zq_inW (List.mem_append_left _ (List.mem_of_getElem? (i := 12) rfl)) rfl
theorem zw_13 : Cond.selects RX8 yX8_nobodyAloneWithout yX8_nobodyAloneWithout ∈ zq_W := zq_inW (List.mem_append_left _ (List.mem_of_getElem? (i := 13) rfl)) rfl
theorem zw_14 : Cond.selects RX8 yX8_sortsThatFit yX8_sortsThatFit ∈ zq_W := zq_inW (List.mem_append_left _ (List.mem_of_getElem? (i := 14) rfl)) rfl
theorem zw_15 : Cond.selects RX8 yX8_bedsThatFit yX8_bedsThatFit ∈ zq_W := zq_inW (List.mem_append_left _ (List.mem_of_getElem? (i := 15) rfl)) rfl
theorem zw_16 : Cond.selects RX8 yX8_mostBedsInOneRoom yX8_mostBedsInOneRoom ∈ zq_W := zq_inW (List.mem_append_left _ (List.mem_of_getElem? (i := 16) rfl)) rfl
theorem zw_17 : Cond.selects RX8 yX8_weighOdds yX8_weighOdds ∈ zq_W := zq_inW (List.mem_append_left _ (List.mem_of_getElem? (i := 17) rfl)) rfl
theorem zw_18 : Cond.selects RX8 yX8_weightOf yX8_weightOf ∈ zq_W := zq_inW (List.mem_append_left _ (List.mem_of_getElem? (i := 18) rfl)) rfl
theorem zw_19 : Cond.selects RX8 yX8_addOdds yX8_addOdds ∈ zq_W := zq_inW (List.mem_append_left _ (List.mem_of_getElem? (i := 19) rfl)) rfl
theorem zw_20 : Cond.selects RX8 yX8_refusalOfItem yX8_refusalOfItem ∈ zq_W := zq_inW (List.mem_append_left _ (List.mem_of_getElem? (i := 20) rfl)) rfl
theorem zw_21 : Cond.selects RX8 yX8_emptyHoursOfAll yX8_emptyHoursOfAll ∈ zq_W := zq_inW (List.mem_append_left _ (List.mem_of_getElem? (i := 21) rfl)) rfl
theorem zw_22 : Cond.selects RX8 yX8_mixStays yX8_mixStays ∈ zq_W := zq_inW (List.mem_append_left _ (List.mem_of_getElem? (i := 22) rfl)) rfl
theorem zw_23 : Cond.selects RX8 yX8_mixGuesses yX8_mixGuesses ∈ zq_W := zq_inW (List.mem_append_left _ (List.mem_of_getElem? (i := 23) rfl)) rfl
theorem zw_24 : Cond.selects RX9 yX9_faultOf yX9_faultOf ∈ zq_W := zq_inW (List.mem_append_left _ (List.mem_of_getElem? (i := 24) rfl)) rfl
theorem zw_25 : Cond.selects RX9 yX9_readsParts yX9_readsParts ∈ zq_W := zq_inW (List.mem_append_left _ (List.mem_of_getElem? (i := 25) rfl)) rfl
theorem zw_26 : Cond.selects RX9 yX9_readsDoor yX9_readsDoor ∈ zq_W := zq_inW (List.mem_append_left _ (List.mem_of_getElem? (i := 26) rfl)) rfl
theorem zw_27 : Cond.selects RX9 yX9_byteAt yX9_byteAt ∈ zq_W := zq_inW (List.mem_append_left _ (List.mem_of_getElem? (i := 27) rfl)) rfl
theorem zw_28 : Cond.selects RX9 yX9_readsPerson yX9_readsPerson ∈ zq_W := zq_inW (List.mem_append_left _ (List.mem_of_getElem? (i := 28) rfl)) rfl
theorem zw_29 : Cond.selects RX9 yX9_isDoor yX9_isDoor ∈ zq_W := zq_inW (List.mem_append_left _ (List.mem_of_getElem? (i := 29) rfl)) rfl
theorem zw_30 : Cond.selects RX9 yX9_reads yX9_reads ∈ zq_W := zq_inW (List.mem_append_left _ (List.mem_of_getElem? (i := 30) rfl)) rfl
theorem zw_31 : Cond.selects RX9 yX9_doorOf yX9_doorOf ∈ zq_W := zq_inW (List.mem_append_left _ (List.mem_of_getElem? (i := 31) rfl)) rfl
theorem zw_32 : Cond.selects RX9 yX9_isPerson yX9_isPerson ∈ zq_W := zq_inW (List.mem_append_left _ (List.mem_of_getElem? (i := 32) rfl)) rfl
theorem zw_33 : Cond.selects RX9 yX9_personOf yX9_personOf ∈ zq_W := zq_inW (List.mem_append_left _ (List.mem_of_getElem? (i := 33) rfl)) rfl
theorem zw_34 : Cond.selects RX9 yX9_meets yX9_meets ∈ zq_W := zq_inW (List.mem_append_left _ (List.mem_of_getElem? (i := 34) rfl)) rfl
theorem zw_35 : Cond.selects RX9 yX9_atOf yX9_atOf ∈ zq_W := zq_inW (List.mem_append_left _ (List.mem_of_getElem? (i := 35) rfl)) rfl
theorem zw_36 : Cond.selects RX9 yX9_runsTold yX9_runsTold ∈ zq_W := zq_inW (List.mem_append_left _ (List.mem_of_getElem? (i := 36) rfl)) rfl
theorem zw_37 : Cond.selects RX9 yX9_asTold yX9_asTold ∈ zq_W := zq_inW (List.mem_append_left _ (List.mem_of_getElem? (i := 37) rfl)) rfl
theorem zw_38 : Cond.selects RX9 yX9_runs yX9_runs ∈ zq_W := zq_inW (List.mem_append_left _ (List.mem_of_getElem? (i := 38) rfl)) rfl
theorem zw_39 : Cond.selects RX9 yX9_befalls yX9_befalls ∈ zq_W := zq_inW (List.mem_append_left _ (List.mem_of_getElem? (i := 39) rfl)) rfl
theorem zw_40 : Cond.selects RX9 yX9_measures yX9_measures ∈ zq_W := zq_inW (List.mem_append_left _ (List.mem_of_getElem? (i := 40) rfl)) rfl
theorem zw_41 : Cond.selects RX9 yX9_nears yX9_nears ∈ zq_W := zq_inW (List.mem_append_left _ (List.mem_of_getElem? (i := 41) rfl)) rfl
theorem zw_42 : Cond.selects RX9 yX9_leastChild yX9_leastChild ∈ zq_W := zq_inW (List.mem_append_left _ (List.mem_of_getElem? (i := 42) rfl)) rfl
theorem zw_43 : Cond.selects RX9 yX9_goesThrough yX9_goesThrough ∈ zq_W := zq_inW (List.mem_append_left _ (List.mem_of_getElem? (i := 43) rfl)) rfl
theorem zw_44 : Cond.selects RX9 yX9_step yX9_step ∈ zq_W := zq_inW (List.mem_append_left _ (List.mem_of_getElem? (i := 44) rfl)) rfl
theorem zw_45 : Cond.selects RX9 yX9_isBeside yX9_isBeside ∈ zq_W := zq_inW (List.mem_append_left _ (List.mem_of_getElem? (i := 45) rfl)) rfl
theorem zw_46 : Cond.selects RX9 yX9_roomOf yX9_roomOf ∈ zq_W := zq_inW (List.mem_append_left _ (List.mem_of_getElem? (i := 46) rfl)) rfl
theorem zw_47 : Cond.selects RX9 yX9_inRoom yX9_inRoom ∈ zq_W := zq_inW (List.mem_append_left _ (List.mem_of_getElem? (i := 47) rfl)) rfl
theorem zw_48 : Cond.selects RX9 yX9_farOf yX9_farOf ∈ zq_W := zq_inW (List.mem_append_left _ (List.mem_of_getElem? (i := 48) rfl)) rfl
theorem zw_49 : Cond.selects RX9 yX9_metOf yX9_metOf ∈ zq_W := zq_inW (List.mem_append_left _ (List.mem_of_getElem? (i := 49) rfl)) rfl
theorem zw_50 : Cond.selects RX9 yX9_emptyOf yX9_emptyOf ∈ zq_W := zq_inW (List.mem_append_left _ (List.mem_of_getElem? (i := 50) rfl)) rfl
theorem zw_51 : Cond.selects RX9 yX9_emptyNow yX9_emptyNow ∈ zq_W := zq_inW (List.mem_append_left _ (List.mem_of_getElem? (i := 51) rfl)) rfl
theorem zw_52 : Cond.selects RX9 yX9_foundOf yX9_foundOf ∈ zq_W := zq_inW (List.mem_append_left _ (List.mem_of_getElem? (i := 52) rfl)) rfl
theorem zw_53 : Cond.selects RX9 yX9_foundNow yX9_foundNow ∈ zq_W := zq_inW (List.mem_append_left _ (List.mem_of_getElem? (i := 53) rfl)) rfl
theorem zw_54 : Cond.selects RX9 yX9_crowdOf yX9_crowdOf ∈ zq_W := zq_inW (List.mem_append_left _ (List.mem_of_getElem? (i := 54) rfl)) rfl
theorem zw_55 : Cond.selects RX9 yX9_many yX9_many ∈ zq_W := zq_inW (List.mem_append_left _ (List.mem_of_getElem? (i := 55) rfl)) rfl
theorem zw_56 : Cond.selects RX9 yX9_aloneOf yX9_aloneOf ∈ zq_W := zq_inW (List.mem_append_left _ (List.mem_of_getElem? (i := 56) rfl)) rfl
theorem zw_57 : Cond.selects RX9 yX9_aloneNow yX9_aloneNow ∈ zq_W := zq_inW (List.mem_append_left _ (List.mem_of_getElem? (i := 57) rfl)) rfl
theorem zw_58 : Cond.selects RX9 yX9_isByItself yX9_isByItself ∈ zq_W := zq_inW (List.mem_append_left _ (List.mem_of_getElem? (i := 58) rfl)) rfl
theorem zw_59 : Cond.selects RX9 yX9_sleepOf yX9_sleepOf ∈ zq_W := zq_inW (List.mem_append_left _ (List.mem_of_getElem? (i := 59) rfl)) rfl
theorem zw_60 : Cond.selects RX9 yX9_hoursByItself yX9_hoursByItself ∈ zq_W := zq_inW (List.mem_append_left _ (List.mem_of_getElem? (i := 60) rfl)) rfl
theorem zw_61 : Cond.selects RX9 yX9_niceOf yX9_niceOf ∈ zq_W := zq_inW (List.mem_append_left _ (List.mem_of_getElem? (i := 61) rfl)) rfl
theorem zw_62 : Cond.selects RX9 yX9_mostAt yX9_mostAt ∈ zq_W := zq_inW (List.mem_append_left _ (List.mem_of_getElem? (i := 62) rfl)) rfl
theorem zw_63 : Cond.selects RX9 yX9_lensOf yX9_lensOf ∈ zq_W := zq_inW (List.mem_append_left _ (List.mem_of_getElem? (i := 63) rfl)) rfl
theorem zw_64 : Cond.selects RX9 yX9_spareBy yX9_spareBy ∈ zq_W := zq_inW (List.mem_append_left _ (List.mem_of_getElem? (i := 64) rfl)) rfl
theorem zw_65 : Cond.selects RX9 yX9_isSpared yX9_isSpared ∈ zq_W := zq_inW (List.mem_append_left _ (List.mem_of_getElem? (i := 65) rfl)) rfl
theorem zw_66 : Cond.selects RX9 yX9_ofRow yX9_ofRow ∈ zq_W := zq_inW (List.mem_append_left _ (List.mem_of_getElem? (i := 66) rfl)) rfl
theorem zw_67 : Cond.selects RX9 yX9_neverNow yX9_neverNow ∈ zq_W := zq_inW (List.mem_append_left _ (List.mem_of_getElem? (i := 67) rfl)) rfl
theorem zw_68 : Cond.selects RX9 yX9_isSeen yX9_isSeen ∈ zq_W := zq_inW (List.mem_append_left _ (List.mem_of_getElem? (i := 68) rfl)) rfl
theorem zw_69 : Cond.selects RX9 yX9_sortsBy yX9_sortsBy ∈ zq_W := zq_inW (List.mem_append_left _ (List.mem_of_getElem? (i := 69) rfl)) rfl
theorem zw_70 : Cond.selects RX9 yX9_bedsBy yX9_bedsBy ∈ zq_W := zq_inW (List.mem_append_left _ (List.mem_of_getElem? (i := 70) rfl)) rfl
theorem zw_71 : Cond.selects RX9 yX9_askOf yX9_askOf ∈ zq_W := zq_inW (List.mem_append_left _ (List.mem_of_getElem? (i := 71) rfl)) rfl
theorem zw_72 : Cond.selects RX9 yX9_chanceOf yX9_chanceOf ∈ zq_W := zq_inW (List.mem_append_left _ (List.mem_of_getElem? (i := 72) rfl)) rfl
theorem zw_73 : Cond.selects RX9 yX9_weeksOf yX9_weeksOf ∈ zq_W := zq_inW (List.mem_append_left _ (List.mem_of_getElem? (i := 73) rfl)) rfl
theorem zw_74 : Cond.selects RX9 yX9_lacks yX9_lacks ∈ zq_W := zq_inW (List.mem_append_left _ (List.mem_of_getElem? (i := 74) rfl)) rfl
theorem zw_75 : Cond.selects RX9 yX9_keep yX9_keep ∈ zq_W := zq_inW (List.mem_append_left _ (List.mem_of_getElem? (i := 75) rfl)) rfl
theorem zw_76 : Cond.selects RX9 yX9_sumOf yX9_sumOf ∈ zq_W := zq_inW (List.mem_append_left _ (List.mem_of_getElem? (i := 76) rfl)) rfl
theorem zw_77 : Cond.selects RX9 yX9_personDigest yX9_personDigest ∈ zq_W := zq_inW (List.mem_append_left _ (List.mem_of_getElem? (i := 77) rfl)) rfl
theorem zw_78 : Cond.selects RX9 yX9_hourDigest yX9_hourDigest ∈ zq_W := zq_inW (List.mem_append_left _ (List.mem_of_getElem? (i := 78) rfl)) rfl
theorem zw_80 : Cond.initialized RX8 ∈ zq_W := zq_inW (zq_t1 (List.mem_of_getElem? (i := 1) rfl)) rfl
theorem zw_81 : Cond.initialized RX6 ∈ zq_W := zq_inW (zq_t1 (List.mem_of_getElem? (i := 2) rfl)) rfl
theorem zw_82 : Cond.initialized RX0 ∈ zq_W := zq_inW (zq_t1 (List.mem_of_getElem? (i := 3) rfl)) rfl
theorem zw_83 : Cond.initialized RJ9 ∈ zq_W := zq_inW (zq_t1 (List.mem_of_getElem? (i := 4) rfl)) rfl
theorem zw_84 : Cond.initialized RX3 ∈ zq_W := zq_inW (zq_t1 (List.mem_of_getElem? (i := 5) rfl)) rfl
theorem zw_85 : Cond.initialized RX1 ∈ zq_W := zq_inW (zq_t1 (List.mem_of_getElem? (i := 6) rfl)) rfl
theorem zw_86 : Cond.initialized RX2 ∈ zq_W := zq_inW (zq_t1 (List.mem_of_getElem? (i := 7) rfl)) rfl
theorem zw_87 : Cond.initialized RX5 ∈ zq_W := zq_inW (zq_t1 (List.mem_of_getElem? (i := 8) rfl)) rfl
theorem zw_88 : Cond.initialized RX4 ∈ zq_W := zq_inW (zq_t1 (List.mem_of_getElem? (i := 9) rfl)) rfl
theorem zw_89 : Cond.initialized RX7 ∈ zq_W := zq_inW (zq_t1 (List.mem_of_getElem? (i := 10) rfl)) rfl
theorem zw_90 : Cond.initialized RJ7 ∈ zq_W := zq_inW (zq_t1 (List.mem_of_getElem? (i := 11) rfl)) rfl
theorem zw_91 : Cond.initialized RX9 ∈ zq_W := zq_inW (zq_t1 (List.mem_of_getElem? (i := 12) rfl)) rfl
theorem zw_92 : Cond.initialized RJ6 ∈ zq_W := zq_inW (zq_t1 (List.mem_of_getElem? (i := 13) rfl)) rfl
theorem zw_93 : Cond.initialized RJ10 ∈ zq_W := zq_inW (zq_t1 (List.mem_of_getElem? (i := 14) rfl)) rfl
theorem zw_112 : Cond.static yJ9_min_7cf53 ∈ zq_W := zq_inW (zq_t1 (List.mem_of_getElem? (i := 33) rfl)) rfl
theorem zw_113 : Cond.code yJ9_min_7cf53 prog_13_method_69_code 2 (some .int) ∈ zq_W := zq_inW (zq_t1 (List.mem_of_getElem? (i := 34) rfl)) rfl
theorem zw_115 : Cond.static yJ9_max_7cf53 ∈ zq_W := zq_inW (zq_t1 (List.mem_of_getElem? (i := 36) rfl)) rfl
theorem zw_116 : Cond.code yJ9_max_7cf53 prog_13_method_65_code 2 (some .int) ∈ zq_W := zq_inW (zq_t1 (List.mem_of_getElem? (i := 37) rfl)) rfl
theorem zw_117 : Cond.fieldLink RX0 11 "DollsAhead$Doors" "ones" "[I" ∈ zq_W := zq_inW (zq_t1 (List.mem_of_getElem? (i := 38) rfl)) rfl
theorem zw_118 : Cond.fieldLink RX8 127 "DollsAhead$Doors" "ones" "[I" ∈ zq_W := zq_inW (zq_t1 (List.mem_of_getElem? (i := 39) rfl)) rfl
theorem zw_119 : Cond.fieldLink RX0 15 "DollsAhead$Doors" "others" "[I" ∈ zq_W := zq_inW (zq_t1 (List.mem_of_getElem? (i := 40) rfl)) rfl
theorem zw_120 : Cond.fieldLink RX8 130 "DollsAhead$Doors" "others" "[I" ∈ zq_W := zq_inW (zq_t1 (List.mem_of_getElem? (i := 41) rfl)) rfl
theorem zw_121 : Cond.fieldLink RX0 18 "DollsAhead$Doors" "beside" "[I" ∈ zq_W := zq_inW (zq_t1 (List.mem_of_getElem? (i := 42) rfl)) rfl
theorem zw_122 : Cond.fieldLink RX6 9 "DollsAhead$Text" "bytes" "[I" ∈ zq_W := zq_inW (zq_t1 (List.mem_of_getElem? (i := 43) rfl)) rfl
theorem zw_123 : Cond.fieldLink RX0 25 "DollsAhead$Doors" "bytes" "[I" ∈ zq_W := zq_inW (zq_t1 (List.mem_of_getElem? (i := 44) rfl)) rfl
theorem zw_124 : Cond.sameField "DollsAhead$Doors" "DollsAhead$Text" "bytes" "[I" ∈ zq_W := zq_inW (zq_t1 (List.mem_of_getElem? (i := 45) rfl)) rfl
theorem zw_125 : Cond.fieldLink RX3 36 "DollsAhead$People" "bytes" "[I" ∈ zq_W := zq_inW (zq_t1 (List.mem_of_getElem? (i := 46) rfl)) rfl
theorem zw_126 : Cond.sameField "DollsAhead$People" "DollsAhead$Text" "bytes" "[I" ∈ zq_W := zq_inW (zq_t1 (List.mem_of_getElem? (i := 47) rfl)) rfl
theorem zw_127 : Cond.fieldLink RX6 21 "DollsAhead$Text" "limit" "I" ∈ zq_W := zq_inW (zq_t1 (List.mem_of_getElem? (i := 48) rfl)) rfl
theorem zw_128 : Cond.fieldLink RX6 28 "DollsAhead$Text" "part" "I" ∈ zq_W := zq_inW (zq_t1 (List.mem_of_getElem? (i := 49) rfl)) rfl
theorem zw_129 : Cond.fieldLink RX6 31 "DollsAhead$Text" "size" "I" ∈ zq_W := zq_inW (zq_t1 (List.mem_of_getElem? (i := 50) rfl)) rfl
theorem zw_130 : Cond.fieldLink RX8 115 "DollsAhead$Text" "size" "I" ∈ zq_W := zq_inW (zq_t1 (List.mem_of_getElem? (i := 51) rfl)) rfl
theorem zw_131 : Cond.fieldLink RX8 301 "DollsAhead$Doors" "size" "I" ∈ zq_W := zq_inW (zq_t1 (List.mem_of_getElem? (i := 52) rfl)) rfl
theorem zw_132 : Cond.sameField "DollsAhead$Doors" "DollsAhead$Text" "size" "I" ∈ zq_W := zq_inW (zq_t1 (List.mem_of_getElem? (i := 53) rfl)) rfl
theorem zw_133 : Cond.fieldLink RX8 302 "DollsAhead$People" "size" "I" ∈ zq_W := zq_inW (zq_t1 (List.mem_of_getElem? (i := 54) rfl)) rfl
theorem zw_134 : Cond.sameField "DollsAhead$People" "DollsAhead$Text" "size" "I" ∈ zq_W := zq_inW (zq_t1 (List.mem_of_getElem? (i := 55) rfl)) rfl
theorem zw_135 : Cond.fieldLink RX6 34 "DollsAhead$Text" "faultPlace" "I" ∈ zq_W := zq_inW (zq_t1 (List.mem_of_getElem? (i := 56) rfl)) rfl
theorem zw_136 : Cond.fieldLink RX8 121 "DollsAhead$Text" "faultPlace" "I" ∈ zq_W := zq_inW (zq_t1 (List.mem_of_getElem? (i := 57) rfl)) rfl
theorem zw_137 : Cond.fieldLink RX6 37 "DollsAhead$Text" "many" "I" ∈ zq_W := zq_inW (zq_t1 (List.mem_of_getElem? (i := 58) rfl)) rfl
theorem zw_138 : Cond.fieldLink RX0 28 "DollsAhead$Doors" "many" "I" ∈ zq_W := zq_inW (zq_t1 (List.mem_of_getElem? (i := 59) rfl)) rfl
theorem zw_139 : Cond.sameField "DollsAhead$Doors" "DollsAhead$Text" "many" "I" ∈ zq_W := zq_inW (zq_t1 (List.mem_of_getElem? (i := 60) rfl)) rfl
theorem zw_140 : Cond.fieldLink RX3 29 "DollsAhead$People" "many" "I" ∈ zq_W := zq_inW (zq_t1 (List.mem_of_getElem? (i := 61) rfl)) rfl
theorem zw_141 : Cond.sameField "DollsAhead$People" "DollsAhead$Text" "many" "I" ∈ zq_W := zq_inW (zq_t1 (List.mem_of_getElem? (i := 62) rfl)) rfl
theorem zw_142 : Cond.fieldLink RX5 31 "DollsAhead$People" "many" "I" ∈ zq_W := zq_inW (zq_t1 (List.mem_of_getElem? (i := 63) rfl)) rfl
theorem zw_143 : Cond.fieldLink RX7 70 "DollsAhead$People" "many" "I" ∈ zq_W := zq_inW (zq_t1 (List.mem_of_getElem? (i := 64) rfl)) rfl
theorem zw_144 : Cond.fieldLink RX8 124 "DollsAhead$Doors" "many" "I" ∈ zq_W := zq_inW (zq_t1 (List.mem_of_getElem? (i := 65) rfl)) rfl
theorem zw_145 : Cond.fieldLink RX8 300 "DollsAhead$People" "many" "I" ∈ zq_W := zq_inW (zq_t1 (List.mem_of_getElem? (i := 66) rfl)) rfl
theorem zw_172 : Cond.fieldLink RX3 11 "DollsAhead$People" "sorts" "[I" ∈ zq_W := zq_inW (zq_t1 (List.mem_of_getElem? (i := 93) rfl)) rfl
theorem zw_173 : Cond.fieldLink RX8 137 "DollsAhead$People" "sorts" "[I" ∈ zq_W := zq_inW (zq_t1 (List.mem_of_getElem? (i := 94) rfl)) rfl
theorem zw_174 : Cond.fieldLink RX7 122 "DollsAhead$People" "sorts" "[I" ∈ zq_W := zq_inW (zq_t1 (List.mem_of_getElem? (i := 95) rfl)) rfl
theorem zw_175 : Cond.fieldLink RX3 15 "DollsAhead$People" "starts" "[I" ∈ zq_W := zq_inW (zq_t1 (List.mem_of_getElem? (i := 96) rfl)) rfl
theorem zw_176 : Cond.fieldLink RX7 110 "DollsAhead$People" "starts" "[I" ∈ zq_W := zq_inW (zq_t1 (List.mem_of_getElem? (i := 97) rfl)) rfl
theorem zw_177 : Cond.fieldLink RX8 140 "DollsAhead$People" "starts" "[I" ∈ zq_W := zq_inW (zq_t1 (List.mem_of_getElem? (i := 98) rfl)) rfl
theorem zw_178 : Cond.fieldLink RX3 18 "DollsAhead$People" "beds" "[I" ∈ zq_W := zq_inW (zq_t1 (List.mem_of_getElem? (i := 99) rfl)) rfl
theorem zw_179 : Cond.fieldLink RX8 143 "DollsAhead$People" "beds" "[I" ∈ zq_W := zq_inW (zq_t1 (List.mem_of_getElem? (i := 100) rfl)) rfl
theorem zw_180 : Cond.fieldLink RX7 125 "DollsAhead$People" "beds" "[I" ∈ zq_W := zq_inW (zq_t1 (List.mem_of_getElem? (i := 101) rfl)) rfl
theorem zw_200 : Cond.fieldLink RX1 11 "DollsAhead$Events" "kinds" "[I" ∈ zq_W := zq_inW (zq_t1 (List.mem_of_getElem? (i := 121) rfl)) rfl
theorem zw_201 : Cond.fieldLink RX7 91 "DollsAhead$Events" "kinds" "[I" ∈ zq_W := zq_inW (zq_t1 (List.mem_of_getElem? (i := 122) rfl)) rfl
theorem zw_202 : Cond.fieldLink RX1 15 "DollsAhead$Events" "hours" "[I" ∈ zq_W := zq_inW (zq_t1 (List.mem_of_getElem? (i := 123) rfl)) rfl
theorem zw_203 : Cond.fieldLink RX7 88 "DollsAhead$Events" "hours" "[I" ∈ zq_W := zq_inW (zq_t1 (List.mem_of_getElem? (i := 124) rfl)) rfl
theorem zw_204 : Cond.fieldLink RX1 18 "DollsAhead$Events" "numbers" "[I" ∈ zq_W := zq_inW (zq_t1 (List.mem_of_getElem? (i := 125) rfl)) rfl
theorem zw_205 : Cond.fieldLink RX7 94 "DollsAhead$Events" "numbers" "[I" ∈ zq_W := zq_inW (zq_t1 (List.mem_of_getElem? (i := 126) rfl)) rfl
theorem zw_206 : Cond.fieldLink RX1 21 "DollsAhead$Events" "size" "I" ∈ zq_W := zq_inW (zq_t1 (List.mem_of_getElem? (i := 127) rfl)) rfl
theorem zw_207 : Cond.fieldLink RX7 83 "DollsAhead$Events" "size" "I" ∈ zq_W := zq_inW (zq_t1 (List.mem_of_getElem? (i := 128) rfl)) rfl
theorem zw_208 : Cond.fieldLink RX8 152 "DollsAhead$Events" "size" "I" ∈ zq_W := zq_inW (zq_t1 (List.mem_of_getElem? (i := 129) rfl)) rfl
theorem zw_224 : Cond.fieldLink RX2 8 "DollsAhead$Lots" "seed" "I" ∈ zq_W := zq_inW (zq_t1 (List.mem_of_getElem? (i := 145) rfl)) rfl
theorem zw_225 : Cond.fieldLink RX8 264 "DollsAhead$Lots" "seed" "I" ∈ zq_W := zq_inW (zq_t1 (List.mem_of_getElem? (i := 146) rfl)) rfl
theorem zw_235 : Cond.fieldLink RX5 9 "DollsAhead$Sights" "hours" "[I" ∈ zq_W := zq_inW (zq_t1 (List.mem_of_getElem? (i := 156) rfl)) rfl
theorem zw_236 : Cond.fieldLink RX5 15 "DollsAhead$Sights" "persons" "[I" ∈ zq_W := zq_inW (zq_t1 (List.mem_of_getElem? (i := 157) rfl)) rfl
theorem zw_237 : Cond.fieldLink RX5 18 "DollsAhead$Sights" "rooms" "[I" ∈ zq_W := zq_inW (zq_t1 (List.mem_of_getElem? (i := 158) rfl)) rfl
theorem zw_238 : Cond.fieldLink RX5 21 "DollsAhead$Sights" "size" "I" ∈ zq_W := zq_inW (zq_t1 (List.mem_of_getElem? (i := 159) rfl)) rfl
theorem zw_239 : Cond.fieldLink RX8 241 "DollsAhead$Sights" "size" "I" ∈ zq_W := zq_inW (zq_t1 (List.mem_of_getElem? (i := 160) rfl)) rfl
theorem zw_256 : Cond.fieldLink RX4 9 "DollsAhead$Sheet" "items" "[I" ∈ zq_W := zq_inW (zq_t1 (List.mem_of_getElem? (i := 177) rfl)) rfl
theorem zw_257 : Cond.fieldLink RX8 167 "DollsAhead$Sheet" "items" "[I" ∈ zq_W := zq_inW (zq_t1 (List.mem_of_getElem? (i := 178) rfl)) rfl
theorem zw_258 : Cond.fieldLink RX4 15 "DollsAhead$Sheet" "form" "I" ∈ zq_W := zq_inW (zq_t1 (List.mem_of_getElem? (i := 179) rfl)) rfl
theorem zw_259 : Cond.fieldLink RX8 282 "DollsAhead$Sheet" "form" "I" ∈ zq_W := zq_inW (zq_t1 (List.mem_of_getElem? (i := 180) rfl)) rfl
theorem zw_260 : Cond.fieldLink RX4 19 "DollsAhead$Sheet" "size" "I" ∈ zq_W := zq_inW (zq_t1 (List.mem_of_getElem? (i := 181) rfl)) rfl
theorem zw_261 : Cond.fieldLink RX8 166 "DollsAhead$Sheet" "size" "I" ∈ zq_W := zq_inW (zq_t1 (List.mem_of_getElem? (i := 182) rfl)) rfl
theorem zw_275 : Cond.methodLink RX7 52 yJ7_fill_53178 ∈ zq_W := zq_inW (zq_t1 (List.mem_of_getElem? (i := 196) rfl)) rfl
theorem zw_276 : Cond.static yJ7_fill_53178 ∈ zq_W := zq_inW (zq_t1 (List.mem_of_getElem? (i := 197) rfl)) rfl
theorem zw_277 : Cond.code yJ7_fill_53178 prog_15_method_103_code 4 none ∈ zq_W := zq_inW (zq_t1 (List.mem_of_getElem? (i := 198) rfl)) rfl
theorem zw_278 : Cond.fieldLink RX7 30 "DollsAhead$Week" "doors" "LDollsAhead$Doors;" ∈ zq_W := zq_inW (zq_t1 (List.mem_of_getElem? (i := 199) rfl)) rfl
theorem zw_279 : Cond.fieldLink RX7 34 "DollsAhead$Week" "people" "LDollsAhead$People;" ∈ zq_W := zq_inW (zq_t1 (List.mem_of_getElem? (i := 200) rfl)) rfl
theorem zw_280 : Cond.fieldLink RX5 25 "DollsAhead$Week" "people" "LDollsAhead$People;" ∈ zq_W := zq_inW (zq_t1 (List.mem_of_getElem? (i := 201) rfl)) rfl
theorem zw_281 : Cond.fieldLink RX7 9 "DollsAhead$Week" "where" "[I" ∈ zq_W := zq_inW (zq_t1 (List.mem_of_getElem? (i := 202) rfl)) rfl
theorem zw_282 : Cond.fieldLink RX7 15 "DollsAhead$Week" "hams" "[I" ∈ zq_W := zq_inW (zq_t1 (List.mem_of_getElem? (i := 203) rfl)) rfl
theorem zw_283 : Cond.fieldLink RX7 18 "DollsAhead$Week" "shuts" "[I" ∈ zq_W := zq_inW (zq_t1 (List.mem_of_getElem? (i := 204) rfl)) rfl
theorem zw_284 : Cond.fieldLink RX7 21 "DollsAhead$Week" "tables" "[I" ∈ zq_W := zq_inW (zq_t1 (List.mem_of_getElem? (i := 205) rfl)) rfl
theorem zw_285 : Cond.fieldLink RX7 24 "DollsAhead$Week" "steps" "[I" ∈ zq_W := zq_inW (zq_t1 (List.mem_of_getElem? (i := 206) rfl)) rfl
theorem zw_286 : Cond.fieldLink RX7 27 "DollsAhead$Week" "shutInSpan" "[I" ∈ zq_W := zq_inW (zq_t1 (List.mem_of_getElem? (i := 207) rfl)) rfl
theorem zw_287 : Cond.fieldLink RX7 38 "DollsAhead$Week" "events" "LDollsAhead$Events;" ∈ zq_W := zq_inW (zq_t1 (List.mem_of_getElem? (i := 208) rfl)) rfl
theorem zw_288 : Cond.fieldLink RX7 58 "DollsAhead$Week" "without" "I" ∈ zq_W := zq_inW (zq_t1 (List.mem_of_getElem? (i := 209) rfl)) rfl
theorem zw_289 : Cond.fieldLink RX7 61 "DollsAhead$Week" "lead" "I" ∈ zq_W := zq_inW (zq_t1 (List.mem_of_getElem? (i := 210) rfl)) rfl
theorem zw_290 : Cond.fieldLink RX7 42 "DollsAhead$Week" "who" "I" ∈ zq_W := zq_inW (zq_t1 (List.mem_of_getElem? (i := 211) rfl)) rfl
theorem zw_291 : Cond.fieldLink RX7 46 "DollsAhead$Week" "sortOfWho" "I" ∈ zq_W := zq_inW (zq_t1 (List.mem_of_getElem? (i := 212) rfl)) rfl
theorem zw_292 : Cond.fieldLink RX7 49 "DollsAhead$Week" "bedOfWho" "I" ∈ zq_W := zq_inW (zq_t1 (List.mem_of_getElem? (i := 213) rfl)) rfl
theorem zw_322 : Cond.fieldLink RX8 10 "DollsAhead" "doors" "LDollsAhead$Doors;" ∈ zq_W := zq_inW (zq_t2 (List.mem_of_getElem? (i := 3) rfl)) rfl
theorem zw_323 : Cond.fieldLink RX8 19 "DollsAhead" "people" "LDollsAhead$People;" ∈ zq_W := zq_inW (zq_t2 (List.mem_of_getElem? (i := 4) rfl)) rfl
theorem zw_324 : Cond.fieldLink RX8 26 "DollsAhead" "told" "LDollsAhead$Events;" ∈ zq_W := zq_inW (zq_t2 (List.mem_of_getElem? (i := 5) rfl)) rfl
theorem zw_325 : Cond.fieldLink RX8 30 "DollsAhead" "supposed" "LDollsAhead$Events;" ∈ zq_W := zq_inW (zq_t2 (List.mem_of_getElem? (i := 6) rfl)) rfl
theorem zw_326 : Cond.fieldLink RX8 36 "DollsAhead" "lots" "LDollsAhead$Lots;" ∈ zq_W := zq_inW (zq_t2 (List.mem_of_getElem? (i := 7) rfl)) rfl
theorem zw_327 : Cond.fieldLink RX8 43 "DollsAhead" "sights" "LDollsAhead$Sights;" ∈ zq_W := zq_inW (zq_t2 (List.mem_of_getElem? (i := 8) rfl)) rfl
theorem zw_328 : Cond.fieldLink RX8 49 "DollsAhead" "sheets" "[LDollsAhead$Sheet;" ∈ zq_W := zq_inW (zq_t2 (List.mem_of_getElem? (i := 9) rfl)) rfl
theorem zw_329 : Cond.fieldLink RX8 59 "DollsAhead" "now" "LDollsAhead$Week;" ∈ zq_W := zq_inW (zq_t2 (List.mem_of_getElem? (i := 10) rfl)) rfl
theorem zw_330 : Cond.fieldLink RX8 63 "DollsAhead" "trial" "LDollsAhead$Week;" ∈ zq_W := zq_inW (zq_t2 (List.mem_of_getElem? (i := 11) rfl)) rfl
theorem zw_331 : Cond.fieldLink RX8 66 "DollsAhead" "paths" "[I" ∈ zq_W := zq_inW (zq_t2 (List.mem_of_getElem? (i := 12) rfl)) rfl
theorem zw_332 : Cond.fieldLink RX8 70 "DollsAhead" "crowds" "[I" ∈ zq_W := zq_inW (zq_t2 (List.mem_of_getElem? (i := 13) rfl)) rfl
theorem zw_333 : Cond.fieldLink RX8 73 "DollsAhead" "odds" "[J" ∈ zq_W := zq_inW (zq_t2 (List.mem_of_getElem? (i := 14) rfl)) rfl
theorem zw_334 : Cond.fieldLink RX8 77 "DollsAhead" "lead" "I" ∈ zq_W := zq_inW (zq_t2 (List.mem_of_getElem? (i := 15) rfl)) rfl
theorem zw_335 : Cond.fieldLink RX8 81 "DollsAhead" "finding" "I" ∈ zq_W := zq_inW (zq_t2 (List.mem_of_getElem? (i := 16) rfl)) rfl
theorem zw_336 : Cond.fieldLink RX8 84 "DollsAhead" "nowStands" "Z" ∈ zq_W := zq_inW (zq_t2 (List.mem_of_getElem? (i := 17) rfl)) rfl
theorem zw_337 : Cond.fieldLink RX8 88 "DollsAhead" "oddsSixteenths" "I" ∈ zq_W := zq_inW (zq_t2 (List.mem_of_getElem? (i := 18) rfl)) rfl
theorem zw_338 : Cond.fieldLink RX8 91 "DollsAhead" "oddsHour" "I" ∈ zq_W := zq_inW (zq_t2 (List.mem_of_getElem? (i := 19) rfl)) rfl
theorem zw_375 : Cond.methodLink RL 13 yX8_type ∈ zq_W := zq_inW (zq_t2 (List.mem_of_getElem? (i := 56) rfl)) rfl
theorem zw_376 : Cond.instanceMethod yX8_type ∈ zq_W := zq_inW (zq_t2 (List.mem_of_getElem? (i := 57) rfl)) rfl
theorem zw_377 : Cond.selects RX8 yX8_type yX8_type ∈ zq_W := zq_inW (zq_t2 (List.mem_of_getElem? (i := 58) rfl)) rfl
theorem zw_378 : Cond.code yX8_type prog_1_method_2_code 4 (some .int) ∈ zq_W := zq_inW (zq_t2 (List.mem_of_getElem? (i := 59) rfl)) rfl
theorem zw_379 : Cond.methodLink RX8 94 yX8_textOf ∈ zq_W := zq_inW (zq_t2 (List.mem_of_getElem? (i := 60) rfl)) rfl
theorem zw_381 : Cond.instanceMethod yX8_textOf ∈ zq_W := zq_inW (zq_t2 (List.mem_of_getElem? (i := 62) rfl)) rfl
theorem zw_382 : Cond.code yX8_textOf prog_1_method_49_code 2 (some (.object "DollsAhead$Text")) ∈ zq_W := zq_inW (zq_t2 (List.mem_of_getElem? (i := 63) rfl)) rfl
theorem zw_383 : Cond.methodLink RX8 98 yX8_within ∈ zq_W := zq_inW (zq_t2 (List.mem_of_getElem? (i := 64) rfl)) rfl
theorem zw_384 : Cond.static yX8_within ∈ zq_W := zq_inW (zq_t2 (List.mem_of_getElem? (i := 65) rfl)) rfl
theorem zw_385 : Cond.code yX8_within prog_1_method_42_code 3 (some .boolean) ∈ zq_W := zq_inW (zq_t2 (List.mem_of_getElem? (i := 66) rfl)) rfl
theorem zw_386 : Cond.methodLink RX8 102 yX6_isFull ∈ zq_W := zq_inW (zq_t2 (List.mem_of_getElem? (i := 67) rfl)) rfl
theorem zw_387 : Cond.instanceMethod yX6_isFull ∈ zq_W := zq_inW (zq_t2 (List.mem_of_getElem? (i := 68) rfl)) rfl
theorem zw_388 : Cond.sameMethod "DollsAhead$Text" "DollsAhead$Text" "isFull" "()Z" ∈ zq_W := zq_inW (zq_t2 (List.mem_of_getElem? (i := 69) rfl)) rfl
theorem zw_389 : Cond.selects RX0 yX6_isFull yX6_isFull ∈ zq_W := zq_inW (zq_t2 (List.mem_of_getElem? (i := 70) rfl)) rfl
theorem zw_390 : Cond.selects RX3 yX6_isFull yX6_isFull ∈ zq_W := zq_inW (zq_t2 (List.mem_of_getElem? (i := 71) rfl)) rfl
theorem zw_391 : Cond.code yX6_isFull prog_8_method_4_code 1 (some .boolean) ∈ zq_W := zq_inW (zq_t2 (List.mem_of_getElem? (i := 72) rfl)) rfl
theorem zw_392 : Cond.methodLink RX8 108 yX6_add ∈ zq_W := zq_inW (zq_t2 (List.mem_of_getElem? (i := 73) rfl)) rfl
theorem zw_393 : Cond.instanceMethod yX6_add ∈ zq_W := zq_inW (zq_t2 (List.mem_of_getElem? (i := 74) rfl)) rfl
theorem zw_394 : Cond.sameMethod "DollsAhead$Text" "DollsAhead$Text" "add" "(I)V" ∈ zq_W := zq_inW (zq_t2 (List.mem_of_getElem? (i := 75) rfl)) rfl
theorem zw_395 : Cond.selects RX0 yX6_add yX6_add ∈ zq_W := zq_inW (zq_t2 (List.mem_of_getElem? (i := 76) rfl)) rfl
theorem zw_396 : Cond.selects RX3 yX6_add yX6_add ∈ zq_W := zq_inW (zq_t2 (List.mem_of_getElem? (i := 77) rfl)) rfl
theorem zw_397 : Cond.code yX6_add prog_8_method_5_code 2 none ∈ zq_W := zq_inW (zq_t2 (List.mem_of_getElem? (i := 78) rfl)) rfl
theorem zw_398 : Cond.methodLink RX6 40 yX6_isFull ∈ zq_W := zq_inW (zq_t2 (List.mem_of_getElem? (i := 79) rfl)) rfl
theorem zw_399 : Cond.methodLink RX6 44 yX6_understand ∈ zq_W := zq_inW (zq_t2 (List.mem_of_getElem? (i := 80) rfl)) rfl
theorem zw_401 : Cond.instanceMethod yX6_understand ∈ zq_W := zq_inW (zq_t2 (List.mem_of_getElem? (i := 82) rfl)) rfl
theorem zw_402 : Cond.code yX6_understand prog_8_method_9_code 1 none ∈ zq_W := zq_inW (zq_t2 (List.mem_of_getElem? (i := 83) rfl)) rfl
theorem zw_403 : Cond.methodLink RX6 47 yX6_firstFault ∈ zq_W := zq_inW (zq_t2 (List.mem_of_getElem? (i := 84) rfl)) rfl
theorem zw_405 : Cond.instanceMethod yX6_firstFault ∈ zq_W := zq_inW (zq_t2 (List.mem_of_getElem? (i := 86) rfl)) rfl
theorem zw_406 : Cond.code yX6_firstFault prog_8_method_10_code 3 (some .int) ∈ zq_W := zq_inW (zq_t2 (List.mem_of_getElem? (i := 87) rfl)) rfl
theorem zw_407 : Cond.methodLink RX6 54 ⟨"DollsAhead$Text", "fits", "(II)Z"⟩ ∈ zq_W := zq_inW (zq_t2 (List.mem_of_getElem? (i := 88) rfl)) rfl
theorem zw_409 : Cond.sameMethod "DollsAhead$Text" "DollsAhead$Text" "fits" "(II)Z" ∈ zq_W := zq_inW (zq_t2 (List.mem_of_getElem? (i := 90) rfl)) rfl
theorem zw_410 : Cond.selects RX0 ⟨"DollsAhead$Text", "fits", "(II)Z"⟩ yX0_fits ∈ zq_W := zq_inW (zq_t2 (List.mem_of_getElem? (i := 91) rfl)) rfl
theorem zw_411 : Cond.instanceMethod yX0_fits ∈ zq_W := zq_inW (zq_t2 (List.mem_of_getElem? (i := 92) rfl)) rfl
theorem zw_412 : Cond.code yX0_fits prog_2_method_2_code 3 (some .boolean) ∈ zq_W := zq_inW (zq_t2 (List.mem_of_getElem? (i := 93) rfl)) rfl
theorem zw_413 : Cond.methodLink RX0 21 ⟨"DollsAhead$Doors", "isFigure", "(I)Z"⟩ ∈ zq_W := zq_inW (zq_t2 (List.mem_of_getElem? (i := 94) rfl)) rfl
theorem zw_414 : Cond.sameMethod "DollsAhead$Doors" "DollsAhead$Text" "isFigure" "(I)Z" ∈ zq_W := zq_inW (zq_t2 (List.mem_of_getElem? (i := 95) rfl)) rfl
theorem zw_416 : Cond.selects RX0 ⟨"DollsAhead$Doors", "isFigure", "(I)Z"⟩ yX6_isFigure ∈ zq_W := zq_inW (zq_t2 (List.mem_of_getElem? (i := 97) rfl)) rfl
theorem zw_417 : Cond.instanceMethod yX6_isFigure ∈ zq_W := zq_inW (zq_t2 (List.mem_of_getElem? (i := 98) rfl)) rfl
theorem zw_418 : Cond.code yX6_isFigure prog_8_method_7_code 2 (some .boolean) ∈ zq_W := zq_inW (zq_t2 (List.mem_of_getElem? (i := 99) rfl)) rfl
theorem zw_419 : Cond.selects RX3 ⟨"DollsAhead$Text", "fits", "(II)Z"⟩ yX3_fits ∈ zq_W := zq_inW (zq_t2 (List.mem_of_getElem? (i := 100) rfl)) rfl
theorem zw_420 : Cond.instanceMethod yX3_fits ∈ zq_W := zq_inW (zq_t2 (List.mem_of_getElem? (i := 101) rfl)) rfl
theorem zw_421 : Cond.code yX3_fits prog_5_method_2_code 3 (some .boolean) ∈ zq_W := zq_inW (zq_t2 (List.mem_of_getElem? (i := 102) rfl)) rfl
theorem zw_422 : Cond.methodLink RX3 21 yX3_sortAt ∈ zq_W := zq_inW (zq_t2 (List.mem_of_getElem? (i := 103) rfl)) rfl
theorem zw_424 : Cond.instanceMethod yX3_sortAt ∈ zq_W := zq_inW (zq_t2 (List.mem_of_getElem? (i := 105) rfl)) rfl
theorem zw_425 : Cond.code yX3_sortAt prog_5_method_4_code 2 (some .int) ∈ zq_W := zq_inW (zq_t2 (List.mem_of_getElem? (i := 106) rfl)) rfl
theorem zw_426 : Cond.methodLink RX3 25 ⟨"DollsAhead$People", "isFigure", "(I)Z"⟩ ∈ zq_W := zq_inW (zq_t2 (List.mem_of_getElem? (i := 107) rfl)) rfl
theorem zw_427 : Cond.sameMethod "DollsAhead$People" "DollsAhead$Text" "isFigure" "(I)Z" ∈ zq_W := zq_inW (zq_t2 (List.mem_of_getElem? (i := 108) rfl)) rfl
theorem zw_428 : Cond.selects RX3 ⟨"DollsAhead$People", "isFigure", "(I)Z"⟩ yX6_isFigure ∈ zq_W := zq_inW (zq_t2 (List.mem_of_getElem? (i := 109) rfl)) rfl
theorem zw_429 : Cond.methodLink RX6 51 ⟨"DollsAhead$Text", "readThings", "()V"⟩ ∈ zq_W := zq_inW (zq_t2 (List.mem_of_getElem? (i := 110) rfl)) rfl
theorem zw_431 : Cond.sameMethod "DollsAhead$Text" "DollsAhead$Text" "readThings" "()V" ∈ zq_W := zq_inW (zq_t2 (List.mem_of_getElem? (i := 112) rfl)) rfl
theorem zw_432 : Cond.selects RX0 ⟨"DollsAhead$Text", "readThings", "()V"⟩ yX0_readThings ∈ zq_W := zq_inW (zq_t2 (List.mem_of_getElem? (i := 113) rfl)) rfl
theorem zw_433 : Cond.instanceMethod yX0_readThings ∈ zq_W := zq_inW (zq_t2 (List.mem_of_getElem? (i := 114) rfl)) rfl
theorem zw_434 : Cond.code yX0_readThings prog_2_method_3_code 2 none ∈ zq_W := zq_inW (zq_t2 (List.mem_of_getElem? (i := 115) rfl)) rfl
theorem zw_435 : Cond.methodLink RX0 32 ⟨"DollsAhead$Doors", "figure", "(I)I"⟩ ∈ zq_W := zq_inW (zq_t2 (List.mem_of_getElem? (i := 116) rfl)) rfl
theorem zw_436 : Cond.sameMethod "DollsAhead$Doors" "DollsAhead$Text" "figure" "(I)I" ∈ zq_W := zq_inW (zq_t2 (List.mem_of_getElem? (i := 117) rfl)) rfl
theorem zw_438 : Cond.selects RX0 ⟨"DollsAhead$Doors", "figure", "(I)I"⟩ yX6_figure ∈ zq_W := zq_inW (zq_t2 (List.mem_of_getElem? (i := 119) rfl)) rfl
theorem zw_439 : Cond.instanceMethod yX6_figure ∈ zq_W := zq_inW (zq_t2 (List.mem_of_getElem? (i := 120) rfl)) rfl
theorem zw_440 : Cond.code yX6_figure prog_8_method_8_code 2 (some .int) ∈ zq_W := zq_inW (zq_t2 (List.mem_of_getElem? (i := 121) rfl)) rfl
theorem zw_441 : Cond.selects RX3 ⟨"DollsAhead$Text", "readThings", "()V"⟩ yX3_readThings ∈ zq_W := zq_inW (zq_t2 (List.mem_of_getElem? (i := 122) rfl)) rfl
theorem zw_442 : Cond.instanceMethod yX3_readThings ∈ zq_W := zq_inW (zq_t2 (List.mem_of_getElem? (i := 123) rfl)) rfl
theorem zw_443 : Cond.code yX3_readThings prog_5_method_3_code 2 none ∈ zq_W := zq_inW (zq_t2 (List.mem_of_getElem? (i := 124) rfl)) rfl
theorem zw_444 : Cond.methodLink RX3 33 ⟨"DollsAhead$People", "figure", "(I)I"⟩ ∈ zq_W := zq_inW (zq_t2 (List.mem_of_getElem? (i := 125) rfl)) rfl
theorem zw_445 : Cond.sameMethod "DollsAhead$People" "DollsAhead$Text" "figure" "(I)I" ∈ zq_W := zq_inW (zq_t2 (List.mem_of_getElem? (i := 126) rfl)) rfl
theorem zw_446 : Cond.selects RX3 ⟨"DollsAhead$People", "figure", "(I)I"⟩ yX6_figure ∈ zq_W := zq_inW (zq_t2 (List.mem_of_getElem? (i := 127) rfl)) rfl
theorem zw_447 : Cond.methodLink RX8 112 yX8_textChanged ∈ zq_W := zq_inW (zq_t2 (List.mem_of_getElem? (i := 128) rfl)) rfl
theorem zw_449 : Cond.instanceMethod yX8_textChanged ∈ zq_W := zq_inW (zq_t2 (List.mem_of_getElem? (i := 130) rfl)) rfl
theorem zw_450 : Cond.code yX8_textChanged prog_1_method_50_code 1 none ∈ zq_W := zq_inW (zq_t2 (List.mem_of_getElem? (i := 131) rfl)) rfl
theorem zw_451 : Cond.methodLink RX8 382 yX7_forgetSteps ∈ zq_W := zq_inW (zq_t2 (List.mem_of_getElem? (i := 132) rfl)) rfl
theorem zw_452 : Cond.instanceMethod yX7_forgetSteps ∈ zq_W := zq_inW (zq_t2 (List.mem_of_getElem? (i := 133) rfl)) rfl
theorem zw_453 : Cond.selects RX7 yX7_forgetSteps yX7_forgetSteps ∈ zq_W := zq_inW (zq_t2 (List.mem_of_getElem? (i := 134) rfl)) rfl
theorem zw_454 : Cond.code yX7_forgetSteps prog_9_method_2_code 1 none ∈ zq_W := zq_inW (zq_t2 (List.mem_of_getElem? (i := 135) rfl)) rfl
theorem zw_455 : Cond.methodLink RX8 146 yX8_changed ∈ zq_W := zq_inW (zq_t2 (List.mem_of_getElem? (i := 136) rfl)) rfl
theorem zw_457 : Cond.instanceMethod yX8_changed ∈ zq_W := zq_inW (zq_t2 (List.mem_of_getElem? (i := 138) rfl)) rfl
theorem zw_458 : Cond.code yX8_changed prog_1_method_51_code 1 none ∈ zq_W := zq_inW (zq_t2 (List.mem_of_getElem? (i := 139) rfl)) rfl
theorem zw_459 : Cond.methodLink RL 18 yX8_wipe ∈ zq_W := zq_inW (zq_t2 (List.mem_of_getElem? (i := 140) rfl)) rfl
theorem zw_460 : Cond.instanceMethod yX8_wipe ∈ zq_W := zq_inW (zq_t2 (List.mem_of_getElem? (i := 141) rfl)) rfl
theorem zw_461 : Cond.selects RX8 yX8_wipe yX8_wipe ∈ zq_W := zq_inW (zq_t2 (List.mem_of_getElem? (i := 142) rfl)) rfl
theorem zw_462 : Cond.code yX8_wipe prog_1_method_3_code 4 (some .int) ∈ zq_W := zq_inW (zq_t2 (List.mem_of_getElem? (i := 143) rfl)) rfl
theorem zw_463 : Cond.methodLink RX8 118 yX6_shorten ∈ zq_W := zq_inW (zq_t2 (List.mem_of_getElem? (i := 144) rfl)) rfl
theorem zw_464 : Cond.instanceMethod yX6_shorten ∈ zq_W := zq_inW (zq_t2 (List.mem_of_getElem? (i := 145) rfl)) rfl
theorem zw_465 : Cond.sameMethod "DollsAhead$Text" "DollsAhead$Text" "shorten" "(I)V" ∈ zq_W := zq_inW (zq_t2 (List.mem_of_getElem? (i := 146) rfl)) rfl
theorem zw_466 : Cond.selects RX0 yX6_shorten yX6_shorten ∈ zq_W := zq_inW (zq_t2 (List.mem_of_getElem? (i := 147) rfl)) rfl
theorem zw_467 : Cond.selects RX3 yX6_shorten yX6_shorten ∈ zq_W := zq_inW (zq_t2 (List.mem_of_getElem? (i := 148) rfl)) rfl
theorem zw_468 : Cond.code yX6_shorten prog_8_method_6_code 2 none ∈ zq_W := zq_inW (zq_t2 (List.mem_of_getElem? (i := 149) rfl)) rfl
theorem zw_469 : Cond.methodLink RL 23 yX8_undo ∈ zq_W := zq_inW (zq_t2 (List.mem_of_getElem? (i := 150) rfl)) rfl
theorem zw_470 : Cond.instanceMethod yX8_undo ∈ zq_W := zq_inW (zq_t2 (List.mem_of_getElem? (i := 151) rfl)) rfl
theorem zw_471 : Cond.selects RX8 yX8_undo yX8_undo ∈ zq_W := zq_inW (zq_t2 (List.mem_of_getElem? (i := 152) rfl)) rfl
theorem zw_472 : Cond.code yX8_undo prog_1_method_4_code 3 (some .int) ∈ zq_W := zq_inW (zq_t2 (List.mem_of_getElem? (i := 153) rfl)) rfl
theorem zw_473 : Cond.methodLink RL 27 yX8_fault ∈ zq_W := zq_inW (zq_t2 (List.mem_of_getElem? (i := 154) rfl)) rfl
theorem zw_474 : Cond.instanceMethod yX8_fault ∈ zq_W := zq_inW (zq_t2 (List.mem_of_getElem? (i := 155) rfl)) rfl
theorem zw_475 : Cond.selects RX8 yX8_fault yX8_fault ∈ zq_W := zq_inW (zq_t2 (List.mem_of_getElem? (i := 156) rfl)) rfl
theorem zw_476 : Cond.code yX8_fault prog_1_method_5_code 3 (some .int) ∈ zq_W := zq_inW (zq_t2 (List.mem_of_getElem? (i := 157) rfl)) rfl
theorem zw_477 : Cond.methodLink RL 31 yX8_door ∈ zq_W := zq_inW (zq_t2 (List.mem_of_getElem? (i := 158) rfl)) rfl
theorem zw_478 : Cond.instanceMethod yX8_door ∈ zq_W := zq_inW (zq_t2 (List.mem_of_getElem? (i := 159) rfl)) rfl
theorem zw_479 : Cond.selects RX8 yX8_door yX8_door ∈ zq_W := zq_inW (zq_t2 (List.mem_of_getElem? (i := 160) rfl)) rfl
theorem zw_480 : Cond.code yX8_door prog_1_method_6_code 3 (some .int) ∈ zq_W := zq_inW (zq_t2 (List.mem_of_getElem? (i := 161) rfl)) rfl
theorem zw_481 : Cond.methodLink RL 35 yX8_person ∈ zq_W := zq_inW (zq_t2 (List.mem_of_getElem? (i := 162) rfl)) rfl
theorem zw_482 : Cond.instanceMethod yX8_person ∈ zq_W := zq_inW (zq_t2 (List.mem_of_getElem? (i := 163) rfl)) rfl
theorem zw_483 : Cond.selects RX8 yX8_person yX8_person ∈ zq_W := zq_inW (zq_t2 (List.mem_of_getElem? (i := 164) rfl)) rfl
theorem zw_484 : Cond.code yX8_person prog_1_method_7_code 3 (some .int) ∈ zq_W := zq_inW (zq_t2 (List.mem_of_getElem? (i := 165) rfl)) rfl
theorem zw_485 : Cond.methodLink RX8 133 yX8_isPerson ∈ zq_W := zq_inW (zq_t2 (List.mem_of_getElem? (i := 166) rfl)) rfl
theorem zw_487 : Cond.instanceMethod yX8_isPerson ∈ zq_W := zq_inW (zq_t2 (List.mem_of_getElem? (i := 168) rfl)) rfl
theorem zw_488 : Cond.code yX8_isPerson prog_1_method_48_code 2 (some .boolean) ∈ zq_W := zq_inW (zq_t2 (List.mem_of_getElem? (i := 169) rfl)) rfl
theorem zw_489 : Cond.methodLink RL 39 yX8_ahead ∈ zq_W := zq_inW (zq_t2 (List.mem_of_getElem? (i := 170) rfl)) rfl
theorem zw_490 : Cond.instanceMethod yX8_ahead ∈ zq_W := zq_inW (zq_t2 (List.mem_of_getElem? (i := 171) rfl)) rfl
theorem zw_491 : Cond.selects RX8 yX8_ahead yX8_ahead ∈ zq_W := zq_inW (zq_t2 (List.mem_of_getElem? (i := 172) rfl)) rfl
theorem zw_492 : Cond.code yX8_ahead prog_1_method_8_code 3 (some .int) ∈ zq_W := zq_inW (zq_t2 (List.mem_of_getElem? (i := 173) rfl)) rfl
theorem zw_493 : Cond.methodLink RL 43 yX8_event ∈ zq_W := zq_inW (zq_t2 (List.mem_of_getElem? (i := 174) rfl)) rfl
theorem zw_494 : Cond.instanceMethod yX8_event ∈ zq_W := zq_inW (zq_t2 (List.mem_of_getElem? (i := 175) rfl)) rfl
theorem zw_495 : Cond.selects RX8 yX8_event yX8_event ∈ zq_W := zq_inW (zq_t2 (List.mem_of_getElem? (i := 176) rfl)) rfl
theorem zw_496 : Cond.code yX8_event prog_1_method_9_code 4 (some .int) ∈ zq_W := zq_inW (zq_t2 (List.mem_of_getElem? (i := 177) rfl)) rfl
theorem zw_497 : Cond.methodLink RX8 149 yX8_isEvent ∈ zq_W := zq_inW (zq_t2 (List.mem_of_getElem? (i := 178) rfl)) rfl
theorem zw_498 : Cond.static yX8_isEvent ∈ zq_W := zq_inW (zq_t2 (List.mem_of_getElem? (i := 179) rfl)) rfl
theorem zw_499 : Cond.code yX8_isEvent prog_1_method_47_code 4 (some .boolean) ∈ zq_W := zq_inW (zq_t2 (List.mem_of_getElem? (i := 180) rfl)) rfl
theorem zw_500 : Cond.methodLink RX8 174 yX8_isHour ∈ zq_W := zq_inW (zq_t2 (List.mem_of_getElem? (i := 181) rfl)) rfl
theorem zw_501 : Cond.static yX8_isHour ∈ zq_W := zq_inW (zq_t2 (List.mem_of_getElem? (i := 182) rfl)) rfl
theorem zw_502 : Cond.code yX8_isHour prog_1_method_43_code 1 (some .boolean) ∈ zq_W := zq_inW (zq_t2 (List.mem_of_getElem? (i := 183) rfl)) rfl
theorem zw_503 : Cond.methodLink RX8 153 yX1_add ∈ zq_W := zq_inW (zq_t2 (List.mem_of_getElem? (i := 184) rfl)) rfl
theorem zw_504 : Cond.instanceMethod yX1_add ∈ zq_W := zq_inW (zq_t2 (List.mem_of_getElem? (i := 185) rfl)) rfl
theorem zw_505 : Cond.selects RX1 yX1_add yX1_add ∈ zq_W := zq_inW (zq_t2 (List.mem_of_getElem? (i := 186) rfl)) rfl
theorem zw_506 : Cond.code yX1_add prog_3_method_2_code 4 none ∈ zq_W := zq_inW (zq_t2 (List.mem_of_getElem? (i := 187) rfl)) rfl
theorem zw_507 : Cond.methodLink RL 48 yX8_back ∈ zq_W := zq_inW (zq_t2 (List.mem_of_getElem? (i := 188) rfl)) rfl
theorem zw_508 : Cond.instanceMethod yX8_back ∈ zq_W := zq_inW (zq_t2 (List.mem_of_getElem? (i := 189) rfl)) rfl
theorem zw_509 : Cond.selects RX8 yX8_back yX8_back ∈ zq_W := zq_inW (zq_t2 (List.mem_of_getElem? (i := 190) rfl)) rfl
theorem zw_510 : Cond.code yX8_back prog_1_method_10_code 1 (some .int) ∈ zq_W := zq_inW (zq_t2 (List.mem_of_getElem? (i := 191) rfl)) rfl
theorem zw_511 : Cond.methodLink RL 53 yX8_read ∈ zq_W := zq_inW (zq_t2 (List.mem_of_getElem? (i := 192) rfl)) rfl
theorem zw_512 : Cond.instanceMethod yX8_read ∈ zq_W := zq_inW (zq_t2 (List.mem_of_getElem? (i := 193) rfl)) rfl
theorem zw_513 : Cond.selects RX8 yX8_read yX8_read ∈ zq_W := zq_inW (zq_t2 (List.mem_of_getElem? (i := 194) rfl)) rfl
theorem zw_514 : Cond.code yX8_read prog_1_method_11_code 5 (some .int) ∈ zq_W := zq_inW (zq_t2 (List.mem_of_getElem? (i := 195) rfl)) rfl
theorem zw_515 : Cond.methodLink RX8 156 yX8_isSheet ∈ zq_W := zq_inW (zq_t2 (List.mem_of_getElem? (i := 196) rfl)) rfl
theorem zw_516 : Cond.static yX8_isSheet ∈ zq_W := zq_inW (zq_t2 (List.mem_of_getElem? (i := 197) rfl)) rfl
theorem zw_517 : Cond.code yX8_isSheet prog_1_method_45_code 1 (some .boolean) ∈ zq_W := zq_inW (zq_t2 (List.mem_of_getElem? (i := 198) rfl)) rfl
theorem zw_518 : Cond.methodLink RX8 159 yX4_isLost ∈ zq_W := zq_inW (zq_t2 (List.mem_of_getElem? (i := 199) rfl)) rfl
theorem zw_519 : Cond.instanceMethod yX4_isLost ∈ zq_W := zq_inW (zq_t2 (List.mem_of_getElem? (i := 200) rfl)) rfl
theorem zw_520 : Cond.selects RX4 yX4_isLost yX4_isLost ∈ zq_W := zq_inW (zq_t2 (List.mem_of_getElem? (i := 201) rfl)) rfl
theorem zw_521 : Cond.code yX4_isLost prog_6_method_2_code 1 (some .boolean) ∈ zq_W := zq_inW (zq_t2 (List.mem_of_getElem? (i := 202) rfl)) rfl
theorem zw_522 : Cond.methodLink RX8 162 yX8_refuse ∈ zq_W := zq_inW (zq_t2 (List.mem_of_getElem? (i := 203) rfl)) rfl
theorem zw_524 : Cond.instanceMethod yX8_refuse ∈ zq_W := zq_inW (zq_t2 (List.mem_of_getElem? (i := 205) rfl)) rfl
theorem zw_525 : Cond.code yX8_refuse prog_1_method_63_code 2 (some .int) ∈ zq_W := zq_inW (zq_t2 (List.mem_of_getElem? (i := 206) rfl)) rfl
theorem zw_526 : Cond.methodLink RX8 170 yX8_event ∈ zq_W := zq_inW (zq_t2 (List.mem_of_getElem? (i := 207) rfl)) rfl
theorem zw_527 : Cond.methodLink RL 57 yX8_at ∈ zq_W := zq_inW (zq_t2 (List.mem_of_getElem? (i := 208) rfl)) rfl
theorem zw_528 : Cond.instanceMethod yX8_at ∈ zq_W := zq_inW (zq_t2 (List.mem_of_getElem? (i := 209) rfl)) rfl
theorem zw_529 : Cond.selects RX8 yX8_at yX8_at ∈ zq_W := zq_inW (zq_t2 (List.mem_of_getElem? (i := 210) rfl)) rfl
theorem zw_530 : Cond.code yX8_at prog_1_method_12_code 5 (some .int) ∈ zq_W := zq_inW (zq_t2 (List.mem_of_getElem? (i := 211) rfl)) rfl
theorem zw_531 : Cond.methodLink RX8 177 yX8_weekAsTold ∈ zq_W := zq_inW (zq_t2 (List.mem_of_getElem? (i := 212) rfl)) rfl
theorem zw_533 : Cond.instanceMethod yX8_weekAsTold ∈ zq_W := zq_inW (zq_t2 (List.mem_of_getElem? (i := 214) rfl)) rfl
theorem zw_534 : Cond.code yX8_weekAsTold prog_1_method_52_code 1 (some (.object "DollsAhead$Week")) ∈ zq_W := zq_inW (zq_t2 (List.mem_of_getElem? (i := 215) rfl)) rfl
theorem zw_535 : Cond.methodLink RX8 219 yX7_runWith ∈ zq_W := zq_inW (zq_t2 (List.mem_of_getElem? (i := 216) rfl)) rfl
theorem zw_536 : Cond.instanceMethod yX7_runWith ∈ zq_W := zq_inW (zq_t2 (List.mem_of_getElem? (i := 217) rfl)) rfl
theorem zw_537 : Cond.selects RX7 yX7_runWith yX7_runWith ∈ zq_W := zq_inW (zq_t2 (List.mem_of_getElem? (i := 218) rfl)) rfl
theorem zw_538 : Cond.code yX7_runWith prog_9_method_4_code 7 none ∈ zq_W := zq_inW (zq_t2 (List.mem_of_getElem? (i := 219) rfl)) rfl
theorem zw_539 : Cond.methodLink RX7 64 yX7_layHours ∈ zq_W := zq_inW (zq_t2 (List.mem_of_getElem? (i := 220) rfl)) rfl
theorem zw_541 : Cond.instanceMethod yX7_layHours ∈ zq_W := zq_inW (zq_t2 (List.mem_of_getElem? (i := 222) rfl)) rfl
theorem zw_542 : Cond.code yX7_layHours prog_9_method_5_code 5 none ∈ zq_W := zq_inW (zq_t2 (List.mem_of_getElem? (i := 223) rfl)) rfl
theorem zw_543 : Cond.methodLink RX7 67 yX7_layTables ∈ zq_W := zq_inW (zq_t2 (List.mem_of_getElem? (i := 224) rfl)) rfl
theorem zw_545 : Cond.instanceMethod yX7_layTables ∈ zq_W := zq_inW (zq_t2 (List.mem_of_getElem? (i := 226) rfl)) rfl
theorem zw_546 : Cond.code yX7_layTables prog_9_method_6_code 4 none ∈ zq_W := zq_inW (zq_t2 (List.mem_of_getElem? (i := 227) rfl)) rfl
theorem zw_547 : Cond.methodLink RX7 97 yX0_openAllBut ∈ zq_W := zq_inW (zq_t2 (List.mem_of_getElem? (i := 228) rfl)) rfl
theorem zw_548 : Cond.instanceMethod yX0_openAllBut ∈ zq_W := zq_inW (zq_t2 (List.mem_of_getElem? (i := 229) rfl)) rfl
theorem zw_549 : Cond.selects RX0 yX0_openAllBut yX0_openAllBut ∈ zq_W := zq_inW (zq_t2 (List.mem_of_getElem? (i := 230) rfl)) rfl
theorem zw_550 : Cond.code yX0_openAllBut prog_2_method_4_code 3 none ∈ zq_W := zq_inW (zq_t2 (List.mem_of_getElem? (i := 231) rfl)) rfl
theorem zw_551 : Cond.methodLink RX7 103 yX0_fillStepsTo ∈ zq_W := zq_inW (zq_t2 (List.mem_of_getElem? (i := 232) rfl)) rfl
theorem zw_552 : Cond.instanceMethod yX0_fillStepsTo ∈ zq_W := zq_inW (zq_t2 (List.mem_of_getElem? (i := 233) rfl)) rfl
theorem zw_553 : Cond.selects RX0 yX0_fillStepsTo yX0_fillStepsTo ∈ zq_W := zq_inW (zq_t2 (List.mem_of_getElem? (i := 234) rfl)) rfl
theorem zw_554 : Cond.code yX0_fillStepsTo prog_2_method_5_code 11 none ∈ zq_W := zq_inW (zq_t2 (List.mem_of_getElem? (i := 235) rfl)) rfl
theorem zw_555 : Cond.methodLink RX7 75 yX7_sortOf ∈ zq_W := zq_inW (zq_t2 (List.mem_of_getElem? (i := 236) rfl)) rfl
theorem zw_557 : Cond.instanceMethod yX7_sortOf ∈ zq_W := zq_inW (zq_t2 (List.mem_of_getElem? (i := 238) rfl)) rfl
theorem zw_558 : Cond.code yX7_sortOf prog_9_method_8_code 2 (some .int) ∈ zq_W := zq_inW (zq_t2 (List.mem_of_getElem? (i := 239) rfl)) rfl
theorem zw_559 : Cond.methodLink RX7 79 yX7_walk ∈ zq_W := zq_inW (zq_t3 (List.mem_of_getElem? (i := 0) rfl)) rfl
theorem zw_561 : Cond.instanceMethod yX7_walk ∈ zq_W := zq_inW (zq_t3 (List.mem_of_getElem? (i := 2) rfl)) rfl
theorem zw_562 : Cond.code yX7_walk prog_9_method_7_code 9 none ∈ zq_W := zq_inW (zq_t3 (List.mem_of_getElem? (i := 3) rfl)) rfl
theorem zw_563 : Cond.methodLink RX7 107 yX7_bedOf ∈ zq_W := zq_inW (zq_t3 (List.mem_of_getElem? (i := 4) rfl)) rfl
theorem zw_565 : Cond.instanceMethod yX7_bedOf ∈ zq_W := zq_inW (zq_t3 (List.mem_of_getElem? (i := 6) rfl)) rfl
theorem zw_566 : Cond.code yX7_bedOf prog_9_method_9_code 2 (some .int) ∈ zq_W := zq_inW (zq_t3 (List.mem_of_getElem? (i := 7) rfl)) rfl
theorem zw_567 : Cond.methodLink RX7 113 yJ9_min_7cf53 ∈ zq_W := zq_inW (zq_t3 (List.mem_of_getElem? (i := 8) rfl)) rfl
theorem zw_568 : Cond.methodLink RX7 119 yX7_roomOf ∈ zq_W := zq_inW (zq_t3 (List.mem_of_getElem? (i := 9) rfl)) rfl
theorem zw_569 : Cond.instanceMethod yX7_roomOf ∈ zq_W := zq_inW (zq_t3 (List.mem_of_getElem? (i := 10) rfl)) rfl
theorem zw_570 : Cond.selects RX7 yX7_roomOf yX7_roomOf ∈ zq_W := zq_inW (zq_t3 (List.mem_of_getElem? (i := 11) rfl)) rfl
theorem zw_571 : Cond.code yX7_roomOf prog_9_method_10_code 3 (some .int) ∈ zq_W := zq_inW (zq_t3 (List.mem_of_getElem? (i := 12) rfl)) rfl
theorem zw_572 : Cond.methodLink RX8 181 yX7_roomOf ∈ zq_W := zq_inW (zq_t3 (List.mem_of_getElem? (i := 13) rfl)) rfl
theorem zw_573 : Cond.methodLink RL 61 yX8_room ∈ zq_W := zq_inW (zq_t3 (List.mem_of_getElem? (i := 14) rfl)) rfl
theorem zw_574 : Cond.instanceMethod yX8_room ∈ zq_W := zq_inW (zq_t3 (List.mem_of_getElem? (i := 15) rfl)) rfl
theorem zw_575 : Cond.selects RX8 yX8_room yX8_room ∈ zq_W := zq_inW (zq_t3 (List.mem_of_getElem? (i := 16) rfl)) rfl
theorem zw_576 : Cond.code yX8_room prog_1_method_13_code 3 (some .int) ∈ zq_W := zq_inW (zq_t3 (List.mem_of_getElem? (i := 17) rfl)) rfl
theorem zw_577 : Cond.methodLink RX8 185 yX8_isRoom ∈ zq_W := zq_inW (zq_t3 (List.mem_of_getElem? (i := 18) rfl)) rfl
theorem zw_578 : Cond.static yX8_isRoom ∈ zq_W := zq_inW (zq_t3 (List.mem_of_getElem? (i := 19) rfl)) rfl
theorem zw_579 : Cond.code yX8_isRoom prog_1_method_44_code 1 (some .boolean) ∈ zq_W := zq_inW (zq_t3 (List.mem_of_getElem? (i := 20) rfl)) rfl
theorem zw_580 : Cond.methodLink RX8 188 yX7_whoIn ∈ zq_W := zq_inW (zq_t3 (List.mem_of_getElem? (i := 21) rfl)) rfl
theorem zw_581 : Cond.instanceMethod yX7_whoIn ∈ zq_W := zq_inW (zq_t3 (List.mem_of_getElem? (i := 22) rfl)) rfl
theorem zw_582 : Cond.selects RX7 yX7_whoIn yX7_whoIn ∈ zq_W := zq_inW (zq_t3 (List.mem_of_getElem? (i := 23) rfl)) rfl
theorem zw_583 : Cond.code yX7_whoIn prog_9_method_11_code 5 (some .int) ∈ zq_W := zq_inW (zq_t3 (List.mem_of_getElem? (i := 24) rfl)) rfl
theorem zw_584 : Cond.methodLink RL 65 yX8_far ∈ zq_W := zq_inW (zq_t3 (List.mem_of_getElem? (i := 25) rfl)) rfl
theorem zw_585 : Cond.instanceMethod yX8_far ∈ zq_W := zq_inW (zq_t3 (List.mem_of_getElem? (i := 26) rfl)) rfl
theorem zw_586 : Cond.selects RX8 yX8_far yX8_far ∈ zq_W := zq_inW (zq_t3 (List.mem_of_getElem? (i := 27) rfl)) rfl
theorem zw_587 : Cond.code yX8_far prog_1_method_14_code 4 (some .int) ∈ zq_W := zq_inW (zq_t3 (List.mem_of_getElem? (i := 28) rfl)) rfl
theorem zw_588 : Cond.methodLink RX8 191 yX7_doorsBetween ∈ zq_W := zq_inW (zq_t3 (List.mem_of_getElem? (i := 29) rfl)) rfl
theorem zw_589 : Cond.instanceMethod yX7_doorsBetween ∈ zq_W := zq_inW (zq_t3 (List.mem_of_getElem? (i := 30) rfl)) rfl
theorem zw_590 : Cond.selects RX7 yX7_doorsBetween yX7_doorsBetween ∈ zq_W := zq_inW (zq_t3 (List.mem_of_getElem? (i := 31) rfl)) rfl
theorem zw_591 : Cond.code yX7_doorsBetween prog_9_method_12_code 6 (some .int) ∈ zq_W := zq_inW (zq_t3 (List.mem_of_getElem? (i := 32) rfl)) rfl
theorem zw_592 : Cond.methodLink RL 69 yX8_meet ∈ zq_W := zq_inW (zq_t3 (List.mem_of_getElem? (i := 33) rfl)) rfl
theorem zw_593 : Cond.instanceMethod yX8_meet ∈ zq_W := zq_inW (zq_t3 (List.mem_of_getElem? (i := 34) rfl)) rfl
theorem zw_594 : Cond.selects RX8 yX8_meet yX8_meet ∈ zq_W := zq_inW (zq_t3 (List.mem_of_getElem? (i := 35) rfl)) rfl
theorem zw_595 : Cond.code yX8_meet prog_1_method_15_code 5 (some .int) ∈ zq_W := zq_inW (zq_t3 (List.mem_of_getElem? (i := 36) rfl)) rfl
theorem zw_596 : Cond.methodLink RL 73 yX8_empty ∈ zq_W := zq_inW (zq_t3 (List.mem_of_getElem? (i := 37) rfl)) rfl
theorem zw_597 : Cond.instanceMethod yX8_empty ∈ zq_W := zq_inW (zq_t3 (List.mem_of_getElem? (i := 38) rfl)) rfl
theorem zw_598 : Cond.selects RX8 yX8_empty yX8_empty ∈ zq_W := zq_inW (zq_t3 (List.mem_of_getElem? (i := 39) rfl)) rfl
theorem zw_599 : Cond.code yX8_empty prog_1_method_16_code 2 (some .int) ∈ zq_W := zq_inW (zq_t3 (List.mem_of_getElem? (i := 40) rfl)) rfl
theorem zw_600 : Cond.methodLink RX8 194 yX7_emptyHours ∈ zq_W := zq_inW (zq_t3 (List.mem_of_getElem? (i := 41) rfl)) rfl
theorem zw_601 : Cond.instanceMethod yX7_emptyHours ∈ zq_W := zq_inW (zq_t3 (List.mem_of_getElem? (i := 42) rfl)) rfl
theorem zw_602 : Cond.selects RX7 yX7_emptyHours yX7_emptyHours ∈ zq_W := zq_inW (zq_t3 (List.mem_of_getElem? (i := 43) rfl)) rfl
theorem zw_603 : Cond.code yX7_emptyHours prog_9_method_13_code 4 (some .int) ∈ zq_W := zq_inW (zq_t3 (List.mem_of_getElem? (i := 44) rfl)) rfl
theorem zw_604 : Cond.methodLink RX7 128 yX7_whoIn ∈ zq_W := zq_inW (zq_t3 (List.mem_of_getElem? (i := 45) rfl)) rfl
theorem zw_605 : Cond.methodLink RL 77 yX8_found ∈ zq_W := zq_inW (zq_t3 (List.mem_of_getElem? (i := 46) rfl)) rfl
theorem zw_606 : Cond.instanceMethod yX8_found ∈ zq_W := zq_inW (zq_t3 (List.mem_of_getElem? (i := 47) rfl)) rfl
theorem zw_607 : Cond.selects RX8 yX8_found yX8_found ∈ zq_W := zq_inW (zq_t3 (List.mem_of_getElem? (i := 48) rfl)) rfl
theorem zw_608 : Cond.code yX8_found prog_1_method_17_code 5 (some .int) ∈ zq_W := zq_inW (zq_t3 (List.mem_of_getElem? (i := 49) rfl)) rfl
theorem zw_609 : Cond.methodLink RX8 197 yX7_findingHour ∈ zq_W := zq_inW (zq_t3 (List.mem_of_getElem? (i := 50) rfl)) rfl
theorem zw_610 : Cond.instanceMethod yX7_findingHour ∈ zq_W := zq_inW (zq_t3 (List.mem_of_getElem? (i := 51) rfl)) rfl
theorem zw_611 : Cond.selects RX7 yX7_findingHour yX7_findingHour ∈ zq_W := zq_inW (zq_t3 (List.mem_of_getElem? (i := 52) rfl)) rfl
theorem zw_612 : Cond.code yX7_findingHour prog_9_method_18_code 2 (some .int) ∈ zq_W := zq_inW (zq_t3 (List.mem_of_getElem? (i := 53) rfl)) rfl
theorem zw_613 : Cond.methodLink RX7 142 yX7_finder ∈ zq_W := zq_inW (zq_t3 (List.mem_of_getElem? (i := 54) rfl)) rfl
theorem zw_614 : Cond.instanceMethod yX7_finder ∈ zq_W := zq_inW (zq_t3 (List.mem_of_getElem? (i := 55) rfl)) rfl
theorem zw_615 : Cond.selects RX7 yX7_finder yX7_finder ∈ zq_W := zq_inW (zq_t3 (List.mem_of_getElem? (i := 56) rfl)) rfl
theorem zw_616 : Cond.code yX7_finder prog_9_method_19_code 3 (some .int) ∈ zq_W := zq_inW (zq_t3 (List.mem_of_getElem? (i := 57) rfl)) rfl
theorem zw_617 : Cond.methodLink RX7 145 yX7_childWith ∈ zq_W := zq_inW (zq_t3 (List.mem_of_getElem? (i := 58) rfl)) rfl
theorem zw_618 : Cond.instanceMethod yX7_childWith ∈ zq_W := zq_inW (zq_t3 (List.mem_of_getElem? (i := 59) rfl)) rfl
theorem zw_619 : Cond.selects RX7 yX7_childWith yX7_childWith ∈ zq_W := zq_inW (zq_t3 (List.mem_of_getElem? (i := 60) rfl)) rfl
theorem zw_620 : Cond.code yX7_childWith prog_9_method_20_code 4 (some .int) ∈ zq_W := zq_inW (zq_t3 (List.mem_of_getElem? (i := 61) rfl)) rfl
theorem zw_621 : Cond.methodLink RX8 201 yX7_finder ∈ zq_W := zq_inW (zq_t3 (List.mem_of_getElem? (i := 62) rfl)) rfl
theorem zw_622 : Cond.methodLink RX8 204 yX7_childWith ∈ zq_W := zq_inW (zq_t3 (List.mem_of_getElem? (i := 63) rfl)) rfl
theorem zw_623 : Cond.methodLink RL 81 yX8_crowd ∈ zq_W := zq_inW (zq_t3 (List.mem_of_getElem? (i := 64) rfl)) rfl
theorem zw_624 : Cond.instanceMethod yX8_crowd ∈ zq_W := zq_inW (zq_t3 (List.mem_of_getElem? (i := 65) rfl)) rfl
theorem zw_625 : Cond.selects RX8 yX8_crowd yX8_crowd ∈ zq_W := zq_inW (zq_t3 (List.mem_of_getElem? (i := 66) rfl)) rfl
theorem zw_626 : Cond.code yX8_crowd prog_1_method_18_code 5 (some .int) ∈ zq_W := zq_inW (zq_t3 (List.mem_of_getElem? (i := 67) rfl)) rfl
theorem zw_627 : Cond.methodLink RX8 207 yX7_mostIn ∈ zq_W := zq_inW (zq_t3 (List.mem_of_getElem? (i := 68) rfl)) rfl
theorem zw_628 : Cond.instanceMethod yX7_mostIn ∈ zq_W := zq_inW (zq_t3 (List.mem_of_getElem? (i := 69) rfl)) rfl
theorem zw_629 : Cond.selects RX7 yX7_mostIn yX7_mostIn ∈ zq_W := zq_inW (zq_t3 (List.mem_of_getElem? (i := 70) rfl)) rfl
theorem zw_630 : Cond.code yX7_mostIn prog_9_method_16_code 4 (some .int) ∈ zq_W := zq_inW (zq_t3 (List.mem_of_getElem? (i := 71) rfl)) rfl
theorem zw_631 : Cond.methodLink RX7 134 yJ6_bitCount_0f7a4 ∈ zq_W := zq_inW (zq_t3 (List.mem_of_getElem? (i := 72) rfl)) rfl
theorem zw_632 : Cond.static yJ6_bitCount_0f7a4 ∈ zq_W := zq_inW (zq_t3 (List.mem_of_getElem? (i := 73) rfl)) rfl
theorem zw_633 : Cond.code yJ6_bitCount_0f7a4 prog_12_method_49_code 1 (some .int) ∈ zq_W := zq_inW (zq_t3 (List.mem_of_getElem? (i := 74) rfl)) rfl
theorem zw_634 : Cond.constant RJ6 265 (1431655765) ∈ zq_W := zq_inW (zq_t3 (List.mem_of_getElem? (i := 75) rfl)) rfl
theorem zw_635 : Cond.constant RJ6 266 (858993459) ∈ zq_W := zq_inW (zq_t3 (List.mem_of_getElem? (i := 76) rfl)) rfl
theorem zw_636 : Cond.constant RJ6 267 (252645135) ∈ zq_W := zq_inW (zq_t3 (List.mem_of_getElem? (i := 77) rfl)) rfl
theorem zw_637 : Cond.methodLink RX7 139 yJ9_max_7cf53 ∈ zq_W := zq_inW (zq_t3 (List.mem_of_getElem? (i := 78) rfl)) rfl
theorem zw_638 : Cond.methodLink RX8 210 yX7_firstRoomOf ∈ zq_W := zq_inW (zq_t3 (List.mem_of_getElem? (i := 79) rfl)) rfl
theorem zw_639 : Cond.instanceMethod yX7_firstRoomOf ∈ zq_W := zq_inW (zq_t3 (List.mem_of_getElem? (i := 80) rfl)) rfl
theorem zw_640 : Cond.selects RX7 yX7_firstRoomOf yX7_firstRoomOf ∈ zq_W := zq_inW (zq_t3 (List.mem_of_getElem? (i := 81) rfl)) rfl
theorem zw_641 : Cond.code yX7_firstRoomOf prog_9_method_17_code 4 (some .int) ∈ zq_W := zq_inW (zq_t3 (List.mem_of_getElem? (i := 82) rfl)) rfl
theorem zw_642 : Cond.methodLink RL 85 yX8_alone ∈ zq_W := zq_inW (zq_t3 (List.mem_of_getElem? (i := 83) rfl)) rfl
theorem zw_643 : Cond.instanceMethod yX8_alone ∈ zq_W := zq_inW (zq_t3 (List.mem_of_getElem? (i := 84) rfl)) rfl
theorem zw_644 : Cond.selects RX8 yX8_alone yX8_alone ∈ zq_W := zq_inW (zq_t3 (List.mem_of_getElem? (i := 85) rfl)) rfl
theorem zw_645 : Cond.code yX8_alone prog_1_method_19_code 1 (some .int) ∈ zq_W := zq_inW (zq_t3 (List.mem_of_getElem? (i := 86) rfl)) rfl
theorem zw_646 : Cond.methodLink RX8 213 yX7_aloneBehind ∈ zq_W := zq_inW (zq_t3 (List.mem_of_getElem? (i := 87) rfl)) rfl
theorem zw_647 : Cond.instanceMethod yX7_aloneBehind ∈ zq_W := zq_inW (zq_t3 (List.mem_of_getElem? (i := 88) rfl)) rfl
theorem zw_648 : Cond.selects RX7 yX7_aloneBehind yX7_aloneBehind ∈ zq_W := zq_inW (zq_t3 (List.mem_of_getElem? (i := 89) rfl)) rfl
theorem zw_649 : Cond.code yX7_aloneBehind prog_9_method_14_code 6 (some .int) ∈ zq_W := zq_inW (zq_t3 (List.mem_of_getElem? (i := 90) rfl)) rfl
theorem zw_650 : Cond.methodLink RL 89 yX8_sleep ∈ zq_W := zq_inW (zq_t3 (List.mem_of_getElem? (i := 91) rfl)) rfl
theorem zw_651 : Cond.instanceMethod yX8_sleep ∈ zq_W := zq_inW (zq_t3 (List.mem_of_getElem? (i := 92) rfl)) rfl
theorem zw_652 : Cond.selects RX8 yX8_sleep yX8_sleep ∈ zq_W := zq_inW (zq_t3 (List.mem_of_getElem? (i := 93) rfl)) rfl
theorem zw_653 : Cond.code yX8_sleep prog_1_method_20_code 7 (some .int) ∈ zq_W := zq_inW (zq_t3 (List.mem_of_getElem? (i := 94) rfl)) rfl
theorem zw_654 : Cond.methodLink RX8 216 yX7_suppose ∈ zq_W := zq_inW (zq_t3 (List.mem_of_getElem? (i := 95) rfl)) rfl
theorem zw_655 : Cond.instanceMethod yX7_suppose ∈ zq_W := zq_inW (zq_t3 (List.mem_of_getElem? (i := 96) rfl)) rfl
theorem zw_656 : Cond.selects RX7 yX7_suppose yX7_suppose ∈ zq_W := zq_inW (zq_t3 (List.mem_of_getElem? (i := 97) rfl)) rfl
theorem zw_657 : Cond.code yX7_suppose prog_9_method_3_code 4 none ∈ zq_W := zq_inW (zq_t3 (List.mem_of_getElem? (i := 98) rfl)) rfl
theorem zw_658 : Cond.methodLink RX8 223 yX7_hoursAlone ∈ zq_W := zq_inW (zq_t3 (List.mem_of_getElem? (i := 99) rfl)) rfl
theorem zw_659 : Cond.instanceMethod yX7_hoursAlone ∈ zq_W := zq_inW (zq_t3 (List.mem_of_getElem? (i := 100) rfl)) rfl
theorem zw_660 : Cond.selects RX7 yX7_hoursAlone yX7_hoursAlone ∈ zq_W := zq_inW (zq_t3 (List.mem_of_getElem? (i := 101) rfl)) rfl
theorem zw_661 : Cond.code yX7_hoursAlone prog_9_method_15_code 4 (some .int) ∈ zq_W := zq_inW (zq_t3 (List.mem_of_getElem? (i := 102) rfl)) rfl
theorem zw_662 : Cond.methodLink RX7 131 yX7_aloneBehind ∈ zq_W := zq_inW (zq_t3 (List.mem_of_getElem? (i := 103) rfl)) rfl
theorem zw_663 : Cond.methodLink RL 93 yX8_nice ∈ zq_W := zq_inW (zq_t3 (List.mem_of_getElem? (i := 104) rfl)) rfl
theorem zw_664 : Cond.instanceMethod yX8_nice ∈ zq_W := zq_inW (zq_t3 (List.mem_of_getElem? (i := 105) rfl)) rfl
theorem zw_665 : Cond.selects RX8 yX8_nice yX8_nice ∈ zq_W := zq_inW (zq_t3 (List.mem_of_getElem? (i := 106) rfl)) rfl
theorem zw_666 : Cond.code yX8_nice prog_1_method_21_code 7 (some .int) ∈ zq_W := zq_inW (zq_t3 (List.mem_of_getElem? (i := 107) rfl)) rfl
theorem zw_667 : Cond.methodLink RX8 226 yX1_become ∈ zq_W := zq_inW (zq_t3 (List.mem_of_getElem? (i := 108) rfl)) rfl
theorem zw_668 : Cond.instanceMethod yX1_become ∈ zq_W := zq_inW (zq_t3 (List.mem_of_getElem? (i := 109) rfl)) rfl
theorem zw_669 : Cond.selects RX1 yX1_become yX1_become ∈ zq_W := zq_inW (zq_t3 (List.mem_of_getElem? (i := 110) rfl)) rfl
theorem zw_670 : Cond.code yX1_become prog_3_method_3_code 3 none ∈ zq_W := zq_inW (zq_t3 (List.mem_of_getElem? (i := 111) rfl)) rfl
theorem zw_671 : Cond.methodLink RX1 25 yX1_add ∈ zq_W := zq_inW (zq_t3 (List.mem_of_getElem? (i := 112) rfl)) rfl
theorem zw_672 : Cond.methodLink RL 97 yX8_lens ∈ zq_W := zq_inW (zq_t3 (List.mem_of_getElem? (i := 113) rfl)) rfl
theorem zw_673 : Cond.instanceMethod yX8_lens ∈ zq_W := zq_inW (zq_t3 (List.mem_of_getElem? (i := 114) rfl)) rfl
theorem zw_674 : Cond.selects RX8 yX8_lens yX8_lens ∈ zq_W := zq_inW (zq_t3 (List.mem_of_getElem? (i := 115) rfl)) rfl
theorem zw_675 : Cond.code yX8_lens prog_1_method_22_code 6 (some .int) ∈ zq_W := zq_inW (zq_t3 (List.mem_of_getElem? (i := 116) rfl)) rfl
theorem zw_676 : Cond.methodLink RL 101 yX8_spare ∈ zq_W := zq_inW (zq_t3 (List.mem_of_getElem? (i := 117) rfl)) rfl
theorem zw_677 : Cond.instanceMethod yX8_spare ∈ zq_W := zq_inW (zq_t3 (List.mem_of_getElem? (i := 118) rfl)) rfl
theorem zw_678 : Cond.selects RX8 yX8_spare yX8_spare ∈ zq_W := zq_inW (zq_t3 (List.mem_of_getElem? (i := 119) rfl)) rfl
theorem zw_679 : Cond.code yX8_spare prog_1_method_23_code 3 (some .int) ∈ zq_W := zq_inW (zq_t3 (List.mem_of_getElem? (i := 120) rfl)) rfl
theorem zw_680 : Cond.methodLink RX8 230 yX8_sparedRow ∈ zq_W := zq_inW (zq_t3 (List.mem_of_getElem? (i := 121) rfl)) rfl
theorem zw_682 : Cond.instanceMethod yX8_sparedRow ∈ zq_W := zq_inW (zq_t3 (List.mem_of_getElem? (i := 123) rfl)) rfl
theorem zw_683 : Cond.code yX8_sparedRow prog_1_method_54_code 3 (some .int) ∈ zq_W := zq_inW (zq_t3 (List.mem_of_getElem? (i := 124) rfl)) rfl
theorem zw_684 : Cond.methodLink RX8 385 yX8_nobodyAloneWithout ∈ zq_W := zq_inW (zq_t3 (List.mem_of_getElem? (i := 125) rfl)) rfl
theorem zw_686 : Cond.instanceMethod yX8_nobodyAloneWithout ∈ zq_W := zq_inW (zq_t3 (List.mem_of_getElem? (i := 127) rfl)) rfl
theorem zw_687 : Cond.code yX8_nobodyAloneWithout prog_1_method_55_code 2 (some .boolean) ∈ zq_W := zq_inW (zq_t3 (List.mem_of_getElem? (i := 128) rfl)) rfl
theorem zw_688 : Cond.methodLink RX8 233 yJ6_bitCount_0f7a4 ∈ zq_W := zq_inW (zq_t3 (List.mem_of_getElem? (i := 129) rfl)) rfl
theorem zw_689 : Cond.methodLink RX8 238 yX8_placeOfBit ∈ zq_W := zq_inW (zq_t3 (List.mem_of_getElem? (i := 130) rfl)) rfl
theorem zw_690 : Cond.static yX8_placeOfBit ∈ zq_W := zq_inW (zq_t3 (List.mem_of_getElem? (i := 131) rfl)) rfl
theorem zw_691 : Cond.code yX8_placeOfBit prog_1_method_56_code 4 (some .int) ∈ zq_W := zq_inW (zq_t3 (List.mem_of_getElem? (i := 132) rfl)) rfl
theorem zw_692 : Cond.methodLink RL 105 yX8_seen ∈ zq_W := zq_inW (zq_t3 (List.mem_of_getElem? (i := 133) rfl)) rfl
theorem zw_693 : Cond.instanceMethod yX8_seen ∈ zq_W := zq_inW (zq_t3 (List.mem_of_getElem? (i := 134) rfl)) rfl
theorem zw_694 : Cond.selects RX8 yX8_seen yX8_seen ∈ zq_W := zq_inW (zq_t3 (List.mem_of_getElem? (i := 135) rfl)) rfl
theorem zw_695 : Cond.code yX8_seen prog_1_method_24_code 4 (some .int) ∈ zq_W := zq_inW (zq_t3 (List.mem_of_getElem? (i := 136) rfl)) rfl
theorem zw_696 : Cond.methodLink RX8 242 yX5_add ∈ zq_W := zq_inW (zq_t3 (List.mem_of_getElem? (i := 137) rfl)) rfl
theorem zw_697 : Cond.instanceMethod yX5_add ∈ zq_W := zq_inW (zq_t3 (List.mem_of_getElem? (i := 138) rfl)) rfl
theorem zw_698 : Cond.selects RX5 yX5_add yX5_add ∈ zq_W := zq_inW (zq_t3 (List.mem_of_getElem? (i := 139) rfl)) rfl
theorem zw_699 : Cond.code yX5_add prog_7_method_2_code 4 none ∈ zq_W := zq_inW (zq_t3 (List.mem_of_getElem? (i := 140) rfl)) rfl
theorem zw_700 : Cond.methodLink RL 109 yX8_forget ∈ zq_W := zq_inW (zq_t3 (List.mem_of_getElem? (i := 141) rfl)) rfl
theorem zw_701 : Cond.instanceMethod yX8_forget ∈ zq_W := zq_inW (zq_t3 (List.mem_of_getElem? (i := 142) rfl)) rfl
theorem zw_702 : Cond.selects RX8 yX8_forget yX8_forget ∈ zq_W := zq_inW (zq_t3 (List.mem_of_getElem? (i := 143) rfl)) rfl
theorem zw_703 : Cond.code yX8_forget prog_1_method_25_code 2 (some .int) ∈ zq_W := zq_inW (zq_t3 (List.mem_of_getElem? (i := 144) rfl)) rfl
theorem zw_704 : Cond.methodLink RL 113 yX8_never ∈ zq_W := zq_inW (zq_t3 (List.mem_of_getElem? (i := 145) rfl)) rfl
theorem zw_705 : Cond.instanceMethod yX8_never ∈ zq_W := zq_inW (zq_t3 (List.mem_of_getElem? (i := 146) rfl)) rfl
theorem zw_706 : Cond.selects RX8 yX8_never yX8_never ∈ zq_W := zq_inW (zq_t3 (List.mem_of_getElem? (i := 147) rfl)) rfl
theorem zw_707 : Cond.code yX8_never prog_1_method_26_code 3 (some .int) ∈ zq_W := zq_inW (zq_t3 (List.mem_of_getElem? (i := 148) rfl)) rfl
theorem zw_708 : Cond.methodLink RX8 243 yX5_allIn ∈ zq_W := zq_inW (zq_t3 (List.mem_of_getElem? (i := 149) rfl)) rfl
theorem zw_709 : Cond.instanceMethod yX5_allIn ∈ zq_W := zq_inW (zq_t3 (List.mem_of_getElem? (i := 150) rfl)) rfl
theorem zw_710 : Cond.selects RX5 yX5_allIn yX5_allIn ∈ zq_W := zq_inW (zq_t3 (List.mem_of_getElem? (i := 151) rfl)) rfl
theorem zw_711 : Cond.code yX5_allIn prog_7_method_3_code 4 (some .boolean) ∈ zq_W := zq_inW (zq_t3 (List.mem_of_getElem? (i := 152) rfl)) rfl
theorem zw_712 : Cond.methodLink RX5 36 yX7_roomOf ∈ zq_W := zq_inW (zq_t3 (List.mem_of_getElem? (i := 153) rfl)) rfl
theorem zw_713 : Cond.methodLink RL 117 yX8_was ∈ zq_W := zq_inW (zq_t3 (List.mem_of_getElem? (i := 154) rfl)) rfl
theorem zw_714 : Cond.instanceMethod yX8_was ∈ zq_W := zq_inW (zq_t3 (List.mem_of_getElem? (i := 155) rfl)) rfl
theorem zw_715 : Cond.selects RX8 yX8_was yX8_was ∈ zq_W := zq_inW (zq_t3 (List.mem_of_getElem? (i := 156) rfl)) rfl
theorem zw_716 : Cond.code yX8_was prog_1_method_27_code 3 (some .int) ∈ zq_W := zq_inW (zq_t3 (List.mem_of_getElem? (i := 157) rfl)) rfl
theorem zw_717 : Cond.methodLink RX8 247 yX8_sortsThatFit ∈ zq_W := zq_inW (zq_t3 (List.mem_of_getElem? (i := 158) rfl)) rfl
theorem zw_719 : Cond.instanceMethod yX8_sortsThatFit ∈ zq_W := zq_inW (zq_t3 (List.mem_of_getElem? (i := 160) rfl)) rfl
theorem zw_720 : Cond.code yX8_sortsThatFit prog_1_method_57_code 4 (some .int) ∈ zq_W := zq_inW (zq_t3 (List.mem_of_getElem? (i := 161) rfl)) rfl
theorem zw_721 : Cond.methodLink RX8 250 yX8_bedsThatFit ∈ zq_W := zq_inW (zq_t3 (List.mem_of_getElem? (i := 162) rfl)) rfl
theorem zw_723 : Cond.instanceMethod yX8_bedsThatFit ∈ zq_W := zq_inW (zq_t3 (List.mem_of_getElem? (i := 164) rfl)) rfl
theorem zw_724 : Cond.code yX8_bedsThatFit prog_1_method_58_code 5 (some .int) ∈ zq_W := zq_inW (zq_t3 (List.mem_of_getElem? (i := 165) rfl)) rfl
theorem zw_725 : Cond.methodLink RL 121 yX8_ask ∈ zq_W := zq_inW (zq_t3 (List.mem_of_getElem? (i := 166) rfl)) rfl
theorem zw_726 : Cond.instanceMethod yX8_ask ∈ zq_W := zq_inW (zq_t3 (List.mem_of_getElem? (i := 167) rfl)) rfl
theorem zw_727 : Cond.selects RX8 yX8_ask yX8_ask ∈ zq_W := zq_inW (zq_t3 (List.mem_of_getElem? (i := 168) rfl)) rfl
theorem zw_728 : Cond.code yX8_ask prog_1_method_28_code 7 (some .int) ∈ zq_W := zq_inW (zq_t3 (List.mem_of_getElem? (i := 169) rfl)) rfl
theorem zw_729 : Cond.methodLink RX8 253 yX8_mostBedsInOneRoom ∈ zq_W := zq_inW (zq_t3 (List.mem_of_getElem? (i := 170) rfl)) rfl
theorem zw_731 : Cond.instanceMethod yX8_mostBedsInOneRoom ∈ zq_W := zq_inW (zq_t3 (List.mem_of_getElem? (i := 172) rfl)) rfl
theorem zw_732 : Cond.code yX8_mostBedsInOneRoom prog_1_method_59_code 6 (some .int) ∈ zq_W := zq_inW (zq_t3 (List.mem_of_getElem? (i := 173) rfl)) rfl
theorem zw_733 : Cond.methodLink RX8 388 yJ7_fill_53178 ∈ zq_W := zq_inW (zq_t3 (List.mem_of_getElem? (i := 174) rfl)) rfl
theorem zw_734 : Cond.methodLink RX8 394 yJ9_max_7cf53 ∈ zq_W := zq_inW (zq_t3 (List.mem_of_getElem? (i := 175) rfl)) rfl
theorem zw_735 : Cond.methodLink RL 125 yX8_chance ∈ zq_W := zq_inW (zq_t3 (List.mem_of_getElem? (i := 176) rfl)) rfl
theorem zw_736 : Cond.instanceMethod yX8_chance ∈ zq_W := zq_inW (zq_t3 (List.mem_of_getElem? (i := 177) rfl)) rfl
theorem zw_737 : Cond.selects RX8 yX8_chance yX8_chance ∈ zq_W := zq_inW (zq_t3 (List.mem_of_getElem? (i := 178) rfl)) rfl
theorem zw_738 : Cond.code yX8_chance prog_1_method_29_code 10 (some .long) ∈ zq_W := zq_inW (zq_t3 (List.mem_of_getElem? (i := 179) rfl)) rfl
theorem zw_739 : Cond.constantLong RX8 258 (-9223372036854775806) ∈ zq_W := zq_inW (zq_t3 (List.mem_of_getElem? (i := 180) rfl)) rfl
theorem zw_740 : Cond.methodLink RX8 260 yX8_weighOdds ∈ zq_W := zq_inW (zq_t3 (List.mem_of_getElem? (i := 181) rfl)) rfl
theorem zw_742 : Cond.instanceMethod yX8_weighOdds ∈ zq_W := zq_inW (zq_t3 (List.mem_of_getElem? (i := 183) rfl)) rfl
theorem zw_743 : Cond.code yX8_weighOdds prog_1_method_60_code 6 none ∈ zq_W := zq_inW (zq_t3 (List.mem_of_getElem? (i := 184) rfl)) rfl
theorem zw_744 : Cond.methodLink RX8 397 yJ7_fill_d0a16 ∈ zq_W := zq_inW (zq_t3 (List.mem_of_getElem? (i := 185) rfl)) rfl
theorem zw_745 : Cond.static yJ7_fill_d0a16 ∈ zq_W := zq_inW (zq_t3 (List.mem_of_getElem? (i := 186) rfl)) rfl
theorem zw_746 : Cond.code yJ7_fill_d0a16 prog_15_method_101_code 5 none ∈ zq_W := zq_inW (zq_t3 (List.mem_of_getElem? (i := 187) rfl)) rfl
theorem zw_747 : Cond.methodLink RX8 400 yX8_weightOf ∈ zq_W := zq_inW (zq_t3 (List.mem_of_getElem? (i := 188) rfl)) rfl
theorem zw_749 : Cond.instanceMethod yX8_weightOf ∈ zq_W := zq_inW (zq_t3 (List.mem_of_getElem? (i := 190) rfl)) rfl
theorem zw_750 : Cond.code yX8_weightOf prog_1_method_61_code 6 (some .long) ∈ zq_W := zq_inW (zq_t3 (List.mem_of_getElem? (i := 191) rfl)) rfl
theorem zw_751 : Cond.methodLink RX8 404 yX8_addOdds ∈ zq_W := zq_inW (zq_t3 (List.mem_of_getElem? (i := 192) rfl)) rfl
theorem zw_753 : Cond.instanceMethod yX8_addOdds ∈ zq_W := zq_inW (zq_t3 (List.mem_of_getElem? (i := 194) rfl)) rfl
theorem zw_754 : Cond.code yX8_addOdds prog_1_method_62_code 5 none ∈ zq_W := zq_inW (zq_t3 (List.mem_of_getElem? (i := 195) rfl)) rfl
theorem zw_755 : Cond.methodLink RL 130 yX8_weeks ∈ zq_W := zq_inW (zq_t3 (List.mem_of_getElem? (i := 196) rfl)) rfl
theorem zw_756 : Cond.instanceMethod yX8_weeks ∈ zq_W := zq_inW (zq_t3 (List.mem_of_getElem? (i := 197) rfl)) rfl
theorem zw_757 : Cond.selects RX8 yX8_weeks yX8_weeks ∈ zq_W := zq_inW (zq_t3 (List.mem_of_getElem? (i := 198) rfl)) rfl
theorem zw_758 : Cond.code yX8_weeks prog_1_method_30_code 7 (some .int) ∈ zq_W := zq_inW (zq_t3 (List.mem_of_getElem? (i := 199) rfl)) rfl
theorem zw_759 : Cond.methodLink RX8 267 yX2_draw ∈ zq_W := zq_inW (zq_t3 (List.mem_of_getElem? (i := 200) rfl)) rfl
theorem zw_760 : Cond.instanceMethod yX2_draw ∈ zq_W := zq_inW (zq_t3 (List.mem_of_getElem? (i := 201) rfl)) rfl
theorem zw_761 : Cond.selects RX2 yX2_draw yX2_draw ∈ zq_W := zq_inW (zq_t3 (List.mem_of_getElem? (i := 202) rfl)) rfl
theorem zw_762 : Cond.code yX2_draw prog_4_method_2_code 2 (some .int) ∈ zq_W := zq_inW (zq_t3 (List.mem_of_getElem? (i := 203) rfl)) rfl
theorem zw_763 : Cond.constant RX2 7 (1103515245) ∈ zq_W := zq_inW (zq_t3 (List.mem_of_getElem? (i := 204) rfl)) rfl
theorem zw_764 : Cond.methodLink RL 134 yX8_sheet ∈ zq_W := zq_inW (zq_t3 (List.mem_of_getElem? (i := 205) rfl)) rfl
theorem zw_765 : Cond.instanceMethod yX8_sheet ∈ zq_W := zq_inW (zq_t3 (List.mem_of_getElem? (i := 206) rfl)) rfl
theorem zw_766 : Cond.selects RX8 yX8_sheet yX8_sheet ∈ zq_W := zq_inW (zq_t3 (List.mem_of_getElem? (i := 207) rfl)) rfl
theorem zw_767 : Cond.code yX8_sheet prog_1_method_31_code 4 (some .int) ∈ zq_W := zq_inW (zq_t3 (List.mem_of_getElem? (i := 208) rfl)) rfl
theorem zw_768 : Cond.methodLink RX8 270 yX8_isForm ∈ zq_W := zq_inW (zq_t3 (List.mem_of_getElem? (i := 209) rfl)) rfl
theorem zw_769 : Cond.static yX8_isForm ∈ zq_W := zq_inW (zq_t3 (List.mem_of_getElem? (i := 210) rfl)) rfl
theorem zw_770 : Cond.code yX8_isForm prog_1_method_46_code 1 (some .boolean) ∈ zq_W := zq_inW (zq_t3 (List.mem_of_getElem? (i := 211) rfl)) rfl
theorem zw_771 : Cond.methodLink RX8 273 yX4_become ∈ zq_W := zq_inW (zq_t3 (List.mem_of_getElem? (i := 212) rfl)) rfl
theorem zw_772 : Cond.instanceMethod yX4_become ∈ zq_W := zq_inW (zq_t3 (List.mem_of_getElem? (i := 213) rfl)) rfl
theorem zw_773 : Cond.selects RX4 yX4_become yX4_become ∈ zq_W := zq_inW (zq_t3 (List.mem_of_getElem? (i := 214) rfl)) rfl
theorem zw_774 : Cond.code yX4_become prog_6_method_3_code 3 none ∈ zq_W := zq_inW (zq_t3 (List.mem_of_getElem? (i := 215) rfl)) rfl
theorem zw_775 : Cond.methodLink RX4 22 yJ7_fill_53178 ∈ zq_W := zq_inW (zq_t3 (List.mem_of_getElem? (i := 216) rfl)) rfl
theorem zw_776 : Cond.methodLink RL 138 yX8_lose ∈ zq_W := zq_inW (zq_t3 (List.mem_of_getElem? (i := 217) rfl)) rfl
theorem zw_777 : Cond.instanceMethod yX8_lose ∈ zq_W := zq_inW (zq_t3 (List.mem_of_getElem? (i := 218) rfl)) rfl
theorem zw_778 : Cond.selects RX8 yX8_lose yX8_lose ∈ zq_W := zq_inW (zq_t3 (List.mem_of_getElem? (i := 219) rfl)) rfl
theorem zw_779 : Cond.code yX8_lose prog_1_method_32_code 4 (some .int) ∈ zq_W := zq_inW (zq_t3 (List.mem_of_getElem? (i := 220) rfl)) rfl
theorem zw_780 : Cond.methodLink RL 142 yX8_put ∈ zq_W := zq_inW (zq_t3 (List.mem_of_getElem? (i := 221) rfl)) rfl
theorem zw_781 : Cond.instanceMethod yX8_put ∈ zq_W := zq_inW (zq_t3 (List.mem_of_getElem? (i := 222) rfl)) rfl
theorem zw_782 : Cond.selects RX8 yX8_put yX8_put ∈ zq_W := zq_inW (zq_t3 (List.mem_of_getElem? (i := 223) rfl)) rfl
theorem zw_783 : Cond.code yX8_put prog_1_method_33_code 6 (some .int) ∈ zq_W := zq_inW (zq_t3 (List.mem_of_getElem? (i := 224) rfl)) rfl
theorem zw_784 : Cond.methodLink RX8 275 yX8_refusalOfItem ∈ zq_W := zq_inW (zq_t3 (List.mem_of_getElem? (i := 225) rfl)) rfl
theorem zw_786 : Cond.instanceMethod yX8_refusalOfItem ∈ zq_W := zq_inW (zq_t3 (List.mem_of_getElem? (i := 227) rfl)) rfl
theorem zw_787 : Cond.code yX8_refusalOfItem prog_1_method_64_code 5 (some .int) ∈ zq_W := zq_inW (zq_t3 (List.mem_of_getElem? (i := 228) rfl)) rfl
theorem zw_788 : Cond.methodLink RX8 285 yX4_holds ∈ zq_W := zq_inW (zq_t3 (List.mem_of_getElem? (i := 229) rfl)) rfl
theorem zw_789 : Cond.instanceMethod yX4_holds ∈ zq_W := zq_inW (zq_t3 (List.mem_of_getElem? (i := 230) rfl)) rfl
theorem zw_790 : Cond.selects RX4 yX4_holds yX4_holds ∈ zq_W := zq_inW (zq_t3 (List.mem_of_getElem? (i := 231) rfl)) rfl
theorem zw_791 : Cond.code yX4_holds prog_6_method_4_code 3 (some .boolean) ∈ zq_W := zq_inW (zq_t3 (List.mem_of_getElem? (i := 232) rfl)) rfl
theorem zw_792 : Cond.methodLink RX8 278 yX4_lay ∈ zq_W := zq_inW (zq_t3 (List.mem_of_getElem? (i := 233) rfl)) rfl
theorem zw_793 : Cond.instanceMethod yX4_lay ∈ zq_W := zq_inW (zq_t3 (List.mem_of_getElem? (i := 234) rfl)) rfl
theorem zw_794 : Cond.selects RX4 yX4_lay yX4_lay ∈ zq_W := zq_inW (zq_t3 (List.mem_of_getElem? (i := 235) rfl)) rfl
theorem zw_795 : Cond.code yX4_lay prog_6_method_5_code 3 none ∈ zq_W := zq_inW (zq_t3 (List.mem_of_getElem? (i := 236) rfl)) rfl
theorem zw_796 : Cond.methodLink RL 147 yX8_get ∈ zq_W := zq_inW (zq_t3 (List.mem_of_getElem? (i := 237) rfl)) rfl
theorem zw_797 : Cond.instanceMethod yX8_get ∈ zq_W := zq_inW (zq_t3 (List.mem_of_getElem? (i := 238) rfl)) rfl
theorem zw_798 : Cond.selects RX8 yX8_get yX8_get ∈ zq_W := zq_inW (zq_t3 (List.mem_of_getElem? (i := 239) rfl)) rfl
theorem zw_799 : Cond.code yX8_get prog_1_method_34_code 4 (some .int) ∈ zq_W := zq_inW (zq_t4 (List.mem_of_getElem? (i := 0) rfl)) rfl
theorem zw_800 : Cond.constant RX8 281 (-2147483648) ∈ zq_W := zq_inW (zq_t4 (List.mem_of_getElem? (i := 1) rfl)) rfl
theorem zw_801 : Cond.methodLink RL 151 yX8_copy ∈ zq_W := zq_inW (zq_t4 (List.mem_of_getElem? (i := 2) rfl)) rfl
theorem zw_802 : Cond.instanceMethod yX8_copy ∈ zq_W := zq_inW (zq_t4 (List.mem_of_getElem? (i := 3) rfl)) rfl
theorem zw_803 : Cond.selects RX8 yX8_copy yX8_copy ∈ zq_W := zq_inW (zq_t4 (List.mem_of_getElem? (i := 4) rfl)) rfl
theorem zw_804 : Cond.code yX8_copy prog_1_method_35_code 8 (some .int) ∈ zq_W := zq_inW (zq_t4 (List.mem_of_getElem? (i := 5) rfl)) rfl
theorem zw_805 : Cond.methodLink RX8 289 ⟨"java/lang/System", "arraycopy", "(Ljava/lang/Object;ILjava/lang/Object;II)V"⟩ ∈ zq_W := zq_inW (zq_t4 (List.mem_of_getElem? (i := 6) rfl)) rfl
theorem zw_806 : Cond.static ⟨"java/lang/System", "arraycopy", "(Ljava/lang/Object;ILjava/lang/Object;II)V"⟩ ∈ zq_W := zq_inW (zq_t4 (List.mem_of_getElem? (i := 7) rfl)) rfl
theorem zw_807 : Cond.native ⟨"java/lang/System", "arraycopy", "(Ljava/lang/Object;ILjava/lang/Object;II)V"⟩ ∈ zq_W := zq_inW (zq_t4 (List.mem_of_getElem? (i := 8) rfl)) rfl
theorem zw_808 : Cond.methodLink RL 156 yX8_write ∈ zq_W := zq_inW (zq_t4 (List.mem_of_getElem? (i := 9) rfl)) rfl
theorem zw_809 : Cond.instanceMethod yX8_write ∈ zq_W := zq_inW (zq_t4 (List.mem_of_getElem? (i := 10) rfl)) rfl
theorem zw_810 : Cond.selects RX8 yX8_write yX8_write ∈ zq_W := zq_inW (zq_t4 (List.mem_of_getElem? (i := 11) rfl)) rfl
theorem zw_811 : Cond.code yX8_write prog_1_method_36_code 7 (some .int) ∈ zq_W := zq_inW (zq_t4 (List.mem_of_getElem? (i := 12) rfl)) rfl
theorem zw_812 : Cond.methodLink RX8 295 yJ9_min_7cf53 ∈ zq_W := zq_inW (zq_t4 (List.mem_of_getElem? (i := 13) rfl)) rfl
theorem zw_813 : Cond.methodLink RL 160 yX8_count ∈ zq_W := zq_inW (zq_t4 (List.mem_of_getElem? (i := 14) rfl)) rfl
theorem zw_814 : Cond.instanceMethod yX8_count ∈ zq_W := zq_inW (zq_t4 (List.mem_of_getElem? (i := 15) rfl)) rfl
theorem zw_815 : Cond.selects RX8 yX8_count yX8_count ∈ zq_W := zq_inW (zq_t4 (List.mem_of_getElem? (i := 16) rfl)) rfl
theorem zw_816 : Cond.code yX8_count prog_1_method_37_code 2 (some .int) ∈ zq_W := zq_inW (zq_t4 (List.mem_of_getElem? (i := 17) rfl)) rfl
theorem zw_817 : Cond.methodLink RX8 303 yX8_alone ∈ zq_W := zq_inW (zq_t4 (List.mem_of_getElem? (i := 18) rfl)) rfl
theorem zw_818 : Cond.methodLink RX8 306 yX8_emptyHoursOfAll ∈ zq_W := zq_inW (zq_t4 (List.mem_of_getElem? (i := 19) rfl)) rfl
theorem zw_820 : Cond.instanceMethod yX8_emptyHoursOfAll ∈ zq_W := zq_inW (zq_t4 (List.mem_of_getElem? (i := 21) rfl)) rfl
theorem zw_821 : Cond.code yX8_emptyHoursOfAll prog_1_method_53_code 4 (some .int) ∈ zq_W := zq_inW (zq_t4 (List.mem_of_getElem? (i := 22) rfl)) rfl
theorem zw_822 : Cond.methodLink RL 164 yX8_digest ∈ zq_W := zq_inW (zq_t4 (List.mem_of_getElem? (i := 23) rfl)) rfl
theorem zw_823 : Cond.instanceMethod yX8_digest ∈ zq_W := zq_inW (zq_t4 (List.mem_of_getElem? (i := 24) rfl)) rfl
theorem zw_824 : Cond.selects RX8 yX8_digest yX8_digest ∈ zq_W := zq_inW (zq_t4 (List.mem_of_getElem? (i := 25) rfl)) rfl
theorem zw_825 : Cond.code yX8_digest prog_1_method_38_code 4 (some .long) ∈ zq_W := zq_inW (zq_t4 (List.mem_of_getElem? (i := 26) rfl)) rfl
theorem zw_826 : Cond.constantLong RX8 309 (17) ∈ zq_W := zq_inW (zq_t4 (List.mem_of_getElem? (i := 27) rfl)) rfl
theorem zw_827 : Cond.methodLink RX8 311 yX8_count ∈ zq_W := zq_inW (zq_t4 (List.mem_of_getElem? (i := 28) rfl)) rfl
theorem zw_828 : Cond.methodLink RX8 314 yX8_mix ∈ zq_W := zq_inW (zq_t4 (List.mem_of_getElem? (i := 29) rfl)) rfl
theorem zw_829 : Cond.static yX8_mix ∈ zq_W := zq_inW (zq_t4 (List.mem_of_getElem? (i := 30) rfl)) rfl
theorem zw_830 : Cond.code yX8_mix prog_1_method_39_code 4 (some .long) ∈ zq_W := zq_inW (zq_t4 (List.mem_of_getElem? (i := 31) rfl)) rfl
theorem zw_831 : Cond.constantLong RX8 358 (31) ∈ zq_W := zq_inW (zq_t4 (List.mem_of_getElem? (i := 32) rfl)) rfl
theorem zw_832 : Cond.methodLink RX8 318 yX8_fault ∈ zq_W := zq_inW (zq_t4 (List.mem_of_getElem? (i := 33) rfl)) rfl
theorem zw_833 : Cond.methodLink RX8 321 yX8_door ∈ zq_W := zq_inW (zq_t4 (List.mem_of_getElem? (i := 34) rfl)) rfl
theorem zw_834 : Cond.methodLink RX8 324 yX8_empty ∈ zq_W := zq_inW (zq_t4 (List.mem_of_getElem? (i := 35) rfl)) rfl
theorem zw_835 : Cond.methodLink RX8 327 yX8_far ∈ zq_W := zq_inW (zq_t4 (List.mem_of_getElem? (i := 36) rfl)) rfl
theorem zw_836 : Cond.methodLink RX8 330 yX8_mixStays ∈ zq_W := zq_inW (zq_t4 (List.mem_of_getElem? (i := 37) rfl)) rfl
theorem zw_838 : Cond.instanceMethod yX8_mixStays ∈ zq_W := zq_inW (zq_t4 (List.mem_of_getElem? (i := 39) rfl)) rfl
theorem zw_839 : Cond.code yX8_mixStays prog_1_method_40_code 7 (some .long) ∈ zq_W := zq_inW (zq_t4 (List.mem_of_getElem? (i := 40) rfl)) rfl
theorem zw_840 : Cond.methodLink RX8 360 yX8_person ∈ zq_W := zq_inW (zq_t4 (List.mem_of_getElem? (i := 41) rfl)) rfl
theorem zw_841 : Cond.methodLink RX8 363 yX8_at ∈ zq_W := zq_inW (zq_t4 (List.mem_of_getElem? (i := 42) rfl)) rfl
theorem zw_842 : Cond.methodLink RX8 334 yX8_mixGuesses ∈ zq_W := zq_inW (zq_t4 (List.mem_of_getElem? (i := 43) rfl)) rfl
theorem zw_844 : Cond.instanceMethod yX8_mixGuesses ∈ zq_W := zq_inW (zq_t4 (List.mem_of_getElem? (i := 45) rfl)) rfl
theorem zw_845 : Cond.code yX8_mixGuesses prog_1_method_41_code 6 (some .long) ∈ zq_W := zq_inW (zq_t4 (List.mem_of_getElem? (i := 46) rfl)) rfl
theorem zw_846 : Cond.methodLink RX8 366 yX8_sleep ∈ zq_W := zq_inW (zq_t4 (List.mem_of_getElem? (i := 47) rfl)) rfl
theorem zw_847 : Cond.methodLink RX8 369 yX8_was ∈ zq_W := zq_inW (zq_t4 (List.mem_of_getElem? (i := 48) rfl)) rfl
theorem zw_848 : Cond.methodLink RX8 372 yX8_ask ∈ zq_W := zq_inW (zq_t4 (List.mem_of_getElem? (i := 49) rfl)) rfl
theorem zw_849 : Cond.methodLink RX8 375 yX8_chance ∈ zq_W := zq_inW (zq_t4 (List.mem_of_getElem? (i := 50) rfl)) rfl
theorem zw_850 : Cond.methodLink RX8 379 yX8_meet ∈ zq_W := zq_inW (zq_t4 (List.mem_of_getElem? (i := 51) rfl)) rfl
theorem zw_851 : Cond.methodLink RX8 337 yX8_found ∈ zq_W := zq_inW (zq_t4 (List.mem_of_getElem? (i := 52) rfl)) rfl
theorem zw_852 : Cond.methodLink RX8 340 yX8_crowd ∈ zq_W := zq_inW (zq_t4 (List.mem_of_getElem? (i := 53) rfl)) rfl
theorem zw_853 : Cond.methodLink RX8 343 yX8_nice ∈ zq_W := zq_inW (zq_t4 (List.mem_of_getElem? (i := 54) rfl)) rfl
theorem zw_854 : Cond.methodLink RX8 346 yX8_lens ∈ zq_W := zq_inW (zq_t4 (List.mem_of_getElem? (i := 55) rfl)) rfl
theorem zw_855 : Cond.methodLink RX8 349 yX8_spare ∈ zq_W := zq_inW (zq_t4 (List.mem_of_getElem? (i := 56) rfl)) rfl
theorem zw_856 : Cond.methodLink RX8 352 yX8_never ∈ zq_W := zq_inW (zq_t4 (List.mem_of_getElem? (i := 57) rfl)) rfl
theorem zw_857 : Cond.methodLink RX8 355 yX8_weeks ∈ zq_W := zq_inW (zq_t4 (List.mem_of_getElem? (i := 58) rfl)) rfl
theorem zw_864 : Cond.fieldLink RX9 7 "DollsAheadModel" "typed" "[I" ∈ zq_W := zq_inW (zq_t4 (List.mem_of_getElem? (i := 65) rfl)) rfl
theorem zw_865 : Cond.fieldLink RX9 13 "DollsAheadModel" "texts" "[I" ∈ zq_W := zq_inW (zq_t4 (List.mem_of_getElem? (i := 66) rfl)) rfl
theorem zw_866 : Cond.fieldLink RX9 110 "DollsAheadModel" "doors" "I" ∈ zq_W := zq_inW (zq_t4 (List.mem_of_getElem? (i := 67) rfl)) rfl
theorem zw_867 : Cond.fieldLink RX9 16 "DollsAheadModel" "ones" "[I" ∈ zq_W := zq_inW (zq_t4 (List.mem_of_getElem? (i := 68) rfl)) rfl
theorem zw_868 : Cond.fieldLink RX9 19 "DollsAheadModel" "others" "[I" ∈ zq_W := zq_inW (zq_t4 (List.mem_of_getElem? (i := 69) rfl)) rfl
theorem zw_869 : Cond.fieldLink RX9 113 "DollsAheadModel" "people" "I" ∈ zq_W := zq_inW (zq_t4 (List.mem_of_getElem? (i := 70) rfl)) rfl
theorem zw_870 : Cond.fieldLink RX9 22 "DollsAheadModel" "sorts" "[I" ∈ zq_W := zq_inW (zq_t4 (List.mem_of_getElem? (i := 71) rfl)) rfl
theorem zw_871 : Cond.fieldLink RX9 25 "DollsAheadModel" "rooms" "[I" ∈ zq_W := zq_inW (zq_t4 (List.mem_of_getElem? (i := 72) rfl)) rfl
theorem zw_872 : Cond.fieldLink RX9 28 "DollsAheadModel" "beds" "[I" ∈ zq_W := zq_inW (zq_t4 (List.mem_of_getElem? (i := 73) rfl)) rfl
theorem zw_873 : Cond.fieldLink RX9 89 "DollsAheadModel" "aheadTold" "I" ∈ zq_W := zq_inW (zq_t4 (List.mem_of_getElem? (i := 74) rfl)) rfl
theorem zw_874 : Cond.fieldLink RX9 153 "DollsAheadModel" "events" "I" ∈ zq_W := zq_inW (zq_t4 (List.mem_of_getElem? (i := 75) rfl)) rfl
theorem zw_875 : Cond.fieldLink RX9 31 "DollsAheadModel" "eventKind" "[I" ∈ zq_W := zq_inW (zq_t4 (List.mem_of_getElem? (i := 76) rfl)) rfl
theorem zw_876 : Cond.fieldLink RX9 34 "DollsAheadModel" "eventHour" "[I" ∈ zq_W := zq_inW (zq_t4 (List.mem_of_getElem? (i := 77) rfl)) rfl
theorem zw_877 : Cond.fieldLink RX9 37 "DollsAheadModel" "eventNumber" "[I" ∈ zq_W := zq_inW (zq_t4 (List.mem_of_getElem? (i := 78) rfl)) rfl
theorem zw_878 : Cond.fieldLink RX9 166 "DollsAheadModel" "aheadNow" "I" ∈ zq_W := zq_inW (zq_t4 (List.mem_of_getElem? (i := 79) rfl)) rfl
theorem zw_879 : Cond.fieldLink RX9 169 "DollsAheadModel" "eventsNow" "I" ∈ zq_W := zq_inW (zq_t4 (List.mem_of_getElem? (i := 80) rfl)) rfl
theorem zw_880 : Cond.fieldLink RX9 40 "DollsAheadModel" "kindNow" "[I" ∈ zq_W := zq_inW (zq_t4 (List.mem_of_getElem? (i := 81) rfl)) rfl
theorem zw_881 : Cond.fieldLink RX9 43 "DollsAheadModel" "hourNow" "[I" ∈ zq_W := zq_inW (zq_t4 (List.mem_of_getElem? (i := 82) rfl)) rfl
theorem zw_882 : Cond.fieldLink RX9 46 "DollsAheadModel" "numberNow" "[I" ∈ zq_W := zq_inW (zq_t4 (List.mem_of_getElem? (i := 83) rfl)) rfl
theorem zw_883 : Cond.fieldLink RX9 172 "DollsAheadModel" "notEvents" "I" ∈ zq_W := zq_inW (zq_t4 (List.mem_of_getElem? (i := 84) rfl)) rfl
theorem zw_884 : Cond.fieldLink RX9 179 "DollsAheadModel" "ham" "I" ∈ zq_W := zq_inW (zq_t4 (List.mem_of_getElem? (i := 85) rfl)) rfl
theorem zw_885 : Cond.fieldLink RX9 182 "DollsAheadModel" "shutBits" "I" ∈ zq_W := zq_inW (zq_t4 (List.mem_of_getElem? (i := 86) rfl)) rfl
theorem zw_886 : Cond.fieldLink RX9 49 "DollsAheadModel" "hamAt" "[I" ∈ zq_W := zq_inW (zq_t4 (List.mem_of_getElem? (i := 87) rfl)) rfl
theorem zw_887 : Cond.fieldLink RX9 52 "DollsAheadModel" "farAt" "[I" ∈ zq_W := zq_inW (zq_t4 (List.mem_of_getElem? (i := 88) rfl)) rfl
theorem zw_888 : Cond.fieldLink RX9 55 "DollsAheadModel" "roomAt" "[I" ∈ zq_W := zq_inW (zq_t4 (List.mem_of_getElem? (i := 89) rfl)) rfl
theorem zw_889 : Cond.fieldLink RX9 58 "DollsAheadModel" "planRow" "[I" ∈ zq_W := zq_inW (zq_t4 (List.mem_of_getElem? (i := 90) rfl)) rfl
theorem zw_890 : Cond.fieldLink RX9 285 "DollsAheadModel" "seens" "I" ∈ zq_W := zq_inW (zq_t4 (List.mem_of_getElem? (i := 91) rfl)) rfl
theorem zw_891 : Cond.fieldLink RX9 61 "DollsAheadModel" "seenHour" "[I" ∈ zq_W := zq_inW (zq_t4 (List.mem_of_getElem? (i := 92) rfl)) rfl
theorem zw_892 : Cond.fieldLink RX9 64 "DollsAheadModel" "seenWho" "[I" ∈ zq_W := zq_inW (zq_t4 (List.mem_of_getElem? (i := 93) rfl)) rfl
theorem zw_893 : Cond.fieldLink RX9 67 "DollsAheadModel" "seenRoom" "[I" ∈ zq_W := zq_inW (zq_t4 (List.mem_of_getElem? (i := 94) rfl)) rfl
theorem zw_894 : Cond.fieldLink RX9 70 "DollsAheadModel" "roomBy" "[I" ∈ zq_W := zq_inW (zq_t4 (List.mem_of_getElem? (i := 95) rfl)) rfl
theorem zw_895 : Cond.fieldLink RX9 73 "DollsAheadModel" "isThere" "[Z" ∈ zq_W := zq_inW (zq_t4 (List.mem_of_getElem? (i := 96) rfl)) rfl
theorem zw_896 : Cond.fieldLink RX9 77 "DollsAheadModel" "forms" "[I" ∈ zq_W := zq_inW (zq_t4 (List.mem_of_getElem? (i := 97) rfl)) rfl
theorem zw_897 : Cond.fieldLink RX9 80 "DollsAheadModel" "sizes" "[I" ∈ zq_W := zq_inW (zq_t4 (List.mem_of_getElem? (i := 98) rfl)) rfl
theorem zw_898 : Cond.fieldLink RX9 83 "DollsAheadModel" "items" "[I" ∈ zq_W := zq_inW (zq_t4 (List.mem_of_getElem? (i := 99) rfl)) rfl
theorem zw_899 : Cond.fieldLink RX9 86 "DollsAheadModel" "moved" "[I" ∈ zq_W := zq_inW (zq_t4 (List.mem_of_getElem? (i := 100) rfl)) rfl
theorem zw_900 : Cond.fieldLink RX9 320 "DollsAheadModel" "finding" "I" ∈ zq_W := zq_inW (zq_t4 (List.mem_of_getElem? (i := 101) rfl)) rfl
theorem zw_977 : Cond.methodLink RL 17 yX9_type ∈ zq_W := zq_inW (zq_t4 (List.mem_of_getElem? (i := 178) rfl)) rfl
theorem zw_978 : Cond.instanceMethod yX9_type ∈ zq_W := zq_inW (zq_t4 (List.mem_of_getElem? (i := 179) rfl)) rfl
theorem zw_979 : Cond.selects RX9 yX9_type yX9_type ∈ zq_W := zq_inW (zq_t4 (List.mem_of_getElem? (i := 180) rfl)) rfl
theorem zw_980 : Cond.code yX9_type prog_11_method_12_code 3 (some .int) ∈ zq_W := zq_inW (zq_t4 (List.mem_of_getElem? (i := 181) rfl)) rfl
theorem zw_981 : Cond.methodLink RX9 99 yX9_isText ∈ zq_W := zq_inW (zq_t4 (List.mem_of_getElem? (i := 182) rfl)) rfl
theorem zw_982 : Cond.static yX9_isText ∈ zq_W := zq_inW (zq_t4 (List.mem_of_getElem? (i := 183) rfl)) rfl
theorem zw_983 : Cond.code yX9_isText prog_11_method_7_code 1 (some .boolean) ∈ zq_W := zq_inW (zq_t4 (List.mem_of_getElem? (i := 184) rfl)) rfl
theorem zw_984 : Cond.methodLink RX9 95 yX9_in ∈ zq_W := zq_inW (zq_t4 (List.mem_of_getElem? (i := 185) rfl)) rfl
theorem zw_985 : Cond.static yX9_in ∈ zq_W := zq_inW (zq_t4 (List.mem_of_getElem? (i := 186) rfl)) rfl
theorem zw_986 : Cond.code yX9_in prog_11_method_3_code 3 (some .boolean) ∈ zq_W := zq_inW (zq_t4 (List.mem_of_getElem? (i := 187) rfl)) rfl
theorem zw_987 : Cond.methodLink RL 22 yX9_wipe ∈ zq_W := zq_inW (zq_t4 (List.mem_of_getElem? (i := 188) rfl)) rfl
theorem zw_988 : Cond.instanceMethod yX9_wipe ∈ zq_W := zq_inW (zq_t4 (List.mem_of_getElem? (i := 189) rfl)) rfl
theorem zw_989 : Cond.selects RX9 yX9_wipe yX9_wipe ∈ zq_W := zq_inW (zq_t4 (List.mem_of_getElem? (i := 190) rfl)) rfl
theorem zw_990 : Cond.code yX9_wipe prog_11_method_13_code 3 (some .int) ∈ zq_W := zq_inW (zq_t4 (List.mem_of_getElem? (i := 191) rfl)) rfl
theorem zw_991 : Cond.methodLink RL 26 yX9_undo ∈ zq_W := zq_inW (zq_t4 (List.mem_of_getElem? (i := 192) rfl)) rfl
theorem zw_992 : Cond.instanceMethod yX9_undo ∈ zq_W := zq_inW (zq_t4 (List.mem_of_getElem? (i := 193) rfl)) rfl
theorem zw_993 : Cond.selects RX9 yX9_undo yX9_undo ∈ zq_W := zq_inW (zq_t4 (List.mem_of_getElem? (i := 194) rfl)) rfl
theorem zw_994 : Cond.code yX9_undo prog_11_method_14_code 2 (some .int) ∈ zq_W := zq_inW (zq_t4 (List.mem_of_getElem? (i := 195) rfl)) rfl
theorem zw_995 : Cond.methodLink RL 30 yX9_fault ∈ zq_W := zq_inW (zq_t4 (List.mem_of_getElem? (i := 196) rfl)) rfl
theorem zw_996 : Cond.instanceMethod yX9_fault ∈ zq_W := zq_inW (zq_t4 (List.mem_of_getElem? (i := 197) rfl)) rfl
theorem zw_997 : Cond.selects RX9 yX9_fault yX9_fault ∈ zq_W := zq_inW (zq_t4 (List.mem_of_getElem? (i := 198) rfl)) rfl
theorem zw_998 : Cond.code yX9_fault prog_11_method_21_code 2 (some .int) ∈ zq_W := zq_inW (zq_t4 (List.mem_of_getElem? (i := 199) rfl)) rfl
theorem zw_999 : Cond.methodLink RX9 126 yX9_faultOf ∈ zq_W := zq_inW (zq_t4 (List.mem_of_getElem? (i := 200) rfl)) rfl
theorem zw_1001 : Cond.instanceMethod yX9_faultOf ∈ zq_W := zq_inW (zq_t4 (List.mem_of_getElem? (i := 202) rfl)) rfl
theorem zw_1002 : Cond.code yX9_faultOf prog_11_method_19_code 4 (some .int) ∈ zq_W := zq_inW (zq_t4 (List.mem_of_getElem? (i := 203) rfl)) rfl
theorem zw_1003 : Cond.methodLink RX9 122 yX9_readsParts ∈ zq_W := zq_inW (zq_t4 (List.mem_of_getElem? (i := 204) rfl)) rfl
theorem zw_1005 : Cond.instanceMethod yX9_readsParts ∈ zq_W := zq_inW (zq_t4 (List.mem_of_getElem? (i := 206) rfl)) rfl
theorem zw_1006 : Cond.code yX9_readsParts prog_11_method_18_code 6 (some .int) ∈ zq_W := zq_inW (zq_t4 (List.mem_of_getElem? (i := 207) rfl)) rfl
theorem zw_1007 : Cond.methodLink RX9 116 yX9_readsDoor ∈ zq_W := zq_inW (zq_t4 (List.mem_of_getElem? (i := 208) rfl)) rfl
theorem zw_1009 : Cond.instanceMethod yX9_readsDoor ∈ zq_W := zq_inW (zq_t4 (List.mem_of_getElem? (i := 210) rfl)) rfl
theorem zw_1010 : Cond.code yX9_readsDoor prog_11_method_16_code 5 (some .int) ∈ zq_W := zq_inW (zq_t4 (List.mem_of_getElem? (i := 211) rfl)) rfl
theorem zw_1011 : Cond.methodLink RX9 103 yX9_byteAt ∈ zq_W := zq_inW (zq_t4 (List.mem_of_getElem? (i := 212) rfl)) rfl
theorem zw_1013 : Cond.instanceMethod yX9_byteAt ∈ zq_W := zq_inW (zq_t4 (List.mem_of_getElem? (i := 214) rfl)) rfl
theorem zw_1014 : Cond.code yX9_byteAt prog_11_method_15_code 3 (some .int) ∈ zq_W := zq_inW (zq_t4 (List.mem_of_getElem? (i := 215) rfl)) rfl
theorem zw_1015 : Cond.methodLink RX9 107 yX9_isEight ∈ zq_W := zq_inW (zq_t4 (List.mem_of_getElem? (i := 216) rfl)) rfl
theorem zw_1016 : Cond.static yX9_isEight ∈ zq_W := zq_inW (zq_t4 (List.mem_of_getElem? (i := 217) rfl)) rfl
theorem zw_1017 : Cond.code yX9_isEight prog_11_method_11_code 1 (some .boolean) ∈ zq_W := zq_inW (zq_t4 (List.mem_of_getElem? (i := 218) rfl)) rfl
theorem zw_1018 : Cond.methodLink RX9 119 yX9_readsPerson ∈ zq_W := zq_inW (zq_t4 (List.mem_of_getElem? (i := 219) rfl)) rfl
theorem zw_1020 : Cond.instanceMethod yX9_readsPerson ∈ zq_W := zq_inW (zq_t4 (List.mem_of_getElem? (i := 221) rfl)) rfl
theorem zw_1021 : Cond.code yX9_readsPerson prog_11_method_17_code 7 (some .int) ∈ zq_W := zq_inW (zq_t4 (List.mem_of_getElem? (i := 222) rfl)) rfl
theorem zw_1022 : Cond.methodLink RL 34 yX9_door ∈ zq_W := zq_inW (zq_t4 (List.mem_of_getElem? (i := 223) rfl)) rfl
theorem zw_1023 : Cond.instanceMethod yX9_door ∈ zq_W := zq_inW (zq_t4 (List.mem_of_getElem? (i := 224) rfl)) rfl
theorem zw_1024 : Cond.selects RX9 yX9_door yX9_door ∈ zq_W := zq_inW (zq_t4 (List.mem_of_getElem? (i := 225) rfl)) rfl
theorem zw_1025 : Cond.code yX9_door prog_11_method_25_code 3 (some .int) ∈ zq_W := zq_inW (zq_t4 (List.mem_of_getElem? (i := 226) rfl)) rfl
theorem zw_1026 : Cond.methodLink RX9 132 yX9_isDoor ∈ zq_W := zq_inW (zq_t4 (List.mem_of_getElem? (i := 227) rfl)) rfl
theorem zw_1028 : Cond.instanceMethod yX9_isDoor ∈ zq_W := zq_inW (zq_t4 (List.mem_of_getElem? (i := 229) rfl)) rfl
theorem zw_1029 : Cond.code yX9_isDoor prog_11_method_22_code 2 (some .boolean) ∈ zq_W := zq_inW (zq_t4 (List.mem_of_getElem? (i := 230) rfl)) rfl
theorem zw_1030 : Cond.methodLink RX9 129 yX9_reads ∈ zq_W := zq_inW (zq_t4 (List.mem_of_getElem? (i := 231) rfl)) rfl
theorem zw_1032 : Cond.instanceMethod yX9_reads ∈ zq_W := zq_inW (zq_t4 (List.mem_of_getElem? (i := 233) rfl)) rfl
theorem zw_1033 : Cond.code yX9_reads prog_11_method_20_code 2 none ∈ zq_W := zq_inW (zq_t4 (List.mem_of_getElem? (i := 234) rfl)) rfl
theorem zw_1034 : Cond.methodLink RX9 135 yX9_isTwo ∈ zq_W := zq_inW (zq_t4 (List.mem_of_getElem? (i := 235) rfl)) rfl
theorem zw_1035 : Cond.static yX9_isTwo ∈ zq_W := zq_inW (zq_t4 (List.mem_of_getElem? (i := 236) rfl)) rfl
theorem zw_1036 : Cond.code yX9_isTwo prog_11_method_9_code 1 (some .boolean) ∈ zq_W := zq_inW (zq_t4 (List.mem_of_getElem? (i := 237) rfl)) rfl
theorem zw_1037 : Cond.methodLink RX9 138 yX9_doorOf ∈ zq_W := zq_inW (zq_t4 (List.mem_of_getElem? (i := 238) rfl)) rfl
theorem zw_1039 : Cond.instanceMethod yX9_doorOf ∈ zq_W := zq_inW (zq_t5 (List.mem_of_getElem? (i := 0) rfl)) rfl
theorem zw_1040 : Cond.code yX9_doorOf prog_11_method_24_code 3 (some .int) ∈ zq_W := zq_inW (zq_t5 (List.mem_of_getElem? (i := 1) rfl)) rfl
theorem zw_1041 : Cond.methodLink RL 38 yX9_person ∈ zq_W := zq_inW (zq_t5 (List.mem_of_getElem? (i := 2) rfl)) rfl
theorem zw_1042 : Cond.instanceMethod yX9_person ∈ zq_W := zq_inW (zq_t5 (List.mem_of_getElem? (i := 3) rfl)) rfl
theorem zw_1043 : Cond.selects RX9 yX9_person yX9_person ∈ zq_W := zq_inW (zq_t5 (List.mem_of_getElem? (i := 4) rfl)) rfl
theorem zw_1044 : Cond.code yX9_person prog_11_method_27_code 3 (some .int) ∈ zq_W := zq_inW (zq_t5 (List.mem_of_getElem? (i := 5) rfl)) rfl
theorem zw_1045 : Cond.methodLink RX9 141 yX9_isPerson ∈ zq_W := zq_inW (zq_t5 (List.mem_of_getElem? (i := 6) rfl)) rfl
theorem zw_1047 : Cond.instanceMethod yX9_isPerson ∈ zq_W := zq_inW (zq_t5 (List.mem_of_getElem? (i := 8) rfl)) rfl
theorem zw_1048 : Cond.code yX9_isPerson prog_11_method_23_code 2 (some .boolean) ∈ zq_W := zq_inW (zq_t5 (List.mem_of_getElem? (i := 9) rfl)) rfl
theorem zw_1049 : Cond.methodLink RX9 144 yX9_isThree ∈ zq_W := zq_inW (zq_t5 (List.mem_of_getElem? (i := 10) rfl)) rfl
theorem zw_1050 : Cond.static yX9_isThree ∈ zq_W := zq_inW (zq_t5 (List.mem_of_getElem? (i := 11) rfl)) rfl
theorem zw_1051 : Cond.code yX9_isThree prog_11_method_10_code 1 (some .boolean) ∈ zq_W := zq_inW (zq_t5 (List.mem_of_getElem? (i := 12) rfl)) rfl
theorem zw_1052 : Cond.methodLink RX9 147 yX9_personOf ∈ zq_W := zq_inW (zq_t5 (List.mem_of_getElem? (i := 13) rfl)) rfl
theorem zw_1054 : Cond.instanceMethod yX9_personOf ∈ zq_W := zq_inW (zq_t5 (List.mem_of_getElem? (i := 15) rfl)) rfl
theorem zw_1055 : Cond.code yX9_personOf prog_11_method_26_code 3 (some .int) ∈ zq_W := zq_inW (zq_t5 (List.mem_of_getElem? (i := 16) rfl)) rfl
theorem zw_1056 : Cond.methodLink RL 42 yX9_ahead ∈ zq_W := zq_inW (zq_t5 (List.mem_of_getElem? (i := 17) rfl)) rfl
theorem zw_1057 : Cond.instanceMethod yX9_ahead ∈ zq_W := zq_inW (zq_t5 (List.mem_of_getElem? (i := 18) rfl)) rfl
theorem zw_1058 : Cond.selects RX9 yX9_ahead yX9_ahead ∈ zq_W := zq_inW (zq_t5 (List.mem_of_getElem? (i := 19) rfl)) rfl
theorem zw_1059 : Cond.code yX9_ahead prog_11_method_28_code 3 (some .int) ∈ zq_W := zq_inW (zq_t5 (List.mem_of_getElem? (i := 20) rfl)) rfl
theorem zw_1060 : Cond.methodLink RL 47 yX9_event ∈ zq_W := zq_inW (zq_t5 (List.mem_of_getElem? (i := 21) rfl)) rfl
theorem zw_1061 : Cond.instanceMethod yX9_event ∈ zq_W := zq_inW (zq_t5 (List.mem_of_getElem? (i := 22) rfl)) rfl
theorem zw_1062 : Cond.selects RX9 yX9_event yX9_event ∈ zq_W := zq_inW (zq_t5 (List.mem_of_getElem? (i := 23) rfl)) rfl
theorem zw_1063 : Cond.code yX9_event prog_11_method_29_code 4 (some .int) ∈ zq_W := zq_inW (zq_t5 (List.mem_of_getElem? (i := 24) rfl)) rfl
theorem zw_1064 : Cond.methodLink RX9 150 yX9_isHour ∈ zq_W := zq_inW (zq_t5 (List.mem_of_getElem? (i := 25) rfl)) rfl
theorem zw_1065 : Cond.static yX9_isHour ∈ zq_W := zq_inW (zq_t5 (List.mem_of_getElem? (i := 26) rfl)) rfl
theorem zw_1066 : Cond.code yX9_isHour prog_11_method_8_code 1 (some .boolean) ∈ zq_W := zq_inW (zq_t5 (List.mem_of_getElem? (i := 27) rfl)) rfl
theorem zw_1067 : Cond.methodLink RL 52 yX9_back ∈ zq_W := zq_inW (zq_t5 (List.mem_of_getElem? (i := 28) rfl)) rfl
theorem zw_1068 : Cond.instanceMethod yX9_back ∈ zq_W := zq_inW (zq_t5 (List.mem_of_getElem? (i := 29) rfl)) rfl
theorem zw_1069 : Cond.selects RX9 yX9_back yX9_back ∈ zq_W := zq_inW (zq_t5 (List.mem_of_getElem? (i := 30) rfl)) rfl
theorem zw_1070 : Cond.code yX9_back prog_11_method_30_code 1 (some .int) ∈ zq_W := zq_inW (zq_t5 (List.mem_of_getElem? (i := 31) rfl)) rfl
theorem zw_1071 : Cond.methodLink RL 56 yX9_read ∈ zq_W := zq_inW (zq_t5 (List.mem_of_getElem? (i := 32) rfl)) rfl
theorem zw_1072 : Cond.instanceMethod yX9_read ∈ zq_W := zq_inW (zq_t5 (List.mem_of_getElem? (i := 33) rfl)) rfl
theorem zw_1073 : Cond.selects RX9 yX9_read yX9_read ∈ zq_W := zq_inW (zq_t5 (List.mem_of_getElem? (i := 34) rfl)) rfl
theorem zw_1074 : Cond.code yX9_read prog_11_method_31_code 4 (some .int) ∈ zq_W := zq_inW (zq_t5 (List.mem_of_getElem? (i := 35) rfl)) rfl
theorem zw_1075 : Cond.methodLink RX9 156 yX9_isSheet ∈ zq_W := zq_inW (zq_t5 (List.mem_of_getElem? (i := 36) rfl)) rfl
theorem zw_1076 : Cond.static yX9_isSheet ∈ zq_W := zq_inW (zq_t5 (List.mem_of_getElem? (i := 37) rfl)) rfl
theorem zw_1077 : Cond.code yX9_isSheet prog_11_method_91_code 1 (some .boolean) ∈ zq_W := zq_inW (zq_t5 (List.mem_of_getElem? (i := 38) rfl)) rfl
theorem zw_1078 : Cond.methodLink RX9 159 yX9_meets ∈ zq_W := zq_inW (zq_t5 (List.mem_of_getElem? (i := 39) rfl)) rfl
theorem zw_1080 : Cond.instanceMethod yX9_meets ∈ zq_W := zq_inW (zq_t5 (List.mem_of_getElem? (i := 41) rfl)) rfl
theorem zw_1081 : Cond.code yX9_meets prog_11_method_90_code 2 (some .int) ∈ zq_W := zq_inW (zq_t5 (List.mem_of_getElem? (i := 42) rfl)) rfl
theorem zw_1082 : Cond.methodLink RX9 162 yX9_event ∈ zq_W := zq_inW (zq_t5 (List.mem_of_getElem? (i := 43) rfl)) rfl
theorem zw_1083 : Cond.methodLink RL 60 yX9_at ∈ zq_W := zq_inW (zq_t5 (List.mem_of_getElem? (i := 44) rfl)) rfl
theorem zw_1084 : Cond.instanceMethod yX9_at ∈ zq_W := zq_inW (zq_t5 (List.mem_of_getElem? (i := 45) rfl)) rfl
theorem zw_1085 : Cond.selects RX9 yX9_at yX9_at ∈ zq_W := zq_inW (zq_t5 (List.mem_of_getElem? (i := 46) rfl)) rfl
theorem zw_1086 : Cond.code yX9_at prog_11_method_43_code 4 (some .int) ∈ zq_W := zq_inW (zq_t5 (List.mem_of_getElem? (i := 47) rfl)) rfl
theorem zw_1087 : Cond.methodLink RX9 219 yX9_atOf ∈ zq_W := zq_inW (zq_t5 (List.mem_of_getElem? (i := 48) rfl)) rfl
theorem zw_1089 : Cond.instanceMethod yX9_atOf ∈ zq_W := zq_inW (zq_t5 (List.mem_of_getElem? (i := 50) rfl)) rfl
theorem zw_1090 : Cond.code yX9_atOf prog_11_method_42_code 5 (some .int) ∈ zq_W := zq_inW (zq_t5 (List.mem_of_getElem? (i := 51) rfl)) rfl
theorem zw_1091 : Cond.methodLink RX9 216 yX9_runsTold ∈ zq_W := zq_inW (zq_t5 (List.mem_of_getElem? (i := 52) rfl)) rfl
theorem zw_1093 : Cond.instanceMethod yX9_runsTold ∈ zq_W := zq_inW (zq_t5 (List.mem_of_getElem? (i := 54) rfl)) rfl
theorem zw_1094 : Cond.code yX9_runsTold prog_11_method_41_code 1 none ∈ zq_W := zq_inW (zq_t5 (List.mem_of_getElem? (i := 55) rfl)) rfl
theorem zw_1095 : Cond.methodLink RX9 210 yX9_asTold ∈ zq_W := zq_inW (zq_t5 (List.mem_of_getElem? (i := 56) rfl)) rfl
theorem zw_1097 : Cond.instanceMethod yX9_asTold ∈ zq_W := zq_inW (zq_t5 (List.mem_of_getElem? (i := 58) rfl)) rfl
theorem zw_1098 : Cond.code yX9_asTold prog_11_method_32_code 2 none ∈ zq_W := zq_inW (zq_t5 (List.mem_of_getElem? (i := 59) rfl)) rfl
theorem zw_1099 : Cond.methodLink RX9 213 yX9_runs ∈ zq_W := zq_inW (zq_t5 (List.mem_of_getElem? (i := 60) rfl)) rfl
theorem zw_1101 : Cond.instanceMethod yX9_runs ∈ zq_W := zq_inW (zq_t5 (List.mem_of_getElem? (i := 62) rfl)) rfl
theorem zw_1102 : Cond.code yX9_runs prog_11_method_40_code 3 none ∈ zq_W := zq_inW (zq_t5 (List.mem_of_getElem? (i := 63) rfl)) rfl
theorem zw_1103 : Cond.methodLink RX9 195 yX9_befalls ∈ zq_W := zq_inW (zq_t5 (List.mem_of_getElem? (i := 64) rfl)) rfl
theorem zw_1105 : Cond.instanceMethod yX9_befalls ∈ zq_W := zq_inW (zq_t5 (List.mem_of_getElem? (i := 66) rfl)) rfl
theorem zw_1106 : Cond.code yX9_befalls prog_11_method_33_code 3 none ∈ zq_W := zq_inW (zq_t5 (List.mem_of_getElem? (i := 67) rfl)) rfl
theorem zw_1107 : Cond.methodLink RX9 175 yX9_isIn ∈ zq_W := zq_inW (zq_t5 (List.mem_of_getElem? (i := 68) rfl)) rfl
theorem zw_1108 : Cond.static yX9_isIn ∈ zq_W := zq_inW (zq_t5 (List.mem_of_getElem? (i := 69) rfl)) rfl
theorem zw_1109 : Cond.code yX9_isIn prog_11_method_4_code 2 (some .boolean) ∈ zq_W := zq_inW (zq_t5 (List.mem_of_getElem? (i := 70) rfl)) rfl
theorem zw_1110 : Cond.methodLink RX9 199 yX9_measures ∈ zq_W := zq_inW (zq_t5 (List.mem_of_getElem? (i := 71) rfl)) rfl
theorem zw_1112 : Cond.instanceMethod yX9_measures ∈ zq_W := zq_inW (zq_t5 (List.mem_of_getElem? (i := 73) rfl)) rfl
theorem zw_1113 : Cond.code yX9_measures prog_11_method_35_code 6 none ∈ zq_W := zq_inW (zq_t5 (List.mem_of_getElem? (i := 74) rfl)) rfl
theorem zw_1114 : Cond.methodLink RX9 185 yX9_nears ∈ zq_W := zq_inW (zq_t5 (List.mem_of_getElem? (i := 75) rfl)) rfl
theorem zw_1116 : Cond.instanceMethod yX9_nears ∈ zq_W := zq_inW (zq_t5 (List.mem_of_getElem? (i := 77) rfl)) rfl
theorem zw_1117 : Cond.code yX9_nears prog_11_method_34_code 6 none ∈ zq_W := zq_inW (zq_t5 (List.mem_of_getElem? (i := 78) rfl)) rfl
theorem zw_1118 : Cond.methodLink RX9 202 yX9_leastChild ∈ zq_W := zq_inW (zq_t5 (List.mem_of_getElem? (i := 79) rfl)) rfl
theorem zw_1120 : Cond.instanceMethod yX9_leastChild ∈ zq_W := zq_inW (zq_t5 (List.mem_of_getElem? (i := 81) rfl)) rfl
theorem zw_1121 : Cond.code yX9_leastChild prog_11_method_38_code 3 (some .int) ∈ zq_W := zq_inW (zq_t5 (List.mem_of_getElem? (i := 82) rfl)) rfl
theorem zw_1122 : Cond.methodLink RX9 206 yX9_goesThrough ∈ zq_W := zq_inW (zq_t5 (List.mem_of_getElem? (i := 83) rfl)) rfl
theorem zw_1124 : Cond.instanceMethod yX9_goesThrough ∈ zq_W := zq_inW (zq_t5 (List.mem_of_getElem? (i := 85) rfl)) rfl
theorem zw_1125 : Cond.code yX9_goesThrough prog_11_method_39_code 8 none ∈ zq_W := zq_inW (zq_t5 (List.mem_of_getElem? (i := 86) rfl)) rfl
theorem zw_1126 : Cond.methodLink RX9 192 yX9_step ∈ zq_W := zq_inW (zq_t5 (List.mem_of_getElem? (i := 87) rfl)) rfl
theorem zw_1128 : Cond.instanceMethod yX9_step ∈ zq_W := zq_inW (zq_t5 (List.mem_of_getElem? (i := 89) rfl)) rfl
theorem zw_1129 : Cond.code yX9_step prog_11_method_37_code 8 (some .int) ∈ zq_W := zq_inW (zq_t5 (List.mem_of_getElem? (i := 90) rfl)) rfl
theorem zw_1130 : Cond.methodLink RX9 189 yX9_isBeside ∈ zq_W := zq_inW (zq_t5 (List.mem_of_getElem? (i := 91) rfl)) rfl
theorem zw_1132 : Cond.instanceMethod yX9_isBeside ∈ zq_W := zq_inW (zq_t5 (List.mem_of_getElem? (i := 93) rfl)) rfl
theorem zw_1133 : Cond.code yX9_isBeside prog_11_method_36_code 4 (some .boolean) ∈ zq_W := zq_inW (zq_t5 (List.mem_of_getElem? (i := 94) rfl)) rfl
theorem zw_1134 : Cond.methodLink RL 64 yX9_room ∈ zq_W := zq_inW (zq_t5 (List.mem_of_getElem? (i := 95) rfl)) rfl
theorem zw_1135 : Cond.instanceMethod yX9_room ∈ zq_W := zq_inW (zq_t5 (List.mem_of_getElem? (i := 96) rfl)) rfl
theorem zw_1136 : Cond.selects RX9 yX9_room yX9_room ∈ zq_W := zq_inW (zq_t5 (List.mem_of_getElem? (i := 97) rfl)) rfl
theorem zw_1137 : Cond.code yX9_room prog_11_method_46_code 3 (some .int) ∈ zq_W := zq_inW (zq_t5 (List.mem_of_getElem? (i := 98) rfl)) rfl
theorem zw_1138 : Cond.methodLink RX9 225 yX9_roomOf ∈ zq_W := zq_inW (zq_t5 (List.mem_of_getElem? (i := 99) rfl)) rfl
theorem zw_1140 : Cond.instanceMethod yX9_roomOf ∈ zq_W := zq_inW (zq_t5 (List.mem_of_getElem? (i := 101) rfl)) rfl
theorem zw_1141 : Cond.code yX9_roomOf prog_11_method_45_code 3 (some .int) ∈ zq_W := zq_inW (zq_t5 (List.mem_of_getElem? (i := 102) rfl)) rfl
theorem zw_1142 : Cond.methodLink RX9 222 yX9_inRoom ∈ zq_W := zq_inW (zq_t5 (List.mem_of_getElem? (i := 103) rfl)) rfl
theorem zw_1144 : Cond.instanceMethod yX9_inRoom ∈ zq_W := zq_inW (zq_t5 (List.mem_of_getElem? (i := 105) rfl)) rfl
theorem zw_1145 : Cond.code yX9_inRoom prog_11_method_44_code 5 (some .int) ∈ zq_W := zq_inW (zq_t5 (List.mem_of_getElem? (i := 106) rfl)) rfl
theorem zw_1146 : Cond.methodLink RL 68 yX9_far ∈ zq_W := zq_inW (zq_t5 (List.mem_of_getElem? (i := 107) rfl)) rfl
theorem zw_1147 : Cond.instanceMethod yX9_far ∈ zq_W := zq_inW (zq_t5 (List.mem_of_getElem? (i := 108) rfl)) rfl
theorem zw_1148 : Cond.selects RX9 yX9_far yX9_far ∈ zq_W := zq_inW (zq_t5 (List.mem_of_getElem? (i := 109) rfl)) rfl
theorem zw_1149 : Cond.code yX9_far prog_11_method_48_code 4 (some .int) ∈ zq_W := zq_inW (zq_t5 (List.mem_of_getElem? (i := 110) rfl)) rfl
theorem zw_1150 : Cond.methodLink RX9 228 yX9_farOf ∈ zq_W := zq_inW (zq_t5 (List.mem_of_getElem? (i := 111) rfl)) rfl
theorem zw_1152 : Cond.instanceMethod yX9_farOf ∈ zq_W := zq_inW (zq_t5 (List.mem_of_getElem? (i := 113) rfl)) rfl
theorem zw_1153 : Cond.code yX9_farOf prog_11_method_47_code 5 (some .int) ∈ zq_W := zq_inW (zq_t5 (List.mem_of_getElem? (i := 114) rfl)) rfl
theorem zw_1154 : Cond.methodLink RL 72 yX9_meet ∈ zq_W := zq_inW (zq_t5 (List.mem_of_getElem? (i := 115) rfl)) rfl
theorem zw_1155 : Cond.instanceMethod yX9_meet ∈ zq_W := zq_inW (zq_t5 (List.mem_of_getElem? (i := 116) rfl)) rfl
theorem zw_1156 : Cond.selects RX9 yX9_meet yX9_meet ∈ zq_W := zq_inW (zq_t5 (List.mem_of_getElem? (i := 117) rfl)) rfl
theorem zw_1157 : Cond.code yX9_meet prog_11_method_50_code 3 (some .int) ∈ zq_W := zq_inW (zq_t5 (List.mem_of_getElem? (i := 118) rfl)) rfl
theorem zw_1158 : Cond.methodLink RX9 231 yX9_metOf ∈ zq_W := zq_inW (zq_t5 (List.mem_of_getElem? (i := 119) rfl)) rfl
theorem zw_1160 : Cond.instanceMethod yX9_metOf ∈ zq_W := zq_inW (zq_t5 (List.mem_of_getElem? (i := 121) rfl)) rfl
theorem zw_1161 : Cond.code yX9_metOf prog_11_method_49_code 5 (some .int) ∈ zq_W := zq_inW (zq_t5 (List.mem_of_getElem? (i := 122) rfl)) rfl
theorem zw_1162 : Cond.methodLink RL 76 yX9_empty ∈ zq_W := zq_inW (zq_t5 (List.mem_of_getElem? (i := 123) rfl)) rfl
theorem zw_1163 : Cond.instanceMethod yX9_empty ∈ zq_W := zq_inW (zq_t5 (List.mem_of_getElem? (i := 124) rfl)) rfl
theorem zw_1164 : Cond.selects RX9 yX9_empty yX9_empty ∈ zq_W := zq_inW (zq_t5 (List.mem_of_getElem? (i := 125) rfl)) rfl
theorem zw_1165 : Cond.code yX9_empty prog_11_method_53_code 2 (some .int) ∈ zq_W := zq_inW (zq_t5 (List.mem_of_getElem? (i := 126) rfl)) rfl
theorem zw_1166 : Cond.methodLink RX9 237 yX9_emptyOf ∈ zq_W := zq_inW (zq_t5 (List.mem_of_getElem? (i := 127) rfl)) rfl
theorem zw_1168 : Cond.instanceMethod yX9_emptyOf ∈ zq_W := zq_inW (zq_t5 (List.mem_of_getElem? (i := 129) rfl)) rfl
theorem zw_1169 : Cond.code yX9_emptyOf prog_11_method_52_code 2 (some .int) ∈ zq_W := zq_inW (zq_t5 (List.mem_of_getElem? (i := 130) rfl)) rfl
theorem zw_1170 : Cond.methodLink RX9 234 yX9_emptyNow ∈ zq_W := zq_inW (zq_t5 (List.mem_of_getElem? (i := 131) rfl)) rfl
theorem zw_1172 : Cond.instanceMethod yX9_emptyNow ∈ zq_W := zq_inW (zq_t5 (List.mem_of_getElem? (i := 133) rfl)) rfl
theorem zw_1173 : Cond.code yX9_emptyNow prog_11_method_51_code 4 (some .int) ∈ zq_W := zq_inW (zq_t5 (List.mem_of_getElem? (i := 134) rfl)) rfl
theorem zw_1174 : Cond.methodLink RL 80 yX9_found ∈ zq_W := zq_inW (zq_t5 (List.mem_of_getElem? (i := 135) rfl)) rfl
theorem zw_1175 : Cond.instanceMethod yX9_found ∈ zq_W := zq_inW (zq_t5 (List.mem_of_getElem? (i := 136) rfl)) rfl
theorem zw_1176 : Cond.selects RX9 yX9_found yX9_found ∈ zq_W := zq_inW (zq_t5 (List.mem_of_getElem? (i := 137) rfl)) rfl
theorem zw_1177 : Cond.code yX9_found prog_11_method_56_code 2 (some .int) ∈ zq_W := zq_inW (zq_t5 (List.mem_of_getElem? (i := 138) rfl)) rfl
theorem zw_1178 : Cond.methodLink RX9 243 yX9_foundOf ∈ zq_W := zq_inW (zq_t5 (List.mem_of_getElem? (i := 139) rfl)) rfl
theorem zw_1180 : Cond.instanceMethod yX9_foundOf ∈ zq_W := zq_inW (zq_t5 (List.mem_of_getElem? (i := 141) rfl)) rfl
theorem zw_1181 : Cond.code yX9_foundOf prog_11_method_55_code 2 (some .int) ∈ zq_W := zq_inW (zq_t5 (List.mem_of_getElem? (i := 142) rfl)) rfl
theorem zw_1182 : Cond.methodLink RX9 240 yX9_foundNow ∈ zq_W := zq_inW (zq_t5 (List.mem_of_getElem? (i := 143) rfl)) rfl
theorem zw_1184 : Cond.instanceMethod yX9_foundNow ∈ zq_W := zq_inW (zq_t5 (List.mem_of_getElem? (i := 145) rfl)) rfl
theorem zw_1185 : Cond.code yX9_foundNow prog_11_method_54_code 5 (some .int) ∈ zq_W := zq_inW (zq_t5 (List.mem_of_getElem? (i := 146) rfl)) rfl
theorem zw_1186 : Cond.methodLink RL 84 yX9_crowd ∈ zq_W := zq_inW (zq_t5 (List.mem_of_getElem? (i := 147) rfl)) rfl
theorem zw_1187 : Cond.instanceMethod yX9_crowd ∈ zq_W := zq_inW (zq_t5 (List.mem_of_getElem? (i := 148) rfl)) rfl
theorem zw_1188 : Cond.selects RX9 yX9_crowd yX9_crowd ∈ zq_W := zq_inW (zq_t5 (List.mem_of_getElem? (i := 149) rfl)) rfl
theorem zw_1189 : Cond.code yX9_crowd prog_11_method_59_code 2 (some .int) ∈ zq_W := zq_inW (zq_t5 (List.mem_of_getElem? (i := 150) rfl)) rfl
theorem zw_1190 : Cond.methodLink RX9 249 yX9_crowdOf ∈ zq_W := zq_inW (zq_t5 (List.mem_of_getElem? (i := 151) rfl)) rfl
theorem zw_1192 : Cond.instanceMethod yX9_crowdOf ∈ zq_W := zq_inW (zq_t5 (List.mem_of_getElem? (i := 153) rfl)) rfl
theorem zw_1193 : Cond.code yX9_crowdOf prog_11_method_58_code 6 (some .int) ∈ zq_W := zq_inW (zq_t5 (List.mem_of_getElem? (i := 154) rfl)) rfl
theorem zw_1194 : Cond.methodLink RX9 246 yX9_many ∈ zq_W := zq_inW (zq_t5 (List.mem_of_getElem? (i := 155) rfl)) rfl
theorem zw_1196 : Cond.instanceMethod yX9_many ∈ zq_W := zq_inW (zq_t5 (List.mem_of_getElem? (i := 157) rfl)) rfl
theorem zw_1197 : Cond.code yX9_many prog_11_method_57_code 4 (some .int) ∈ zq_W := zq_inW (zq_t5 (List.mem_of_getElem? (i := 158) rfl)) rfl
theorem zw_1198 : Cond.methodLink RL 88 yX9_alone ∈ zq_W := zq_inW (zq_t5 (List.mem_of_getElem? (i := 159) rfl)) rfl
theorem zw_1199 : Cond.instanceMethod yX9_alone ∈ zq_W := zq_inW (zq_t5 (List.mem_of_getElem? (i := 160) rfl)) rfl
theorem zw_1200 : Cond.selects RX9 yX9_alone yX9_alone ∈ zq_W := zq_inW (zq_t5 (List.mem_of_getElem? (i := 161) rfl)) rfl
theorem zw_1201 : Cond.code yX9_alone prog_11_method_63_code 1 (some .int) ∈ zq_W := zq_inW (zq_t5 (List.mem_of_getElem? (i := 162) rfl)) rfl
theorem zw_1202 : Cond.methodLink RX9 258 yX9_aloneOf ∈ zq_W := zq_inW (zq_t5 (List.mem_of_getElem? (i := 163) rfl)) rfl
theorem zw_1204 : Cond.instanceMethod yX9_aloneOf ∈ zq_W := zq_inW (zq_t5 (List.mem_of_getElem? (i := 165) rfl)) rfl
theorem zw_1205 : Cond.code yX9_aloneOf prog_11_method_62_code 1 (some .int) ∈ zq_W := zq_inW (zq_t5 (List.mem_of_getElem? (i := 166) rfl)) rfl
theorem zw_1206 : Cond.methodLink RX9 255 yX9_aloneNow ∈ zq_W := zq_inW (zq_t5 (List.mem_of_getElem? (i := 167) rfl)) rfl
theorem zw_1208 : Cond.instanceMethod yX9_aloneNow ∈ zq_W := zq_inW (zq_t5 (List.mem_of_getElem? (i := 169) rfl)) rfl
theorem zw_1209 : Cond.code yX9_aloneNow prog_11_method_61_code 3 (some .int) ∈ zq_W := zq_inW (zq_t5 (List.mem_of_getElem? (i := 170) rfl)) rfl
theorem zw_1210 : Cond.methodLink RX9 252 yX9_isByItself ∈ zq_W := zq_inW (zq_t5 (List.mem_of_getElem? (i := 171) rfl)) rfl
theorem zw_1212 : Cond.instanceMethod yX9_isByItself ∈ zq_W := zq_inW (zq_t5 (List.mem_of_getElem? (i := 173) rfl)) rfl
theorem zw_1213 : Cond.code yX9_isByItself prog_11_method_60_code 3 (some .boolean) ∈ zq_W := zq_inW (zq_t5 (List.mem_of_getElem? (i := 174) rfl)) rfl
theorem zw_1214 : Cond.methodLink RL 92 yX9_sleep ∈ zq_W := zq_inW (zq_t5 (List.mem_of_getElem? (i := 175) rfl)) rfl
theorem zw_1215 : Cond.instanceMethod yX9_sleep ∈ zq_W := zq_inW (zq_t5 (List.mem_of_getElem? (i := 176) rfl)) rfl
theorem zw_1216 : Cond.selects RX9 yX9_sleep yX9_sleep ∈ zq_W := zq_inW (zq_t5 (List.mem_of_getElem? (i := 177) rfl)) rfl
theorem zw_1217 : Cond.code yX9_sleep prog_11_method_66_code 3 (some .int) ∈ zq_W := zq_inW (zq_t5 (List.mem_of_getElem? (i := 178) rfl)) rfl
theorem zw_1218 : Cond.methodLink RX9 264 yX9_sleepOf ∈ zq_W := zq_inW (zq_t5 (List.mem_of_getElem? (i := 179) rfl)) rfl
theorem zw_1220 : Cond.instanceMethod yX9_sleepOf ∈ zq_W := zq_inW (zq_t5 (List.mem_of_getElem? (i := 181) rfl)) rfl
theorem zw_1221 : Cond.code yX9_sleepOf prog_11_method_65_code 8 (some .int) ∈ zq_W := zq_inW (zq_t5 (List.mem_of_getElem? (i := 182) rfl)) rfl
theorem zw_1222 : Cond.methodLink RX9 261 yX9_hoursByItself ∈ zq_W := zq_inW (zq_t5 (List.mem_of_getElem? (i := 183) rfl)) rfl
theorem zw_1224 : Cond.instanceMethod yX9_hoursByItself ∈ zq_W := zq_inW (zq_t5 (List.mem_of_getElem? (i := 185) rfl)) rfl
theorem zw_1225 : Cond.code yX9_hoursByItself prog_11_method_64_code 4 (some .int) ∈ zq_W := zq_inW (zq_t5 (List.mem_of_getElem? (i := 186) rfl)) rfl
theorem zw_1226 : Cond.methodLink RL 96 yX9_nice ∈ zq_W := zq_inW (zq_t5 (List.mem_of_getElem? (i := 187) rfl)) rfl
theorem zw_1227 : Cond.instanceMethod yX9_nice ∈ zq_W := zq_inW (zq_t5 (List.mem_of_getElem? (i := 188) rfl)) rfl
theorem zw_1228 : Cond.selects RX9 yX9_nice yX9_nice ∈ zq_W := zq_inW (zq_t5 (List.mem_of_getElem? (i := 189) rfl)) rfl
theorem zw_1229 : Cond.code yX9_nice prog_11_method_69_code 3 (some .int) ∈ zq_W := zq_inW (zq_t5 (List.mem_of_getElem? (i := 190) rfl)) rfl
theorem zw_1230 : Cond.methodLink RX9 270 yX9_niceOf ∈ zq_W := zq_inW (zq_t5 (List.mem_of_getElem? (i := 191) rfl)) rfl
theorem zw_1232 : Cond.instanceMethod yX9_niceOf ∈ zq_W := zq_inW (zq_t5 (List.mem_of_getElem? (i := 193) rfl)) rfl
theorem zw_1233 : Cond.code yX9_niceOf prog_11_method_68_code 7 (some .int) ∈ zq_W := zq_inW (zq_t5 (List.mem_of_getElem? (i := 194) rfl)) rfl
theorem zw_1234 : Cond.methodLink RX9 267 yX9_mostAt ∈ zq_W := zq_inW (zq_t5 (List.mem_of_getElem? (i := 195) rfl)) rfl
theorem zw_1236 : Cond.instanceMethod yX9_mostAt ∈ zq_W := zq_inW (zq_t5 (List.mem_of_getElem? (i := 197) rfl)) rfl
theorem zw_1237 : Cond.code yX9_mostAt prog_11_method_67_code 5 (some .int) ∈ zq_W := zq_inW (zq_t5 (List.mem_of_getElem? (i := 198) rfl)) rfl
theorem zw_1238 : Cond.methodLink RL 100 yX9_lens ∈ zq_W := zq_inW (zq_t5 (List.mem_of_getElem? (i := 199) rfl)) rfl
theorem zw_1239 : Cond.instanceMethod yX9_lens ∈ zq_W := zq_inW (zq_t5 (List.mem_of_getElem? (i := 200) rfl)) rfl
theorem zw_1240 : Cond.selects RX9 yX9_lens yX9_lens ∈ zq_W := zq_inW (zq_t5 (List.mem_of_getElem? (i := 201) rfl)) rfl
theorem zw_1241 : Cond.code yX9_lens prog_11_method_71_code 2 (some .int) ∈ zq_W := zq_inW (zq_t5 (List.mem_of_getElem? (i := 202) rfl)) rfl
theorem zw_1242 : Cond.methodLink RX9 273 yX9_lensOf ∈ zq_W := zq_inW (zq_t5 (List.mem_of_getElem? (i := 203) rfl)) rfl
theorem zw_1244 : Cond.instanceMethod yX9_lensOf ∈ zq_W := zq_inW (zq_t5 (List.mem_of_getElem? (i := 205) rfl)) rfl
theorem zw_1245 : Cond.code yX9_lensOf prog_11_method_70_code 7 (some .int) ∈ zq_W := zq_inW (zq_t5 (List.mem_of_getElem? (i := 206) rfl)) rfl
theorem zw_1246 : Cond.methodLink RL 104 yX9_spare ∈ zq_W := zq_inW (zq_t5 (List.mem_of_getElem? (i := 207) rfl)) rfl
theorem zw_1247 : Cond.instanceMethod yX9_spare ∈ zq_W := zq_inW (zq_t5 (List.mem_of_getElem? (i := 208) rfl)) rfl
theorem zw_1248 : Cond.selects RX9 yX9_spare yX9_spare ∈ zq_W := zq_inW (zq_t5 (List.mem_of_getElem? (i := 209) rfl)) rfl
theorem zw_1249 : Cond.code yX9_spare prog_11_method_75_code 2 (some .int) ∈ zq_W := zq_inW (zq_t5 (List.mem_of_getElem? (i := 210) rfl)) rfl
theorem zw_1250 : Cond.methodLink RX9 279 yX9_spareBy ∈ zq_W := zq_inW (zq_t5 (List.mem_of_getElem? (i := 211) rfl)) rfl
theorem zw_1252 : Cond.instanceMethod yX9_spareBy ∈ zq_W := zq_inW (zq_t5 (List.mem_of_getElem? (i := 213) rfl)) rfl
theorem zw_1253 : Cond.code yX9_spareBy prog_11_method_73_code 3 (some .int) ∈ zq_W := zq_inW (zq_t5 (List.mem_of_getElem? (i := 214) rfl)) rfl
theorem zw_1254 : Cond.methodLink RX9 276 yX9_isSpared ∈ zq_W := zq_inW (zq_t5 (List.mem_of_getElem? (i := 215) rfl)) rfl
theorem zw_1256 : Cond.instanceMethod yX9_isSpared ∈ zq_W := zq_inW (zq_t5 (List.mem_of_getElem? (i := 217) rfl)) rfl
theorem zw_1257 : Cond.code yX9_isSpared prog_11_method_72_code 2 (some .boolean) ∈ zq_W := zq_inW (zq_t5 (List.mem_of_getElem? (i := 218) rfl)) rfl
theorem zw_1258 : Cond.methodLink RX9 282 yX9_ofRow ∈ zq_W := zq_inW (zq_t5 (List.mem_of_getElem? (i := 219) rfl)) rfl
theorem zw_1260 : Cond.instanceMethod yX9_ofRow ∈ zq_W := zq_inW (zq_t5 (List.mem_of_getElem? (i := 221) rfl)) rfl
theorem zw_1261 : Cond.code yX9_ofRow prog_11_method_74_code 3 (some .int) ∈ zq_W := zq_inW (zq_t5 (List.mem_of_getElem? (i := 222) rfl)) rfl
theorem zw_1262 : Cond.methodLink RL 108 yX9_seen ∈ zq_W := zq_inW (zq_t5 (List.mem_of_getElem? (i := 223) rfl)) rfl
theorem zw_1263 : Cond.instanceMethod yX9_seen ∈ zq_W := zq_inW (zq_t5 (List.mem_of_getElem? (i := 224) rfl)) rfl
theorem zw_1264 : Cond.selects RX9 yX9_seen yX9_seen ∈ zq_W := zq_inW (zq_t5 (List.mem_of_getElem? (i := 225) rfl)) rfl
theorem zw_1265 : Cond.code yX9_seen prog_11_method_76_code 4 (some .int) ∈ zq_W := zq_inW (zq_t5 (List.mem_of_getElem? (i := 226) rfl)) rfl
theorem zw_1266 : Cond.methodLink RL 112 yX9_forget ∈ zq_W := zq_inW (zq_t5 (List.mem_of_getElem? (i := 227) rfl)) rfl
theorem zw_1267 : Cond.instanceMethod yX9_forget ∈ zq_W := zq_inW (zq_t5 (List.mem_of_getElem? (i := 228) rfl)) rfl
theorem zw_1268 : Cond.selects RX9 yX9_forget yX9_forget ∈ zq_W := zq_inW (zq_t5 (List.mem_of_getElem? (i := 229) rfl)) rfl
theorem zw_1269 : Cond.code yX9_forget prog_11_method_77_code 2 (some .int) ∈ zq_W := zq_inW (zq_t5 (List.mem_of_getElem? (i := 230) rfl)) rfl
theorem zw_1270 : Cond.methodLink RL 116 yX9_never ∈ zq_W := zq_inW (zq_t5 (List.mem_of_getElem? (i := 231) rfl)) rfl
theorem zw_1271 : Cond.instanceMethod yX9_never ∈ zq_W := zq_inW (zq_t5 (List.mem_of_getElem? (i := 232) rfl)) rfl
theorem zw_1272 : Cond.selects RX9 yX9_never yX9_never ∈ zq_W := zq_inW (zq_t5 (List.mem_of_getElem? (i := 233) rfl)) rfl
theorem zw_1273 : Cond.code yX9_never prog_11_method_80_code 1 (some .int) ∈ zq_W := zq_inW (zq_t5 (List.mem_of_getElem? (i := 234) rfl)) rfl
theorem zw_1274 : Cond.methodLink RX9 292 yX9_neverNow ∈ zq_W := zq_inW (zq_t5 (List.mem_of_getElem? (i := 235) rfl)) rfl
theorem zw_1276 : Cond.instanceMethod yX9_neverNow ∈ zq_W := zq_inW (zq_t5 (List.mem_of_getElem? (i := 237) rfl)) rfl
theorem zw_1277 : Cond.code yX9_neverNow prog_11_method_79_code 3 (some .int) ∈ zq_W := zq_inW (zq_t5 (List.mem_of_getElem? (i := 238) rfl)) rfl
theorem zw_1278 : Cond.methodLink RX9 288 yX9_isSeen ∈ zq_W := zq_inW (zq_t5 (List.mem_of_getElem? (i := 239) rfl)) rfl
theorem zw_1280 : Cond.instanceMethod yX9_isSeen ∈ zq_W := zq_inW (zq_t6 (List.mem_of_getElem? (i := 1) rfl)) rfl
theorem zw_1281 : Cond.code yX9_isSeen prog_11_method_78_code 3 (some .boolean) ∈ zq_W := zq_inW (zq_t6 (List.mem_of_getElem? (i := 2) rfl)) rfl
theorem zw_1282 : Cond.methodLink RL 120 yX9_was ∈ zq_W := zq_inW (zq_t6 (List.mem_of_getElem? (i := 3) rfl)) rfl
theorem zw_1283 : Cond.instanceMethod yX9_was ∈ zq_W := zq_inW (zq_t6 (List.mem_of_getElem? (i := 4) rfl)) rfl
theorem zw_1284 : Cond.selects RX9 yX9_was yX9_was ∈ zq_W := zq_inW (zq_t6 (List.mem_of_getElem? (i := 5) rfl)) rfl
theorem zw_1285 : Cond.code yX9_was prog_11_method_83_code 3 (some .int) ∈ zq_W := zq_inW (zq_t6 (List.mem_of_getElem? (i := 6) rfl)) rfl
theorem zw_1286 : Cond.methodLink RX9 295 yX9_sortsBy ∈ zq_W := zq_inW (zq_t6 (List.mem_of_getElem? (i := 7) rfl)) rfl
theorem zw_1288 : Cond.instanceMethod yX9_sortsBy ∈ zq_W := zq_inW (zq_t6 (List.mem_of_getElem? (i := 9) rfl)) rfl
theorem zw_1289 : Cond.code yX9_sortsBy prog_11_method_81_code 5 (some .int) ∈ zq_W := zq_inW (zq_t6 (List.mem_of_getElem? (i := 10) rfl)) rfl
theorem zw_1290 : Cond.methodLink RX9 298 yX9_bedsBy ∈ zq_W := zq_inW (zq_t6 (List.mem_of_getElem? (i := 11) rfl)) rfl
theorem zw_1292 : Cond.instanceMethod yX9_bedsBy ∈ zq_W := zq_inW (zq_t6 (List.mem_of_getElem? (i := 13) rfl)) rfl
theorem zw_1293 : Cond.code yX9_bedsBy prog_11_method_82_code 6 (some .int) ∈ zq_W := zq_inW (zq_t6 (List.mem_of_getElem? (i := 14) rfl)) rfl
theorem zw_1294 : Cond.methodLink RL 124 yX9_ask ∈ zq_W := zq_inW (zq_t6 (List.mem_of_getElem? (i := 15) rfl)) rfl
theorem zw_1295 : Cond.instanceMethod yX9_ask ∈ zq_W := zq_inW (zq_t6 (List.mem_of_getElem? (i := 16) rfl)) rfl
theorem zw_1296 : Cond.selects RX9 yX9_ask yX9_ask ∈ zq_W := zq_inW (zq_t6 (List.mem_of_getElem? (i := 17) rfl)) rfl
theorem zw_1297 : Cond.code yX9_ask prog_11_method_85_code 2 (some .int) ∈ zq_W := zq_inW (zq_t6 (List.mem_of_getElem? (i := 18) rfl)) rfl
theorem zw_1298 : Cond.methodLink RX9 301 yX9_askOf ∈ zq_W := zq_inW (zq_t6 (List.mem_of_getElem? (i := 19) rfl)) rfl
theorem zw_1300 : Cond.instanceMethod yX9_askOf ∈ zq_W := zq_inW (zq_t6 (List.mem_of_getElem? (i := 21) rfl)) rfl
theorem zw_1301 : Cond.code yX9_askOf prog_11_method_84_code 10 (some .int) ∈ zq_W := zq_inW (zq_t6 (List.mem_of_getElem? (i := 22) rfl)) rfl
theorem zw_1302 : Cond.methodLink RL 129 yX9_chance ∈ zq_W := zq_inW (zq_t6 (List.mem_of_getElem? (i := 23) rfl)) rfl
theorem zw_1303 : Cond.instanceMethod yX9_chance ∈ zq_W := zq_inW (zq_t6 (List.mem_of_getElem? (i := 24) rfl)) rfl
theorem zw_1304 : Cond.selects RX9 yX9_chance yX9_chance ∈ zq_W := zq_inW (zq_t6 (List.mem_of_getElem? (i := 25) rfl)) rfl
theorem zw_1305 : Cond.code yX9_chance prog_11_method_87_code 5 (some .long) ∈ zq_W := zq_inW (zq_t6 (List.mem_of_getElem? (i := 26) rfl)) rfl
theorem zw_1306 : Cond.methodLink RX9 308 yX9_chanceOf ∈ zq_W := zq_inW (zq_t6 (List.mem_of_getElem? (i := 27) rfl)) rfl
theorem zw_1308 : Cond.instanceMethod yX9_chanceOf ∈ zq_W := zq_inW (zq_t6 (List.mem_of_getElem? (i := 29) rfl)) rfl
theorem zw_1309 : Cond.code yX9_chanceOf prog_11_method_86_code 11 (some .long) ∈ zq_W := zq_inW (zq_t6 (List.mem_of_getElem? (i := 30) rfl)) rfl
theorem zw_1310 : Cond.methodLink RX9 304 yX9_lowest ∈ zq_W := zq_inW (zq_t6 (List.mem_of_getElem? (i := 31) rfl)) rfl
theorem zw_1311 : Cond.static yX9_lowest ∈ zq_W := zq_inW (zq_t6 (List.mem_of_getElem? (i := 32) rfl)) rfl
theorem zw_1312 : Cond.code yX9_lowest prog_11_method_6_code 11 (some .long) ∈ zq_W := zq_inW (zq_t6 (List.mem_of_getElem? (i := 33) rfl)) rfl
theorem zw_1313 : Cond.methodLink RX9 312 yX9_no ∈ zq_W := zq_inW (zq_t6 (List.mem_of_getElem? (i := 34) rfl)) rfl
theorem zw_1314 : Cond.static yX9_no ∈ zq_W := zq_inW (zq_t6 (List.mem_of_getElem? (i := 35) rfl)) rfl
theorem zw_1315 : Cond.code yX9_no prog_11_method_5_code 1 (some .long) ∈ zq_W := zq_inW (zq_t6 (List.mem_of_getElem? (i := 36) rfl)) rfl
theorem zw_1316 : Cond.constantLong RX9 93 (-9223372036854775808) ∈ zq_W := zq_inW (zq_t6 (List.mem_of_getElem? (i := 37) rfl)) rfl
theorem zw_1317 : Cond.methodLink RL 133 yX9_weeks ∈ zq_W := zq_inW (zq_t6 (List.mem_of_getElem? (i := 38) rfl)) rfl
theorem zw_1318 : Cond.instanceMethod yX9_weeks ∈ zq_W := zq_inW (zq_t6 (List.mem_of_getElem? (i := 39) rfl)) rfl
theorem zw_1319 : Cond.selects RX9 yX9_weeks yX9_weeks ∈ zq_W := zq_inW (zq_t6 (List.mem_of_getElem? (i := 40) rfl)) rfl
theorem zw_1320 : Cond.code yX9_weeks prog_11_method_89_code 4 (some .int) ∈ zq_W := zq_inW (zq_t6 (List.mem_of_getElem? (i := 41) rfl)) rfl
theorem zw_1321 : Cond.methodLink RX9 317 yX9_weeksOf ∈ zq_W := zq_inW (zq_t6 (List.mem_of_getElem? (i := 42) rfl)) rfl
theorem zw_1323 : Cond.instanceMethod yX9_weeksOf ∈ zq_W := zq_inW (zq_t6 (List.mem_of_getElem? (i := 44) rfl)) rfl
theorem zw_1324 : Cond.code yX9_weeksOf prog_11_method_88_code 6 (some .int) ∈ zq_W := zq_inW (zq_t6 (List.mem_of_getElem? (i := 45) rfl)) rfl
theorem zw_1325 : Cond.constant RX9 316 (1103515245) ∈ zq_W := zq_inW (zq_t6 (List.mem_of_getElem? (i := 46) rfl)) rfl
theorem zw_1326 : Cond.methodLink RL 137 yX9_sheet ∈ zq_W := zq_inW (zq_t6 (List.mem_of_getElem? (i := 47) rfl)) rfl
theorem zw_1327 : Cond.instanceMethod yX9_sheet ∈ zq_W := zq_inW (zq_t6 (List.mem_of_getElem? (i := 48) rfl)) rfl
theorem zw_1328 : Cond.selects RX9 yX9_sheet yX9_sheet ∈ zq_W := zq_inW (zq_t6 (List.mem_of_getElem? (i := 49) rfl)) rfl
theorem zw_1329 : Cond.code yX9_sheet prog_11_method_92_code 5 (some .int) ∈ zq_W := zq_inW (zq_t6 (List.mem_of_getElem? (i := 50) rfl)) rfl
theorem zw_1330 : Cond.methodLink RL 141 yX9_lose ∈ zq_W := zq_inW (zq_t6 (List.mem_of_getElem? (i := 51) rfl)) rfl
theorem zw_1331 : Cond.instanceMethod yX9_lose ∈ zq_W := zq_inW (zq_t6 (List.mem_of_getElem? (i := 52) rfl)) rfl
theorem zw_1332 : Cond.selects RX9 yX9_lose yX9_lose ∈ zq_W := zq_inW (zq_t6 (List.mem_of_getElem? (i := 53) rfl)) rfl
theorem zw_1333 : Cond.code yX9_lose prog_11_method_93_code 2 (some .int) ∈ zq_W := zq_inW (zq_t6 (List.mem_of_getElem? (i := 54) rfl)) rfl
theorem zw_1334 : Cond.methodLink RL 146 yX9_put ∈ zq_W := zq_inW (zq_t6 (List.mem_of_getElem? (i := 55) rfl)) rfl
theorem zw_1335 : Cond.instanceMethod yX9_put ∈ zq_W := zq_inW (zq_t6 (List.mem_of_getElem? (i := 56) rfl)) rfl
theorem zw_1336 : Cond.selects RX9 yX9_put yX9_put ∈ zq_W := zq_inW (zq_t6 (List.mem_of_getElem? (i := 57) rfl)) rfl
theorem zw_1337 : Cond.code yX9_put prog_11_method_96_code 6 (some .int) ∈ zq_W := zq_inW (zq_t6 (List.mem_of_getElem? (i := 58) rfl)) rfl
theorem zw_1338 : Cond.methodLink RX9 323 yX9_lacks ∈ zq_W := zq_inW (zq_t6 (List.mem_of_getElem? (i := 59) rfl)) rfl
theorem zw_1340 : Cond.instanceMethod yX9_lacks ∈ zq_W := zq_inW (zq_t6 (List.mem_of_getElem? (i := 61) rfl)) rfl
theorem zw_1341 : Cond.code yX9_lacks prog_11_method_94_code 4 (some .int) ∈ zq_W := zq_inW (zq_t6 (List.mem_of_getElem? (i := 62) rfl)) rfl
theorem zw_1342 : Cond.methodLink RX9 326 yX9_keep ∈ zq_W := zq_inW (zq_t6 (List.mem_of_getElem? (i := 63) rfl)) rfl
theorem zw_1344 : Cond.instanceMethod yX9_keep ∈ zq_W := zq_inW (zq_t6 (List.mem_of_getElem? (i := 65) rfl)) rfl
theorem zw_1345 : Cond.code yX9_keep prog_11_method_95_code 4 none ∈ zq_W := zq_inW (zq_t6 (List.mem_of_getElem? (i := 66) rfl)) rfl
theorem zw_1346 : Cond.methodLink RL 150 yX9_get ∈ zq_W := zq_inW (zq_t6 (List.mem_of_getElem? (i := 67) rfl)) rfl
theorem zw_1347 : Cond.instanceMethod yX9_get ∈ zq_W := zq_inW (zq_t6 (List.mem_of_getElem? (i := 68) rfl)) rfl
theorem zw_1348 : Cond.selects RX9 yX9_get yX9_get ∈ zq_W := zq_inW (zq_t6 (List.mem_of_getElem? (i := 69) rfl)) rfl
theorem zw_1349 : Cond.code yX9_get prog_11_method_97_code 5 (some .int) ∈ zq_W := zq_inW (zq_t6 (List.mem_of_getElem? (i := 70) rfl)) rfl
theorem zw_1350 : Cond.constant RX9 330 (-2147483648) ∈ zq_W := zq_inW (zq_t6 (List.mem_of_getElem? (i := 71) rfl)) rfl
theorem zw_1351 : Cond.methodLink RL 155 yX9_copy ∈ zq_W := zq_inW (zq_t6 (List.mem_of_getElem? (i := 72) rfl)) rfl
theorem zw_1352 : Cond.instanceMethod yX9_copy ∈ zq_W := zq_inW (zq_t6 (List.mem_of_getElem? (i := 73) rfl)) rfl
theorem zw_1353 : Cond.selects RX9 yX9_copy yX9_copy ∈ zq_W := zq_inW (zq_t6 (List.mem_of_getElem? (i := 74) rfl)) rfl
theorem zw_1354 : Cond.code yX9_copy prog_11_method_98_code 7 (some .int) ∈ zq_W := zq_inW (zq_t6 (List.mem_of_getElem? (i := 75) rfl)) rfl
theorem zw_1355 : Cond.methodLink RL 159 yX9_write ∈ zq_W := zq_inW (zq_t6 (List.mem_of_getElem? (i := 76) rfl)) rfl
theorem zw_1356 : Cond.instanceMethod yX9_write ∈ zq_W := zq_inW (zq_t6 (List.mem_of_getElem? (i := 77) rfl)) rfl
theorem zw_1357 : Cond.selects RX9 yX9_write yX9_write ∈ zq_W := zq_inW (zq_t6 (List.mem_of_getElem? (i := 78) rfl)) rfl
theorem zw_1358 : Cond.code yX9_write prog_11_method_99_code 4 (some .int) ∈ zq_W := zq_inW (zq_t6 (List.mem_of_getElem? (i := 79) rfl)) rfl
theorem zw_1359 : Cond.methodLink RL 163 yX9_count ∈ zq_W := zq_inW (zq_t6 (List.mem_of_getElem? (i := 80) rfl)) rfl
theorem zw_1360 : Cond.instanceMethod yX9_count ∈ zq_W := zq_inW (zq_t6 (List.mem_of_getElem? (i := 81) rfl)) rfl
theorem zw_1361 : Cond.selects RX9 yX9_count yX9_count ∈ zq_W := zq_inW (zq_t6 (List.mem_of_getElem? (i := 82) rfl)) rfl
theorem zw_1362 : Cond.code yX9_count prog_11_method_101_code 2 (some .int) ∈ zq_W := zq_inW (zq_t6 (List.mem_of_getElem? (i := 83) rfl)) rfl
theorem zw_1363 : Cond.methodLink RX9 331 yX9_sumOf ∈ zq_W := zq_inW (zq_t6 (List.mem_of_getElem? (i := 84) rfl)) rfl
theorem zw_1365 : Cond.instanceMethod yX9_sumOf ∈ zq_W := zq_inW (zq_t6 (List.mem_of_getElem? (i := 86) rfl)) rfl
theorem zw_1366 : Cond.code yX9_sumOf prog_11_method_100_code 4 (some .int) ∈ zq_W := zq_inW (zq_t6 (List.mem_of_getElem? (i := 87) rfl)) rfl
theorem zw_1367 : Cond.methodLink RL 168 yX9_digest ∈ zq_W := zq_inW (zq_t6 (List.mem_of_getElem? (i := 88) rfl)) rfl
theorem zw_1368 : Cond.instanceMethod yX9_digest ∈ zq_W := zq_inW (zq_t6 (List.mem_of_getElem? (i := 89) rfl)) rfl
theorem zw_1369 : Cond.selects RX9 yX9_digest yX9_digest ∈ zq_W := zq_inW (zq_t6 (List.mem_of_getElem? (i := 90) rfl)) rfl
theorem zw_1370 : Cond.code yX9_digest prog_11_method_104_code 4 (some .long) ∈ zq_W := zq_inW (zq_t6 (List.mem_of_getElem? (i := 91) rfl)) rfl
theorem zw_1371 : Cond.constantLong RX9 340 (17) ∈ zq_W := zq_inW (zq_t6 (List.mem_of_getElem? (i := 92) rfl)) rfl
theorem zw_1372 : Cond.constantLong RX9 334 (31) ∈ zq_W := zq_inW (zq_t6 (List.mem_of_getElem? (i := 93) rfl)) rfl
theorem zw_1373 : Cond.methodLink RX9 342 yX9_count ∈ zq_W := zq_inW (zq_t6 (List.mem_of_getElem? (i := 94) rfl)) rfl
theorem zw_1374 : Cond.methodLink RX9 345 yX9_personDigest ∈ zq_W := zq_inW (zq_t6 (List.mem_of_getElem? (i := 95) rfl)) rfl
theorem zw_1376 : Cond.instanceMethod yX9_personDigest ∈ zq_W := zq_inW (zq_t6 (List.mem_of_getElem? (i := 97) rfl)) rfl
theorem zw_1377 : Cond.code yX9_personDigest prog_11_method_103_code 7 (some .long) ∈ zq_W := zq_inW (zq_t6 (List.mem_of_getElem? (i := 98) rfl)) rfl
theorem zw_1378 : Cond.methodLink RX9 336 yX9_hourDigest ∈ zq_W := zq_inW (zq_t6 (List.mem_of_getElem? (i := 99) rfl)) rfl
theorem zw_1380 : Cond.instanceMethod yX9_hourDigest ∈ zq_W := zq_inW (zq_t6 (List.mem_of_getElem? (i := 101) rfl)) rfl
theorem zw_1381 : Cond.code yX9_hourDigest prog_11_method_102_code 7 (some .long) ∈ zq_W := zq_inW (zq_t6 (List.mem_of_getElem? (i := 102) rfl)) rfl
theorem zw_1382 : Cond.sameMethod "DollsAhead$Text" "DollsAhead$Text" "understand" "()V" ∈ zq_W := zq_inW (zq_t6 (List.mem_of_getElem? (i := 103) rfl)) rfl
theorem zw_1383 : Cond.sameMethod "DollsAhead$Text" "DollsAhead$Text" "firstFault" "()I" ∈ zq_W := zq_inW (zq_t6 (List.mem_of_getElem? (i := 104) rfl)) rfl
theorem zf_X0_25 : ∀ q ∈ ([(0, 0)] : List (Nat × Nat)), zq_fok RX0 25 q.1 q.2 := List.forall_mem_cons.mpr ⟨⟨_, RX0, TX0, 9, rfl, by decide, zq_uw0, zw_123, Or.inr zw_124⟩, fun _ h => absurd h List.not_mem_nil⟩
theorem zf_X0_28 : ∀ q ∈ ([(0, 5)] : List (Nat × Nat)), zq_fok RX0 28 q.1 q.2 := List.forall_mem_cons.mpr ⟨⟨_, RX0, TX0, 9, rfl, by decide, zq_uw0, zw_138, Or.inr zw_139⟩, fun _ h => absurd h List.not_mem_nil⟩
theorem zf_X0_11 : ∀ q ∈ ([(0, 6)] : List (Nat × Nat)), zq_fok RX0 11 q.1 q.2 := List.forall_mem_cons.mpr ⟨⟨_, RX0, TX0, 9, rfl, by decide, zq_uw0, zw_117, Or.inl rfl⟩, fun _ h => absurd h List.not_mem_nil⟩
theorem zf_X0_15 : ∀ q ∈ ([(0, 7)] : List (Nat × Nat)), zq_fok RX0 15 q.1 q.2 := List.forall_mem_cons.mpr ⟨⟨_, RX0, TX0, 9, rfl, by decide, zq_uw0, zw_119, Or.inl rfl⟩, fun _ h => absurd h List.not_mem_nil⟩
theorem zf_X0_18 : ∀ q ∈ ([(0, 8)] : List (Nat × Nat)), zq_fok RX0 18 q.1 q.2 := List.forall_mem_cons.mpr ⟨⟨_, RX0, TX0, 9, rfl, by decide, zq_uw0, zw_121, Or.inl rfl⟩, fun _ h => absurd h List.not_mem_nil⟩
theorem zf_X1_21 : ∀ q ∈ ([(1, 3)] : List (Nat × Nat)), zq_fok RX1 21 q.1 q.2 := List.forall_mem_cons.mpr ⟨⟨_, RX1, TX1, 4, rfl, by decide, zq_uw1, zw_206, Or.inl rfl⟩, fun _ h => absurd h List.not_mem_nil⟩
theorem zf_X1_11 : ∀ q ∈ ([(1, 0)] : List (Nat × Nat)), zq_fok RX1 11 q.1 q.2 := List.forall_mem_cons.mpr ⟨⟨_, RX1, TX1, 4, rfl, by decide, zq_uw1, zw_200, Or.inl rfl⟩, fun _ h => absurd h List.not_mem_nil⟩
theorem zf_X1_15 : ∀ q ∈ ([(1, 1)] : List (Nat × Nat)), zq_fok RX1 15 q.1 q.2 := List.forall_mem_cons.mpr ⟨⟨_, RX1, TX1, 4, rfl, by decide, zq_uw1, zw_202, Or.inl rfl⟩, fun _ h => absurd h List.not_mem_nil⟩
theorem zf_X1_18 : ∀ q ∈ ([(1, 2)] : List (Nat × Nat)), zq_fok RX1 18 q.1 q.2 := List.forall_mem_cons.mpr ⟨⟨_, RX1, TX1, 4, rfl, by decide, zq_uw1, zw_204, Or.inl rfl⟩, fun _ h => absurd h List.not_mem_nil⟩
theorem zf_X2_8 : ∀ q ∈ ([(2, 0)] : List (Nat × Nat)), zq_fok RX2 8 q.1 q.2 := List.forall_mem_cons.mpr ⟨⟨_, RX2, TX2, 1, rfl, by decide, zq_uw2, zw_224, Or.inl rfl⟩, fun _ h => absurd h List.not_mem_nil⟩
theorem zf_X3_29 : ∀ q ∈ ([(3, 5)] : List (Nat × Nat)), zq_fok RX3 29 q.1 q.2 := List.forall_mem_cons.mpr ⟨⟨_, RX3, TX3, 9, rfl, by decide, zq_uw3, zw_140, Or.inr zw_141⟩, fun _ h => absurd h List.not_mem_nil⟩
theorem zf_X3_11 : ∀ q ∈ ([(3, 6)] : List (Nat × Nat)), zq_fok RX3 11 q.1 q.2 := List.forall_mem_cons.mpr ⟨⟨_, RX3, TX3, 9, rfl, by decide, zq_uw3, zw_172, Or.inl rfl⟩, fun _ h => absurd h List.not_mem_nil⟩
theorem zf_X3_15 : ∀ q ∈ ([(3, 7)] : List (Nat × Nat)), zq_fok RX3 15 q.1 q.2 := List.forall_mem_cons.mpr ⟨⟨_, RX3, TX3, 9, rfl, by decide, zq_uw3, zw_175, Or.inl rfl⟩, fun _ h => absurd h List.not_mem_nil⟩
theorem zf_X3_18 : ∀ q ∈ ([(3, 8)] : List (Nat × Nat)), zq_fok RX3 18 q.1 q.2 := List.forall_mem_cons.mpr ⟨⟨_, RX3, TX3, 9, rfl, by decide, zq_uw3, zw_178, Or.inl rfl⟩, fun _ h => absurd h List.not_mem_nil⟩
theorem zf_X3_36 : ∀ q ∈ ([(3, 0)] : List (Nat × Nat)), zq_fok RX3 36 q.1 q.2 := List.forall_mem_cons.mpr ⟨⟨_, RX3, TX3, 9, rfl, by decide, zq_uw3, zw_125, Or.inr zw_126⟩, fun _ h => absurd h List.not_mem_nil⟩
theorem zf_X4_19 : ∀ q ∈ ([(4, 2)] : List (Nat × Nat)), zq_fok RX4 19 q.1 q.2 := List.forall_mem_cons.mpr ⟨⟨_, RX4, TX4, 3, rfl, by decide, zq_uw4, zw_260, Or.inl rfl⟩, fun _ h => absurd h List.not_mem_nil⟩
theorem zf_X4_9 : ∀ q ∈ ([(4, 0)] : List (Nat × Nat)), zq_fok RX4 9 q.1 q.2 := List.forall_mem_cons.mpr ⟨⟨_, RX4, TX4, 3, rfl, by decide, zq_uw4, zw_256, Or.inl rfl⟩, fun _ h => absurd h List.not_mem_nil⟩
theorem zf_X4_15 : ∀ q ∈ ([(4, 1)] : List (Nat × Nat)), zq_fok RX4 15 q.1 q.2 := List.forall_mem_cons.mpr ⟨⟨_, RX4, TX4, 3, rfl, by decide, zq_uw4, zw_258, Or.inl rfl⟩, fun _ h => absurd h List.not_mem_nil⟩
theorem zf_X5_21 : ∀ q ∈ ([(5, 3)] : List (Nat × Nat)), zq_fok RX5 21 q.1 q.2 := List.forall_mem_cons.mpr ⟨⟨_, RX5, TX5, 4, rfl, by decide, zq_uw5, zw_238, Or.inl rfl⟩, fun _ h => absurd h List.not_mem_nil⟩
theorem zf_X5_9 : ∀ q ∈ ([(5, 0)] : List (Nat × Nat)), zq_fok RX5 9 q.1 q.2 := List.forall_mem_cons.mpr ⟨⟨_, RX5, TX5, 4, rfl, by decide, zq_uw5, zw_235, Or.inl rfl⟩, fun _ h => absurd h List.not_mem_nil⟩
theorem zf_X5_15 : ∀ q ∈ ([(5, 1)] : List (Nat × Nat)), zq_fok RX5 15 q.1 q.2 := List.forall_mem_cons.mpr ⟨⟨_, RX5, TX5, 4, rfl, by decide, zq_uw5, zw_236, Or.inl rfl⟩, fun _ h => absurd h List.not_mem_nil⟩
theorem zf_X5_18 : ∀ q ∈ ([(5, 2)] : List (Nat × Nat)), zq_fok RX5 18 q.1 q.2 := List.forall_mem_cons.mpr ⟨⟨_, RX5, TX5, 4, rfl, by decide, zq_uw5, zw_237, Or.inl rfl⟩, fun _ h => absurd h List.not_mem_nil⟩
theorem zf_X5_25 : ∀ q ∈ ([(6, 1)] : List (Nat × Nat)), zq_fok RX5 25 q.1 q.2 := List.forall_mem_cons.mpr ⟨⟨_, RX7, TX7, 14, rfl, by decide, zq_uw7, zw_280, Or.inl rfl⟩, fun _ h => absurd h List.not_mem_nil⟩
theorem zf_X5_31 : ∀ q ∈ ([(3, 5)] : List (Nat × Nat)), zq_fok RX5 31 q.1 q.2 := List.forall_mem_cons.mpr ⟨⟨_, RX3, TX3, 9, rfl, by decide, zq_uw3, zw_142, Or.inr zw_141⟩, fun _ h => absurd h List.not_mem_nil⟩
theorem zf_X6_31 : ∀ q ∈ ([(0, 3), (3, 3)] : List (Nat × Nat)), zq_fok RX6 31 q.1 q.2 := List.forall_mem_cons.mpr ⟨⟨_, RX0, TX0, 9, rfl, by decide, zq_uw0, zw_129, Or.inl rfl⟩, List.forall_mem_cons.mpr ⟨⟨_, RX3, TX3, 9, rfl, by decide, zq_uw3, zw_129, Or.inl rfl⟩, fun _ h => absurd h List.not_mem_nil⟩⟩
theorem zf_X6_21 : ∀ q ∈ ([(0, 1), (3, 1)] : List (Nat × Nat)), zq_fok RX6 21 q.1 q.2 := List.forall_mem_cons.mpr ⟨⟨_, RX0, TX0, 9, rfl, by decide, zq_uw0, zw_127, Or.inl rfl⟩, List.forall_mem_cons.mpr ⟨⟨_, RX3, TX3, 9, rfl, by decide, zq_uw3, zw_127, Or.inl rfl⟩, fun _ h => absurd h List.not_mem_nil⟩⟩
theorem zf_X6_9 : ∀ q ∈ ([(0, 0), (3, 0)] : List (Nat × Nat)), zq_fok RX6 9 q.1 q.2 := List.forall_mem_cons.mpr ⟨⟨_, RX0, TX0, 9, rfl, by decide, zq_uw0, zw_122, Or.inl rfl⟩, List.forall_mem_cons.mpr ⟨⟨_, RX3, TX3, 9, rfl, by decide, zq_uw3, zw_122, Or.inl rfl⟩, fun _ h => absurd h List.not_mem_nil⟩⟩
theorem zf_X6_34 : ∀ q ∈ ([(0, 4), (3, 4)] : List (Nat × Nat)), zq_fok RX6 34 q.1 q.2 := List.forall_mem_cons.mpr ⟨⟨_, RX0, TX0, 9, rfl, by decide, zq_uw0, zw_135, Or.inl rfl⟩, List.forall_mem_cons.mpr ⟨⟨_, RX3, TX3, 9, rfl, by decide, zq_uw3, zw_135, Or.inl rfl⟩, fun _ h => absurd h List.not_mem_nil⟩⟩
theorem zf_X6_28 : ∀ q ∈ ([(0, 2), (3, 2)] : List (Nat × Nat)), zq_fok RX6 28 q.1 q.2 := List.forall_mem_cons.mpr ⟨⟨_, RX0, TX0, 9, rfl, by decide, zq_uw0, zw_128, Or.inl rfl⟩, List.forall_mem_cons.mpr ⟨⟨_, RX3, TX3, 9, rfl, by decide, zq_uw3, zw_128, Or.inl rfl⟩, fun _ h => absurd h List.not_mem_nil⟩⟩
theorem zf_X7_27 : ∀ q ∈ ([(6, 7)] : List (Nat × Nat)), zq_fok RX7 27 q.1 q.2 := List.forall_mem_cons.mpr ⟨⟨_, RX7, TX7, 14, rfl, by decide, zq_uw7, zw_286, Or.inl rfl⟩, fun _ h => absurd h List.not_mem_nil⟩
theorem zf_X7_34 : ∀ q ∈ ([(6, 1)] : List (Nat × Nat)), zq_fok RX7 34 q.1 q.2 := List.forall_mem_cons.mpr ⟨⟨_, RX7, TX7, 14, rfl, by decide, zq_uw7, zw_279, Or.inl rfl⟩, fun _ h => absurd h List.not_mem_nil⟩
theorem zf_X7_70 : ∀ q ∈ ([(3, 5)] : List (Nat × Nat)), zq_fok RX7 70 q.1 q.2 := List.forall_mem_cons.mpr ⟨⟨_, RX3, TX3, 9, rfl, by decide, zq_uw3, zw_143, Or.inr zw_141⟩, fun _ h => absurd h List.not_mem_nil⟩
theorem zf_X7_38 : ∀ q ∈ ([(6, 8)] : List (Nat × Nat)), zq_fok RX7 38 q.1 q.2 := List.forall_mem_cons.mpr ⟨⟨_, RX7, TX7, 14, rfl, by decide, zq_uw7, zw_287, Or.inl rfl⟩, fun _ h => absurd h List.not_mem_nil⟩
theorem zf_X7_83 : ∀ q ∈ ([(1, 3)] : List (Nat × Nat)), zq_fok RX7 83 q.1 q.2 := List.forall_mem_cons.mpr ⟨⟨_, RX1, TX1, 4, rfl, by decide, zq_uw1, zw_207, Or.inl rfl⟩, fun _ h => absurd h List.not_mem_nil⟩
theorem zf_X7_88 : ∀ q ∈ ([(1, 1)] : List (Nat × Nat)), zq_fok RX7 88 q.1 q.2 := List.forall_mem_cons.mpr ⟨⟨_, RX1, TX1, 4, rfl, by decide, zq_uw1, zw_203, Or.inl rfl⟩, fun _ h => absurd h List.not_mem_nil⟩
theorem zf_X7_58 : ∀ q ∈ ([(6, 9)] : List (Nat × Nat)), zq_fok RX7 58 q.1 q.2 := List.forall_mem_cons.mpr ⟨⟨_, RX7, TX7, 14, rfl, by decide, zq_uw7, zw_288, Or.inl rfl⟩, fun _ h => absurd h List.not_mem_nil⟩
theorem zf_X7_91 : ∀ q ∈ ([(1, 0)] : List (Nat × Nat)), zq_fok RX7 91 q.1 q.2 := List.forall_mem_cons.mpr ⟨⟨_, RX1, TX1, 4, rfl, by decide, zq_uw1, zw_201, Or.inl rfl⟩, fun _ h => absurd h List.not_mem_nil⟩
theorem zf_X7_94 : ∀ q ∈ ([(1, 2)] : List (Nat × Nat)), zq_fok RX7 94 q.1 q.2 := List.forall_mem_cons.mpr ⟨⟨_, RX1, TX1, 4, rfl, by decide, zq_uw1, zw_205, Or.inl rfl⟩, fun _ h => absurd h List.not_mem_nil⟩
theorem zf_X7_15 : ∀ q ∈ ([(6, 3)] : List (Nat × Nat)), zq_fok RX7 15 q.1 q.2 := List.forall_mem_cons.mpr ⟨⟨_, RX7, TX7, 14, rfl, by decide, zq_uw7, zw_282, Or.inl rfl⟩, fun _ h => absurd h List.not_mem_nil⟩
theorem zf_X7_18 : ∀ q ∈ ([(6, 4)] : List (Nat × Nat)), zq_fok RX7 18 q.1 q.2 := List.forall_mem_cons.mpr ⟨⟨_, RX7, TX7, 14, rfl, by decide, zq_uw7, zw_283, Or.inl rfl⟩, fun _ h => absurd h List.not_mem_nil⟩
theorem zf_X7_21 : ∀ q ∈ ([(6, 5)] : List (Nat × Nat)), zq_fok RX7 21 q.1 q.2 := List.forall_mem_cons.mpr ⟨⟨_, RX7, TX7, 14, rfl, by decide, zq_uw7, zw_284, Or.inl rfl⟩, fun _ h => absurd h List.not_mem_nil⟩
theorem zf_X7_30 : ∀ q ∈ ([(6, 0)] : List (Nat × Nat)), zq_fok RX7 30 q.1 q.2 := List.forall_mem_cons.mpr ⟨⟨_, RX7, TX7, 14, rfl, by decide, zq_uw7, zw_278, Or.inl rfl⟩, fun _ h => absurd h List.not_mem_nil⟩
theorem zf_X7_24 : ∀ q ∈ ([(6, 6)] : List (Nat × Nat)), zq_fok RX7 24 q.1 q.2 := List.forall_mem_cons.mpr ⟨⟨_, RX7, TX7, 14, rfl, by decide, zq_uw7, zw_285, Or.inl rfl⟩, fun _ h => absurd h List.not_mem_nil⟩
theorem zf_X7_110 : ∀ q ∈ ([(3, 7)] : List (Nat × Nat)), zq_fok RX7 110 q.1 q.2 := List.forall_mem_cons.mpr ⟨⟨_, RX3, TX3, 9, rfl, by decide, zq_uw3, zw_176, Or.inl rfl⟩, fun _ h => absurd h List.not_mem_nil⟩
theorem zf_X7_61 : ∀ q ∈ ([(6, 10)] : List (Nat × Nat)), zq_fok RX7 61 q.1 q.2 := List.forall_mem_cons.mpr ⟨⟨_, RX7, TX7, 14, rfl, by decide, zq_uw7, zw_289, Or.inl rfl⟩, fun _ h => absurd h List.not_mem_nil⟩
theorem zf_X7_9 : ∀ q ∈ ([(6, 2)] : List (Nat × Nat)), zq_fok RX7 9 q.1 q.2 := List.forall_mem_cons.mpr ⟨⟨_, RX7, TX7, 14, rfl, by decide, zq_uw7, zw_281, Or.inl rfl⟩, fun _ h => absurd h List.not_mem_nil⟩
theorem zf_X7_42 : ∀ q ∈ ([(6, 11)] : List (Nat × Nat)), zq_fok RX7 42 q.1 q.2 := List.forall_mem_cons.mpr ⟨⟨_, RX7, TX7, 14, rfl, by decide, zq_uw7, zw_290, Or.inl rfl⟩, fun _ h => absurd h List.not_mem_nil⟩
theorem zf_X7_46 : ∀ q ∈ ([(6, 12)] : List (Nat × Nat)), zq_fok RX7 46 q.1 q.2 := List.forall_mem_cons.mpr ⟨⟨_, RX7, TX7, 14, rfl, by decide, zq_uw7, zw_291, Or.inl rfl⟩, fun _ h => absurd h List.not_mem_nil⟩
theorem zf_X7_122 : ∀ q ∈ ([(3, 6)] : List (Nat × Nat)), zq_fok RX7 122 q.1 q.2 := List.forall_mem_cons.mpr ⟨⟨_, RX3, TX3, 9, rfl, by decide, zq_uw3, zw_174, Or.inl rfl⟩, fun _ h => absurd h List.not_mem_nil⟩
theorem zf_X7_49 : ∀ q ∈ ([(6, 13)] : List (Nat × Nat)), zq_fok RX7 49 q.1 q.2 := List.forall_mem_cons.mpr ⟨⟨_, RX7, TX7, 14, rfl, by decide, zq_uw7, zw_292, Or.inl rfl⟩, fun _ h => absurd h List.not_mem_nil⟩
theorem zf_X7_125 : ∀ q ∈ ([(3, 8)] : List (Nat × Nat)), zq_fok RX7 125 q.1 q.2 := List.forall_mem_cons.mpr ⟨⟨_, RX3, TX3, 9, rfl, by decide, zq_uw3, zw_180, Or.inl rfl⟩, fun _ h => absurd h List.not_mem_nil⟩
theorem zf_X8_115 : ∀ q ∈ ([(0, 3), (3, 3)] : List (Nat × Nat)), zq_fok RX8 115 q.1 q.2 := List.forall_mem_cons.mpr ⟨⟨_, RX0, TX0, 9, rfl, by decide, zq_uw0, zw_130, Or.inl rfl⟩, List.forall_mem_cons.mpr ⟨⟨_, RX3, TX3, 9, rfl, by decide, zq_uw3, zw_130, Or.inl rfl⟩, fun _ h => absurd h List.not_mem_nil⟩⟩
theorem zf_X8_121 : ∀ q ∈ ([(0, 4), (3, 4)] : List (Nat × Nat)), zq_fok RX8 121 q.1 q.2 := List.forall_mem_cons.mpr ⟨⟨_, RX0, TX0, 9, rfl, by decide, zq_uw0, zw_136, Or.inl rfl⟩, List.forall_mem_cons.mpr ⟨⟨_, RX3, TX3, 9, rfl, by decide, zq_uw3, zw_136, Or.inl rfl⟩, fun _ h => absurd h List.not_mem_nil⟩⟩
theorem zf_X8_10 : ∀ q ∈ ([(7, 0)] : List (Nat × Nat)), zq_fok RX8 10 q.1 q.2 := List.forall_mem_cons.mpr ⟨⟨_, RX8, TX8, 17, rfl, by decide, zq_uw8, zw_322, Or.inl rfl⟩, fun _ h => absurd h List.not_mem_nil⟩
theorem zf_X8_124 : ∀ q ∈ ([(0, 5)] : List (Nat × Nat)), zq_fok RX8 124 q.1 q.2 := List.forall_mem_cons.mpr ⟨⟨_, RX0, TX0, 9, rfl, by decide, zq_uw0, zw_144, Or.inr zw_139⟩, fun _ h => absurd h List.not_mem_nil⟩
theorem zf_X8_127 : ∀ q ∈ ([(0, 6)] : List (Nat × Nat)), zq_fok RX8 127 q.1 q.2 := List.forall_mem_cons.mpr ⟨⟨_, RX0, TX0, 9, rfl, by decide, zq_uw0, zw_118, Or.inl rfl⟩, fun _ h => absurd h List.not_mem_nil⟩
theorem zf_X8_130 : ∀ q ∈ ([(0, 7)] : List (Nat × Nat)), zq_fok RX8 130 q.1 q.2 := List.forall_mem_cons.mpr ⟨⟨_, RX0, TX0, 9, rfl, by decide, zq_uw0, zw_120, Or.inl rfl⟩, fun _ h => absurd h List.not_mem_nil⟩
theorem zf_X8_19 : ∀ q ∈ ([(7, 1)] : List (Nat × Nat)), zq_fok RX8 19 q.1 q.2 := List.forall_mem_cons.mpr ⟨⟨_, RX8, TX8, 17, rfl, by decide, zq_uw8, zw_323, Or.inl rfl⟩, fun _ h => absurd h List.not_mem_nil⟩
theorem zf_X8_137 : ∀ q ∈ ([(3, 6)] : List (Nat × Nat)), zq_fok RX8 137 q.1 q.2 := List.forall_mem_cons.mpr ⟨⟨_, RX3, TX3, 9, rfl, by decide, zq_uw3, zw_173, Or.inl rfl⟩, fun _ h => absurd h List.not_mem_nil⟩
theorem zf_X8_140 : ∀ q ∈ ([(3, 7)] : List (Nat × Nat)), zq_fok RX8 140 q.1 q.2 := List.forall_mem_cons.mpr ⟨⟨_, RX3, TX3, 9, rfl, by decide, zq_uw3, zw_177, Or.inl rfl⟩, fun _ h => absurd h List.not_mem_nil⟩
theorem zf_X8_143 : ∀ q ∈ ([(3, 8)] : List (Nat × Nat)), zq_fok RX8 143 q.1 q.2 := List.forall_mem_cons.mpr ⟨⟨_, RX3, TX3, 9, rfl, by decide, zq_uw3, zw_179, Or.inl rfl⟩, fun _ h => absurd h List.not_mem_nil⟩
theorem zf_X8_77 : ∀ q ∈ ([(7, 12)] : List (Nat × Nat)), zq_fok RX8 77 q.1 q.2 := List.forall_mem_cons.mpr ⟨⟨_, RX8, TX8, 17, rfl, by decide, zq_uw8, zw_334, Or.inl rfl⟩, fun _ h => absurd h List.not_mem_nil⟩
theorem zf_X8_26 : ∀ q ∈ ([(7, 2)] : List (Nat × Nat)), zq_fok RX8 26 q.1 q.2 := List.forall_mem_cons.mpr ⟨⟨_, RX8, TX8, 17, rfl, by decide, zq_uw8, zw_324, Or.inl rfl⟩, fun _ h => absurd h List.not_mem_nil⟩
theorem zf_X8_152 : ∀ q ∈ ([(1, 3)] : List (Nat × Nat)), zq_fok RX8 152 q.1 q.2 := List.forall_mem_cons.mpr ⟨⟨_, RX1, TX1, 4, rfl, by decide, zq_uw1, zw_208, Or.inl rfl⟩, fun _ h => absurd h List.not_mem_nil⟩
theorem zf_X8_49 : ∀ q ∈ ([(7, 6)] : List (Nat × Nat)), zq_fok RX8 49 q.1 q.2 := List.forall_mem_cons.mpr ⟨⟨_, RX8, TX8, 17, rfl, by decide, zq_uw8, zw_328, Or.inl rfl⟩, fun _ h => absurd h List.not_mem_nil⟩
theorem zf_X8_166 : ∀ q ∈ ([(4, 2)] : List (Nat × Nat)), zq_fok RX8 166 q.1 q.2 := List.forall_mem_cons.mpr ⟨⟨_, RX4, TX4, 3, rfl, by decide, zq_uw4, zw_261, Or.inl rfl⟩, fun _ h => absurd h List.not_mem_nil⟩
theorem zf_X8_167 : ∀ q ∈ ([(4, 0)] : List (Nat × Nat)), zq_fok RX8 167 q.1 q.2 := List.forall_mem_cons.mpr ⟨⟨_, RX4, TX4, 3, rfl, by decide, zq_uw4, zw_257, Or.inl rfl⟩, fun _ h => absurd h List.not_mem_nil⟩
theorem zf_X8_63 : ∀ q ∈ ([(7, 8)] : List (Nat × Nat)), zq_fok RX8 63 q.1 q.2 := List.forall_mem_cons.mpr ⟨⟨_, RX8, TX8, 17, rfl, by decide, zq_uw8, zw_330, Or.inl rfl⟩, fun _ h => absurd h List.not_mem_nil⟩
theorem zf_X8_30 : ∀ q ∈ ([(7, 3)] : List (Nat × Nat)), zq_fok RX8 30 q.1 q.2 := List.forall_mem_cons.mpr ⟨⟨_, RX8, TX8, 17, rfl, by decide, zq_uw8, zw_325, Or.inl rfl⟩, fun _ h => absurd h List.not_mem_nil⟩
theorem zf_X8_43 : ∀ q ∈ ([(7, 5)] : List (Nat × Nat)), zq_fok RX8 43 q.1 q.2 := List.forall_mem_cons.mpr ⟨⟨_, RX8, TX8, 17, rfl, by decide, zq_uw8, zw_327, Or.inl rfl⟩, fun _ h => absurd h List.not_mem_nil⟩
theorem zf_X8_241 : ∀ q ∈ ([(5, 3)] : List (Nat × Nat)), zq_fok RX8 241 q.1 q.2 := List.forall_mem_cons.mpr ⟨⟨_, RX5, TX5, 4, rfl, by decide, zq_uw5, zw_239, Or.inl rfl⟩, fun _ h => absurd h List.not_mem_nil⟩
theorem zf_X8_73 : ∀ q ∈ ([(7, 11)] : List (Nat × Nat)), zq_fok RX8 73 q.1 q.2 := List.forall_mem_cons.mpr ⟨⟨_, RX8, TX8, 17, rfl, by decide, zq_uw8, zw_333, Or.inl rfl⟩, fun _ h => absurd h List.not_mem_nil⟩
theorem zf_X8_36 : ∀ q ∈ ([(7, 4)] : List (Nat × Nat)), zq_fok RX8 36 q.1 q.2 := List.forall_mem_cons.mpr ⟨⟨_, RX8, TX8, 17, rfl, by decide, zq_uw8, zw_326, Or.inl rfl⟩, fun _ h => absurd h List.not_mem_nil⟩
theorem zf_X8_282 : ∀ q ∈ ([(4, 1)] : List (Nat × Nat)), zq_fok RX8 282 q.1 q.2 := List.forall_mem_cons.mpr ⟨⟨_, RX4, TX4, 3, rfl, by decide, zq_uw4, zw_259, Or.inl rfl⟩, fun _ h => absurd h List.not_mem_nil⟩
theorem zf_X8_300 : ∀ q ∈ ([(3, 5)] : List (Nat × Nat)), zq_fok RX8 300 q.1 q.2 := List.forall_mem_cons.mpr ⟨⟨_, RX3, TX3, 9, rfl, by decide, zq_uw3, zw_145, Or.inr zw_141⟩, fun _ h => absurd h List.not_mem_nil⟩
theorem zf_X8_301 : ∀ q ∈ ([(0, 3)] : List (Nat × Nat)), zq_fok RX8 301 q.1 q.2 := List.forall_mem_cons.mpr ⟨⟨_, RX0, TX0, 9, rfl, by decide, zq_uw0, zw_131, Or.inr zw_132⟩, fun _ h => absurd h List.not_mem_nil⟩
theorem zf_X8_302 : ∀ q ∈ ([(3, 3)] : List (Nat × Nat)), zq_fok RX8 302 q.1 q.2 := List.forall_mem_cons.mpr ⟨⟨_, RX3, TX3, 9, rfl, by decide, zq_uw3, zw_133, Or.inr zw_134⟩, fun _ h => absurd h List.not_mem_nil⟩
theorem zf_X8_81 : ∀ q ∈ ([(7, 13)] : List (Nat × Nat)), zq_fok RX8 81 q.1 q.2 := List.forall_mem_cons.mpr ⟨⟨_, RX8, TX8, 17, rfl, by decide, zq_uw8, zw_335, Or.inl rfl⟩, fun _ h => absurd h List.not_mem_nil⟩
theorem zf_X8_59 : ∀ q ∈ ([(7, 7)] : List (Nat × Nat)), zq_fok RX8 59 q.1 q.2 := List.forall_mem_cons.mpr ⟨⟨_, RX8, TX8, 17, rfl, by decide, zq_uw8, zw_329, Or.inl rfl⟩, fun _ h => absurd h List.not_mem_nil⟩
theorem zf_X8_84 : ∀ q ∈ ([(7, 14)] : List (Nat × Nat)), zq_fok RX8 84 q.1 q.2 := List.forall_mem_cons.mpr ⟨⟨_, RX8, TX8, 17, rfl, by decide, zq_uw8, zw_336, Or.inl rfl⟩, fun _ h => absurd h List.not_mem_nil⟩
theorem zf_X8_66 : ∀ q ∈ ([(7, 9)] : List (Nat × Nat)), zq_fok RX8 66 q.1 q.2 := List.forall_mem_cons.mpr ⟨⟨_, RX8, TX8, 17, rfl, by decide, zq_uw8, zw_331, Or.inl rfl⟩, fun _ h => absurd h List.not_mem_nil⟩
theorem zf_X8_70 : ∀ q ∈ ([(7, 10)] : List (Nat × Nat)), zq_fok RX8 70 q.1 q.2 := List.forall_mem_cons.mpr ⟨⟨_, RX8, TX8, 17, rfl, by decide, zq_uw8, zw_332, Or.inl rfl⟩, fun _ h => absurd h List.not_mem_nil⟩
theorem zf_X8_88 : ∀ q ∈ ([(7, 15)] : List (Nat × Nat)), zq_fok RX8 88 q.1 q.2 := List.forall_mem_cons.mpr ⟨⟨_, RX8, TX8, 17, rfl, by decide, zq_uw8, zw_337, Or.inl rfl⟩, fun _ h => absurd h List.not_mem_nil⟩
theorem zf_X8_91 : ∀ q ∈ ([(7, 16)] : List (Nat × Nat)), zq_fok RX8 91 q.1 q.2 := List.forall_mem_cons.mpr ⟨⟨_, RX8, TX8, 17, rfl, by decide, zq_uw8, zw_338, Or.inl rfl⟩, fun _ h => absurd h List.not_mem_nil⟩
theorem zf_X9_7 : ∀ q ∈ ([(8, 0)] : List (Nat × Nat)), zq_fok RX9 7 q.1 q.2 := List.forall_mem_cons.mpr ⟨⟨_, RX9, TX9, 37, rfl, by decide, zq_uw9, zw_864, Or.inl rfl⟩, fun _ h => absurd h List.not_mem_nil⟩
theorem zf_X9_13 : ∀ q ∈ ([(8, 1)] : List (Nat × Nat)), zq_fok RX9 13 q.1 q.2 := List.forall_mem_cons.mpr ⟨⟨_, RX9, TX9, 37, rfl, by decide, zq_uw9, zw_865, Or.inl rfl⟩, fun _ h => absurd h List.not_mem_nil⟩
theorem zf_X9_16 : ∀ q ∈ ([(8, 3)] : List (Nat × Nat)), zq_fok RX9 16 q.1 q.2 := List.forall_mem_cons.mpr ⟨⟨_, RX9, TX9, 37, rfl, by decide, zq_uw9, zw_867, Or.inl rfl⟩, fun _ h => absurd h List.not_mem_nil⟩
theorem zf_X9_19 : ∀ q ∈ ([(8, 4)] : List (Nat × Nat)), zq_fok RX9 19 q.1 q.2 := List.forall_mem_cons.mpr ⟨⟨_, RX9, TX9, 37, rfl, by decide, zq_uw9, zw_868, Or.inl rfl⟩, fun _ h => absurd h List.not_mem_nil⟩
theorem zf_X9_22 : ∀ q ∈ ([(8, 6)] : List (Nat × Nat)), zq_fok RX9 22 q.1 q.2 := List.forall_mem_cons.mpr ⟨⟨_, RX9, TX9, 37, rfl, by decide, zq_uw9, zw_870, Or.inl rfl⟩, fun _ h => absurd h List.not_mem_nil⟩
theorem zf_X9_25 : ∀ q ∈ ([(8, 7)] : List (Nat × Nat)), zq_fok RX9 25 q.1 q.2 := List.forall_mem_cons.mpr ⟨⟨_, RX9, TX9, 37, rfl, by decide, zq_uw9, zw_871, Or.inl rfl⟩, fun _ h => absurd h List.not_mem_nil⟩
theorem zf_X9_28 : ∀ q ∈ ([(8, 8)] : List (Nat × Nat)), zq_fok RX9 28 q.1 q.2 := List.forall_mem_cons.mpr ⟨⟨_, RX9, TX9, 37, rfl, by decide, zq_uw9, zw_872, Or.inl rfl⟩, fun _ h => absurd h List.not_mem_nil⟩
theorem zf_X9_110 : ∀ q ∈ ([(8, 2)] : List (Nat × Nat)), zq_fok RX9 110 q.1 q.2 := List.forall_mem_cons.mpr ⟨⟨_, RX9, TX9, 37, rfl, by decide, zq_uw9, zw_866, Or.inl rfl⟩, fun _ h => absurd h List.not_mem_nil⟩
theorem zf_X9_113 : ∀ q ∈ ([(8, 5)] : List (Nat × Nat)), zq_fok RX9 113 q.1 q.2 := List.forall_mem_cons.mpr ⟨⟨_, RX9, TX9, 37, rfl, by decide, zq_uw9, zw_869, Or.inl rfl⟩, fun _ h => absurd h List.not_mem_nil⟩
theorem zf_X9_89 : ∀ q ∈ ([(8, 9)] : List (Nat × Nat)), zq_fok RX9 89 q.1 q.2 := List.forall_mem_cons.mpr ⟨⟨_, RX9, TX9, 37, rfl, by decide, zq_uw9, zw_873, Or.inl rfl⟩, fun _ h => absurd h List.not_mem_nil⟩
theorem zf_X9_153 : ∀ q ∈ ([(8, 10)] : List (Nat × Nat)), zq_fok RX9 153 q.1 q.2 := List.forall_mem_cons.mpr ⟨⟨_, RX9, TX9, 37, rfl, by decide, zq_uw9, zw_874, Or.inl rfl⟩, fun _ h => absurd h List.not_mem_nil⟩
theorem zf_X9_31 : ∀ q ∈ ([(8, 11)] : List (Nat × Nat)), zq_fok RX9 31 q.1 q.2 := List.forall_mem_cons.mpr ⟨⟨_, RX9, TX9, 37, rfl, by decide, zq_uw9, zw_875, Or.inl rfl⟩, fun _ h => absurd h List.not_mem_nil⟩
theorem zf_X9_34 : ∀ q ∈ ([(8, 12)] : List (Nat × Nat)), zq_fok RX9 34 q.1 q.2 := List.forall_mem_cons.mpr ⟨⟨_, RX9, TX9, 37, rfl, by decide, zq_uw9, zw_876, Or.inl rfl⟩, fun _ h => absurd h List.not_mem_nil⟩
theorem zf_X9_37 : ∀ q ∈ ([(8, 13)] : List (Nat × Nat)), zq_fok RX9 37 q.1 q.2 := List.forall_mem_cons.mpr ⟨⟨_, RX9, TX9, 37, rfl, by decide, zq_uw9, zw_877, Or.inl rfl⟩, fun _ h => absurd h List.not_mem_nil⟩
theorem zf_X9_73 : ∀ q ∈ ([(8, 31)] : List (Nat × Nat)), zq_fok RX9 73 q.1 q.2 := List.forall_mem_cons.mpr ⟨⟨_, RX9, TX9, 37, rfl, by decide, zq_uw9, zw_895, Or.inl rfl⟩, fun _ h => absurd h List.not_mem_nil⟩
theorem zf_X9_80 : ∀ q ∈ ([(8, 33)] : List (Nat × Nat)), zq_fok RX9 80 q.1 q.2 := List.forall_mem_cons.mpr ⟨⟨_, RX9, TX9, 37, rfl, by decide, zq_uw9, zw_897, Or.inl rfl⟩, fun _ h => absurd h List.not_mem_nil⟩
theorem zf_X9_83 : ∀ q ∈ ([(8, 34)] : List (Nat × Nat)), zq_fok RX9 83 q.1 q.2 := List.forall_mem_cons.mpr ⟨⟨_, RX9, TX9, 37, rfl, by decide, zq_uw9, zw_898, Or.inl rfl⟩, fun _ h => absurd h List.not_mem_nil⟩
theorem zf_X9_40 : ∀ q ∈ ([(8, 16)] : List (Nat × Nat)), zq_fok RX9 40 q.1 q.2 := List.forall_mem_cons.mpr ⟨⟨_, RX9, TX9, 37, rfl, by decide, zq_uw9, zw_880, Or.inl rfl⟩, fun _ h => absurd h List.not_mem_nil⟩
theorem zf_X9_43 : ∀ q ∈ ([(8, 17)] : List (Nat × Nat)), zq_fok RX9 43 q.1 q.2 := List.forall_mem_cons.mpr ⟨⟨_, RX9, TX9, 37, rfl, by decide, zq_uw9, zw_881, Or.inl rfl⟩, fun _ h => absurd h List.not_mem_nil⟩
theorem zf_X9_46 : ∀ q ∈ ([(8, 18)] : List (Nat × Nat)), zq_fok RX9 46 q.1 q.2 := List.forall_mem_cons.mpr ⟨⟨_, RX9, TX9, 37, rfl, by decide, zq_uw9, zw_882, Or.inl rfl⟩, fun _ h => absurd h List.not_mem_nil⟩
theorem zf_X9_169 : ∀ q ∈ ([(8, 15)] : List (Nat × Nat)), zq_fok RX9 169 q.1 q.2 := List.forall_mem_cons.mpr ⟨⟨_, RX9, TX9, 37, rfl, by decide, zq_uw9, zw_879, Or.inl rfl⟩, fun _ h => absurd h List.not_mem_nil⟩
theorem zf_X9_172 : ∀ q ∈ ([(8, 19)] : List (Nat × Nat)), zq_fok RX9 172 q.1 q.2 := List.forall_mem_cons.mpr ⟨⟨_, RX9, TX9, 37, rfl, by decide, zq_uw9, zw_883, Or.inl rfl⟩, fun _ h => absurd h List.not_mem_nil⟩
theorem zf_X9_179 : ∀ q ∈ ([(8, 20)] : List (Nat × Nat)), zq_fok RX9 179 q.1 q.2 := List.forall_mem_cons.mpr ⟨⟨_, RX9, TX9, 37, rfl, by decide, zq_uw9, zw_884, Or.inl rfl⟩, fun _ h => absurd h List.not_mem_nil⟩
theorem zf_X9_182 : ∀ q ∈ ([(8, 21)] : List (Nat × Nat)), zq_fok RX9 182 q.1 q.2 := List.forall_mem_cons.mpr ⟨⟨_, RX9, TX9, 37, rfl, by decide, zq_uw9, zw_885, Or.inl rfl⟩, fun _ h => absurd h List.not_mem_nil⟩
theorem zf_X9_49 : ∀ q ∈ ([(8, 22)] : List (Nat × Nat)), zq_fok RX9 49 q.1 q.2 := List.forall_mem_cons.mpr ⟨⟨_, RX9, TX9, 37, rfl, by decide, zq_uw9, zw_886, Or.inl rfl⟩, fun _ h => absurd h List.not_mem_nil⟩
theorem zf_X9_52 : ∀ q ∈ ([(8, 23)] : List (Nat × Nat)), zq_fok RX9 52 q.1 q.2 := List.forall_mem_cons.mpr ⟨⟨_, RX9, TX9, 37, rfl, by decide, zq_uw9, zw_887, Or.inl rfl⟩, fun _ h => absurd h List.not_mem_nil⟩
theorem zf_X9_166 : ∀ q ∈ ([(8, 14)] : List (Nat × Nat)), zq_fok RX9 166 q.1 q.2 := List.forall_mem_cons.mpr ⟨⟨_, RX9, TX9, 37, rfl, by decide, zq_uw9, zw_878, Or.inl rfl⟩, fun _ h => absurd h List.not_mem_nil⟩
theorem zf_X9_55 : ∀ q ∈ ([(8, 24)] : List (Nat × Nat)), zq_fok RX9 55 q.1 q.2 := List.forall_mem_cons.mpr ⟨⟨_, RX9, TX9, 37, rfl, by decide, zq_uw9, zw_888, Or.inl rfl⟩, fun _ h => absurd h List.not_mem_nil⟩
theorem zf_X9_58 : ∀ q ∈ ([(8, 25)] : List (Nat × Nat)), zq_fok RX9 58 q.1 q.2 := List.forall_mem_cons.mpr ⟨⟨_, RX9, TX9, 37, rfl, by decide, zq_uw9, zw_889, Or.inl rfl⟩, fun _ h => absurd h List.not_mem_nil⟩
theorem zf_X9_285 : ∀ q ∈ ([(8, 26)] : List (Nat × Nat)), zq_fok RX9 285 q.1 q.2 := List.forall_mem_cons.mpr ⟨⟨_, RX9, TX9, 37, rfl, by decide, zq_uw9, zw_890, Or.inl rfl⟩, fun _ h => absurd h List.not_mem_nil⟩
theorem zf_X9_61 : ∀ q ∈ ([(8, 27)] : List (Nat × Nat)), zq_fok RX9 61 q.1 q.2 := List.forall_mem_cons.mpr ⟨⟨_, RX9, TX9, 37, rfl, by decide, zq_uw9, zw_891, Or.inl rfl⟩, fun _ h => absurd h List.not_mem_nil⟩
theorem zf_X9_64 : ∀ q ∈ ([(8, 28)] : List (Nat × Nat)), zq_fok RX9 64 q.1 q.2 := List.forall_mem_cons.mpr ⟨⟨_, RX9, TX9, 37, rfl, by decide, zq_uw9, zw_892, Or.inl rfl⟩, fun _ h => absurd h List.not_mem_nil⟩
theorem zf_X9_67 : ∀ q ∈ ([(8, 29)] : List (Nat × Nat)), zq_fok RX9 67 q.1 q.2 := List.forall_mem_cons.mpr ⟨⟨_, RX9, TX9, 37, rfl, by decide, zq_uw9, zw_893, Or.inl rfl⟩, fun _ h => absurd h List.not_mem_nil⟩
theorem zf_X9_70 : ∀ q ∈ ([(8, 30)] : List (Nat × Nat)), zq_fok RX9 70 q.1 q.2 := List.forall_mem_cons.mpr ⟨⟨_, RX9, TX9, 37, rfl, by decide, zq_uw9, zw_894, Or.inl rfl⟩, fun _ h => absurd h List.not_mem_nil⟩
theorem zf_X9_77 : ∀ q ∈ ([(8, 32)] : List (Nat × Nat)), zq_fok RX9 77 q.1 q.2 := List.forall_mem_cons.mpr ⟨⟨_, RX9, TX9, 37, rfl, by decide, zq_uw9, zw_896, Or.inl rfl⟩, fun _ h => absurd h List.not_mem_nil⟩
theorem zf_X9_86 : ∀ q ∈ ([(8, 35)] : List (Nat × Nat)), zq_fok RX9 86 q.1 q.2 := List.forall_mem_cons.mpr ⟨⟨_, RX9, TX9, 37, rfl, by decide, zq_uw9, zw_899, Or.inl rfl⟩, fun _ h => absurd h List.not_mem_nil⟩
theorem zf_X9_320 : ∀ q ∈ ([(8, 36)] : List (Nat × Nat)), zq_fok RX9 320 q.1 q.2 := List.forall_mem_cons.mpr ⟨⟨_, RX9, TX9, 37, rfl, by decide, zq_uw9, zw_900, Or.inl rfl⟩, fun _ h => absurd h List.not_mem_nil⟩
theorem zp_X1_21 : ∀ q ∈ ([(1, 3)] : List (Nat × Nat)), zq_wok RX1 21 q.1 q.2 .int := List.forall_mem_cons.mpr ⟨⟨RX1, TX1, 4, tyX1, rfl, by decide, zq_uw1, zw_206, tyX1_ok, nmX1, rfl, by decide +kernel⟩, fun _ h => absurd h List.not_mem_nil⟩
theorem zp_X2_8 : ∀ q ∈ ([(2, 0)] : List (Nat × Nat)), zq_wok RX2 8 q.1 q.2 .int := List.forall_mem_cons.mpr ⟨⟨RX2, TX2, 1, tyX2, rfl, by decide, zq_uw2, zw_224, tyX2_ok, nmX2, rfl, by decide +kernel⟩, fun _ h => absurd h List.not_mem_nil⟩
theorem zp_X4_15 : ∀ q ∈ ([(4, 1)] : List (Nat × Nat)), zq_wok RX4 15 q.1 q.2 .int := List.forall_mem_cons.mpr ⟨⟨RX4, TX4, 3, tyX4, rfl, by decide, zq_uw4, zw_258, tyX4_ok, nmX4, rfl, by decide +kernel⟩, fun _ h => absurd h List.not_mem_nil⟩
theorem zp_X4_19 : ∀ q ∈ ([(4, 2)] : List (Nat × Nat)), zq_wok RX4 19 q.1 q.2 .int := List.forall_mem_cons.mpr ⟨⟨RX4, TX4, 3, tyX4, rfl, by decide, zq_uw4, zw_260, tyX4_ok, nmX4, rfl, by decide +kernel⟩, fun _ h => absurd h List.not_mem_nil⟩
theorem zp_X5_21 : ∀ q ∈ ([(5, 3)] : List (Nat × Nat)), zq_wok RX5 21 q.1 q.2 .int := List.forall_mem_cons.mpr ⟨⟨RX5, TX5, 4, tyX5, rfl, by decide, zq_uw5, zw_238, tyX5_ok, nmX5, rfl, by decide +kernel⟩, fun _ h => absurd h List.not_mem_nil⟩
theorem zp_X6_31 : ∀ q ∈ ([(0, 3), (3, 3)] : List (Nat × Nat)), zq_wok RX6 31 q.1 q.2 .int := List.forall_mem_cons.mpr ⟨⟨RX0, TX0, 9, tyX0, rfl, by decide, zq_uw0, zw_129, tyX0_ok, nmX0, rfl, by decide +kernel⟩, List.forall_mem_cons.mpr ⟨⟨RX3, TX3, 9, tyX3, rfl, by decide, zq_uw3, zw_129, tyX3_ok, nmX3, rfl, by decide +kernel⟩, fun _ h => absurd h List.not_mem_nil⟩⟩
theorem zp_X6_34 : ∀ q ∈ ([(0, 4), (3, 4)] : List (Nat × Nat)), zq_wok RX6 34 q.1 q.2 .int := List.forall_mem_cons.mpr ⟨⟨RX0, TX0, 9, tyX0, rfl, by decide, zq_uw0, zw_135, tyX0_ok, nmX0, rfl, by decide +kernel⟩, List.forall_mem_cons.mpr ⟨⟨RX3, TX3, 9, tyX3, rfl, by decide, zq_uw3, zw_135, tyX3_ok, nmX3, rfl, by decide +kernel⟩, fun _ h => absurd h List.not_mem_nil⟩⟩
theorem zp_X6_37 : ∀ q ∈ ([(0, 5), (3, 5)] : List (Nat × Nat)), zq_wok RX6 37 q.1 q.2 .int := List.forall_mem_cons.mpr ⟨⟨RX0, TX0, 9, tyX0, rfl, by decide, zq_uw0, zw_137, tyX0_ok, nmX0, rfl, by decide +kernel⟩, List.forall_mem_cons.mpr ⟨⟨RX3, TX3, 9, tyX3, rfl, by decide, zq_uw3, zw_137, tyX3_ok, nmX3, rfl, by decide +kernel⟩, fun _ h => absurd h List.not_mem_nil⟩⟩
theorem zp_X7_42 : ∀ q ∈ ([(6, 11)] : List (Nat × Nat)), zq_wok RX7 42 q.1 q.2 .int := List.forall_mem_cons.mpr ⟨⟨RX7, TX7, 14, tyX7, rfl, by decide, zq_uw7, zw_290, tyX7_ok, nmX7, rfl, by decide +kernel⟩, fun _ h => absurd h List.not_mem_nil⟩
theorem zp_X7_46 : ∀ q ∈ ([(6, 12)] : List (Nat × Nat)), zq_wok RX7 46 q.1 q.2 .int := List.forall_mem_cons.mpr ⟨⟨RX7, TX7, 14, tyX7, rfl, by decide, zq_uw7, zw_291, tyX7_ok, nmX7, rfl, by decide +kernel⟩, fun _ h => absurd h List.not_mem_nil⟩
theorem zp_X7_49 : ∀ q ∈ ([(6, 13)] : List (Nat × Nat)), zq_wok RX7 49 q.1 q.2 .int := List.forall_mem_cons.mpr ⟨⟨RX7, TX7, 14, tyX7, rfl, by decide, zq_uw7, zw_292, tyX7_ok, nmX7, rfl, by decide +kernel⟩, fun _ h => absurd h List.not_mem_nil⟩
theorem zp_X7_38 : ∀ q ∈ ([(6, 8)] : List (Nat × Nat)), zq_wok RX7 38 q.1 q.2 (.object "DollsAhead$Events") := List.forall_mem_cons.mpr ⟨⟨RX7, TX7, 14, tyX7, rfl, by decide, zq_uw7, zw_287, tyX7_ok, nmX7, rfl, by decide +kernel⟩, fun _ h => absurd h List.not_mem_nil⟩
theorem zp_X7_58 : ∀ q ∈ ([(6, 9)] : List (Nat × Nat)), zq_wok RX7 58 q.1 q.2 .int := List.forall_mem_cons.mpr ⟨⟨RX7, TX7, 14, tyX7, rfl, by decide, zq_uw7, zw_288, tyX7_ok, nmX7, rfl, by decide +kernel⟩, fun _ h => absurd h List.not_mem_nil⟩
theorem zp_X7_61 : ∀ q ∈ ([(6, 10)] : List (Nat × Nat)), zq_wok RX7 61 q.1 q.2 .int := List.forall_mem_cons.mpr ⟨⟨RX7, TX7, 14, tyX7, rfl, by decide, zq_uw7, zw_289, tyX7_ok, nmX7, rfl, by decide +kernel⟩, fun _ h => absurd h List.not_mem_nil⟩
theorem zp_X8_77 : ∀ q ∈ ([(7, 12)] : List (Nat × Nat)), zq_wok RX8 77 q.1 q.2 .int := List.forall_mem_cons.mpr ⟨⟨RX8, TX8, 17, tyX8, rfl, by decide, zq_uw8, zw_334, tyX8_ok, nmX8, rfl, by decide +kernel⟩, fun _ h => absurd h List.not_mem_nil⟩
theorem zp_X8_152 : ∀ q ∈ ([(1, 3)] : List (Nat × Nat)), zq_wok RX8 152 q.1 q.2 .int := List.forall_mem_cons.mpr ⟨⟨RX1, TX1, 4, tyX1, rfl, by decide, zq_uw1, zw_208, tyX1_ok, nmX1, rfl, by decide +kernel⟩, fun _ h => absurd h List.not_mem_nil⟩
theorem zp_X8_241 : ∀ q ∈ ([(5, 3)] : List (Nat × Nat)), zq_wok RX8 241 q.1 q.2 .int := List.forall_mem_cons.mpr ⟨⟨RX5, TX5, 4, tyX5, rfl, by decide, zq_uw5, zw_239, tyX5_ok, nmX5, rfl, by decide +kernel⟩, fun _ h => absurd h List.not_mem_nil⟩
theorem zp_X8_264 : ∀ q ∈ ([(2, 0)] : List (Nat × Nat)), zq_wok RX8 264 q.1 q.2 .int := List.forall_mem_cons.mpr ⟨⟨RX2, TX2, 1, tyX2, rfl, by decide, zq_uw2, zw_225, tyX2_ok, nmX2, rfl, by decide +kernel⟩, fun _ h => absurd h List.not_mem_nil⟩
theorem zp_X8_166 : ∀ q ∈ ([(4, 2)] : List (Nat × Nat)), zq_wok RX8 166 q.1 q.2 .int := List.forall_mem_cons.mpr ⟨⟨RX4, TX4, 3, tyX4, rfl, by decide, zq_uw4, zw_261, tyX4_ok, nmX4, rfl, by decide +kernel⟩, fun _ h => absurd h List.not_mem_nil⟩
theorem zp_X8_84 : ∀ q ∈ ([(7, 14)] : List (Nat × Nat)), zq_wok RX8 84 q.1 q.2 .boolean := List.forall_mem_cons.mpr ⟨⟨RX8, TX8, 17, tyX8, rfl, by decide, zq_uw8, zw_336, tyX8_ok, nmX8, rfl, by decide +kernel⟩, fun _ h => absurd h List.not_mem_nil⟩
theorem zp_X8_91 : ∀ q ∈ ([(7, 16)] : List (Nat × Nat)), zq_wok RX8 91 q.1 q.2 .int := List.forall_mem_cons.mpr ⟨⟨RX8, TX8, 17, tyX8, rfl, by decide, zq_uw8, zw_338, tyX8_ok, nmX8, rfl, by decide +kernel⟩, fun _ h => absurd h List.not_mem_nil⟩
theorem zp_X8_88 : ∀ q ∈ ([(7, 15)] : List (Nat × Nat)), zq_wok RX8 88 q.1 q.2 .int := List.forall_mem_cons.mpr ⟨⟨RX8, TX8, 17, tyX8, rfl, by decide, zq_uw8, zw_337, tyX8_ok, nmX8, rfl, by decide +kernel⟩, fun _ h => absurd h List.not_mem_nil⟩
theorem zp_X8_81 : ∀ q ∈ ([(7, 13)] : List (Nat × Nat)), zq_wok RX8 81 q.1 q.2 .int := List.forall_mem_cons.mpr ⟨⟨RX8, TX8, 17, tyX8, rfl, by decide, zq_uw8, zw_335, tyX8_ok, nmX8, rfl, by decide +kernel⟩, fun _ h => absurd h List.not_mem_nil⟩
theorem zp_X9_110 : ∀ q ∈ ([(8, 2)] : List (Nat × Nat)), zq_wok RX9 110 q.1 q.2 .int := List.forall_mem_cons.mpr ⟨⟨RX9, TX9, 37, tyX9, rfl, by decide, zq_uw9, zw_866, tyX9_ok, nmX9, rfl, by decide +kernel⟩, fun _ h => absurd h List.not_mem_nil⟩
theorem zp_X9_113 : ∀ q ∈ ([(8, 5)] : List (Nat × Nat)), zq_wok RX9 113 q.1 q.2 .int := List.forall_mem_cons.mpr ⟨⟨RX9, TX9, 37, tyX9, rfl, by decide, zq_uw9, zw_869, tyX9_ok, nmX9, rfl, by decide +kernel⟩, fun _ h => absurd h List.not_mem_nil⟩
theorem zp_X9_89 : ∀ q ∈ ([(8, 9)] : List (Nat × Nat)), zq_wok RX9 89 q.1 q.2 .int := List.forall_mem_cons.mpr ⟨⟨RX9, TX9, 37, tyX9, rfl, by decide, zq_uw9, zw_873, tyX9_ok, nmX9, rfl, by decide +kernel⟩, fun _ h => absurd h List.not_mem_nil⟩
theorem zp_X9_153 : ∀ q ∈ ([(8, 10)] : List (Nat × Nat)), zq_wok RX9 153 q.1 q.2 .int := List.forall_mem_cons.mpr ⟨⟨RX9, TX9, 37, tyX9, rfl, by decide, zq_uw9, zw_874, tyX9_ok, nmX9, rfl, by decide +kernel⟩, fun _ h => absurd h List.not_mem_nil⟩
theorem zp_X9_166 : ∀ q ∈ ([(8, 14)] : List (Nat × Nat)), zq_wok RX9 166 q.1 q.2 .int := List.forall_mem_cons.mpr ⟨⟨RX9, TX9, 37, tyX9, rfl, by decide, zq_uw9, zw_878, tyX9_ok, nmX9, rfl, by decide +kernel⟩, fun _ h => absurd h List.not_mem_nil⟩
theorem zp_X9_169 : ∀ q ∈ ([(8, 15)] : List (Nat × Nat)), zq_wok RX9 169 q.1 q.2 .int := List.forall_mem_cons.mpr ⟨⟨RX9, TX9, 37, tyX9, rfl, by decide, zq_uw9, zw_879, tyX9_ok, nmX9, rfl, by decide +kernel⟩, fun _ h => absurd h List.not_mem_nil⟩
theorem zp_X9_172 : ∀ q ∈ ([(8, 19)] : List (Nat × Nat)), zq_wok RX9 172 q.1 q.2 .int := List.forall_mem_cons.mpr ⟨⟨RX9, TX9, 37, tyX9, rfl, by decide, zq_uw9, zw_883, tyX9_ok, nmX9, rfl, by decide +kernel⟩, fun _ h => absurd h List.not_mem_nil⟩
theorem zp_X9_179 : ∀ q ∈ ([(8, 20)] : List (Nat × Nat)), zq_wok RX9 179 q.1 q.2 .int := List.forall_mem_cons.mpr ⟨⟨RX9, TX9, 37, tyX9, rfl, by decide, zq_uw9, zw_884, tyX9_ok, nmX9, rfl, by decide +kernel⟩, fun _ h => absurd h List.not_mem_nil⟩
theorem zp_X9_182 : ∀ q ∈ ([(8, 21)] : List (Nat × Nat)), zq_wok RX9 182 q.1 q.2 .int := List.forall_mem_cons.mpr ⟨⟨RX9, TX9, 37, tyX9, rfl, by decide, zq_uw9, zw_885, tyX9_ok, nmX9, rfl, by decide +kernel⟩, fun _ h => absurd h List.not_mem_nil⟩
theorem zp_X9_285 : ∀ q ∈ ([(8, 26)] : List (Nat × Nat)), zq_wok RX9 285 q.1 q.2 .int := List.forall_mem_cons.mpr ⟨⟨RX9, TX9, 37, tyX9, rfl, by decide, zq_uw9, zw_890, tyX9_ok, nmX9, rfl, by decide +kernel⟩, fun _ h => absurd h List.not_mem_nil⟩
theorem zp_X9_320 : ∀ q ∈ ([(8, 36)] : List (Nat × Nat)), zq_wok RX9 320 q.1 q.2 .int := List.forall_mem_cons.mpr ⟨⟨RX9, TX9, 37, tyX9, rfl, by decide, zq_uw9, zw_900, tyX9_ok, nmX9, rfl, by decide +kernel⟩, fun _ h => absurd h List.not_mem_nil⟩
