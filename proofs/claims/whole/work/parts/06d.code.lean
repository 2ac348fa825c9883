def zc_X9_step_0 : List (Nat × zq_It) := [(0, .inl (zq_al 1 0)), (1, .inl (zq_getf 4 [(8, 23)])), (4, .inl (zq_push 6 (.int 64))), (6, .inl (zq_il 7 1)), (7, .inl (zq_i2 8 (fun x y => x * y))), (8, .inl (zq_push 10 (.int 8))), (10, .inl (zq_il 11 2)), (11, .inl (zq_i2 12 (fun x y => x * y))), (12, .inl (zq_i2 13 (fun x y => x + y))), (13, .inl (zq_il 14 3)), (14, .inl (zq_i2 15 (fun x y => x + y))), (15, .inl (zq_iald 16)), (16, .inl (zq_is 18 4)), (18, .inl (zq_il 19 2)), (19, .inl (zq_is 21 5)), (21, .inl (zq_push 23 (.int 7))), (23, .inl (zq_is 25 6)), (25, .inl (zq_il 27 6)), (27, .inl (zq_if_lt 30 99)), (30, .inl (zq_il 32 4)), (32, .inl (zq_push 34 (.int 99))), (34, .inl (zq_ic_ge 37 99)), (37, .inl (zq_al 38 0)), (38, .inl (zq_il 39 1)), (39, .inl (zq_il 40 2)), (40, .inl (zq_il 42 6)), (42, .inr (.inl (4, .inr [(8, zn_X9_isBeside)]))), (45, .inl (zq_if_eq 48 76)), (48, .inl (zq_al 49 0)), (49, .inl (zq_getf 52 [(8, 23)])), (52, .inl (zq_push 54 (.int 64))), (54, .inl (zq_il 55 1)), (55, .inl (zq_i2 56 (fun x y => x * y))), (56, .inl (zq_push 58 (.int 8))), (58, .inl (zq_il 60 6)), (60, .inl (zq_i2 61 (fun x y => x * y))), (61, .inl (zq_i2 62 (fun x y => x + y))), (62, .inl (zq_il 63 3)), (63, .inl (zq_i2 64 (fun x y => x + y))), (64, .inl (zq_iald 65))]
theorem zk_X9_step_0 : zq_oks zi_X9_step zc_X9_step_0 := zq_cons (zq_s_aload_n (n := 0) (by decide +kernel) rfl) <|
  zq_cons (zq_s_getf (index := 52) (by decide +kernel) zf_X9_52) <|
  zq_cons (zq_s_bipush (n := 64) (by decide +kernel) (by decide +kernel)) <|
  zq_cons (zq_s_iload_n (n := 1) (by decide +kernel) rfl) <|
  zq_cons (zq_s_imul (by decide +kernel)) <|
  zq_cons (zq_s_bipush (n := 8) (by decide +kernel) (by decide +kernel)) <|
  zq_cons (zq_s_iload_n (n := 2) (by decide +kernel) rfl) <|
  zq_cons (zq_s_imul (by decide +kernel)) <|
  zq_cons (zq_s_iadd (by decide +kernel)) <|
  zq_cons (zq_s_iload_n (n := 3) (by decide +kernel) rfl) <|
  zq_cons (zq_s_iadd (by decide +kernel)) <|
  zq_cons (zq_s_iald (by decide +kernel)) <|
  zq_cons (zq_s_istore (by decide +kernel) (by decide +kernel)) <|
  zq_cons (zq_s_iload_n (n := 2) (by decide +kernel) rfl) <|
  zq_cons (zq_s_istore (by decide +kernel) (by decide +kernel)) <|
  zq_cons (zq_s_bipush (n := 7) (by decide +kernel) (by decide +kernel)) <|
  zq_cons (zq_s_istore (by decide +kernel) (by decide +kernel)) <|
  zq_cons (zq_s_iload (by decide +kernel)) <|
  zq_cons (zq_s_if_lt (off := 72) (by decide +kernel) (by decide)) <|
  zq_cons (zq_s_iload (by decide +kernel)) <|
  zq_cons (zq_s_bipush (n := 99) (by decide +kernel) (by decide +kernel)) <|
  zq_cons (zq_s_ic_ge (off := 65) (by decide +kernel) (by decide)) <|
  zq_cons (zq_s_aload_n (n := 0) (by decide +kernel) rfl) <|
  zq_cons (zq_s_iload_n (n := 1) (by decide +kernel) rfl) <|
  zq_cons (zq_s_iload_n (n := 2) (by decide +kernel) rfl) <|
  zq_cons (zq_s_iload (by decide +kernel)) <|
  zq_cons (List.forall_mem_cons.mpr ⟨⟨zi_X9_isBeside, rfl, zq_s_callV (n := 3) (index := 189) (by decide +kernel) rfl zw_1130 zw_1132 zw_45 zw_91 zw_1133 (by decide +kernel) (by decide +kernel) ⟨rfl, rfl⟩⟩, fun _ h => absurd h List.not_mem_nil⟩) <|
  zq_cons (zq_s_if_eq (off := 31) (by decide +kernel) (by decide)) <|
  zq_cons (zq_s_aload_n (n := 0) (by decide +kernel) rfl) <|
  zq_cons (zq_s_getf (index := 52) (by decide +kernel) zf_X9_52) <|
  zq_cons (zq_s_bipush (n := 64) (by decide +kernel) (by decide +kernel)) <|
  zq_cons (zq_s_iload_n (n := 1) (by decide +kernel) rfl) <|
  zq_cons (zq_s_imul (by decide +kernel)) <|
  zq_cons (zq_s_bipush (n := 8) (by decide +kernel) (by decide +kernel)) <|
  zq_cons (zq_s_iload (by decide +kernel)) <|
  zq_cons (zq_s_imul (by decide +kernel)) <|
  zq_cons (zq_s_iadd (by decide +kernel)) <|
  zq_cons (zq_s_iload_n (n := 3) (by decide +kernel) rfl) <|
  zq_cons (zq_s_iadd (by decide +kernel)) <|
  zq_cons (zq_s_iald (by decide +kernel)) <|
  zq_nil
def zc_X9_step_1 : List (Nat × zq_It) := [(65, .inl (zq_il 67 4)), (67, .inl (zq_push 68 (.int 1))), (68, .inl (zq_i2 69 (fun x y => x - y))), (69, .inl (zq_ic_ne 72 76)), (72, .inl (zq_push 73 (.int 1))), (73, .inl (zq_goto 77)), (76, .inl (zq_push 77 (.int 0))), (77, .inl (zq_is 79 7)), (79, .inl (zq_il 81 7)), (81, .inl (zq_if_eq 84 89)), (84, .inl (zq_il 86 6)), (86, .inl (zq_goto 91)), (89, .inl (zq_il 91 5)), (91, .inl (zq_is 93 5)), (93, .inl (zq_inc 96 6 (-1))), (96, .inl (zq_goto 25)), (99, .inl (zq_il 101 5)), (101, .inr (.inr 1))]
theorem zk_X9_step_1 : zq_oks zi_X9_step zc_X9_step_1 := zq_cons (zq_s_iload (by decide +kernel)) <|
  zq_cons (zq_s_iconst (n := 1) (by decide +kernel) (by decide +kernel)) <|
  zq_cons (zq_s_isub (by decide +kernel)) <|
  zq_cons (zq_s_ic_ne (off := 7) (by decide +kernel) (by decide)) <|
  zq_cons (zq_s_iconst (n := 1) (by decide +kernel) (by decide +kernel)) <|
  zq_cons (zq_s_goto (off := 4) (by decide +kernel) (by decide)) <|
  zq_cons (zq_s_iconst (n := 0) (by decide +kernel) (by decide +kernel)) <|
  zq_cons (zq_s_istore (by decide +kernel) (by decide +kernel)) <|
  zq_cons (zq_s_iload (by decide +kernel)) <|
  zq_cons (zq_s_if_eq (off := 8) (by decide +kernel) (by decide)) <|
  zq_cons (zq_s_iload (by decide +kernel)) <|
  zq_cons (zq_s_goto (off := 5) (by decide +kernel) (by decide)) <|
  zq_cons (zq_s_iload (by decide +kernel)) <|
  zq_cons (zq_s_istore (by decide +kernel) (by decide +kernel)) <|
  zq_cons (zq_s_iinc (n := (-1)) (by decide +kernel) (by decide +kernel) (by decide +kernel)) <|
  zq_cons (zq_s_goto (off := (-71)) (by decide +kernel) (by decide)) <|
  zq_cons (zq_s_iload (by decide +kernel)) <|
  zq_cons (⟨rfl, (by decide +kernel)⟩) <|
  zq_nil
def zc_X9_step : List (Nat × zq_It) := zc_X9_step_0 ++ (zc_X9_step_1)
theorem zk_X9_step : zq_oks zi_X9_step zc_X9_step := zq_app zk_X9_step_0 (zk_X9_step_1)
def zc_X9_leastChild : List (Nat × zq_It) := [(0, .inl (zq_push 1 (.int (-1)))), (1, .inl (zq_is 2 1)), (2, .inl (zq_al 3 0)), (3, .inl (zq_getf 6 [(8, 5)])), (6, .inl (zq_push 7 (.int 1))), (7, .inl (zq_i2 8 (fun x y => x - y))), (8, .inl (zq_is 9 2)), (9, .inl (zq_il 10 2)), (10, .inl (zq_if_lt 13 35)), (13, .inl (zq_al 14 0)), (14, .inl (zq_getf 17 [(8, 6)])), (17, .inl (zq_il 18 2)), (18, .inl (zq_iald 19)), (19, .inl (zq_push 20 (.int 1))), (20, .inl (zq_ic_ne 23 27)), (23, .inl (zq_il 24 2)), (24, .inl (zq_goto 28)), (27, .inl (zq_il 28 1)), (28, .inl (zq_is 29 1)), (29, .inl (zq_inc 32 2 (-1))), (32, .inl (zq_goto 9)), (35, .inl (zq_il 36 1)), (36, .inr (.inr 1))]
theorem zk_X9_leastChild : zq_oks zi_X9_leastChild zc_X9_leastChild := zq_cons (zq_s_iconst (n := (-1)) (by decide +kernel) (by decide +kernel)) <|
  zq_cons (zq_s_istore_n (n := 1) (by decide +kernel) rfl (by decide +kernel)) <|
  zq_cons (zq_s_aload_n (n := 0) (by decide +kernel) rfl) <|
  zq_cons (zq_s_getf (index := 113) (by decide +kernel) zf_X9_113) <|
  zq_cons (zq_s_iconst (n := 1) (by decide +kernel) (by decide +kernel)) <|
  zq_cons (zq_s_isub (by decide +kernel)) <|
  zq_cons (zq_s_istore_n (n := 2) (by decide +kernel) rfl (by decide +kernel)) <|
  zq_cons (zq_s_iload_n (n := 2) (by decide +kernel) rfl) <|
  zq_cons (zq_s_if_lt (off := 25) (by decide +kernel) (by decide)) <|
  zq_cons (zq_s_aload_n (n := 0) (by decide +kernel) rfl) <|
  zq_cons (zq_s_getf (index := 22) (by decide +kernel) zf_X9_22) <|
  zq_cons (zq_s_iload_n (n := 2) (by decide +kernel) rfl) <|
  zq_cons (zq_s_iald (by decide +kernel)) <|
  zq_cons (zq_s_iconst (n := 1) (by decide +kernel) (by decide +kernel)) <|
  zq_cons (zq_s_ic_ne (off := 7) (by decide +kernel) (by decide)) <|
  zq_cons (zq_s_iload_n (n := 2) (by decide +kernel) rfl) <|
  zq_cons (zq_s_goto (off := 4) (by decide +kernel) (by decide)) <|
  zq_cons (zq_s_iload_n (n := 1) (by decide +kernel) rfl) <|
  zq_cons (zq_s_istore_n (n := 1) (by decide +kernel) rfl (by decide +kernel)) <|
  zq_cons (zq_s_iinc (n := (-1)) (by decide +kernel) (by decide +kernel) (by decide +kernel)) <|
  zq_cons (zq_s_goto (off := (-23)) (by decide +kernel) (by decide)) <|
  zq_cons (zq_s_iload_n (n := 1) (by decide +kernel) rfl) <|
  zq_cons (⟨rfl, (by decide +kernel)⟩) <|
  zq_nil
def zc_X9_goesThrough_0 : List (Nat × zq_It) := [(0, .inl (zq_al 1 0)), (1, .inl (zq_getf 4 [(8, 7)])), (4, .inl (zq_il 5 1)), (5, .inl (zq_iald 6)), (6, .inl (zq_is 7 3)), (7, .inl (zq_push 8 (.int 1))), (8, .inl (zq_is 10 4)), (10, .inl (zq_push 11 (.int 0))), (11, .inl (zq_is 13 5)), (13, .inl (zq_il 15 5)), (15, .inl (zq_push 17 (.int 24))), (17, .inl (zq_ic_ge 20 205)), (20, .inl (zq_al 21 0)), (21, .inl (zq_getf 24 [(8, 8)])), (24, .inl (zq_il 25 1)), (25, .inl (zq_iald 26)), (26, .inl (zq_is 28 6)), (28, .inl (zq_al 29 0)), (29, .inl (zq_getf 32 [(8, 6)])), (32, .inl (zq_il 33 1)), (33, .inl (zq_iald 34)), (34, .inl (zq_if_ne 37 66)), (37, .inl (zq_al 38 0)), (38, .inl (zq_getf 41 [(8, 22)])), (41, .inl (zq_il 43 5)), (43, .inl (zq_iald 44)), (44, .inl (zq_push 45 (.int (-1)))), (45, .inl (zq_ic_ne 48 57)), (48, .inl (zq_al 49 0)), (49, .inl (zq_getf 52 [(8, 8)])), (52, .inl (zq_il 53 1)), (53, .inl (zq_iald 54)), (54, .inl (zq_goto 64)), (57, .inl (zq_al 58 0)), (58, .inl (zq_getf 61 [(8, 22)])), (61, .inl (zq_il 63 5)), (63, .inl (zq_iald 64)), (64, .inl (zq_is 66 6)), (66, .inl (zq_al 67 0)), (67, .inl (zq_getf 70 [(8, 6)]))]
theorem zk_X9_goesThrough_0 : zq_oks zi_X9_goesThrough zc_X9_goesThrough_0 := zq_cons (zq_s_aload_n (n := 0) (by decide +kernel) rfl) <|
  zq_cons (zq_s_getf (index := 25) (by decide +kernel) zf_X9_25) <|
  zq_cons (zq_s_iload_n (n := 1) (by decide +kernel) rfl) <|
  zq_cons (zq_s_iald (by decide +kernel)) <|
  zq_cons (zq_s_istore_n (n := 3) (by decide +kernel) rfl (by decide +kernel)) <|
  zq_cons (zq_s_iconst (n := 1) (by decide +kernel) (by decide +kernel)) <|
  zq_cons (zq_s_istore (by decide +kernel) (by decide +kernel)) <|
  zq_cons (zq_s_iconst (n := 0) (by decide +kernel) (by decide +kernel)) <|
  zq_cons (zq_s_istore (by decide +kernel) (by decide +kernel)) <|
  zq_cons (zq_s_iload (by decide +kernel)) <|
  zq_cons (zq_s_bipush (n := 24) (by decide +kernel) (by decide +kernel)) <|
  zq_cons (zq_s_ic_ge (off := 188) (by decide +kernel) (by decide)) <|
  zq_cons (zq_s_aload_n (n := 0) (by decide +kernel) rfl) <|
  zq_cons (zq_s_getf (index := 28) (by decide +kernel) zf_X9_28) <|
  zq_cons (zq_s_iload_n (n := 1) (by decide +kernel) rfl) <|
  zq_cons (zq_s_iald (by decide +kernel)) <|
  zq_cons (zq_s_istore (by decide +kernel) (by decide +kernel)) <|
  zq_cons (zq_s_aload_n (n := 0) (by decide +kernel) rfl) <|
  zq_cons (zq_s_getf (index := 22) (by decide +kernel) zf_X9_22) <|
  zq_cons (zq_s_iload_n (n := 1) (by decide +kernel) rfl) <|
  zq_cons (zq_s_iald (by decide +kernel)) <|
  zq_cons (zq_s_if_ne (off := 32) (by decide +kernel) (by decide)) <|
  zq_cons (zq_s_aload_n (n := 0) (by decide +kernel) rfl) <|
  zq_cons (zq_s_getf (index := 49) (by decide +kernel) zf_X9_49) <|
  zq_cons (zq_s_iload (by decide +kernel)) <|
  zq_cons (zq_s_iald (by decide +kernel)) <|
  zq_cons (zq_s_iconst (n := (-1)) (by decide +kernel) (by decide +kernel)) <|
  zq_cons (zq_s_ic_ne (off := 12) (by decide +kernel) (by decide)) <|
  zq_cons (zq_s_aload_n (n := 0) (by decide +kernel) rfl) <|
  zq_cons (zq_s_getf (index := 28) (by decide +kernel) zf_X9_28) <|
  zq_cons (zq_s_iload_n (n := 1) (by decide +kernel) rfl) <|
  zq_cons (zq_s_iald (by decide +kernel)) <|
  zq_cons (zq_s_goto (off := 10) (by decide +kernel) (by decide)) <|
  zq_cons (zq_s_aload_n (n := 0) (by decide +kernel) rfl) <|
  zq_cons (zq_s_getf (index := 49) (by decide +kernel) zf_X9_49) <|
  zq_cons (zq_s_iload (by decide +kernel)) <|
  zq_cons (zq_s_iald (by decide +kernel)) <|
  zq_cons (zq_s_istore (by decide +kernel) (by decide +kernel)) <|
  zq_cons (zq_s_aload_n (n := 0) (by decide +kernel) rfl) <|
  zq_cons (zq_s_getf (index := 22) (by decide +kernel) zf_X9_22) <|
  zq_nil
def zc_X9_goesThrough_1 : List (Nat × zq_It) := [(70, .inl (zq_il 71 1)), (71, .inl (zq_iald 72)), (72, .inl (zq_push 73 (.int 1))), (73, .inl (zq_ic_ne 76 98)), (76, .inl (zq_il 78 4)), (78, .inl (zq_if_eq 81 90)), (81, .inl (zq_al 82 0)), (82, .inl (zq_getf 85 [(8, 8)])), (85, .inl (zq_il 86 1)), (86, .inl (zq_iald 87)), (87, .inl (zq_goto 96)), (90, .inl (zq_al 91 0)), (91, .inl (zq_getf 94 [(8, 7)])), (94, .inl (zq_il 95 1)), (95, .inl (zq_iald 96)), (96, .inl (zq_is 98 6)), (98, .inl (zq_al 99 0)), (99, .inl (zq_getf 102 [(8, 6)])), (102, .inl (zq_il 103 1)), (103, .inl (zq_iald 104)), (104, .inl (zq_push 105 (.int 2))), (105, .inl (zq_ic_ne 108 153)), (108, .inl (zq_il 109 2)), (109, .inl (zq_push 110 (.int (-1)))), (110, .inl (zq_ic_eq 113 153)), (113, .inl (zq_il 115 5)), (115, .inl (zq_al 116 0)), (116, .inl (zq_getf 119 [(8, 14)])), (119, .inl (zq_i2 120 (fun x y => x + y))), (120, .inl (zq_push 122 (.int 23))), (122, .inl (zq_ic_le 125 130)), (125, .inl (zq_push 127 (.int 23))), (127, .inl (zq_goto 137)), (130, .inl (zq_il 132 5)), (132, .inl (zq_al 133 0)), (133, .inl (zq_getf 136 [(8, 14)])), (136, .inl (zq_i2 137 (fun x y => x + y))), (137, .inl (zq_is 139 7)), (139, .inl (zq_al 140 0)), (140, .inl (zq_getf 143 [(8, 24)]))]
theorem zk_X9_goesThrough_1 : zq_oks zi_X9_goesThrough zc_X9_goesThrough_1 := zq_cons (zq_s_iload_n (n := 1) (by decide +kernel) rfl) <|
  zq_cons (zq_s_iald (by decide +kernel)) <|
  zq_cons (zq_s_iconst (n := 1) (by decide +kernel) (by decide +kernel)) <|
  zq_cons (zq_s_ic_ne (off := 25) (by decide +kernel) (by decide)) <|
  zq_cons (zq_s_iload (by decide +kernel)) <|
  zq_cons (zq_s_if_eq (off := 12) (by decide +kernel) (by decide)) <|
  zq_cons (zq_s_aload_n (n := 0) (by decide +kernel) rfl) <|
  zq_cons (zq_s_getf (index := 28) (by decide +kernel) zf_X9_28) <|
  zq_cons (zq_s_iload_n (n := 1) (by decide +kernel) rfl) <|
  zq_cons (zq_s_iald (by decide +kernel)) <|
  zq_cons (zq_s_goto (off := 9) (by decide +kernel) (by decide)) <|
  zq_cons (zq_s_aload_n (n := 0) (by decide +kernel) rfl) <|
  zq_cons (zq_s_getf (index := 25) (by decide +kernel) zf_X9_25) <|
  zq_cons (zq_s_iload_n (n := 1) (by decide +kernel) rfl) <|
  zq_cons (zq_s_iald (by decide +kernel)) <|
  zq_cons (zq_s_istore (by decide +kernel) (by decide +kernel)) <|
  zq_cons (zq_s_aload_n (n := 0) (by decide +kernel) rfl) <|
  zq_cons (zq_s_getf (index := 22) (by decide +kernel) zf_X9_22) <|
  zq_cons (zq_s_iload_n (n := 1) (by decide +kernel) rfl) <|
  zq_cons (zq_s_iald (by decide +kernel)) <|
  zq_cons (zq_s_iconst (n := 2) (by decide +kernel) (by decide +kernel)) <|
  zq_cons (zq_s_ic_ne (off := 48) (by decide +kernel) (by decide)) <|
  zq_cons (zq_s_iload_n (n := 2) (by decide +kernel) rfl) <|
  zq_cons (zq_s_iconst (n := (-1)) (by decide +kernel) (by decide +kernel)) <|
  zq_cons (zq_s_ic_eq (off := 43) (by decide +kernel) (by decide)) <|
  zq_cons (zq_s_iload (by decide +kernel)) <|
  zq_cons (zq_s_aload_n (n := 0) (by decide +kernel) rfl) <|
  zq_cons (zq_s_getf (index := 166) (by decide +kernel) zf_X9_166) <|
  zq_cons (zq_s_iadd (by decide +kernel)) <|
  zq_cons (zq_s_bipush (n := 23) (by decide +kernel) (by decide +kernel)) <|
  zq_cons (zq_s_ic_le (off := 8) (by decide +kernel) (by decide)) <|
  zq_cons (zq_s_bipush (n := 23) (by decide +kernel) (by decide +kernel)) <|
  zq_cons (zq_s_goto (off := 10) (by decide +kernel) (by decide)) <|
  zq_cons (zq_s_iload (by decide +kernel)) <|
  zq_cons (zq_s_aload_n (n := 0) (by decide +kernel) rfl) <|
  zq_cons (zq_s_getf (index := 166) (by decide +kernel) zf_X9_166) <|
  zq_cons (zq_s_iadd (by decide +kernel)) <|
  zq_cons (zq_s_istore (by decide +kernel) (by decide +kernel)) <|
  zq_cons (zq_s_aload_n (n := 0) (by decide +kernel) rfl) <|
  zq_cons (zq_s_getf (index := 55) (by decide +kernel) zf_X9_55) <|
  zq_nil
def zc_X9_goesThrough_2 : List (Nat × zq_It) := [(143, .inl (zq_push 145 (.int 8))), (145, .inl (zq_il 147 7)), (147, .inl (zq_i2 148 (fun x y => x * y))), (148, .inl (zq_il 149 2)), (149, .inl (zq_i2 150 (fun x y => x + y))), (150, .inl (zq_iald 151)), (151, .inl (zq_is 153 6)), (153, .inl (zq_al 154 0)), (154, .inl (zq_il 156 5)), (156, .inl (zq_il 157 3)), (157, .inl (zq_il 159 6)), (159, .inr (.inl (4, .inr [(8, zn_X9_step)]))), (162, .inl (zq_is 163 3)), (163, .inl (zq_il 164 3)), (164, .inl (zq_il 166 6)), (166, .inl (zq_ic_ne 169 182)), (169, .inl (zq_il 171 4)), (171, .inl (zq_if_ne 174 178)), (174, .inl (zq_push 175 (.int 1))), (175, .inl (zq_goto 184)), (178, .inl (zq_push 179 (.int 0))), (179, .inl (zq_goto 184)), (182, .inl (zq_il 184 4)), (184, .inl (zq_is 186 4)), (186, .inl (zq_al 187 0)), (187, .inl (zq_getf 190 [(8, 24)])), (190, .inl (zq_push 192 (.int 8))), (192, .inl (zq_il 194 5)), (194, .inl (zq_i2 195 (fun x y => x * y))), (195, .inl (zq_il 196 1)), (196, .inl (zq_i2 197 (fun x y => x + y))), (197, .inl (zq_il 198 3)), (198, .inl (zq_iast 199)), (199, .inl (zq_inc 202 5 1)), (202, .inl (zq_goto 13)), (205, .inr (.inr 0))]
theorem zk_X9_goesThrough_2 : zq_oks zi_X9_goesThrough zc_X9_goesThrough_2 := zq_cons (zq_s_bipush (n := 8) (by decide +kernel) (by decide +kernel)) <|
  zq_cons (zq_s_iload (by decide +kernel)) <|
  zq_cons (zq_s_imul (by decide +kernel)) <|
  zq_cons (zq_s_iload_n (n := 2) (by decide +kernel) rfl) <|
  zq_cons (zq_s_iadd (by decide +kernel)) <|
  zq_cons (zq_s_iald (by decide +kernel)) <|
  zq_cons (zq_s_istore (by decide +kernel) (by decide +kernel)) <|
  zq_cons (zq_s_aload_n (n := 0) (by decide +kernel) rfl) <|
  zq_cons (zq_s_iload (by decide +kernel)) <|
  zq_cons (zq_s_iload_n (n := 3) (by decide +kernel) rfl) <|
  zq_cons (zq_s_iload (by decide +kernel)) <|
  zq_cons (List.forall_mem_cons.mpr ⟨⟨zi_X9_step, rfl, zq_s_callV (n := 3) (index := 192) (by decide +kernel) rfl zw_1126 zw_1128 zw_44 zw_91 zw_1129 (by decide +kernel) (by decide +kernel) ⟨rfl, rfl⟩⟩, fun _ h => absurd h List.not_mem_nil⟩) <|
  zq_cons (zq_s_istore_n (n := 3) (by decide +kernel) rfl (by decide +kernel)) <|
  zq_cons (zq_s_iload_n (n := 3) (by decide +kernel) rfl) <|
  zq_cons (zq_s_iload (by decide +kernel)) <|
  zq_cons (zq_s_ic_ne (off := 16) (by decide +kernel) (by decide)) <|
  zq_cons (zq_s_iload (by decide +kernel)) <|
  zq_cons (zq_s_if_ne (off := 7) (by decide +kernel) (by decide)) <|
  zq_cons (zq_s_iconst (n := 1) (by decide +kernel) (by decide +kernel)) <|
  zq_cons (zq_s_goto (off := 9) (by decide +kernel) (by decide)) <|
  zq_cons (zq_s_iconst (n := 0) (by decide +kernel) (by decide +kernel)) <|
  zq_cons (zq_s_goto (off := 5) (by decide +kernel) (by decide)) <|
  zq_cons (zq_s_iload (by decide +kernel)) <|
  zq_cons (zq_s_istore (by decide +kernel) (by decide +kernel)) <|
  zq_cons (zq_s_aload_n (n := 0) (by decide +kernel) rfl) <|
  zq_cons (zq_s_getf (index := 55) (by decide +kernel) zf_X9_55) <|
  zq_cons (zq_s_bipush (n := 8) (by decide +kernel) (by decide +kernel)) <|
  zq_cons (zq_s_iload (by decide +kernel)) <|
  zq_cons (zq_s_imul (by decide +kernel)) <|
  zq_cons (zq_s_iload_n (n := 1) (by decide +kernel) rfl) <|
  zq_cons (zq_s_iadd (by decide +kernel)) <|
  zq_cons (zq_s_iload_n (n := 3) (by decide +kernel) rfl) <|
  zq_cons (zq_s_iast (by decide +kernel)) <|
  zq_cons (zq_s_iinc (n := 1) (by decide +kernel) (by decide +kernel) (by decide +kernel)) <|
  zq_cons (zq_s_goto (off := (-189)) (by decide +kernel) (by decide)) <|
  zq_cons (⟨rfl, (by decide +kernel)⟩) <|
  zq_nil
def zc_X9_goesThrough : List (Nat × zq_It) := zc_X9_goesThrough_0 ++ (zc_X9_goesThrough_1 ++ (zc_X9_goesThrough_2))
theorem zk_X9_goesThrough : zq_oks zi_X9_goesThrough zc_X9_goesThrough := zq_app zk_X9_goesThrough_0 (zq_app zk_X9_goesThrough_1 (zk_X9_goesThrough_2))
def zc_X9_runs_0 : List (Nat × zq_It) := [(0, .inl (zq_al 1 0)), (1, .inl (zq_push 2 (.int (-1)))), (2, .inl (zq_puti 5 false [(8, 20)])), (5, .inl (zq_al 6 0)), (6, .inl (zq_push 7 (.int 0))), (7, .inl (zq_puti 10 false [(8, 21)])), (10, .inl (zq_push 11 (.int 0))), (11, .inl (zq_is 12 1)), (12, .inl (zq_il 13 1)), (13, .inl (zq_push 15 (.int 24))), (15, .inl (zq_ic_ge 18 34)), (18, .inl (zq_al 19 0)), (19, .inl (zq_il 20 1)), (20, .inr (.inl (2, .inr [(8, zn_X9_befalls)]))), (23, .inl (zq_al 24 0)), (24, .inl (zq_il 25 1)), (25, .inr (.inl (2, .inr [(8, zn_X9_measures)]))), (28, .inl (zq_inc 31 1 1)), (31, .inl (zq_goto 12)), (34, .inl (zq_al 35 0)), (35, .inr (.inl (1, .inr [(8, zn_X9_leastChild)]))), (38, .inl (zq_is 39 1)), (39, .inl (zq_push 40 (.int 0))), (40, .inl (zq_is 41 2)), (41, .inl (zq_il 42 2)), (42, .inl (zq_al 43 0)), (43, .inl (zq_getf 46 [(8, 5)])), (46, .inl (zq_ic_ge 49 71)), (49, .inl (zq_al 50 0)), (50, .inl (zq_getf 53 [(8, 6)])), (53, .inl (zq_il 54 2)), (54, .inl (zq_iald 55)), (55, .inl (zq_push 56 (.int 2))), (56, .inl (zq_ic_eq 59 65)), (59, .inl (zq_al 60 0)), (60, .inl (zq_il 61 2)), (61, .inl (zq_il 62 1)), (62, .inr (.inl (3, .inr [(8, zn_X9_goesThrough)]))), (65, .inl (zq_inc 68 2 1)), (68, .inl (zq_goto 41))]
theorem zk_X9_runs_0 : zq_oks zi_X9_runs zc_X9_runs_0 := zq_cons (zq_s_aload_n (n := 0) (by decide +kernel) rfl) <|
  zq_cons (zq_s_iconst (n := (-1)) (by decide +kernel) (by decide +kernel)) <|
  zq_cons (zq_s_puti (index := 179) (by decide +kernel) zp_X9_179 (fun _ _ => ⟨rfl, rfl⟩)) <|
  zq_cons (zq_s_aload_n (n := 0) (by decide +kernel) rfl) <|
  zq_cons (zq_s_iconst (n := 0) (by decide +kernel) (by decide +kernel)) <|
  zq_cons (zq_s_puti (index := 182) (by decide +kernel) zp_X9_182 (fun _ _ => ⟨rfl, rfl⟩)) <|
  zq_cons (zq_s_iconst (n := 0) (by decide +kernel) (by decide +kernel)) <|
  zq_cons (zq_s_istore_n (n := 1) (by decide +kernel) rfl (by decide +kernel)) <|
  zq_cons (zq_s_iload_n (n := 1) (by decide +kernel) rfl) <|
  zq_cons (zq_s_bipush (n := 24) (by decide +kernel) (by decide +kernel)) <|
  zq_cons (zq_s_ic_ge (off := 19) (by decide +kernel) (by decide)) <|
  zq_cons (zq_s_aload_n (n := 0) (by decide +kernel) rfl) <|
  zq_cons (zq_s_iload_n (n := 1) (by decide +kernel) rfl) <|
  zq_cons (List.forall_mem_cons.mpr ⟨⟨zi_X9_befalls, rfl, zq_s_callV (n := 1) (index := 195) (by decide +kernel) rfl zw_1103 zw_1105 zw_39 zw_91 zw_1106 (by decide +kernel) (by decide +kernel) ⟨rfl, rfl⟩⟩, fun _ h => absurd h List.not_mem_nil⟩) <|
  zq_cons (zq_s_aload_n (n := 0) (by decide +kernel) rfl) <|
  zq_cons (zq_s_iload_n (n := 1) (by decide +kernel) rfl) <|
  zq_cons (List.forall_mem_cons.mpr ⟨⟨zi_X9_measures, rfl, zq_s_callV (n := 1) (index := 199) (by decide +kernel) rfl zw_1110 zw_1112 zw_40 zw_91 zw_1113 (by decide +kernel) (by decide +kernel) ⟨rfl, rfl⟩⟩, fun _ h => absurd h List.not_mem_nil⟩) <|
  zq_cons (zq_s_iinc (n := 1) (by decide +kernel) (by decide +kernel) (by decide +kernel)) <|
  zq_cons (zq_s_goto (off := (-19)) (by decide +kernel) (by decide)) <|
  zq_cons (zq_s_aload_n (n := 0) (by decide +kernel) rfl) <|
  zq_cons (List.forall_mem_cons.mpr ⟨⟨zi_X9_leastChild, rfl, zq_s_callV (n := 0) (index := 202) (by decide +kernel) rfl zw_1118 zw_1120 zw_42 zw_91 zw_1121 (by decide +kernel) (by decide +kernel) ⟨rfl, rfl⟩⟩, fun _ h => absurd h List.not_mem_nil⟩) <|
  zq_cons (zq_s_istore_n (n := 1) (by decide +kernel) rfl (by decide +kernel)) <|
  zq_cons (zq_s_iconst (n := 0) (by decide +kernel) (by decide +kernel)) <|
  zq_cons (zq_s_istore_n (n := 2) (by decide +kernel) rfl (by decide +kernel)) <|
  zq_cons (zq_s_iload_n (n := 2) (by decide +kernel) rfl) <|
  zq_cons (zq_s_aload_n (n := 0) (by decide +kernel) rfl) <|
  zq_cons (zq_s_getf (index := 113) (by decide +kernel) zf_X9_113) <|
  zq_cons (zq_s_ic_ge (off := 25) (by decide +kernel) (by decide)) <|
  zq_cons (zq_s_aload_n (n := 0) (by decide +kernel) rfl) <|
  zq_cons (zq_s_getf (index := 22) (by decide +kernel) zf_X9_22) <|
  zq_cons (zq_s_iload_n (n := 2) (by decide +kernel) rfl) <|
  zq_cons (zq_s_iald (by decide +kernel)) <|
  zq_cons (zq_s_iconst (n := 2) (by decide +kernel) (by decide +kernel)) <|
  zq_cons (zq_s_ic_eq (off := 9) (by decide +kernel) (by decide)) <|
  zq_cons (zq_s_aload_n (n := 0) (by decide +kernel) rfl) <|
  zq_cons (zq_s_iload_n (n := 2) (by decide +kernel) rfl) <|
  zq_cons (zq_s_iload_n (n := 1) (by decide +kernel) rfl) <|
  zq_cons (List.forall_mem_cons.mpr ⟨⟨zi_X9_goesThrough, rfl, zq_s_callV (n := 2) (index := 206) (by decide +kernel) rfl zw_1122 zw_1124 zw_43 zw_91 zw_1125 (by decide +kernel) (by decide +kernel) ⟨rfl, rfl⟩⟩, fun _ h => absurd h List.not_mem_nil⟩) <|
  zq_cons (zq_s_iinc (n := 1) (by decide +kernel) (by decide +kernel) (by decide +kernel)) <|
  zq_cons (zq_s_goto (off := (-27)) (by decide +kernel) (by decide)) <|
  zq_nil
def zc_X9_runs_1 : List (Nat × zq_It) := [(71, .inl (zq_push 72 (.int 0))), (72, .inl (zq_is 73 2)), (73, .inl (zq_il 74 2)), (74, .inl (zq_al 75 0)), (75, .inl (zq_getf 78 [(8, 5)])), (78, .inl (zq_ic_ge 81 103)), (81, .inl (zq_al 82 0)), (82, .inl (zq_getf 85 [(8, 6)])), (85, .inl (zq_il 86 2)), (86, .inl (zq_iald 87)), (87, .inl (zq_push 88 (.int 2))), (88, .inl (zq_ic_ne 91 97)), (91, .inl (zq_al 92 0)), (92, .inl (zq_il 93 2)), (93, .inl (zq_il 94 1)), (94, .inr (.inl (3, .inr [(8, zn_X9_goesThrough)]))), (97, .inl (zq_inc 100 2 1)), (100, .inl (zq_goto 73)), (103, .inr (.inr 0))]
theorem zk_X9_runs_1 : zq_oks zi_X9_runs zc_X9_runs_1 := zq_cons (zq_s_iconst (n := 0) (by decide +kernel) (by decide +kernel)) <|
  zq_cons (zq_s_istore_n (n := 2) (by decide +kernel) rfl (by decide +kernel)) <|
  zq_cons (zq_s_iload_n (n := 2) (by decide +kernel) rfl) <|
  zq_cons (zq_s_aload_n (n := 0) (by decide +kernel) rfl) <|
  zq_cons (zq_s_getf (index := 113) (by decide +kernel) zf_X9_113) <|
  zq_cons (zq_s_ic_ge (off := 25) (by decide +kernel) (by decide)) <|
  zq_cons (zq_s_aload_n (n := 0) (by decide +kernel) rfl) <|
  zq_cons (zq_s_getf (index := 22) (by decide +kernel) zf_X9_22) <|
  zq_cons (zq_s_iload_n (n := 2) (by decide +kernel) rfl) <|
  zq_cons (zq_s_iald (by decide +kernel)) <|
  zq_cons (zq_s_iconst (n := 2) (by decide +kernel) (by decide +kernel)) <|
  zq_cons (zq_s_ic_ne (off := 9) (by decide +kernel) (by decide)) <|
  zq_cons (zq_s_aload_n (n := 0) (by decide +kernel) rfl) <|
  zq_cons (zq_s_iload_n (n := 2) (by decide +kernel) rfl) <|
  zq_cons (zq_s_iload_n (n := 1) (by decide +kernel) rfl) <|
  zq_cons (List.forall_mem_cons.mpr ⟨⟨zi_X9_goesThrough, rfl, zq_s_callV (n := 2) (index := 206) (by decide +kernel) rfl zw_1122 zw_1124 zw_43 zw_91 zw_1125 (by decide +kernel) (by decide +kernel) ⟨rfl, rfl⟩⟩, fun _ h => absurd h List.not_mem_nil⟩) <|
  zq_cons (zq_s_iinc (n := 1) (by decide +kernel) (by decide +kernel) (by decide +kernel)) <|
  zq_cons (zq_s_goto (off := (-27)) (by decide +kernel) (by decide)) <|
  zq_cons (⟨rfl, (by decide +kernel)⟩) <|
  zq_nil
def zc_X9_runs : List (Nat × zq_It) := zc_X9_runs_0 ++ (zc_X9_runs_1)
theorem zk_X9_runs : zq_oks zi_X9_runs zc_X9_runs := zq_app zk_X9_runs_0 (zk_X9_runs_1)
def zc_X9_runsTold : List (Nat × zq_It) := [(0, .inl (zq_al 1 0)), (1, .inr (.inl (1, .inr [(8, zn_X9_asTold)]))), (4, .inl (zq_al 5 0)), (5, .inr (.inl (1, .inr [(8, zn_X9_runs)]))), (8, .inr (.inr 0))]
theorem zk_X9_runsTold : zq_oks zi_X9_runsTold zc_X9_runsTold := zq_cons (zq_s_aload_n (n := 0) (by decide +kernel) rfl) <|
  zq_cons (List.forall_mem_cons.mpr ⟨⟨zi_X9_asTold, rfl, zq_s_callV (n := 0) (index := 210) (by decide +kernel) rfl zw_1095 zw_1097 zw_37 zw_91 zw_1098 (by decide +kernel) (by decide +kernel) ⟨rfl, rfl⟩⟩, fun _ h => absurd h List.not_mem_nil⟩) <|
  zq_cons (zq_s_aload_n (n := 0) (by decide +kernel) rfl) <|
  zq_cons (List.forall_mem_cons.mpr ⟨⟨zi_X9_runs, rfl, zq_s_callV (n := 0) (index := 213) (by decide +kernel) rfl zw_1099 zw_1101 zw_38 zw_91 zw_1102 (by decide +kernel) (by decide +kernel) ⟨rfl, rfl⟩⟩, fun _ h => absurd h List.not_mem_nil⟩) <|
  zq_cons (⟨rfl, (by decide +kernel)⟩) <|
  zq_nil
def zc_X9_atOf : List (Nat × zq_It) := [(0, .inl (zq_al 1 0)), (1, .inr (.inl (1, .inr [(8, zn_X9_runsTold)]))), (4, .inl (zq_il 5 3)), (5, .inl (zq_if_ne 8 12)), (8, .inl (zq_il 9 1)), (9, .inl (zq_goto 18)), (12, .inl (zq_il 13 1)), (13, .inl (zq_al 14 0)), (14, .inl (zq_getf 17 [(8, 14)])), (17, .inl (zq_i2 18 (fun x y => x + y))), (18, .inl (zq_is 20 4)), (20, .inl (zq_il 22 4)), (22, .inl (zq_push 24 (.int 23))), (24, .inl (zq_ic_le 27 31)), (27, .inl (zq_push 28 (.int (-1)))), (28, .inl (zq_goto 43)), (31, .inl (zq_al 32 0)), (32, .inl (zq_getf 35 [(8, 24)])), (35, .inl (zq_push 37 (.int 8))), (37, .inl (zq_il 39 4)), (39, .inl (zq_i2 40 (fun x y => x * y))), (40, .inl (zq_il 41 2)), (41, .inl (zq_i2 42 (fun x y => x + y))), (42, .inl (zq_iald 43)), (43, .inr (.inr 1))]
theorem zk_X9_atOf : zq_oks zi_X9_atOf zc_X9_atOf := zq_cons (zq_s_aload_n (n := 0) (by decide +kernel) rfl) <|
  zq_cons (List.forall_mem_cons.mpr ⟨⟨zi_X9_runsTold, rfl, zq_s_callV (n := 0) (index := 216) (by decide +kernel) rfl zw_1091 zw_1093 zw_36 zw_91 zw_1094 (by decide +kernel) (by decide +kernel) ⟨rfl, rfl⟩⟩, fun _ h => absurd h List.not_mem_nil⟩) <|
  zq_cons (zq_s_iload_n (n := 3) (by decide +kernel) rfl) <|
  zq_cons (zq_s_if_ne (off := 7) (by decide +kernel) (by decide)) <|
  zq_cons (zq_s_iload_n (n := 1) (by decide +kernel) rfl) <|
  zq_cons (zq_s_goto (off := 9) (by decide +kernel) (by decide)) <|
  zq_cons (zq_s_iload_n (n := 1) (by decide +kernel) rfl) <|
  zq_cons (zq_s_aload_n (n := 0) (by decide +kernel) rfl) <|
  zq_cons (zq_s_getf (index := 166) (by decide +kernel) zf_X9_166) <|
  zq_cons (zq_s_iadd (by decide +kernel)) <|
  zq_cons (zq_s_istore (by decide +kernel) (by decide +kernel)) <|
  zq_cons (zq_s_iload (by decide +kernel)) <|
  zq_cons (zq_s_bipush (n := 23) (by decide +kernel) (by decide +kernel)) <|
  zq_cons (zq_s_ic_le (off := 7) (by decide +kernel) (by decide)) <|
  zq_cons (zq_s_iconst (n := (-1)) (by decide +kernel) (by decide +kernel)) <|
  zq_cons (zq_s_goto (off := 15) (by decide +kernel) (by decide)) <|
  zq_cons (zq_s_aload_n (n := 0) (by decide +kernel) rfl) <|
  zq_cons (zq_s_getf (index := 55) (by decide +kernel) zf_X9_55) <|
  zq_cons (zq_s_bipush (n := 8) (by decide +kernel) (by decide +kernel)) <|
  zq_cons (zq_s_iload (by decide +kernel)) <|
  zq_cons (zq_s_imul (by decide +kernel)) <|
  zq_cons (zq_s_iload_n (n := 2) (by decide +kernel) rfl) <|
  zq_cons (zq_s_iadd (by decide +kernel)) <|
  zq_cons (zq_s_iald (by decide +kernel)) <|
  zq_cons (⟨rfl, (by decide +kernel)⟩) <|
  zq_nil
def zc_X9_at : List (Nat × zq_It) := [(0, .inl (zq_il 1 1)), (1, .inr (.inl (1, .inl zn_X9_isHour))), (4, .inl (zq_if_eq 7 32)), (7, .inl (zq_al 8 0)), (8, .inl (zq_il 9 2)), (9, .inr (.inl (2, .inr [(8, zn_X9_isPerson)]))), (12, .inl (zq_if_eq 15 32)), (15, .inl (zq_il 16 3)), (16, .inr (.inl (1, .inl zn_X9_isTwo))), (19, .inl (zq_if_eq 22 32)), (22, .inl (zq_al 23 0)), (23, .inl (zq_il 24 1)), (24, .inl (zq_il 25 2)), (25, .inl (zq_il 26 3)), (26, .inr (.inl (4, .inr [(8, zn_X9_atOf)]))), (29, .inl (zq_goto 34)), (32, .inl (zq_push 34 (.int (-2)))), (34, .inr (.inr 1))]
theorem zk_X9_at : zq_oks zi_X9_at zc_X9_at := zq_cons (zq_s_iload_n (n := 1) (by decide +kernel) rfl) <|
  zq_cons (⟨zi_X9_isHour, rfl, zq_s_callS (n := 1) (index := 150) (by decide +kernel) zw_1064 zw_1065 zw_91 zw_1066 (by decide +kernel) (by decide +kernel) ⟨rfl, rfl⟩⟩) <|
  zq_cons (zq_s_if_eq (off := 28) (by decide +kernel) (by decide)) <|
  zq_cons (zq_s_aload_n (n := 0) (by decide +kernel) rfl) <|
  zq_cons (zq_s_iload_n (n := 2) (by decide +kernel) rfl) <|
  zq_cons (List.forall_mem_cons.mpr ⟨⟨zi_X9_isPerson, rfl, zq_s_callV (n := 1) (index := 141) (by decide +kernel) rfl zw_1045 zw_1047 zw_32 zw_91 zw_1048 (by decide +kernel) (by decide +kernel) ⟨rfl, rfl⟩⟩, fun _ h => absurd h List.not_mem_nil⟩) <|
  zq_cons (zq_s_if_eq (off := 20) (by decide +kernel) (by decide)) <|
  zq_cons (zq_s_iload_n (n := 3) (by decide +kernel) rfl) <|
  zq_cons (⟨zi_X9_isTwo, rfl, zq_s_callS (n := 1) (index := 135) (by decide +kernel) zw_1034 zw_1035 zw_91 zw_1036 (by decide +kernel) (by decide +kernel) ⟨rfl, rfl⟩⟩) <|
  zq_cons (zq_s_if_eq (off := 13) (by decide +kernel) (by decide)) <|
  zq_cons (zq_s_aload_n (n := 0) (by decide +kernel) rfl) <|
  zq_cons (zq_s_iload_n (n := 1) (by decide +kernel) rfl) <|
  zq_cons (zq_s_iload_n (n := 2) (by decide +kernel) rfl) <|
  zq_cons (zq_s_iload_n (n := 3) (by decide +kernel) rfl) <|
  zq_cons (List.forall_mem_cons.mpr ⟨⟨zi_X9_atOf, rfl, zq_s_callV (n := 3) (index := 219) (by decide +kernel) rfl zw_1087 zw_1089 zw_35 zw_91 zw_1090 (by decide +kernel) (by decide +kernel) ⟨rfl, rfl⟩⟩, fun _ h => absurd h List.not_mem_nil⟩) <|
  zq_cons (zq_s_goto (off := 5) (by decide +kernel) (by decide)) <|
  zq_cons (zq_s_bipush (n := (-2)) (by decide +kernel) (by decide +kernel)) <|
  zq_cons (⟨rfl, (by decide +kernel)⟩) <|
  zq_nil
def zc_X9_inRoom : List (Nat × zq_It) := [(0, .inl (zq_push 1 (.int 0))), (1, .inl (zq_is 2 3)), (2, .inl (zq_push 3 (.int 0))), (3, .inl (zq_is 5 4)), (5, .inl (zq_il 7 4)), (7, .inl (zq_al 8 0)), (8, .inl (zq_getf 11 [(8, 5)])), (11, .inl (zq_ic_ge 14 47)), (14, .inl (zq_il 15 3)), (15, .inl (zq_al 16 0)), (16, .inl (zq_getf 19 [(8, 24)])), (19, .inl (zq_push 21 (.int 8))), (21, .inl (zq_il 22 1)), (22, .inl (zq_i2 23 (fun x y => x * y))), (23, .inl (zq_il 25 4)), (25, .inl (zq_i2 26 (fun x y => x + y))), (26, .inl (zq_iald 27)), (27, .inl (zq_il 28 2)), (28, .inl (zq_ic_ne 31 38)), (31, .inl (zq_push 32 (.int 1))), (32, .inl (zq_il 34 4)), (34, .inl (zq_i2 35 (fun x y => x <<< (y &&& 31)))), (35, .inl (zq_goto 39)), (38, .inl (zq_push 39 (.int 0))), (39, .inl (zq_i2 40 (fun x y => x ||| y))), (40, .inl (zq_is 41 3)), (41, .inl (zq_inc 44 4 1)), (44, .inl (zq_goto 5)), (47, .inl (zq_il 48 3)), (48, .inr (.inr 1))]
theorem zk_X9_inRoom : zq_oks zi_X9_inRoom zc_X9_inRoom := zq_cons (zq_s_iconst (n := 0) (by decide +kernel) (by decide +kernel)) <|
  zq_cons (zq_s_istore_n (n := 3) (by decide +kernel) rfl (by decide +kernel)) <|
  zq_cons (zq_s_iconst (n := 0) (by decide +kernel) (by decide +kernel)) <|
  zq_cons (zq_s_istore (by decide +kernel) (by decide +kernel)) <|
  zq_cons (zq_s_iload (by decide +kernel)) <|
  zq_cons (zq_s_aload_n (n := 0) (by decide +kernel) rfl) <|
  zq_cons (zq_s_getf (index := 113) (by decide +kernel) zf_X9_113) <|
  zq_cons (zq_s_ic_ge (off := 36) (by decide +kernel) (by decide)) <|
  zq_cons (zq_s_iload_n (n := 3) (by decide +kernel) rfl) <|
  zq_cons (zq_s_aload_n (n := 0) (by decide +kernel) rfl) <|
  zq_cons (zq_s_getf (index := 55) (by decide +kernel) zf_X9_55) <|
  zq_cons (zq_s_bipush (n := 8) (by decide +kernel) (by decide +kernel)) <|
  zq_cons (zq_s_iload_n (n := 1) (by decide +kernel) rfl) <|
  zq_cons (zq_s_imul (by decide +kernel)) <|
  zq_cons (zq_s_iload (by decide +kernel)) <|
  zq_cons (zq_s_iadd (by decide +kernel)) <|
  zq_cons (zq_s_iald (by decide +kernel)) <|
  zq_cons (zq_s_iload_n (n := 2) (by decide +kernel) rfl) <|
  zq_cons (zq_s_ic_ne (off := 10) (by decide +kernel) (by decide)) <|
  zq_cons (zq_s_iconst (n := 1) (by decide +kernel) (by decide +kernel)) <|
  zq_cons (zq_s_iload (by decide +kernel)) <|
  zq_cons (zq_s_ishl (by decide +kernel)) <|
  zq_cons (zq_s_goto (off := 4) (by decide +kernel) (by decide)) <|
  zq_cons (zq_s_iconst (n := 0) (by decide +kernel) (by decide +kernel)) <|
  zq_cons (zq_s_ior (by decide +kernel)) <|
  zq_cons (zq_s_istore_n (n := 3) (by decide +kernel) rfl (by decide +kernel)) <|
  zq_cons (zq_s_iinc (n := 1) (by decide +kernel) (by decide +kernel) (by decide +kernel)) <|
  zq_cons (zq_s_goto (off := (-39)) (by decide +kernel) (by decide)) <|
  zq_cons (zq_s_iload_n (n := 3) (by decide +kernel) rfl) <|
  zq_cons (⟨rfl, (by decide +kernel)⟩) <|
  zq_nil
def zc_X9_roomOf : List (Nat × zq_It) := [(0, .inl (zq_al 1 0)), (1, .inr (.inl (1, .inr [(8, zn_X9_runsTold)]))), (4, .inl (zq_al 5 0)), (5, .inl (zq_il 6 1)), (6, .inl (zq_il 7 2)), (7, .inr (.inl (3, .inr [(8, zn_X9_inRoom)]))), (10, .inr (.inr 1))]
theorem zk_X9_roomOf : zq_oks zi_X9_roomOf zc_X9_roomOf := zq_cons (zq_s_aload_n (n := 0) (by decide +kernel) rfl) <|
  zq_cons (List.forall_mem_cons.mpr ⟨⟨zi_X9_runsTold, rfl, zq_s_callV (n := 0) (index := 216) (by decide +kernel) rfl zw_1091 zw_1093 zw_36 zw_91 zw_1094 (by decide +kernel) (by decide +kernel) ⟨rfl, rfl⟩⟩, fun _ h => absurd h List.not_mem_nil⟩) <|
  zq_cons (zq_s_aload_n (n := 0) (by decide +kernel) rfl) <|
  zq_cons (zq_s_iload_n (n := 1) (by decide +kernel) rfl) <|
  zq_cons (zq_s_iload_n (n := 2) (by decide +kernel) rfl) <|
  zq_cons (List.forall_mem_cons.mpr ⟨⟨zi_X9_inRoom, rfl, zq_s_callV (n := 2) (index := 222) (by decide +kernel) rfl zw_1142 zw_1144 zw_47 zw_91 zw_1145 (by decide +kernel) (by decide +kernel) ⟨rfl, rfl⟩⟩, fun _ h => absurd h List.not_mem_nil⟩) <|
  zq_cons (⟨rfl, (by decide +kernel)⟩) <|
  zq_nil
def zc_X9_room : List (Nat × zq_It) := [(0, .inl (zq_il 1 1)), (1, .inr (.inl (1, .inl zn_X9_isHour))), (4, .inl (zq_if_eq 7 23)), (7, .inl (zq_il 8 2)), (8, .inr (.inl (1, .inl zn_X9_isEight))), (11, .inl (zq_if_eq 14 23)), (14, .inl (zq_al 15 0)), (15, .inl (zq_il 16 1)), (16, .inl (zq_il 17 2)), (17, .inr (.inl (3, .inr [(8, zn_X9_roomOf)]))), (20, .inl (zq_goto 25)), (23, .inl (zq_push 25 (.int (-2)))), (25, .inr (.inr 1))]
theorem zk_X9_room : zq_oks zi_X9_room zc_X9_room := zq_cons (zq_s_iload_n (n := 1) (by decide +kernel) rfl) <|
  zq_cons (⟨zi_X9_isHour, rfl, zq_s_callS (n := 1) (index := 150) (by decide +kernel) zw_1064 zw_1065 zw_91 zw_1066 (by decide +kernel) (by decide +kernel) ⟨rfl, rfl⟩⟩) <|
  zq_cons (zq_s_if_eq (off := 19) (by decide +kernel) (by decide)) <|
  zq_cons (zq_s_iload_n (n := 2) (by decide +kernel) rfl) <|
  zq_cons (⟨zi_X9_isEight, rfl, zq_s_callS (n := 1) (index := 107) (by decide +kernel) zw_1015 zw_1016 zw_91 zw_1017 (by decide +kernel) (by decide +kernel) ⟨rfl, rfl⟩⟩) <|
  zq_cons (zq_s_if_eq (off := 12) (by decide +kernel) (by decide)) <|
  zq_cons (zq_s_aload_n (n := 0) (by decide +kernel) rfl) <|
  zq_cons (zq_s_iload_n (n := 1) (by decide +kernel) rfl) <|
  zq_cons (zq_s_iload_n (n := 2) (by decide +kernel) rfl) <|
  zq_cons (List.forall_mem_cons.mpr ⟨⟨zi_X9_roomOf, rfl, zq_s_callV (n := 2) (index := 225) (by decide +kernel) rfl zw_1138 zw_1140 zw_46 zw_91 zw_1141 (by decide +kernel) (by decide +kernel) ⟨rfl, rfl⟩⟩, fun _ h => absurd h List.not_mem_nil⟩) <|
  zq_cons (zq_s_goto (off := 5) (by decide +kernel) (by decide)) <|
  zq_cons (zq_s_bipush (n := (-2)) (by decide +kernel) (by decide +kernel)) <|
  zq_cons (⟨rfl, (by decide +kernel)⟩) <|
  zq_nil
def zc_X9_farOf : List (Nat × zq_It) := [(0, .inl (zq_al 1 0)), (1, .inr (.inl (1, .inr [(8, zn_X9_runsTold)]))), (4, .inl (zq_al 5 0)), (5, .inl (zq_getf 8 [(8, 23)])), (8, .inl (zq_push 10 (.int 64))), (10, .inl (zq_il 11 1)), (11, .inl (zq_i2 12 (fun x y => x * y))), (12, .inl (zq_push 14 (.int 8))), (14, .inl (zq_il 15 2)), (15, .inl (zq_i2 16 (fun x y => x * y))), (16, .inl (zq_i2 17 (fun x y => x + y))), (17, .inl (zq_il 18 3)), (18, .inl (zq_i2 19 (fun x y => x + y))), (19, .inl (zq_iald 20)), (20, .inl (zq_is 22 4)), (22, .inl (zq_il 24 4)), (24, .inl (zq_push 26 (.int 99))), (26, .inl (zq_ic_ge 29 34)), (29, .inl (zq_il 31 4)), (31, .inl (zq_goto 35)), (34, .inl (zq_push 35 (.int (-1)))), (35, .inr (.inr 1))]
theorem zk_X9_farOf : zq_oks zi_X9_farOf zc_X9_farOf := zq_cons (zq_s_aload_n (n := 0) (by decide +kernel) rfl) <|
  zq_cons (List.forall_mem_cons.mpr ⟨⟨zi_X9_runsTold, rfl, zq_s_callV (n := 0) (index := 216) (by decide +kernel) rfl zw_1091 zw_1093 zw_36 zw_91 zw_1094 (by decide +kernel) (by decide +kernel) ⟨rfl, rfl⟩⟩, fun _ h => absurd h List.not_mem_nil⟩) <|
  zq_cons (zq_s_aload_n (n := 0) (by decide +kernel) rfl) <|
  zq_cons (zq_s_getf (index := 52) (by decide +kernel) zf_X9_52) <|
  zq_cons (zq_s_bipush (n := 64) (by decide +kernel) (by decide +kernel)) <|
  zq_cons (zq_s_iload_n (n := 1) (by decide +kernel) rfl) <|
  zq_cons (zq_s_imul (by decide +kernel)) <|
  zq_cons (zq_s_bipush (n := 8) (by decide +kernel) (by decide +kernel)) <|
  zq_cons (zq_s_iload_n (n := 2) (by decide +kernel) rfl) <|
  zq_cons (zq_s_imul (by decide +kernel)) <|
  zq_cons (zq_s_iadd (by decide +kernel)) <|
  zq_cons (zq_s_iload_n (n := 3) (by decide +kernel) rfl) <|
  zq_cons (zq_s_iadd (by decide +kernel)) <|
  zq_cons (zq_s_iald (by decide +kernel)) <|
  zq_cons (zq_s_istore (by decide +kernel) (by decide +kernel)) <|
  zq_cons (zq_s_iload (by decide +kernel)) <|
  zq_cons (zq_s_bipush (n := 99) (by decide +kernel) (by decide +kernel)) <|
  zq_cons (zq_s_ic_ge (off := 8) (by decide +kernel) (by decide)) <|
  zq_cons (zq_s_iload (by decide +kernel)) <|
  zq_cons (zq_s_goto (off := 4) (by decide +kernel) (by decide)) <|
  zq_cons (zq_s_iconst (n := (-1)) (by decide +kernel) (by decide +kernel)) <|
  zq_cons (⟨rfl, (by decide +kernel)⟩) <|
  zq_nil
def zc_X9_far : List (Nat × zq_It) := [(0, .inl (zq_il 1 1)), (1, .inr (.inl (1, .inl zn_X9_isHour))), (4, .inl (zq_if_eq 7 31)), (7, .inl (zq_il 8 2)), (8, .inr (.inl (1, .inl zn_X9_isEight))), (11, .inl (zq_if_eq 14 31)), (14, .inl (zq_il 15 3)), (15, .inr (.inl (1, .inl zn_X9_isEight))), (18, .inl (zq_if_eq 21 31)), (21, .inl (zq_al 22 0)), (22, .inl (zq_il 23 1)), (23, .inl (zq_il 24 2)), (24, .inl (zq_il 25 3)), (25, .inr (.inl (4, .inr [(8, zn_X9_farOf)]))), (28, .inl (zq_goto 33)), (31, .inl (zq_push 33 (.int (-2)))), (33, .inr (.inr 1))]
theorem zk_X9_far : zq_oks zi_X9_far zc_X9_far := zq_cons (zq_s_iload_n (n := 1) (by decide +kernel) rfl) <|
  zq_cons (⟨zi_X9_isHour, rfl, zq_s_callS (n := 1) (index := 150) (by decide +kernel) zw_1064 zw_1065 zw_91 zw_1066 (by decide +kernel) (by decide +kernel) ⟨rfl, rfl⟩⟩) <|
  zq_cons (zq_s_if_eq (off := 27) (by decide +kernel) (by decide)) <|
  zq_cons (zq_s_iload_n (n := 2) (by decide +kernel) rfl) <|
  zq_cons (⟨zi_X9_isEight, rfl, zq_s_callS (n := 1) (index := 107) (by decide +kernel) zw_1015 zw_1016 zw_91 zw_1017 (by decide +kernel) (by decide +kernel) ⟨rfl, rfl⟩⟩) <|
  zq_cons (zq_s_if_eq (off := 20) (by decide +kernel) (by decide)) <|
  zq_cons (zq_s_iload_n (n := 3) (by decide +kernel) rfl) <|
  zq_cons (⟨zi_X9_isEight, rfl, zq_s_callS (n := 1) (index := 107) (by decide +kernel) zw_1015 zw_1016 zw_91 zw_1017 (by decide +kernel) (by decide +kernel) ⟨rfl, rfl⟩⟩) <|
  zq_cons (zq_s_if_eq (off := 13) (by decide +kernel) (by decide)) <|
  zq_cons (zq_s_aload_n (n := 0) (by decide +kernel) rfl) <|
  zq_cons (zq_s_iload_n (n := 1) (by decide +kernel) rfl) <|
  zq_cons (zq_s_iload_n (n := 2) (by decide +kernel) rfl) <|
  zq_cons (zq_s_iload_n (n := 3) (by decide +kernel) rfl) <|
  zq_cons (List.forall_mem_cons.mpr ⟨⟨zi_X9_farOf, rfl, zq_s_callV (n := 3) (index := 228) (by decide +kernel) rfl zw_1150 zw_1152 zw_48 zw_91 zw_1153 (by decide +kernel) (by decide +kernel) ⟨rfl, rfl⟩⟩, fun _ h => absurd h List.not_mem_nil⟩) <|
  zq_cons (zq_s_goto (off := 5) (by decide +kernel) (by decide)) <|
  zq_cons (zq_s_bipush (n := (-2)) (by decide +kernel) (by decide +kernel)) <|
  zq_cons (⟨rfl, (by decide +kernel)⟩) <|
  zq_nil
def zc_X9_metOf : List (Nat × zq_It) := [(0, .inl (zq_al 1 0)), (1, .inr (.inl (1, .inr [(8, zn_X9_runsTold)]))), (4, .inl (zq_push 5 (.int (-1)))), (5, .inl (zq_is 6 3)), (6, .inl (zq_push 8 (.int 23))), (8, .inl (zq_is 10 4)), (10, .inl (zq_il 12 4)), (12, .inl (zq_if_lt 15 55)), (15, .inl (zq_al 16 0)), (16, .inl (zq_getf 19 [(8, 24)])), (19, .inl (zq_push 21 (.int 8))), (21, .inl (zq_il 23 4)), (23, .inl (zq_i2 24 (fun x y => x * y))), (24, .inl (zq_il 25 1)), (25, .inl (zq_i2 26 (fun x y => x + y))), (26, .inl (zq_iald 27)), (27, .inl (zq_al 28 0)), (28, .inl (zq_getf 31 [(8, 24)])), (31, .inl (zq_push 33 (.int 8))), (33, .inl (zq_il 35 4)), (35, .inl (zq_i2 36 (fun x y => x * y))), (36, .inl (zq_il 37 2)), (37, .inl (zq_i2 38 (fun x y => x + y))), (38, .inl (zq_iald 39)), (39, .inl (zq_ic_ne 42 47)), (42, .inl (zq_il 44 4)), (44, .inl (zq_goto 48)), (47, .inl (zq_il 48 3)), (48, .inl (zq_is 49 3)), (49, .inl (zq_inc 52 4 (-1))), (52, .inl (zq_goto 10)), (55, .inl (zq_il 56 3)), (56, .inr (.inr 1))]
theorem zk_X9_metOf : zq_oks zi_X9_metOf zc_X9_metOf := zq_cons (zq_s_aload_n (n := 0) (by decide +kernel) rfl) <|
  zq_cons (List.forall_mem_cons.mpr ⟨⟨zi_X9_runsTold, rfl, zq_s_callV (n := 0) (index := 216) (by decide +kernel) rfl zw_1091 zw_1093 zw_36 zw_91 zw_1094 (by decide +kernel) (by decide +kernel) ⟨rfl, rfl⟩⟩, fun _ h => absurd h List.not_mem_nil⟩) <|
  zq_cons (zq_s_iconst (n := (-1)) (by decide +kernel) (by decide +kernel)) <|
  zq_cons (zq_s_istore_n (n := 3) (by decide +kernel) rfl (by decide +kernel)) <|
  zq_cons (zq_s_bipush (n := 23) (by decide +kernel) (by decide +kernel)) <|
  zq_cons (zq_s_istore (by decide +kernel) (by decide +kernel)) <|
  zq_cons (zq_s_iload (by decide +kernel)) <|
  zq_cons (zq_s_if_lt (off := 43) (by decide +kernel) (by decide)) <|
  zq_cons (zq_s_aload_n (n := 0) (by decide +kernel) rfl) <|
  zq_cons (zq_s_getf (index := 55) (by decide +kernel) zf_X9_55) <|
  zq_cons (zq_s_bipush (n := 8) (by decide +kernel) (by decide +kernel)) <|
  zq_cons (zq_s_iload (by decide +kernel)) <|
  zq_cons (zq_s_imul (by decide +kernel)) <|
  zq_cons (zq_s_iload_n (n := 1) (by decide +kernel) rfl) <|
  zq_cons (zq_s_iadd (by decide +kernel)) <|
  zq_cons (zq_s_iald (by decide +kernel)) <|
  zq_cons (zq_s_aload_n (n := 0) (by decide +kernel) rfl) <|
  zq_cons (zq_s_getf (index := 55) (by decide +kernel) zf_X9_55) <|
  zq_cons (zq_s_bipush (n := 8) (by decide +kernel) (by decide +kernel)) <|
  zq_cons (zq_s_iload (by decide +kernel)) <|
  zq_cons (zq_s_imul (by decide +kernel)) <|
  zq_cons (zq_s_iload_n (n := 2) (by decide +kernel) rfl) <|
  zq_cons (zq_s_iadd (by decide +kernel)) <|
  zq_cons (zq_s_iald (by decide +kernel)) <|
  zq_cons (zq_s_ic_ne (off := 8) (by decide +kernel) (by decide)) <|
  zq_cons (zq_s_iload (by decide +kernel)) <|
  zq_cons (zq_s_goto (off := 4) (by decide +kernel) (by decide)) <|
  zq_cons (zq_s_iload_n (n := 3) (by decide +kernel) rfl) <|
  zq_cons (zq_s_istore_n (n := 3) (by decide +kernel) rfl (by decide +kernel)) <|
  zq_cons (zq_s_iinc (n := (-1)) (by decide +kernel) (by decide +kernel) (by decide +kernel)) <|
  zq_cons (zq_s_goto (off := (-42)) (by decide +kernel) (by decide)) <|
  zq_cons (zq_s_iload_n (n := 3) (by decide +kernel) rfl) <|
  zq_cons (⟨rfl, (by decide +kernel)⟩) <|
  zq_nil
def zc_X9_meet : List (Nat × zq_It) := [(0, .inl (zq_al 1 0)), (1, .inl (zq_il 2 1)), (2, .inr (.inl (2, .inr [(8, zn_X9_isPerson)]))), (5, .inl (zq_if_eq 8 30)), (8, .inl (zq_al 9 0)), (9, .inl (zq_il 10 2)), (10, .inr (.inl (2, .inr [(8, zn_X9_isPerson)]))), (13, .inl (zq_if_eq 16 30)), (16, .inl (zq_il 17 1)), (17, .inl (zq_il 18 2)), (18, .inl (zq_ic_eq 21 30)), (21, .inl (zq_al 22 0)), (22, .inl (zq_il 23 1)), (23, .inl (zq_il 24 2)), (24, .inr (.inl (3, .inr [(8, zn_X9_metOf)]))), (27, .inl (zq_goto 32)), (30, .inl (zq_push 32 (.int (-2)))), (32, .inr (.inr 1))]
theorem zk_X9_meet : zq_oks zi_X9_meet zc_X9_meet := zq_cons (zq_s_aload_n (n := 0) (by decide +kernel) rfl) <|
  zq_cons (zq_s_iload_n (n := 1) (by decide +kernel) rfl) <|
  zq_cons (List.forall_mem_cons.mpr ⟨⟨zi_X9_isPerson, rfl, zq_s_callV (n := 1) (index := 141) (by decide +kernel) rfl zw_1045 zw_1047 zw_32 zw_91 zw_1048 (by decide +kernel) (by decide +kernel) ⟨rfl, rfl⟩⟩, fun _ h => absurd h List.not_mem_nil⟩) <|
  zq_cons (zq_s_if_eq (off := 25) (by decide +kernel) (by decide)) <|
  zq_cons (zq_s_aload_n (n := 0) (by decide +kernel) rfl) <|
  zq_cons (zq_s_iload_n (n := 2) (by decide +kernel) rfl) <|
  zq_cons (List.forall_mem_cons.mpr ⟨⟨zi_X9_isPerson, rfl, zq_s_callV (n := 1) (index := 141) (by decide +kernel) rfl zw_1045 zw_1047 zw_32 zw_91 zw_1048 (by decide +kernel) (by decide +kernel) ⟨rfl, rfl⟩⟩, fun _ h => absurd h List.not_mem_nil⟩) <|
  zq_cons (zq_s_if_eq (off := 17) (by decide +kernel) (by decide)) <|
  zq_cons (zq_s_iload_n (n := 1) (by decide +kernel) rfl) <|
  zq_cons (zq_s_iload_n (n := 2) (by decide +kernel) rfl) <|
  zq_cons (zq_s_ic_eq (off := 12) (by decide +kernel) (by decide)) <|
  zq_cons (zq_s_aload_n (n := 0) (by decide +kernel) rfl) <|
  zq_cons (zq_s_iload_n (n := 1) (by decide +kernel) rfl) <|
  zq_cons (zq_s_iload_n (n := 2) (by decide +kernel) rfl) <|
  zq_cons (List.forall_mem_cons.mpr ⟨⟨zi_X9_metOf, rfl, zq_s_callV (n := 2) (index := 231) (by decide +kernel) rfl zw_1158 zw_1160 zw_49 zw_91 zw_1161 (by decide +kernel) (by decide +kernel) ⟨rfl, rfl⟩⟩, fun _ h => absurd h List.not_mem_nil⟩) <|
  zq_cons (zq_s_goto (off := 5) (by decide +kernel) (by decide)) <|
  zq_cons (zq_s_bipush (n := (-2)) (by decide +kernel) (by decide +kernel)) <|
  zq_cons (⟨rfl, (by decide +kernel)⟩) <|
  zq_nil
def zc_X9_emptyNow : List (Nat × zq_It) := [(0, .inl (zq_push 1 (.int 0))), (1, .inl (zq_is 2 2)), (2, .inl (zq_push 3 (.int 0))), (3, .inl (zq_is 4 3)), (4, .inl (zq_il 5 3)), (5, .inl (zq_push 7 (.int 24))), (7, .inl (zq_ic_ge 10 35)), (10, .inl (zq_il 11 2)), (11, .inl (zq_al 12 0)), (12, .inl (zq_il 13 3)), (13, .inl (zq_il 14 1)), (14, .inr (.inl (3, .inr [(8, zn_X9_inRoom)]))), (17, .inl (zq_if_ne 20 26)), (20, .inl (zq_push 21 (.int 1))), (21, .inl (zq_il 22 3)), (22, .inl (zq_i2 23 (fun x y => x <<< (y &&& 31)))), (23, .inl (zq_goto 27)), (26, .inl (zq_push 27 (.int 0))), (27, .inl (zq_i2 28 (fun x y => x ||| y))), (28, .inl (zq_is 29 2)), (29, .inl (zq_inc 32 3 1)), (32, .inl (zq_goto 4)), (35, .inl (zq_il 36 2)), (36, .inr (.inr 1))]
theorem zk_X9_emptyNow : zq_oks zi_X9_emptyNow zc_X9_emptyNow := zq_cons (zq_s_iconst (n := 0) (by decide +kernel) (by decide +kernel)) <|
  zq_cons (zq_s_istore_n (n := 2) (by decide +kernel) rfl (by decide +kernel)) <|
  zq_cons (zq_s_iconst (n := 0) (by decide +kernel) (by decide +kernel)) <|
  zq_cons (zq_s_istore_n (n := 3) (by decide +kernel) rfl (by decide +kernel)) <|
  zq_cons (zq_s_iload_n (n := 3) (by decide +kernel) rfl) <|
  zq_cons (zq_s_bipush (n := 24) (by decide +kernel) (by decide +kernel)) <|
  zq_cons (zq_s_ic_ge (off := 28) (by decide +kernel) (by decide)) <|
  zq_cons (zq_s_iload_n (n := 2) (by decide +kernel) rfl) <|
  zq_cons (zq_s_aload_n (n := 0) (by decide +kernel) rfl) <|
  zq_cons (zq_s_iload_n (n := 3) (by decide +kernel) rfl) <|
  zq_cons (zq_s_iload_n (n := 1) (by decide +kernel) rfl) <|
  zq_cons (List.forall_mem_cons.mpr ⟨⟨zi_X9_inRoom, rfl, zq_s_callV (n := 2) (index := 222) (by decide +kernel) rfl zw_1142 zw_1144 zw_47 zw_91 zw_1145 (by decide +kernel) (by decide +kernel) ⟨rfl, rfl⟩⟩, fun _ h => absurd h List.not_mem_nil⟩) <|
  zq_cons (zq_s_if_ne (off := 9) (by decide +kernel) (by decide)) <|
  zq_cons (zq_s_iconst (n := 1) (by decide +kernel) (by decide +kernel)) <|
  zq_cons (zq_s_iload_n (n := 3) (by decide +kernel) rfl) <|
  zq_cons (zq_s_ishl (by decide +kernel)) <|
  zq_cons (zq_s_goto (off := 4) (by decide +kernel) (by decide)) <|
  zq_cons (zq_s_iconst (n := 0) (by decide +kernel) (by decide +kernel)) <|
  zq_cons (zq_s_ior (by decide +kernel)) <|
  zq_cons (zq_s_istore_n (n := 2) (by decide +kernel) rfl (by decide +kernel)) <|
  zq_cons (zq_s_iinc (n := 1) (by decide +kernel) (by decide +kernel) (by decide +kernel)) <|
  zq_cons (zq_s_goto (off := (-28)) (by decide +kernel) (by decide)) <|
  zq_cons (zq_s_iload_n (n := 2) (by decide +kernel) rfl) <|
  zq_cons (⟨rfl, (by decide +kernel)⟩) <|
  zq_nil
def zc_X9_emptyOf : List (Nat × zq_It) := [(0, .inl (zq_al 1 0)), (1, .inr (.inl (1, .inr [(8, zn_X9_runsTold)]))), (4, .inl (zq_al 5 0)), (5, .inl (zq_il 6 1)), (6, .inr (.inl (2, .inr [(8, zn_X9_emptyNow)]))), (9, .inr (.inr 1))]
theorem zk_X9_emptyOf : zq_oks zi_X9_emptyOf zc_X9_emptyOf := zq_cons (zq_s_aload_n (n := 0) (by decide +kernel) rfl) <|
  zq_cons (List.forall_mem_cons.mpr ⟨⟨zi_X9_runsTold, rfl, zq_s_callV (n := 0) (index := 216) (by decide +kernel) rfl zw_1091 zw_1093 zw_36 zw_91 zw_1094 (by decide +kernel) (by decide +kernel) ⟨rfl, rfl⟩⟩, fun _ h => absurd h List.not_mem_nil⟩) <|
  zq_cons (zq_s_aload_n (n := 0) (by decide +kernel) rfl) <|
  zq_cons (zq_s_iload_n (n := 1) (by decide +kernel) rfl) <|
  zq_cons (List.forall_mem_cons.mpr ⟨⟨zi_X9_emptyNow, rfl, zq_s_callV (n := 1) (index := 234) (by decide +kernel) rfl zw_1170 zw_1172 zw_51 zw_91 zw_1173 (by decide +kernel) (by decide +kernel) ⟨rfl, rfl⟩⟩, fun _ h => absurd h List.not_mem_nil⟩) <|
  zq_cons (⟨rfl, (by decide +kernel)⟩) <|
  zq_nil
def zc_X9_empty : List (Nat × zq_It) := [(0, .inl (zq_il 1 1)), (1, .inr (.inl (1, .inl zn_X9_isEight))), (4, .inl (zq_if_eq 7 15)), (7, .inl (zq_al 8 0)), (8, .inl (zq_il 9 1)), (9, .inr (.inl (2, .inr [(8, zn_X9_emptyOf)]))), (12, .inl (zq_goto 17)), (15, .inl (zq_push 17 (.int (-2)))), (17, .inr (.inr 1))]
theorem zk_X9_empty : zq_oks zi_X9_empty zc_X9_empty := zq_cons (zq_s_iload_n (n := 1) (by decide +kernel) rfl) <|
  zq_cons (⟨zi_X9_isEight, rfl, zq_s_callS (n := 1) (index := 107) (by decide +kernel) zw_1015 zw_1016 zw_91 zw_1017 (by decide +kernel) (by decide +kernel) ⟨rfl, rfl⟩⟩) <|
  zq_cons (zq_s_if_eq (off := 11) (by decide +kernel) (by decide)) <|
  zq_cons (zq_s_aload_n (n := 0) (by decide +kernel) rfl) <|
  zq_cons (zq_s_iload_n (n := 1) (by decide +kernel) rfl) <|
  zq_cons (List.forall_mem_cons.mpr ⟨⟨zi_X9_emptyOf, rfl, zq_s_callV (n := 1) (index := 237) (by decide +kernel) rfl zw_1166 zw_1168 zw_50 zw_91 zw_1169 (by decide +kernel) (by decide +kernel) ⟨rfl, rfl⟩⟩, fun _ h => absurd h List.not_mem_nil⟩) <|
  zq_cons (zq_s_goto (off := 5) (by decide +kernel) (by decide)) <|
  zq_cons (zq_s_bipush (n := (-2)) (by decide +kernel) (by decide +kernel)) <|
  zq_cons (⟨rfl, (by decide +kernel)⟩) <|
  zq_nil
def zc_X9_foundNow_0 : List (Nat × zq_It) := [(0, .inl (zq_push 1 (.int 0))), (1, .inl (zq_is 2 2)), (2, .inl (zq_il 3 2)), (3, .inl (zq_push 5 (.int 24))), (5, .inl (zq_ic_ge 8 115)), (8, .inl (zq_push 9 (.int 0))), (9, .inl (zq_is 10 3)), (10, .inl (zq_il 11 3)), (11, .inl (zq_al 12 0)), (12, .inl (zq_getf 15 [(8, 5)])), (15, .inl (zq_ic_ge 18 109)), (18, .inl (zq_push 19 (.int 0))), (19, .inl (zq_is 21 4)), (21, .inl (zq_il 23 4)), (23, .inl (zq_al 24 0)), (24, .inl (zq_getf 27 [(8, 5)])), (27, .inl (zq_ic_ge 30 103)), (30, .inl (zq_al 31 0)), (31, .inl (zq_getf 34 [(8, 6)])), (34, .inl (zq_il 35 3)), (35, .inl (zq_iald 36)), (36, .inl (zq_push 37 (.int 2))), (37, .inl (zq_ic_ne 40 97)), (40, .inl (zq_al 41 0)), (41, .inl (zq_getf 44 [(8, 6)])), (44, .inl (zq_il 46 4)), (46, .inl (zq_iald 47)), (47, .inl (zq_push 48 (.int 1))), (48, .inl (zq_ic_ne 51 97)), (51, .inl (zq_al 52 0)), (52, .inl (zq_getf 55 [(8, 24)])), (55, .inl (zq_push 57 (.int 8))), (57, .inl (zq_il 58 2)), (58, .inl (zq_i2 59 (fun x y => x * y))), (59, .inl (zq_il 60 3)), (60, .inl (zq_i2 61 (fun x y => x + y))), (61, .inl (zq_iald 62)), (62, .inl (zq_al 63 0)), (63, .inl (zq_getf 66 [(8, 24)])), (66, .inl (zq_push 68 (.int 8)))]
theorem zk_X9_foundNow_0 : zq_oks zi_X9_foundNow zc_X9_foundNow_0 := zq_cons (zq_s_iconst (n := 0) (by decide +kernel) (by decide +kernel)) <|
  zq_cons (zq_s_istore_n (n := 2) (by decide +kernel) rfl (by decide +kernel)) <|
  zq_cons (zq_s_iload_n (n := 2) (by decide +kernel) rfl) <|
  zq_cons (zq_s_bipush (n := 24) (by decide +kernel) (by decide +kernel)) <|
  zq_cons (zq_s_ic_ge (off := 110) (by decide +kernel) (by decide)) <|
  zq_cons (zq_s_iconst (n := 0) (by decide +kernel) (by decide +kernel)) <|
  zq_cons (zq_s_istore_n (n := 3) (by decide +kernel) rfl (by decide +kernel)) <|
  zq_cons (zq_s_iload_n (n := 3) (by decide +kernel) rfl) <|
  zq_cons (zq_s_aload_n (n := 0) (by decide +kernel) rfl) <|
  zq_cons (zq_s_getf (index := 113) (by decide +kernel) zf_X9_113) <|
  zq_cons (zq_s_ic_ge (off := 94) (by decide +kernel) (by decide)) <|
  zq_cons (zq_s_iconst (n := 0) (by decide +kernel) (by decide +kernel)) <|
  zq_cons (zq_s_istore (by decide +kernel) (by decide +kernel)) <|
  zq_cons (zq_s_iload (by decide +kernel)) <|
  zq_cons (zq_s_aload_n (n := 0) (by decide +kernel) rfl) <|
  zq_cons (zq_s_getf (index := 113) (by decide +kernel) zf_X9_113) <|
  zq_cons (zq_s_ic_ge (off := 76) (by decide +kernel) (by decide)) <|
  zq_cons (zq_s_aload_n (n := 0) (by decide +kernel) rfl) <|
  zq_cons (zq_s_getf (index := 22) (by decide +kernel) zf_X9_22) <|
  zq_cons (zq_s_iload_n (n := 3) (by decide +kernel) rfl) <|
  zq_cons (zq_s_iald (by decide +kernel)) <|
  zq_cons (zq_s_iconst (n := 2) (by decide +kernel) (by decide +kernel)) <|
  zq_cons (zq_s_ic_ne (off := 60) (by decide +kernel) (by decide)) <|
  zq_cons (zq_s_aload_n (n := 0) (by decide +kernel) rfl) <|
  zq_cons (zq_s_getf (index := 22) (by decide +kernel) zf_X9_22) <|
  zq_cons (zq_s_iload (by decide +kernel)) <|
  zq_cons (zq_s_iald (by decide +kernel)) <|
  zq_cons (zq_s_iconst (n := 1) (by decide +kernel) (by decide +kernel)) <|
  zq_cons (zq_s_ic_ne (off := 49) (by decide +kernel) (by decide)) <|
  zq_cons (zq_s_aload_n (n := 0) (by decide +kernel) rfl) <|
  zq_cons (zq_s_getf (index := 55) (by decide +kernel) zf_X9_55) <|
  zq_cons (zq_s_bipush (n := 8) (by decide +kernel) (by decide +kernel)) <|
  zq_cons (zq_s_iload_n (n := 2) (by decide +kernel) rfl) <|
  zq_cons (zq_s_imul (by decide +kernel)) <|
  zq_cons (zq_s_iload_n (n := 3) (by decide +kernel) rfl) <|
  zq_cons (zq_s_iadd (by decide +kernel)) <|
  zq_cons (zq_s_iald (by decide +kernel)) <|
  zq_cons (zq_s_aload_n (n := 0) (by decide +kernel) rfl) <|
  zq_cons (zq_s_getf (index := 55) (by decide +kernel) zf_X9_55) <|
  zq_cons (zq_s_bipush (n := 8) (by decide +kernel) (by decide +kernel)) <|
  zq_nil
def zc_X9_foundNow_1 : List (Nat × zq_It) := [(68, .inl (zq_il 69 2)), (69, .inl (zq_i2 70 (fun x y => x * y))), (70, .inl (zq_il 72 4)), (72, .inl (zq_i2 73 (fun x y => x + y))), (73, .inl (zq_iald 74)), (74, .inl (zq_ic_ne 77 97)), (77, .inl (zq_il 78 1)), (78, .inl (zq_if_ne 81 85)), (81, .inl (zq_il 82 2)), (82, .inl (zq_goto 96)), (85, .inl (zq_il 86 1)), (86, .inl (zq_push 87 (.int 1))), (87, .inl (zq_ic_ne 90 94)), (90, .inl (zq_il 91 3)), (91, .inl (zq_goto 96)), (94, .inl (zq_il 96 4)), (96, .inr (.inr 1)), (97, .inl (zq_inc 100 4 1)), (100, .inl (zq_goto 21)), (103, .inl (zq_inc 106 3 1)), (106, .inl (zq_goto 10)), (109, .inl (zq_inc 112 2 1)), (112, .inl (zq_goto 2)), (115, .inl (zq_push 116 (.int (-1)))), (116, .inr (.inr 1))]
theorem zk_X9_foundNow_1 : zq_oks zi_X9_foundNow zc_X9_foundNow_1 := zq_cons (zq_s_iload_n (n := 2) (by decide +kernel) rfl) <|
  zq_cons (zq_s_imul (by decide +kernel)) <|
  zq_cons (zq_s_iload (by decide +kernel)) <|
  zq_cons (zq_s_iadd (by decide +kernel)) <|
  zq_cons (zq_s_iald (by decide +kernel)) <|
  zq_cons (zq_s_ic_ne (off := 23) (by decide +kernel) (by decide)) <|
  zq_cons (zq_s_iload_n (n := 1) (by decide +kernel) rfl) <|
  zq_cons (zq_s_if_ne (off := 7) (by decide +kernel) (by decide)) <|
  zq_cons (zq_s_iload_n (n := 2) (by decide +kernel) rfl) <|
  zq_cons (zq_s_goto (off := 14) (by decide +kernel) (by decide)) <|
  zq_cons (zq_s_iload_n (n := 1) (by decide +kernel) rfl) <|
  zq_cons (zq_s_iconst (n := 1) (by decide +kernel) (by decide +kernel)) <|
  zq_cons (zq_s_ic_ne (off := 7) (by decide +kernel) (by decide)) <|
  zq_cons (zq_s_iload_n (n := 3) (by decide +kernel) rfl) <|
  zq_cons (zq_s_goto (off := 5) (by decide +kernel) (by decide)) <|
  zq_cons (zq_s_iload (by decide +kernel)) <|
  zq_cons (⟨rfl, (by decide +kernel)⟩) <|
  zq_cons (zq_s_iinc (n := 1) (by decide +kernel) (by decide +kernel) (by decide +kernel)) <|
  zq_cons (zq_s_goto (off := (-79)) (by decide +kernel) (by decide)) <|
  zq_cons (zq_s_iinc (n := 1) (by decide +kernel) (by decide +kernel) (by decide +kernel)) <|
  zq_cons (zq_s_goto (off := (-96)) (by decide +kernel) (by decide)) <|
  zq_cons (zq_s_iinc (n := 1) (by decide +kernel) (by decide +kernel) (by decide +kernel)) <|
  zq_cons (zq_s_goto (off := (-110)) (by decide +kernel) (by decide)) <|
  zq_cons (zq_s_iconst (n := (-1)) (by decide +kernel) (by decide +kernel)) <|
  zq_cons (⟨rfl, (by decide +kernel)⟩) <|
  zq_nil
def zc_X9_foundNow : List (Nat × zq_It) := zc_X9_foundNow_0 ++ (zc_X9_foundNow_1)
theorem zk_X9_foundNow : zq_oks zi_X9_foundNow zc_X9_foundNow := zq_app zk_X9_foundNow_0 (zk_X9_foundNow_1)
def zc_X9_foundOf : List (Nat × zq_It) := [(0, .inl (zq_al 1 0)), (1, .inr (.inl (1, .inr [(8, zn_X9_runsTold)]))), (4, .inl (zq_al 5 0)), (5, .inl (zq_il 6 1)), (6, .inr (.inl (2, .inr [(8, zn_X9_foundNow)]))), (9, .inr (.inr 1))]
theorem zk_X9_foundOf : zq_oks zi_X9_foundOf zc_X9_foundOf := zq_cons (zq_s_aload_n (n := 0) (by decide +kernel) rfl) <|
  zq_cons (List.forall_mem_cons.mpr ⟨⟨zi_X9_runsTold, rfl, zq_s_callV (n := 0) (index := 216) (by decide +kernel) rfl zw_1091 zw_1093 zw_36 zw_91 zw_1094 (by decide +kernel) (by decide +kernel) ⟨rfl, rfl⟩⟩, fun _ h => absurd h List.not_mem_nil⟩) <|
  zq_cons (zq_s_aload_n (n := 0) (by decide +kernel) rfl) <|
  zq_cons (zq_s_iload_n (n := 1) (by decide +kernel) rfl) <|
  zq_cons (List.forall_mem_cons.mpr ⟨⟨zi_X9_foundNow, rfl, zq_s_callV (n := 1) (index := 240) (by decide +kernel) rfl zw_1182 zw_1184 zw_53 zw_91 zw_1185 (by decide +kernel) (by decide +kernel) ⟨rfl, rfl⟩⟩, fun _ h => absurd h List.not_mem_nil⟩) <|
  zq_cons (⟨rfl, (by decide +kernel)⟩) <|
  zq_nil
def zc_X9_found : List (Nat × zq_It) := [(0, .inl (zq_il 1 1)), (1, .inr (.inl (1, .inl zn_X9_isThree))), (4, .inl (zq_if_eq 7 15)), (7, .inl (zq_al 8 0)), (8, .inl (zq_il 9 1)), (9, .inr (.inl (2, .inr [(8, zn_X9_foundOf)]))), (12, .inl (zq_goto 17)), (15, .inl (zq_push 17 (.int (-2)))), (17, .inr (.inr 1))]
theorem zk_X9_found : zq_oks zi_X9_found zc_X9_found := zq_cons (zq_s_iload_n (n := 1) (by decide +kernel) rfl) <|
  zq_cons (⟨zi_X9_isThree, rfl, zq_s_callS (n := 1) (index := 144) (by decide +kernel) zw_1049 zw_1050 zw_91 zw_1051 (by decide +kernel) (by decide +kernel) ⟨rfl, rfl⟩⟩) <|
  zq_cons (zq_s_if_eq (off := 11) (by decide +kernel) (by decide)) <|
  zq_cons (zq_s_aload_n (n := 0) (by decide +kernel) rfl) <|
  zq_cons (zq_s_iload_n (n := 1) (by decide +kernel) rfl) <|
  zq_cons (List.forall_mem_cons.mpr ⟨⟨zi_X9_foundOf, rfl, zq_s_callV (n := 1) (index := 243) (by decide +kernel) rfl zw_1178 zw_1180 zw_52 zw_91 zw_1181 (by decide +kernel) (by decide +kernel) ⟨rfl, rfl⟩⟩, fun _ h => absurd h List.not_mem_nil⟩) <|
  zq_cons (zq_s_goto (off := 5) (by decide +kernel) (by decide)) <|
  zq_cons (zq_s_bipush (n := (-2)) (by decide +kernel) (by decide +kernel)) <|
  zq_cons (⟨rfl, (by decide +kernel)⟩) <|
  zq_nil
def zc_X9_many : List (Nat × zq_It) := [(0, .inl (zq_push 1 (.int 0))), (1, .inl (zq_is 2 2)), (2, .inl (zq_push 3 (.int 0))), (3, .inl (zq_is 4 3)), (4, .inl (zq_il 5 3)), (5, .inl (zq_push 7 (.int 24))), (7, .inl (zq_ic_ge 10 32)), (10, .inl (zq_il 11 2)), (11, .inl (zq_il 12 1)), (12, .inl (zq_il 13 3)), (13, .inr (.inl (2, .inl zn_X9_isIn))), (16, .inl (zq_if_eq 19 23)), (19, .inl (zq_push 20 (.int 1))), (20, .inl (zq_goto 24)), (23, .inl (zq_push 24 (.int 0))), (24, .inl (zq_i2 25 (fun x y => x + y))), (25, .inl (zq_is 26 2)), (26, .inl (zq_inc 29 3 1)), (29, .inl (zq_goto 4)), (32, .inl (zq_il 33 2)), (33, .inr (.inr 1))]
theorem zk_X9_many : zq_oks zi_X9_many zc_X9_many := zq_cons (zq_s_iconst (n := 0) (by decide +kernel) (by decide +kernel)) <|
  zq_cons (zq_s_istore_n (n := 2) (by decide +kernel) rfl (by decide +kernel)) <|
  zq_cons (zq_s_iconst (n := 0) (by decide +kernel) (by decide +kernel)) <|
  zq_cons (zq_s_istore_n (n := 3) (by decide +kernel) rfl (by decide +kernel)) <|
  zq_cons (zq_s_iload_n (n := 3) (by decide +kernel) rfl) <|
  zq_cons (zq_s_bipush (n := 24) (by decide +kernel) (by decide +kernel)) <|
  zq_cons (zq_s_ic_ge (off := 25) (by decide +kernel) (by decide)) <|
  zq_cons (zq_s_iload_n (n := 2) (by decide +kernel) rfl) <|
  zq_cons (zq_s_iload_n (n := 1) (by decide +kernel) rfl) <|
  zq_cons (zq_s_iload_n (n := 3) (by decide +kernel) rfl) <|
  zq_cons (⟨zi_X9_isIn, rfl, zq_s_callS (n := 2) (index := 175) (by decide +kernel) zw_1107 zw_1108 zw_91 zw_1109 (by decide +kernel) (by decide +kernel) ⟨rfl, rfl⟩⟩) <|
  zq_cons (zq_s_if_eq (off := 7) (by decide +kernel) (by decide)) <|
  zq_cons (zq_s_iconst (n := 1) (by decide +kernel) (by decide +kernel)) <|
  zq_cons (zq_s_goto (off := 4) (by decide +kernel) (by decide)) <|
  zq_cons (zq_s_iconst (n := 0) (by decide +kernel) (by decide +kernel)) <|
  zq_cons (zq_s_iadd (by decide +kernel)) <|
  zq_cons (zq_s_istore_n (n := 2) (by decide +kernel) rfl (by decide +kernel)) <|
  zq_cons (zq_s_iinc (n := 1) (by decide +kernel) (by decide +kernel) (by decide +kernel)) <|
  zq_cons (zq_s_goto (off := (-25)) (by decide +kernel) (by decide)) <|
  zq_cons (zq_s_iload_n (n := 2) (by decide +kernel) rfl) <|
  zq_cons (⟨rfl, (by decide +kernel)⟩) <|
  zq_nil
def zc_X9_crowdOf_0 : List (Nat × zq_It) := [(0, .inl (zq_al 1 0)), (1, .inr (.inl (1, .inr [(8, zn_X9_runsTold)]))), (4, .inl (zq_push 5 (.int 0))), (5, .inl (zq_is 6 2)), (6, .inl (zq_push 7 (.int 0))), (7, .inl (zq_is 8 3)), (8, .inl (zq_push 9 (.int 0))), (9, .inl (zq_is 11 4)), (11, .inl (zq_il 13 4)), (13, .inl (zq_push 16 (.int 192))), (16, .inl (zq_ic_ge 19 71)), (19, .inl (zq_al 20 0)), (20, .inl (zq_al 21 0)), (21, .inl (zq_il 23 4)), (23, .inl (zq_push 25 (.int 8))), (25, .inl (zq_i2c 26 (fun x y => x / y))), (26, .inl (zq_il 28 4)), (28, .inl (zq_push 30 (.int 8))), (30, .inl (zq_i2c 31 (fun x y => x - x / y * y))), (31, .inr (.inl (3, .inr [(8, zn_X9_inRoom)]))), (34, .inr (.inl (2, .inr [(8, zn_X9_many)]))), (37, .inl (zq_is 39 5)), (39, .inl (zq_il 41 5)), (41, .inl (zq_il 42 3)), (42, .inl (zq_ic_le 45 50)), (45, .inl (zq_il 47 4)), (47, .inl (zq_goto 51)), (50, .inl (zq_il 51 2)), (51, .inl (zq_is 52 2)), (52, .inl (zq_il 54 5)), (54, .inl (zq_il 55 3)), (55, .inl (zq_ic_le 58 63)), (58, .inl (zq_il 60 5)), (60, .inl (zq_goto 64)), (63, .inl (zq_il 64 3)), (64, .inl (zq_is 65 3)), (65, .inl (zq_inc 68 4 1)), (68, .inl (zq_goto 11)), (71, .inl (zq_il 72 1)), (72, .inl (zq_if_ne 75 82))]
theorem zk_X9_crowdOf_0 : zq_oks zi_X9_crowdOf zc_X9_crowdOf_0 := zq_cons (zq_s_aload_n (n := 0) (by decide +kernel) rfl) <|
  zq_cons (List.forall_mem_cons.mpr ⟨⟨zi_X9_runsTold, rfl, zq_s_callV (n := 0) (index := 216) (by decide +kernel) rfl zw_1091 zw_1093 zw_36 zw_91 zw_1094 (by decide +kernel) (by decide +kernel) ⟨rfl, rfl⟩⟩, fun _ h => absurd h List.not_mem_nil⟩) <|
  zq_cons (zq_s_iconst (n := 0) (by decide +kernel) (by decide +kernel)) <|
  zq_cons (zq_s_istore_n (n := 2) (by decide +kernel) rfl (by decide +kernel)) <|
  zq_cons (zq_s_iconst (n := 0) (by decide +kernel) (by decide +kernel)) <|
  zq_cons (zq_s_istore_n (n := 3) (by decide +kernel) rfl (by decide +kernel)) <|
  zq_cons (zq_s_iconst (n := 0) (by decide +kernel) (by decide +kernel)) <|
  zq_cons (zq_s_istore (by decide +kernel) (by decide +kernel)) <|
  zq_cons (zq_s_iload (by decide +kernel)) <|
  zq_cons (zq_s_sipush (n := 192) (by decide +kernel) (by decide +kernel)) <|
  zq_cons (zq_s_ic_ge (off := 55) (by decide +kernel) (by decide)) <|
  zq_cons (zq_s_aload_n (n := 0) (by decide +kernel) rfl) <|
  zq_cons (zq_s_aload_n (n := 0) (by decide +kernel) rfl) <|
  zq_cons (zq_s_iload (by decide +kernel)) <|
  zq_cons (zq_s_bipush (n := 8) (by decide +kernel) (by decide +kernel)) <|
  zq_cons (zq_s_idiv (by decide +kernel)) <|
  zq_cons (zq_s_iload (by decide +kernel)) <|
  zq_cons (zq_s_bipush (n := 8) (by decide +kernel) (by decide +kernel)) <|
  zq_cons (zq_s_irem (by decide +kernel)) <|
  zq_cons (List.forall_mem_cons.mpr ⟨⟨zi_X9_inRoom, rfl, zq_s_callV (n := 2) (index := 222) (by decide +kernel) rfl zw_1142 zw_1144 zw_47 zw_91 zw_1145 (by decide +kernel) (by decide +kernel) ⟨rfl, rfl⟩⟩, fun _ h => absurd h List.not_mem_nil⟩) <|
  zq_cons (List.forall_mem_cons.mpr ⟨⟨zi_X9_many, rfl, zq_s_callV (n := 1) (index := 246) (by decide +kernel) rfl zw_1194 zw_1196 zw_55 zw_91 zw_1197 (by decide +kernel) (by decide +kernel) ⟨rfl, rfl⟩⟩, fun _ h => absurd h List.not_mem_nil⟩) <|
  zq_cons (zq_s_istore (by decide +kernel) (by decide +kernel)) <|
  zq_cons (zq_s_iload (by decide +kernel)) <|
  zq_cons (zq_s_iload_n (n := 3) (by decide +kernel) rfl) <|
  zq_cons (zq_s_ic_le (off := 8) (by decide +kernel) (by decide)) <|
  zq_cons (zq_s_iload (by decide +kernel)) <|
  zq_cons (zq_s_goto (off := 4) (by decide +kernel) (by decide)) <|
  zq_cons (zq_s_iload_n (n := 2) (by decide +kernel) rfl) <|
  zq_cons (zq_s_istore_n (n := 2) (by decide +kernel) rfl (by decide +kernel)) <|
  zq_cons (zq_s_iload (by decide +kernel)) <|
  zq_cons (zq_s_iload_n (n := 3) (by decide +kernel) rfl) <|
  zq_cons (zq_s_ic_le (off := 8) (by decide +kernel) (by decide)) <|
  zq_cons (zq_s_iload (by decide +kernel)) <|
  zq_cons (zq_s_goto (off := 4) (by decide +kernel) (by decide)) <|
  zq_cons (zq_s_iload_n (n := 3) (by decide +kernel) rfl) <|
  zq_cons (zq_s_istore_n (n := 3) (by decide +kernel) rfl (by decide +kernel)) <|
  zq_cons (zq_s_iinc (n := 1) (by decide +kernel) (by decide +kernel) (by decide +kernel)) <|
  zq_cons (zq_s_goto (off := (-57)) (by decide +kernel) (by decide)) <|
  zq_cons (zq_s_iload_n (n := 1) (by decide +kernel) rfl) <|
  zq_cons (zq_s_if_ne (off := 10) (by decide +kernel) (by decide)) <|
  zq_nil
def zc_X9_crowdOf_1 : List (Nat × zq_It) := [(75, .inl (zq_il 76 2)), (76, .inl (zq_push 78 (.int 8))), (78, .inl (zq_i2c 79 (fun x y => x / y))), (79, .inl (zq_goto 95)), (82, .inl (zq_il 83 1)), (83, .inl (zq_push 84 (.int 1))), (84, .inl (zq_ic_ne 87 94)), (87, .inl (zq_il 88 2)), (88, .inl (zq_push 90 (.int 8))), (90, .inl (zq_i2c 91 (fun x y => x - x / y * y))), (91, .inl (zq_goto 95)), (94, .inl (zq_il 95 3)), (95, .inr (.inr 1))]
theorem zk_X9_crowdOf_1 : zq_oks zi_X9_crowdOf zc_X9_crowdOf_1 := zq_cons (zq_s_iload_n (n := 2) (by decide +kernel) rfl) <|
  zq_cons (zq_s_bipush (n := 8) (by decide +kernel) (by decide +kernel)) <|
  zq_cons (zq_s_idiv (by decide +kernel)) <|
  zq_cons (zq_s_goto (off := 16) (by decide +kernel) (by decide)) <|
  zq_cons (zq_s_iload_n (n := 1) (by decide +kernel) rfl) <|
  zq_cons (zq_s_iconst (n := 1) (by decide +kernel) (by decide +kernel)) <|
  zq_cons (zq_s_ic_ne (off := 10) (by decide +kernel) (by decide)) <|
  zq_cons (zq_s_iload_n (n := 2) (by decide +kernel) rfl) <|
  zq_cons (zq_s_bipush (n := 8) (by decide +kernel) (by decide +kernel)) <|
  zq_cons (zq_s_irem (by decide +kernel)) <|
  zq_cons (zq_s_goto (off := 4) (by decide +kernel) (by decide)) <|
  zq_cons (zq_s_iload_n (n := 3) (by decide +kernel) rfl) <|
  zq_cons (⟨rfl, (by decide +kernel)⟩) <|
  zq_nil
def zc_X9_crowdOf : List (Nat × zq_It) := zc_X9_crowdOf_0 ++ (zc_X9_crowdOf_1)
theorem zk_X9_crowdOf : zq_oks zi_X9_crowdOf zc_X9_crowdOf := zq_app zk_X9_crowdOf_0 (zk_X9_crowdOf_1)
def zc_X9_crowd : List (Nat × zq_It) := [(0, .inl (zq_il 1 1)), (1, .inr (.inl (1, .inl zn_X9_isThree))), (4, .inl (zq_if_eq 7 15)), (7, .inl (zq_al 8 0)), (8, .inl (zq_il 9 1)), (9, .inr (.inl (2, .inr [(8, zn_X9_crowdOf)]))), (12, .inl (zq_goto 17)), (15, .inl (zq_push 17 (.int (-2)))), (17, .inr (.inr 1))]
theorem zk_X9_crowd : zq_oks zi_X9_crowd zc_X9_crowd := zq_cons (zq_s_iload_n (n := 1) (by decide +kernel) rfl) <|
  zq_cons (⟨zi_X9_isThree, rfl, zq_s_callS (n := 1) (index := 144) (by decide +kernel) zw_1049 zw_1050 zw_91 zw_1051 (by decide +kernel) (by decide +kernel) ⟨rfl, rfl⟩⟩) <|
  zq_cons (zq_s_if_eq (off := 11) (by decide +kernel) (by decide)) <|
  zq_cons (zq_s_aload_n (n := 0) (by decide +kernel) rfl) <|
  zq_cons (zq_s_iload_n (n := 1) (by decide +kernel) rfl) <|
  zq_cons (List.forall_mem_cons.mpr ⟨⟨zi_X9_crowdOf, rfl, zq_s_callV (n := 1) (index := 249) (by decide +kernel) rfl zw_1190 zw_1192 zw_54 zw_91 zw_1193 (by decide +kernel) (by decide +kernel) ⟨rfl, rfl⟩⟩, fun _ h => absurd h List.not_mem_nil⟩) <|
  zq_cons (zq_s_goto (off := 5) (by decide +kernel) (by decide)) <|
  zq_cons (zq_s_bipush (n := (-2)) (by decide +kernel) (by decide +kernel)) <|
  zq_cons (⟨rfl, (by decide +kernel)⟩) <|
  zq_nil
def zc_X9_isByItself : List (Nat × zq_It) := [(0, .inl (zq_al 1 0)), (1, .inl (zq_il 2 1)), (2, .inl (zq_al 3 0)), (3, .inl (zq_getf 6 [(8, 24)])), (6, .inl (zq_push 8 (.int 8))), (8, .inl (zq_il 9 1)), (9, .inl (zq_i2 10 (fun x y => x * y))), (10, .inl (zq_il 11 2)), (11, .inl (zq_i2 12 (fun x y => x + y))), (12, .inl (zq_iald 13)), (13, .inr (.inl (3, .inr [(8, zn_X9_inRoom)]))), (16, .inl (zq_push 17 (.int 1))), (17, .inl (zq_il 18 2)), (18, .inl (zq_i2 19 (fun x y => x <<< (y &&& 31)))), (19, .inl (zq_ic_ne 22 26)), (22, .inl (zq_push 23 (.int 1))), (23, .inl (zq_goto 27)), (26, .inl (zq_push 27 (.int 0))), (27, .inr (.inr 2))]
theorem zk_X9_isByItself : zq_oks zi_X9_isByItself zc_X9_isByItself := zq_cons (zq_s_aload_n (n := 0) (by decide +kernel) rfl) <|
  zq_cons (zq_s_iload_n (n := 1) (by decide +kernel) rfl) <|
  zq_cons (zq_s_aload_n (n := 0) (by decide +kernel) rfl) <|
  zq_cons (zq_s_getf (index := 55) (by decide +kernel) zf_X9_55) <|
  zq_cons (zq_s_bipush (n := 8) (by decide +kernel) (by decide +kernel)) <|
  zq_cons (zq_s_iload_n (n := 1) (by decide +kernel) rfl) <|
  zq_cons (zq_s_imul (by decide +kernel)) <|
  zq_cons (zq_s_iload_n (n := 2) (by decide +kernel) rfl) <|
  zq_cons (zq_s_iadd (by decide +kernel)) <|
  zq_cons (zq_s_iald (by decide +kernel)) <|
  zq_cons (List.forall_mem_cons.mpr ⟨⟨zi_X9_inRoom, rfl, zq_s_callV (n := 2) (index := 222) (by decide +kernel) rfl zw_1142 zw_1144 zw_47 zw_91 zw_1145 (by decide +kernel) (by decide +kernel) ⟨rfl, rfl⟩⟩, fun _ h => absurd h List.not_mem_nil⟩) <|
  zq_cons (zq_s_iconst (n := 1) (by decide +kernel) (by decide +kernel)) <|
  zq_cons (zq_s_iload_n (n := 2) (by decide +kernel) rfl) <|
  zq_cons (zq_s_ishl (by decide +kernel)) <|
  zq_cons (zq_s_ic_ne (off := 7) (by decide +kernel) (by decide)) <|
  zq_cons (zq_s_iconst (n := 1) (by decide +kernel) (by decide +kernel)) <|
  zq_cons (zq_s_goto (off := 4) (by decide +kernel) (by decide)) <|
  zq_cons (zq_s_iconst (n := 0) (by decide +kernel) (by decide +kernel)) <|
  zq_cons (⟨rfl, (by decide +kernel)⟩) <|
  zq_nil
def zc_X9_aloneNow : List (Nat × zq_It) := [(0, .inl (zq_push 1 (.int 0))), (1, .inl (zq_is 2 1)), (2, .inl (zq_push 3 (.int 0))), (3, .inl (zq_is 4 2)), (4, .inl (zq_il 5 2)), (5, .inl (zq_al 6 0)), (6, .inl (zq_getf 9 [(8, 5)])), (9, .inl (zq_ic_ge 12 38)), (12, .inl (zq_il 13 1)), (13, .inl (zq_al 14 0)), (14, .inl (zq_push 16 (.int 23))), (16, .inl (zq_il 17 2)), (17, .inr (.inl (3, .inr [(8, zn_X9_isByItself)]))), (20, .inl (zq_if_eq 23 29)), (23, .inl (zq_push 24 (.int 1))), (24, .inl (zq_il 25 2)), (25, .inl (zq_i2 26 (fun x y => x <<< (y &&& 31)))), (26, .inl (zq_goto 30)), (29, .inl (zq_push 30 (.int 0))), (30, .inl (zq_i2 31 (fun x y => x ||| y))), (31, .inl (zq_is 32 1)), (32, .inl (zq_inc 35 2 1)), (35, .inl (zq_goto 4)), (38, .inl (zq_il 39 1)), (39, .inr (.inr 1))]
theorem zk_X9_aloneNow : zq_oks zi_X9_aloneNow zc_X9_aloneNow := zq_cons (zq_s_iconst (n := 0) (by decide +kernel) (by decide +kernel)) <|
  zq_cons (zq_s_istore_n (n := 1) (by decide +kernel) rfl (by decide +kernel)) <|
  zq_cons (zq_s_iconst (n := 0) (by decide +kernel) (by decide +kernel)) <|
  zq_cons (zq_s_istore_n (n := 2) (by decide +kernel) rfl (by decide +kernel)) <|
  zq_cons (zq_s_iload_n (n := 2) (by decide +kernel) rfl) <|
  zq_cons (zq_s_aload_n (n := 0) (by decide +kernel) rfl) <|
  zq_cons (zq_s_getf (index := 113) (by decide +kernel) zf_X9_113) <|
  zq_cons (zq_s_ic_ge (off := 29) (by decide +kernel) (by decide)) <|
  zq_cons (zq_s_iload_n (n := 1) (by decide +kernel) rfl) <|
  zq_cons (zq_s_aload_n (n := 0) (by decide +kernel) rfl) <|
  zq_cons (zq_s_bipush (n := 23) (by decide +kernel) (by decide +kernel)) <|
  zq_cons (zq_s_iload_n (n := 2) (by decide +kernel) rfl) <|
  zq_cons (List.forall_mem_cons.mpr ⟨⟨zi_X9_isByItself, rfl, zq_s_callV (n := 2) (index := 252) (by decide +kernel) rfl zw_1210 zw_1212 zw_58 zw_91 zw_1213 (by decide +kernel) (by decide +kernel) ⟨rfl, rfl⟩⟩, fun _ h => absurd h List.not_mem_nil⟩) <|
  zq_cons (zq_s_if_eq (off := 9) (by decide +kernel) (by decide)) <|
  zq_cons (zq_s_iconst (n := 1) (by decide +kernel) (by decide +kernel)) <|
  zq_cons (zq_s_iload_n (n := 2) (by decide +kernel) rfl) <|
  zq_cons (zq_s_ishl (by decide +kernel)) <|
  zq_cons (zq_s_goto (off := 4) (by decide +kernel) (by decide)) <|
  zq_cons (zq_s_iconst (n := 0) (by decide +kernel) (by decide +kernel)) <|
  zq_cons (zq_s_ior (by decide +kernel)) <|
  zq_cons (zq_s_istore_n (n := 1) (by decide +kernel) rfl (by decide +kernel)) <|
  zq_cons (zq_s_iinc (n := 1) (by decide +kernel) (by decide +kernel) (by decide +kernel)) <|
  zq_cons (zq_s_goto (off := (-31)) (by decide +kernel) (by decide)) <|
  zq_cons (zq_s_iload_n (n := 1) (by decide +kernel) rfl) <|
  zq_cons (⟨rfl, (by decide +kernel)⟩) <|
  zq_nil
def zc_X9_aloneOf : List (Nat × zq_It) := [(0, .inl (zq_al 1 0)), (1, .inr (.inl (1, .inr [(8, zn_X9_runsTold)]))), (4, .inl (zq_al 5 0)), (5, .inr (.inl (1, .inr [(8, zn_X9_aloneNow)]))), (8, .inr (.inr 1))]
theorem zk_X9_aloneOf : zq_oks zi_X9_aloneOf zc_X9_aloneOf := zq_cons (zq_s_aload_n (n := 0) (by decide +kernel) rfl) <|
  zq_cons (List.forall_mem_cons.mpr ⟨⟨zi_X9_runsTold, rfl, zq_s_callV (n := 0) (index := 216) (by decide +kernel) rfl zw_1091 zw_1093 zw_36 zw_91 zw_1094 (by decide +kernel) (by decide +kernel) ⟨rfl, rfl⟩⟩, fun _ h => absurd h List.not_mem_nil⟩) <|
  zq_cons (zq_s_aload_n (n := 0) (by decide +kernel) rfl) <|
  zq_cons (List.forall_mem_cons.mpr ⟨⟨zi_X9_aloneNow, rfl, zq_s_callV (n := 0) (index := 255) (by decide +kernel) rfl zw_1206 zw_1208 zw_57 zw_91 zw_1209 (by decide +kernel) (by decide +kernel) ⟨rfl, rfl⟩⟩, fun _ h => absurd h List.not_mem_nil⟩) <|
  zq_cons (⟨rfl, (by decide +kernel)⟩) <|
  zq_nil
def zc_X9_alone : List (Nat × zq_It) := [(0, .inl (zq_al 1 0)), (1, .inr (.inl (1, .inr [(8, zn_X9_aloneOf)]))), (4, .inr (.inr 1))]
theorem zk_X9_alone : zq_oks zi_X9_alone zc_X9_alone := zq_cons (zq_s_aload_n (n := 0) (by decide +kernel) rfl) <|
  zq_cons (List.forall_mem_cons.mpr ⟨⟨zi_X9_aloneOf, rfl, zq_s_callV (n := 0) (index := 258) (by decide +kernel) rfl zw_1202 zw_1204 zw_56 zw_91 zw_1205 (by decide +kernel) (by decide +kernel) ⟨rfl, rfl⟩⟩, fun _ h => absurd h List.not_mem_nil⟩) <|
  zq_cons (⟨rfl, (by decide +kernel)⟩) <|
  zq_nil
def zc_X9_hoursByItself : List (Nat × zq_It) := [(0, .inl (zq_push 1 (.int 0))), (1, .inl (zq_is 2 2)), (2, .inl (zq_push 3 (.int 0))), (3, .inl (zq_is 4 3)), (4, .inl (zq_il 5 3)), (5, .inl (zq_push 7 (.int 24))), (7, .inl (zq_ic_ge 10 33)), (10, .inl (zq_il 11 2)), (11, .inl (zq_al 12 0)), (12, .inl (zq_il 13 3)), (13, .inl (zq_il 14 1)), (14, .inr (.inl (3, .inr [(8, zn_X9_isByItself)]))), (17, .inl (zq_if_eq 20 24)), (20, .inl (zq_push 21 (.int 1))), (21, .inl (zq_goto 25)), (24, .inl (zq_push 25 (.int 0))), (25, .inl (zq_i2 26 (fun x y => x + y))), (26, .inl (zq_is 27 2)), (27, .inl (zq_inc 30 3 1)), (30, .inl (zq_goto 4)), (33, .inl (zq_il 34 2)), (34, .inr (.inr 1))]
theorem zk_X9_hoursByItself : zq_oks zi_X9_hoursByItself zc_X9_hoursByItself := zq_cons (zq_s_iconst (n := 0) (by decide +kernel) (by decide +kernel)) <|
  zq_cons (zq_s_istore_n (n := 2) (by decide +kernel) rfl (by decide +kernel)) <|
  zq_cons (zq_s_iconst (n := 0) (by decide +kernel) (by decide +kernel)) <|
  zq_cons (zq_s_istore_n (n := 3) (by decide +kernel) rfl (by decide +kernel)) <|
  zq_cons (zq_s_iload_n (n := 3) (by decide +kernel) rfl) <|
  zq_cons (zq_s_bipush (n := 24) (by decide +kernel) (by decide +kernel)) <|
  zq_cons (zq_s_ic_ge (off := 26) (by decide +kernel) (by decide)) <|
  zq_cons (zq_s_iload_n (n := 2) (by decide +kernel) rfl) <|
  zq_cons (zq_s_aload_n (n := 0) (by decide +kernel) rfl) <|
  zq_cons (zq_s_iload_n (n := 3) (by decide +kernel) rfl) <|
  zq_cons (zq_s_iload_n (n := 1) (by decide +kernel) rfl) <|
  zq_cons (List.forall_mem_cons.mpr ⟨⟨zi_X9_isByItself, rfl, zq_s_callV (n := 2) (index := 252) (by decide +kernel) rfl zw_1210 zw_1212 zw_58 zw_91 zw_1213 (by decide +kernel) (by decide +kernel) ⟨rfl, rfl⟩⟩, fun _ h => absurd h List.not_mem_nil⟩) <|
  zq_cons (zq_s_if_eq (off := 7) (by decide +kernel) (by decide)) <|
  zq_cons (zq_s_iconst (n := 1) (by decide +kernel) (by decide +kernel)) <|
  zq_cons (zq_s_goto (off := 4) (by decide +kernel) (by decide)) <|
  zq_cons (zq_s_iconst (n := 0) (by decide +kernel) (by decide +kernel)) <|
  zq_cons (zq_s_iadd (by decide +kernel)) <|
  zq_cons (zq_s_istore_n (n := 2) (by decide +kernel) rfl (by decide +kernel)) <|
  zq_cons (zq_s_iinc (n := 1) (by decide +kernel) (by decide +kernel) (by decide +kernel)) <|
  zq_cons (zq_s_goto (off := (-26)) (by decide +kernel) (by decide)) <|
  zq_cons (zq_s_iload_n (n := 2) (by decide +kernel) rfl) <|
  zq_cons (⟨rfl, (by decide +kernel)⟩) <|
  zq_nil
def zc_X9_sleepOf_0 : List (Nat × zq_It) := [(0, .inl (zq_al 1 0)), (1, .inr (.inl (1, .inr [(8, zn_X9_asTold)]))), (4, .inl (zq_al 5 0)), (5, .inl (zq_getf 8 [(8, 8)])), (8, .inl (zq_il 9 1)), (9, .inl (zq_iald 10)), (10, .inl (zq_is 11 3)), (11, .inl (zq_push 12 (.int (-1)))), (12, .inl (zq_is 14 4)), (14, .inl (zq_push 15 (.int (-1)))), (15, .inl (zq_is 17 5)), (17, .inl (zq_push 18 (.int 0))), (18, .inl (zq_is 20 6)), (20, .inl (zq_il 22 6)), (22, .inl (zq_push 24 (.int 8))), (24, .inl (zq_ic_ge 27 84)), (27, .inl (zq_al 28 0)), (28, .inl (zq_getf 31 [(8, 8)])), (31, .inl (zq_il 32 1)), (32, .inl (zq_il 34 6)), (34, .inl (zq_iast 35)), (35, .inl (zq_al 36 0)), (36, .inr (.inl (1, .inr [(8, zn_X9_runs)]))), (39, .inl (zq_al 40 0)), (40, .inl (zq_il 41 1)), (41, .inr (.inl (2, .inr [(8, zn_X9_hoursByItself)]))), (44, .inl (zq_is 46 7)), (46, .inl (zq_il 48 7)), (48, .inl (zq_il 50 5)), (50, .inl (zq_ic_le 53 58)), (53, .inl (zq_il 55 6)), (55, .inl (zq_goto 60)), (58, .inl (zq_il 60 4)), (60, .inl (zq_is 62 4)), (62, .inl (zq_il 64 7)), (64, .inl (zq_il 66 5)), (66, .inl (zq_ic_le 69 74)), (69, .inl (zq_il 71 7)), (71, .inl (zq_goto 76)), (74, .inl (zq_il 76 5))]
theorem zk_X9_sleepOf_0 : zq_oks zi_X9_sleepOf zc_X9_sleepOf_0 := zq_cons (zq_s_aload_n (n := 0) (by decide +kernel) rfl) <|
  zq_cons (List.forall_mem_cons.mpr ⟨⟨zi_X9_asTold, rfl, zq_s_callV (n := 0) (index := 210) (by decide +kernel) rfl zw_1095 zw_1097 zw_37 zw_91 zw_1098 (by decide +kernel) (by decide +kernel) ⟨rfl, rfl⟩⟩, fun _ h => absurd h List.not_mem_nil⟩) <|
  zq_cons (zq_s_aload_n (n := 0) (by decide +kernel) rfl) <|
  zq_cons (zq_s_getf (index := 28) (by decide +kernel) zf_X9_28) <|
  zq_cons (zq_s_iload_n (n := 1) (by decide +kernel) rfl) <|
  zq_cons (zq_s_iald (by decide +kernel)) <|
  zq_cons (zq_s_istore_n (n := 3) (by decide +kernel) rfl (by decide +kernel)) <|
  zq_cons (zq_s_iconst (n := (-1)) (by decide +kernel) (by decide +kernel)) <|
  zq_cons (zq_s_istore (by decide +kernel) (by decide +kernel)) <|
  zq_cons (zq_s_iconst (n := (-1)) (by decide +kernel) (by decide +kernel)) <|
  zq_cons (zq_s_istore (by decide +kernel) (by decide +kernel)) <|
  zq_cons (zq_s_iconst (n := 0) (by decide +kernel) (by decide +kernel)) <|
  zq_cons (zq_s_istore (by decide +kernel) (by decide +kernel)) <|
  zq_cons (zq_s_iload (by decide +kernel)) <|
  zq_cons (zq_s_bipush (n := 8) (by decide +kernel) (by decide +kernel)) <|
  zq_cons (zq_s_ic_ge (off := 60) (by decide +kernel) (by decide)) <|
  zq_cons (zq_s_aload_n (n := 0) (by decide +kernel) rfl) <|
  zq_cons (zq_s_getf (index := 28) (by decide +kernel) zf_X9_28) <|
  zq_cons (zq_s_iload_n (n := 1) (by decide +kernel) rfl) <|
  zq_cons (zq_s_iload (by decide +kernel)) <|
  zq_cons (zq_s_iast (by decide +kernel)) <|
  zq_cons (zq_s_aload_n (n := 0) (by decide +kernel) rfl) <|
  zq_cons (List.forall_mem_cons.mpr ⟨⟨zi_X9_runs, rfl, zq_s_callV (n := 0) (index := 213) (by decide +kernel) rfl zw_1099 zw_1101 zw_38 zw_91 zw_1102 (by decide +kernel) (by decide +kernel) ⟨rfl, rfl⟩⟩, fun _ h => absurd h List.not_mem_nil⟩) <|
  zq_cons (zq_s_aload_n (n := 0) (by decide +kernel) rfl) <|
  zq_cons (zq_s_iload_n (n := 1) (by decide +kernel) rfl) <|
  zq_cons (List.forall_mem_cons.mpr ⟨⟨zi_X9_hoursByItself, rfl, zq_s_callV (n := 1) (index := 261) (by decide +kernel) rfl zw_1222 zw_1224 zw_60 zw_91 zw_1225 (by decide +kernel) (by decide +kernel) ⟨rfl, rfl⟩⟩, fun _ h => absurd h List.not_mem_nil⟩) <|
  zq_cons (zq_s_istore (by decide +kernel) (by decide +kernel)) <|
  zq_cons (zq_s_iload (by decide +kernel)) <|
  zq_cons (zq_s_iload (by decide +kernel)) <|
  zq_cons (zq_s_ic_le (off := 8) (by decide +kernel) (by decide)) <|
  zq_cons (zq_s_iload (by decide +kernel)) <|
  zq_cons (zq_s_goto (off := 5) (by decide +kernel) (by decide)) <|
  zq_cons (zq_s_iload (by decide +kernel)) <|
  zq_cons (zq_s_istore (by decide +kernel) (by decide +kernel)) <|
  zq_cons (zq_s_iload (by decide +kernel)) <|
  zq_cons (zq_s_iload (by decide +kernel)) <|
  zq_cons (zq_s_ic_le (off := 8) (by decide +kernel) (by decide)) <|
  zq_cons (zq_s_iload (by decide +kernel)) <|
  zq_cons (zq_s_goto (off := 5) (by decide +kernel) (by decide)) <|
  zq_cons (zq_s_iload (by decide +kernel)) <|
  zq_nil
def zc_X9_sleepOf_1 : List (Nat × zq_It) := [(76, .inl (zq_is 78 5)), (78, .inl (zq_inc 81 6 1)), (81, .inl (zq_goto 20)), (84, .inl (zq_al 85 0)), (85, .inl (zq_getf 88 [(8, 8)])), (88, .inl (zq_il 89 1)), (89, .inl (zq_il 90 3)), (90, .inl (zq_iast 91)), (91, .inl (zq_il 92 2)), (92, .inl (zq_if_ne 95 100)), (95, .inl (zq_il 97 4)), (97, .inl (zq_goto 102)), (100, .inl (zq_il 102 5)), (102, .inr (.inr 1))]
theorem zk_X9_sleepOf_1 : zq_oks zi_X9_sleepOf zc_X9_sleepOf_1 := zq_cons (zq_s_istore (by decide +kernel) (by decide +kernel)) <|
  zq_cons (zq_s_iinc (n := 1) (by decide +kernel) (by decide +kernel) (by decide +kernel)) <|
  zq_cons (zq_s_goto (off := (-61)) (by decide +kernel) (by decide)) <|
  zq_cons (zq_s_aload_n (n := 0) (by decide +kernel) rfl) <|
  zq_cons (zq_s_getf (index := 28) (by decide +kernel) zf_X9_28) <|
  zq_cons (zq_s_iload_n (n := 1) (by decide +kernel) rfl) <|
  zq_cons (zq_s_iload_n (n := 3) (by decide +kernel) rfl) <|
  zq_cons (zq_s_iast (by decide +kernel)) <|
  zq_cons (zq_s_iload_n (n := 2) (by decide +kernel) rfl) <|
  zq_cons (zq_s_if_ne (off := 8) (by decide +kernel) (by decide)) <|
  zq_cons (zq_s_iload (by decide +kernel)) <|
  zq_cons (zq_s_goto (off := 5) (by decide +kernel) (by decide)) <|
  zq_cons (zq_s_iload (by decide +kernel)) <|
  zq_cons (⟨rfl, (by decide +kernel)⟩) <|
  zq_nil
def zc_X9_sleepOf : List (Nat × zq_It) := zc_X9_sleepOf_0 ++ (zc_X9_sleepOf_1)
theorem zk_X9_sleepOf : zq_oks zi_X9_sleepOf zc_X9_sleepOf := zq_app zk_X9_sleepOf_0 (zk_X9_sleepOf_1)
def zc_X9_sleep : List (Nat × zq_It) := [(0, .inl (zq_al 1 0)), (1, .inl (zq_il 2 1)), (2, .inr (.inl (2, .inr [(8, zn_X9_isPerson)]))), (5, .inl (zq_if_eq 8 24)), (8, .inl (zq_il 9 2)), (9, .inr (.inl (1, .inl zn_X9_isTwo))), (12, .inl (zq_if_eq 15 24)), (15, .inl (zq_al 16 0)), (16, .inl (zq_il 17 1)), (17, .inl (zq_il 18 2)), (18, .inr (.inl (3, .inr [(8, zn_X9_sleepOf)]))), (21, .inl (zq_goto 26)), (24, .inl (zq_push 26 (.int (-2)))), (26, .inr (.inr 1))]
theorem zk_X9_sleep : zq_oks zi_X9_sleep zc_X9_sleep := zq_cons (zq_s_aload_n (n := 0) (by decide +kernel) rfl) <|
  zq_cons (zq_s_iload_n (n := 1) (by decide +kernel) rfl) <|
  zq_cons (List.forall_mem_cons.mpr ⟨⟨zi_X9_isPerson, rfl, zq_s_callV (n := 1) (index := 141) (by decide +kernel) rfl zw_1045 zw_1047 zw_32 zw_91 zw_1048 (by decide +kernel) (by decide +kernel) ⟨rfl, rfl⟩⟩, fun _ h => absurd h List.not_mem_nil⟩) <|
  zq_cons (zq_s_if_eq (off := 19) (by decide +kernel) (by decide)) <|
  zq_cons (zq_s_iload_n (n := 2) (by decide +kernel) rfl) <|
  zq_cons (⟨zi_X9_isTwo, rfl, zq_s_callS (n := 1) (index := 135) (by decide +kernel) zw_1034 zw_1035 zw_91 zw_1036 (by decide +kernel) (by decide +kernel) ⟨rfl, rfl⟩⟩) <|
  zq_cons (zq_s_if_eq (off := 12) (by decide +kernel) (by decide)) <|
  zq_cons (zq_s_aload_n (n := 0) (by decide +kernel) rfl) <|
  zq_cons (zq_s_iload_n (n := 1) (by decide +kernel) rfl) <|
  zq_cons (zq_s_iload_n (n := 2) (by decide +kernel) rfl) <|
  zq_cons (List.forall_mem_cons.mpr ⟨⟨zi_X9_sleepOf, rfl, zq_s_callV (n := 2) (index := 264) (by decide +kernel) rfl zw_1218 zw_1220 zw_59 zw_91 zw_1221 (by decide +kernel) (by decide +kernel) ⟨rfl, rfl⟩⟩, fun _ h => absurd h List.not_mem_nil⟩) <|
  zq_cons (zq_s_goto (off := 5) (by decide +kernel) (by decide)) <|
  zq_cons (zq_s_bipush (n := (-2)) (by decide +kernel) (by decide +kernel)) <|
  zq_cons (⟨rfl, (by decide +kernel)⟩) <|
  zq_nil
def zc_X9_mostAt : List (Nat × zq_It) := [(0, .inl (zq_push 1 (.int 0))), (1, .inl (zq_is 2 2)), (2, .inl (zq_push 3 (.int 0))), (3, .inl (zq_is 4 3)), (4, .inl (zq_il 5 3)), (5, .inl (zq_push 7 (.int 8))), (7, .inl (zq_ic_ge 10 41)), (10, .inl (zq_al 11 0)), (11, .inl (zq_al 12 0)), (12, .inl (zq_il 13 1)), (13, .inl (zq_il 14 3)), (14, .inr (.inl (3, .inr [(8, zn_X9_inRoom)]))), (17, .inr (.inl (2, .inr [(8, zn_X9_many)]))), (20, .inl (zq_is 22 4)), (22, .inl (zq_il 24 4)), (24, .inl (zq_il 25 2)), (25, .inl (zq_ic_le 28 33)), (28, .inl (zq_il 30 4)), (30, .inl (zq_goto 34)), (33, .inl (zq_il 34 2)), (34, .inl (zq_is 35 2)), (35, .inl (zq_inc 38 3 1)), (38, .inl (zq_goto 4)), (41, .inl (zq_il 42 2)), (42, .inr (.inr 1))]
theorem zk_X9_mostAt : zq_oks zi_X9_mostAt zc_X9_mostAt := zq_cons (zq_s_iconst (n := 0) (by decide +kernel) (by decide +kernel)) <|
  zq_cons (zq_s_istore_n (n := 2) (by decide +kernel) rfl (by decide +kernel)) <|
  zq_cons (zq_s_iconst (n := 0) (by decide +kernel) (by decide +kernel)) <|
  zq_cons (zq_s_istore_n (n := 3) (by decide +kernel) rfl (by decide +kernel)) <|
  zq_cons (zq_s_iload_n (n := 3) (by decide +kernel) rfl) <|
  zq_cons (zq_s_bipush (n := 8) (by decide +kernel) (by decide +kernel)) <|
  zq_cons (zq_s_ic_ge (off := 34) (by decide +kernel) (by decide)) <|
  zq_cons (zq_s_aload_n (n := 0) (by decide +kernel) rfl) <|
  zq_cons (zq_s_aload_n (n := 0) (by decide +kernel) rfl) <|
  zq_cons (zq_s_iload_n (n := 1) (by decide +kernel) rfl) <|
  zq_cons (zq_s_iload_n (n := 3) (by decide +kernel) rfl) <|
  zq_cons (List.forall_mem_cons.mpr ⟨⟨zi_X9_inRoom, rfl, zq_s_callV (n := 2) (index := 222) (by decide +kernel) rfl zw_1142 zw_1144 zw_47 zw_91 zw_1145 (by decide +kernel) (by decide +kernel) ⟨rfl, rfl⟩⟩, fun _ h => absurd h List.not_mem_nil⟩) <|
  zq_cons (List.forall_mem_cons.mpr ⟨⟨zi_X9_many, rfl, zq_s_callV (n := 1) (index := 246) (by decide +kernel) rfl zw_1194 zw_1196 zw_55 zw_91 zw_1197 (by decide +kernel) (by decide +kernel) ⟨rfl, rfl⟩⟩, fun _ h => absurd h List.not_mem_nil⟩) <|
  zq_cons (zq_s_istore (by decide +kernel) (by decide +kernel)) <|
  zq_cons (zq_s_iload (by decide +kernel)) <|
  zq_cons (zq_s_iload_n (n := 2) (by decide +kernel) rfl) <|
  zq_cons (zq_s_ic_le (off := 8) (by decide +kernel) (by decide)) <|
  zq_cons (zq_s_iload (by decide +kernel)) <|
  zq_cons (zq_s_goto (off := 4) (by decide +kernel) (by decide)) <|
  zq_cons (zq_s_iload_n (n := 2) (by decide +kernel) rfl) <|
  zq_cons (zq_s_istore_n (n := 2) (by decide +kernel) rfl (by decide +kernel)) <|
  zq_cons (zq_s_iinc (n := 1) (by decide +kernel) (by decide +kernel) (by decide +kernel)) <|
  zq_cons (zq_s_goto (off := (-34)) (by decide +kernel) (by decide)) <|
  zq_cons (zq_s_iload_n (n := 2) (by decide +kernel) rfl) <|
  zq_cons (⟨rfl, (by decide +kernel)⟩) <|
  zq_nil
def zc_X9_niceOf_0 : List (Nat × zq_It) := [(0, .inl (zq_al 1 0)), (1, .inr (.inl (1, .inr [(8, zn_X9_asTold)]))), (4, .inl (zq_push 5 (.int (-1)))), (5, .inl (zq_is 6 3)), (6, .inl (zq_push 7 (.int (-1)))), (7, .inl (zq_is 9 4)), (9, .inl (zq_al 10 0)), (10, .inl (zq_al 11 0)), (11, .inl (zq_getf 14 [(8, 10)])), (14, .inl (zq_push 15 (.int 1))), (15, .inl (zq_i2 16 (fun x y => x + y))), (16, .inl (zq_puti 19 false [(8, 15)])), (19, .inl (zq_al 20 0)), (20, .inl (zq_getf 23 [(8, 16)])), (23, .inl (zq_al 24 0)), (24, .inl (zq_getf 27 [(8, 10)])), (27, .inl (zq_push 28 (.int 0))), (28, .inl (zq_iast 29)), (29, .inl (zq_al 30 0)), (30, .inl (zq_getf 33 [(8, 17)])), (33, .inl (zq_al 34 0)), (34, .inl (zq_getf 37 [(8, 10)])), (37, .inl (zq_il 38 1)), (38, .inl (zq_iast 39)), (39, .inl (zq_push 40 (.int 0))), (40, .inl (zq_is 42 5)), (42, .inl (zq_il 44 5)), (44, .inl (zq_push 46 (.int 8))), (46, .inl (zq_ic_ge 49 108)), (49, .inl (zq_al 50 0)), (50, .inl (zq_getf 53 [(8, 18)])), (53, .inl (zq_al 54 0)), (54, .inl (zq_getf 57 [(8, 10)])), (57, .inl (zq_il 59 5)), (59, .inl (zq_iast 60)), (60, .inl (zq_al 61 0)), (61, .inr (.inl (1, .inr [(8, zn_X9_runs)]))), (64, .inl (zq_al 65 0)), (65, .inl (zq_push 67 (.int 23))), (67, .inr (.inl (2, .inr [(8, zn_X9_mostAt)])))]
theorem zk_X9_niceOf_0 : zq_oks zi_X9_niceOf zc_X9_niceOf_0 := zq_cons (zq_s_aload_n (n := 0) (by decide +kernel) rfl) <|
  zq_cons (List.forall_mem_cons.mpr ⟨⟨zi_X9_asTold, rfl, zq_s_callV (n := 0) (index := 210) (by decide +kernel) rfl zw_1095 zw_1097 zw_37 zw_91 zw_1098 (by decide +kernel) (by decide +kernel) ⟨rfl, rfl⟩⟩, fun _ h => absurd h List.not_mem_nil⟩) <|
  zq_cons (zq_s_iconst (n := (-1)) (by decide +kernel) (by decide +kernel)) <|
  zq_cons (zq_s_istore_n (n := 3) (by decide +kernel) rfl (by decide +kernel)) <|
  zq_cons (zq_s_iconst (n := (-1)) (by decide +kernel) (by decide +kernel)) <|
  zq_cons (zq_s_istore (by decide +kernel) (by decide +kernel)) <|
  zq_cons (zq_s_aload_n (n := 0) (by decide +kernel) rfl) <|
  zq_cons (zq_s_aload_n (n := 0) (by decide +kernel) rfl) <|
  zq_cons (zq_s_getf (index := 153) (by decide +kernel) zf_X9_153) <|
  zq_cons (zq_s_iconst (n := 1) (by decide +kernel) (by decide +kernel)) <|
  zq_cons (zq_s_iadd (by decide +kernel)) <|
  zq_cons (zq_s_puti (index := 169) (by decide +kernel) zp_X9_169 (fun _ _ => ⟨rfl, rfl⟩)) <|
  zq_cons (zq_s_aload_n (n := 0) (by decide +kernel) rfl) <|
  zq_cons (zq_s_getf (index := 40) (by decide +kernel) zf_X9_40) <|
  zq_cons (zq_s_aload_n (n := 0) (by decide +kernel) rfl) <|
  zq_cons (zq_s_getf (index := 153) (by decide +kernel) zf_X9_153) <|
  zq_cons (zq_s_iconst (n := 0) (by decide +kernel) (by decide +kernel)) <|
  zq_cons (zq_s_iast (by decide +kernel)) <|
  zq_cons (zq_s_aload_n (n := 0) (by decide +kernel) rfl) <|
  zq_cons (zq_s_getf (index := 43) (by decide +kernel) zf_X9_43) <|
  zq_cons (zq_s_aload_n (n := 0) (by decide +kernel) rfl) <|
  zq_cons (zq_s_getf (index := 153) (by decide +kernel) zf_X9_153) <|
  zq_cons (zq_s_iload_n (n := 1) (by decide +kernel) rfl) <|
  zq_cons (zq_s_iast (by decide +kernel)) <|
  zq_cons (zq_s_iconst (n := 0) (by decide +kernel) (by decide +kernel)) <|
  zq_cons (zq_s_istore (by decide +kernel) (by decide +kernel)) <|
  zq_cons (zq_s_iload (by decide +kernel)) <|
  zq_cons (zq_s_bipush (n := 8) (by decide +kernel) (by decide +kernel)) <|
  zq_cons (zq_s_ic_ge (off := 62) (by decide +kernel) (by decide)) <|
  zq_cons (zq_s_aload_n (n := 0) (by decide +kernel) rfl) <|
  zq_cons (zq_s_getf (index := 46) (by decide +kernel) zf_X9_46) <|
  zq_cons (zq_s_aload_n (n := 0) (by decide +kernel) rfl) <|
  zq_cons (zq_s_getf (index := 153) (by decide +kernel) zf_X9_153) <|
  zq_cons (zq_s_iload (by decide +kernel)) <|
  zq_cons (zq_s_iast (by decide +kernel)) <|
  zq_cons (zq_s_aload_n (n := 0) (by decide +kernel) rfl) <|
  zq_cons (List.forall_mem_cons.mpr ⟨⟨zi_X9_runs, rfl, zq_s_callV (n := 0) (index := 213) (by decide +kernel) rfl zw_1099 zw_1101 zw_38 zw_91 zw_1102 (by decide +kernel) (by decide +kernel) ⟨rfl, rfl⟩⟩, fun _ h => absurd h List.not_mem_nil⟩) <|
  zq_cons (zq_s_aload_n (n := 0) (by decide +kernel) rfl) <|
  zq_cons (zq_s_bipush (n := 23) (by decide +kernel) (by decide +kernel)) <|
  zq_cons (List.forall_mem_cons.mpr ⟨⟨zi_X9_mostAt, rfl, zq_s_callV (n := 1) (index := 267) (by decide +kernel) rfl zw_1234 zw_1236 zw_62 zw_91 zw_1237 (by decide +kernel) (by decide +kernel) ⟨rfl, rfl⟩⟩, fun _ h => absurd h List.not_mem_nil⟩) <|
  zq_nil
def zc_X9_niceOf_1 : List (Nat × zq_It) := [(70, .inl (zq_is 72 6)), (72, .inl (zq_il 74 6)), (74, .inl (zq_il 76 4)), (76, .inl (zq_ic_le 79 84)), (79, .inl (zq_il 81 5)), (81, .inl (zq_goto 85)), (84, .inl (zq_il 85 3)), (85, .inl (zq_is 86 3)), (86, .inl (zq_il 88 6)), (88, .inl (zq_il 90 4)), (90, .inl (zq_ic_le 93 98)), (93, .inl (zq_il 95 6)), (95, .inl (zq_goto 100)), (98, .inl (zq_il 100 4)), (100, .inl (zq_is 102 4)), (102, .inl (zq_inc 105 5 1)), (105, .inl (zq_goto 42)), (108, .inl (zq_il 109 2)), (109, .inl (zq_if_ne 112 116)), (112, .inl (zq_il 113 3)), (113, .inl (zq_goto 118)), (116, .inl (zq_il 118 4)), (118, .inr (.inr 1))]
theorem zk_X9_niceOf_1 : zq_oks zi_X9_niceOf zc_X9_niceOf_1 := zq_cons (zq_s_istore (by decide +kernel) (by decide +kernel)) <|
  zq_cons (zq_s_iload (by decide +kernel)) <|
  zq_cons (zq_s_iload (by decide +kernel)) <|
  zq_cons (zq_s_ic_le (off := 8) (by decide +kernel) (by decide)) <|
  zq_cons (zq_s_iload (by decide +kernel)) <|
  zq_cons (zq_s_goto (off := 4) (by decide +kernel) (by decide)) <|
  zq_cons (zq_s_iload_n (n := 3) (by decide +kernel) rfl) <|
  zq_cons (zq_s_istore_n (n := 3) (by decide +kernel) rfl (by decide +kernel)) <|
  zq_cons (zq_s_iload (by decide +kernel)) <|
  zq_cons (zq_s_iload (by decide +kernel)) <|
  zq_cons (zq_s_ic_le (off := 8) (by decide +kernel) (by decide)) <|
  zq_cons (zq_s_iload (by decide +kernel)) <|
  zq_cons (zq_s_goto (off := 5) (by decide +kernel) (by decide)) <|
  zq_cons (zq_s_iload (by decide +kernel)) <|
  zq_cons (zq_s_istore (by decide +kernel) (by decide +kernel)) <|
  zq_cons (zq_s_iinc (n := 1) (by decide +kernel) (by decide +kernel) (by decide +kernel)) <|
  zq_cons (zq_s_goto (off := (-63)) (by decide +kernel) (by decide)) <|
  zq_cons (zq_s_iload_n (n := 2) (by decide +kernel) rfl) <|
  zq_cons (zq_s_if_ne (off := 7) (by decide +kernel) (by decide)) <|
  zq_cons (zq_s_iload_n (n := 3) (by decide +kernel) rfl) <|
  zq_cons (zq_s_goto (off := 5) (by decide +kernel) (by decide)) <|
  zq_cons (zq_s_iload (by decide +kernel)) <|
  zq_cons (⟨rfl, (by decide +kernel)⟩) <|
  zq_nil
def zc_X9_niceOf : List (Nat × zq_It) := zc_X9_niceOf_0 ++ (zc_X9_niceOf_1)
theorem zk_X9_niceOf : zq_oks zi_X9_niceOf zc_X9_niceOf := zq_app zk_X9_niceOf_0 (zk_X9_niceOf_1)
def zc_X9_nice : List (Nat × zq_It) := [(0, .inl (zq_il 1 1)), (1, .inr (.inl (1, .inl zn_X9_isHour))), (4, .inl (zq_if_eq 7 23)), (7, .inl (zq_il 8 2)), (8, .inr (.inl (1, .inl zn_X9_isTwo))), (11, .inl (zq_if_eq 14 23)), (14, .inl (zq_al 15 0)), (15, .inl (zq_il 16 1)), (16, .inl (zq_il 17 2)), (17, .inr (.inl (3, .inr [(8, zn_X9_niceOf)]))), (20, .inl (zq_goto 25)), (23, .inl (zq_push 25 (.int (-2)))), (25, .inr (.inr 1))]
theorem zk_X9_nice : zq_oks zi_X9_nice zc_X9_nice := zq_cons (zq_s_iload_n (n := 1) (by decide +kernel) rfl) <|
  zq_cons (⟨zi_X9_isHour, rfl, zq_s_callS (n := 1) (index := 150) (by decide +kernel) zw_1064 zw_1065 zw_91 zw_1066 (by decide +kernel) (by decide +kernel) ⟨rfl, rfl⟩⟩) <|
  zq_cons (zq_s_if_eq (off := 19) (by decide +kernel) (by decide)) <|
  zq_cons (zq_s_iload_n (n := 2) (by decide +kernel) rfl) <|
  zq_cons (⟨zi_X9_isTwo, rfl, zq_s_callS (n := 1) (index := 135) (by decide +kernel) zw_1034 zw_1035 zw_91 zw_1036 (by decide +kernel) (by decide +kernel) ⟨rfl, rfl⟩⟩) <|
  zq_cons (zq_s_if_eq (off := 12) (by decide +kernel) (by decide)) <|
  zq_cons (zq_s_aload_n (n := 0) (by decide +kernel) rfl) <|
  zq_cons (zq_s_iload_n (n := 1) (by decide +kernel) rfl) <|
  zq_cons (zq_s_iload_n (n := 2) (by decide +kernel) rfl) <|
  zq_cons (List.forall_mem_cons.mpr ⟨⟨zi_X9_niceOf, rfl, zq_s_callV (n := 2) (index := 270) (by decide +kernel) rfl zw_1230 zw_1232 zw_61 zw_91 zw_1233 (by decide +kernel) (by decide +kernel) ⟨rfl, rfl⟩⟩, fun _ h => absurd h List.not_mem_nil⟩) <|
  zq_cons (zq_s_goto (off := 5) (by decide +kernel) (by decide)) <|
  zq_cons (zq_s_bipush (n := (-2)) (by decide +kernel) (by decide +kernel)) <|
  zq_cons (⟨rfl, (by decide +kernel)⟩) <|
  zq_nil
def zc_X9_lensOf_0 : List (Nat × zq_It) := [(0, .inl (zq_al 1 0)), (1, .inr (.inl (1, .inr [(8, zn_X9_asTold)]))), (4, .inl (zq_push 5 (.int (-1)))), (5, .inl (zq_is 6 2)), (6, .inl (zq_push 8 (.int 24))), (8, .inl (zq_is 9 3)), (9, .inl (zq_push 10 (.int 1))), (10, .inl (zq_is 12 4)), (12, .inl (zq_il 14 4)), (14, .inl (zq_push 16 (.int 10))), (16, .inl (zq_ic_ge 19 85)), (19, .inl (zq_al 20 0)), (20, .inl (zq_il 22 4)), (22, .inl (zq_puti 25 false [(8, 14)])), (25, .inl (zq_al 26 0)), (26, .inr (.inl (1, .inr [(8, zn_X9_runs)]))), (29, .inl (zq_al 30 0)), (30, .inl (zq_push 31 (.int 0))), (31, .inr (.inl (2, .inr [(8, zn_X9_foundNow)]))), (34, .inl (zq_is 36 5)), (36, .inl (zq_il 38 5)), (38, .inl (zq_push 39 (.int (-1)))), (39, .inl (zq_ic_eq 42 52)), (42, .inl (zq_il 44 5)), (44, .inl (zq_il 45 3)), (45, .inl (zq_ic_ge 48 52)), (48, .inl (zq_push 49 (.int 1))), (49, .inl (zq_goto 53)), (52, .inl (zq_push 53 (.int 0))), (53, .inl (zq_is 55 6)), (55, .inl (zq_il 57 6)), (57, .inl (zq_if_eq 60 65)), (60, .inl (zq_il 62 4)), (62, .inl (zq_goto 66)), (65, .inl (zq_il 66 2)), (66, .inl (zq_is 67 2)), (67, .inl (zq_il 69 6)), (69, .inl (zq_if_eq 72 77)), (72, .inl (zq_il 74 5)), (74, .inl (zq_goto 78))]
theorem zk_X9_lensOf_0 : zq_oks zi_X9_lensOf zc_X9_lensOf_0 := zq_cons (zq_s_aload_n (n := 0) (by decide +kernel) rfl) <|
  zq_cons (List.forall_mem_cons.mpr ⟨⟨zi_X9_asTold, rfl, zq_s_callV (n := 0) (index := 210) (by decide +kernel) rfl zw_1095 zw_1097 zw_37 zw_91 zw_1098 (by decide +kernel) (by decide +kernel) ⟨rfl, rfl⟩⟩, fun _ h => absurd h List.not_mem_nil⟩) <|
  zq_cons (zq_s_iconst (n := (-1)) (by decide +kernel) (by decide +kernel)) <|
  zq_cons (zq_s_istore_n (n := 2) (by decide +kernel) rfl (by decide +kernel)) <|
  zq_cons (zq_s_bipush (n := 24) (by decide +kernel) (by decide +kernel)) <|
  zq_cons (zq_s_istore_n (n := 3) (by decide +kernel) rfl (by decide +kernel)) <|
  zq_cons (zq_s_iconst (n := 1) (by decide +kernel) (by decide +kernel)) <|
  zq_cons (zq_s_istore (by decide +kernel) (by decide +kernel)) <|
  zq_cons (zq_s_iload (by decide +kernel)) <|
  zq_cons (zq_s_bipush (n := 10) (by decide +kernel) (by decide +kernel)) <|
  zq_cons (zq_s_ic_ge (off := 69) (by decide +kernel) (by decide)) <|
  zq_cons (zq_s_aload_n (n := 0) (by decide +kernel) rfl) <|
  zq_cons (zq_s_iload (by decide +kernel)) <|
  zq_cons (zq_s_puti (index := 166) (by decide +kernel) zp_X9_166 (fun _ _ => ⟨rfl, rfl⟩)) <|
  zq_cons (zq_s_aload_n (n := 0) (by decide +kernel) rfl) <|
  zq_cons (List.forall_mem_cons.mpr ⟨⟨zi_X9_runs, rfl, zq_s_callV (n := 0) (index := 213) (by decide +kernel) rfl zw_1099 zw_1101 zw_38 zw_91 zw_1102 (by decide +kernel) (by decide +kernel) ⟨rfl, rfl⟩⟩, fun _ h => absurd h List.not_mem_nil⟩) <|
  zq_cons (zq_s_aload_n (n := 0) (by decide +kernel) rfl) <|
  zq_cons (zq_s_iconst (n := 0) (by decide +kernel) (by decide +kernel)) <|
  zq_cons (List.forall_mem_cons.mpr ⟨⟨zi_X9_foundNow, rfl, zq_s_callV (n := 1) (index := 240) (by decide +kernel) rfl zw_1182 zw_1184 zw_53 zw_91 zw_1185 (by decide +kernel) (by decide +kernel) ⟨rfl, rfl⟩⟩, fun _ h => absurd h List.not_mem_nil⟩) <|
  zq_cons (zq_s_istore (by decide +kernel) (by decide +kernel)) <|
  zq_cons (zq_s_iload (by decide +kernel)) <|
  zq_cons (zq_s_iconst (n := (-1)) (by decide +kernel) (by decide +kernel)) <|
  zq_cons (zq_s_ic_eq (off := 13) (by decide +kernel) (by decide)) <|
  zq_cons (zq_s_iload (by decide +kernel)) <|
  zq_cons (zq_s_iload_n (n := 3) (by decide +kernel) rfl) <|
  zq_cons (zq_s_ic_ge (off := 7) (by decide +kernel) (by decide)) <|
  zq_cons (zq_s_iconst (n := 1) (by decide +kernel) (by decide +kernel)) <|
  zq_cons (zq_s_goto (off := 4) (by decide +kernel) (by decide)) <|
  zq_cons (zq_s_iconst (n := 0) (by decide +kernel) (by decide +kernel)) <|
  zq_cons (zq_s_istore (by decide +kernel) (by decide +kernel)) <|
  zq_cons (zq_s_iload (by decide +kernel)) <|
  zq_cons (zq_s_if_eq (off := 8) (by decide +kernel) (by decide)) <|
  zq_cons (zq_s_iload (by decide +kernel)) <|
  zq_cons (zq_s_goto (off := 4) (by decide +kernel) (by decide)) <|
  zq_cons (zq_s_iload_n (n := 2) (by decide +kernel) rfl) <|
  zq_cons (zq_s_istore_n (n := 2) (by decide +kernel) rfl (by decide +kernel)) <|
  zq_cons (zq_s_iload (by decide +kernel)) <|
  zq_cons (zq_s_if_eq (off := 8) (by decide +kernel) (by decide)) <|
  zq_cons (zq_s_iload (by decide +kernel)) <|
  zq_cons (zq_s_goto (off := 4) (by decide +kernel) (by decide)) <|
  zq_nil
def zc_X9_lensOf_1 : List (Nat × zq_It) := [(77, .inl (zq_il 78 3)), (78, .inl (zq_is 79 3)), (79, .inl (zq_inc 82 4 1)), (82, .inl (zq_goto 12)), (85, .inl (zq_il 86 2)), (86, .inl (zq_push 87 (.int (-1)))), (87, .inl (zq_ic_eq 90 94)), (90, .inl (zq_il 91 1)), (91, .inl (zq_if_ne 94 98)), (94, .inl (zq_il 95 2)), (95, .inl (zq_goto 99)), (98, .inl (zq_il 99 3)), (99, .inr (.inr 1))]
theorem zk_X9_lensOf_1 : zq_oks zi_X9_lensOf zc_X9_lensOf_1 := zq_cons (zq_s_iload_n (n := 3) (by decide +kernel) rfl) <|
  zq_cons (zq_s_istore_n (n := 3) (by decide +kernel) rfl (by decide +kernel)) <|
  zq_cons (zq_s_iinc (n := 1) (by decide +kernel) (by decide +kernel) (by decide +kernel)) <|
  zq_cons (zq_s_goto (off := (-70)) (by decide +kernel) (by decide)) <|
  zq_cons (zq_s_iload_n (n := 2) (by decide +kernel) rfl) <|
  zq_cons (zq_s_iconst (n := (-1)) (by decide +kernel) (by decide +kernel)) <|
  zq_cons (zq_s_ic_eq (off := 7) (by decide +kernel) (by decide)) <|
  zq_cons (zq_s_iload_n (n := 1) (by decide +kernel) rfl) <|
  zq_cons (zq_s_if_ne (off := 7) (by decide +kernel) (by decide)) <|
  zq_cons (zq_s_iload_n (n := 2) (by decide +kernel) rfl) <|
  zq_cons (zq_s_goto (off := 4) (by decide +kernel) (by decide)) <|
  zq_cons (zq_s_iload_n (n := 3) (by decide +kernel) rfl) <|
  zq_cons (⟨rfl, (by decide +kernel)⟩) <|
  zq_nil
def zc_X9_lensOf : List (Nat × zq_It) := zc_X9_lensOf_0 ++ (zc_X9_lensOf_1)
theorem zk_X9_lensOf : zq_oks zi_X9_lensOf zc_X9_lensOf := zq_app zk_X9_lensOf_0 (zk_X9_lensOf_1)
def zc_X9_lens : List (Nat × zq_It) := [(0, .inl (zq_il 1 1)), (1, .inr (.inl (1, .inl zn_X9_isTwo))), (4, .inl (zq_if_eq 7 15)), (7, .inl (zq_al 8 0)), (8, .inl (zq_il 9 1)), (9, .inr (.inl (2, .inr [(8, zn_X9_lensOf)]))), (12, .inl (zq_goto 17)), (15, .inl (zq_push 17 (.int (-2)))), (17, .inr (.inr 1))]
theorem zk_X9_lens : zq_oks zi_X9_lens zc_X9_lens := zq_cons (zq_s_iload_n (n := 1) (by decide +kernel) rfl) <|
  zq_cons (⟨zi_X9_isTwo, rfl, zq_s_callS (n := 1) (index := 135) (by decide +kernel) zw_1034 zw_1035 zw_91 zw_1036 (by decide +kernel) (by decide +kernel) ⟨rfl, rfl⟩⟩) <|
  zq_cons (zq_s_if_eq (off := 11) (by decide +kernel) (by decide)) <|
  zq_cons (zq_s_aload_n (n := 0) (by decide +kernel) rfl) <|
  zq_cons (zq_s_iload_n (n := 1) (by decide +kernel) rfl) <|
  zq_cons (List.forall_mem_cons.mpr ⟨⟨zi_X9_lensOf, rfl, zq_s_callV (n := 1) (index := 273) (by decide +kernel) rfl zw_1242 zw_1244 zw_63 zw_91 zw_1245 (by decide +kernel) (by decide +kernel) ⟨rfl, rfl⟩⟩, fun _ h => absurd h List.not_mem_nil⟩) <|
  zq_cons (zq_s_goto (off := 5) (by decide +kernel) (by decide)) <|
  zq_cons (zq_s_bipush (n := (-2)) (by decide +kernel) (by decide +kernel)) <|
  zq_cons (⟨rfl, (by decide +kernel)⟩) <|
  zq_nil
def zc_X9_isSpared : List (Nat × zq_It) := [(0, .inl (zq_al 1 0)), (1, .inl (zq_il 2 1)), (2, .inl (zq_puti 5 false [(8, 19)])), (5, .inl (zq_al 6 0)), (6, .inr (.inl (1, .inr [(8, zn_X9_runs)]))), (9, .inl (zq_al 10 0)), (10, .inr (.inl (1, .inr [(8, zn_X9_aloneNow)]))), (13, .inl (zq_if_ne 16 20)), (16, .inl (zq_push 17 (.int 1))), (17, .inl (zq_goto 21)), (20, .inl (zq_push 21 (.int 0))), (21, .inr (.inr 2))]
theorem zk_X9_isSpared : zq_oks zi_X9_isSpared zc_X9_isSpared := zq_cons (zq_s_aload_n (n := 0) (by decide +kernel) rfl) <|
  zq_cons (zq_s_iload_n (n := 1) (by decide +kernel) rfl) <|
  zq_cons (zq_s_puti (index := 172) (by decide +kernel) zp_X9_172 (fun _ _ => ⟨rfl, rfl⟩)) <|
  zq_cons (zq_s_aload_n (n := 0) (by decide +kernel) rfl) <|
  zq_cons (List.forall_mem_cons.mpr ⟨⟨zi_X9_runs, rfl, zq_s_callV (n := 0) (index := 213) (by decide +kernel) rfl zw_1099 zw_1101 zw_38 zw_91 zw_1102 (by decide +kernel) (by decide +kernel) ⟨rfl, rfl⟩⟩, fun _ h => absurd h List.not_mem_nil⟩) <|
  zq_cons (zq_s_aload_n (n := 0) (by decide +kernel) rfl) <|
  zq_cons (List.forall_mem_cons.mpr ⟨⟨zi_X9_aloneNow, rfl, zq_s_callV (n := 0) (index := 255) (by decide +kernel) rfl zw_1206 zw_1208 zw_57 zw_91 zw_1209 (by decide +kernel) (by decide +kernel) ⟨rfl, rfl⟩⟩, fun _ h => absurd h List.not_mem_nil⟩) <|
  zq_cons (zq_s_if_ne (off := 7) (by decide +kernel) (by decide)) <|
  zq_cons (zq_s_iconst (n := 1) (by decide +kernel) (by decide +kernel)) <|
  zq_cons (zq_s_goto (off := 4) (by decide +kernel) (by decide)) <|
  zq_cons (zq_s_iconst (n := 0) (by decide +kernel) (by decide +kernel)) <|
  zq_cons (⟨rfl, (by decide +kernel)⟩) <|
  zq_nil
def zc_X9_spareBy_0 : List (Nat × zq_It) := [(0, .inl (zq_al 1 0)), (1, .inr (.inl (1, .inr [(8, zn_X9_asTold)]))), (4, .inl (zq_al 5 0)), (5, .inl (zq_push 6 (.int 0))), (6, .inr (.inl (2, .inr [(8, zn_X9_isSpared)]))), (9, .inl (zq_if_eq 12 14)), (12, .inl (zq_push 13 (.int 0))), (13, .inr (.inr 1)), (14, .inl (zq_push 15 (.int 0))), (15, .inl (zq_is 16 1)), (16, .inl (zq_il 17 1)), (17, .inl (zq_al 18 0)), (18, .inl (zq_getf 21 [(8, 10)])), (21, .inl (zq_ic_ge 24 49)), (24, .inl (zq_al 25 0)), (25, .inl (zq_getf 28 [(8, 25)])), (28, .inl (zq_push 29 (.int 0))), (29, .inl (zq_il 30 1)), (30, .inl (zq_iast 31)), (31, .inl (zq_al 32 0)), (32, .inl (zq_push 33 (.int 1))), (33, .inl (zq_il 34 1)), (34, .inl (zq_i2 35 (fun x y => x <<< (y &&& 31)))), (35, .inr (.inl (2, .inr [(8, zn_X9_isSpared)]))), (38, .inl (zq_if_eq 41 43)), (41, .inl (zq_push 42 (.int 1))), (42, .inr (.inr 1)), (43, .inl (zq_inc 46 1 1)), (46, .inl (zq_goto 16)), (49, .inl (zq_push 50 (.int 0))), (50, .inl (zq_is 51 1)), (51, .inl (zq_il 52 1)), (52, .inl (zq_al 53 0)), (53, .inl (zq_getf 56 [(8, 10)])), (56, .inl (zq_ic_ge 59 113)), (59, .inl (zq_il 60 1)), (60, .inl (zq_push 61 (.int 1))), (61, .inl (zq_i2 62 (fun x y => x + y))), (62, .inl (zq_is 63 2)), (63, .inl (zq_il 64 2))]
theorem zk_X9_spareBy_0 : zq_oks zi_X9_spareBy zc_X9_spareBy_0 := zq_cons (zq_s_aload_n (n := 0) (by decide +kernel) rfl) <|
  zq_cons (List.forall_mem_cons.mpr ⟨⟨zi_X9_asTold, rfl, zq_s_callV (n := 0) (index := 210) (by decide +kernel) rfl zw_1095 zw_1097 zw_37 zw_91 zw_1098 (by decide +kernel) (by decide +kernel) ⟨rfl, rfl⟩⟩, fun _ h => absurd h List.not_mem_nil⟩) <|
  zq_cons (zq_s_aload_n (n := 0) (by decide +kernel) rfl) <|
  zq_cons (zq_s_iconst (n := 0) (by decide +kernel) (by decide +kernel)) <|
  zq_cons (List.forall_mem_cons.mpr ⟨⟨zi_X9_isSpared, rfl, zq_s_callV (n := 1) (index := 276) (by decide +kernel) rfl zw_1254 zw_1256 zw_65 zw_91 zw_1257 (by decide +kernel) (by decide +kernel) ⟨rfl, rfl⟩⟩, fun _ h => absurd h List.not_mem_nil⟩) <|
  zq_cons (zq_s_if_eq (off := 5) (by decide +kernel) (by decide)) <|
  zq_cons (zq_s_iconst (n := 0) (by decide +kernel) (by decide +kernel)) <|
  zq_cons (⟨rfl, (by decide +kernel)⟩) <|
  zq_cons (zq_s_iconst (n := 0) (by decide +kernel) (by decide +kernel)) <|
  zq_cons (zq_s_istore_n (n := 1) (by decide +kernel) rfl (by decide +kernel)) <|
  zq_cons (zq_s_iload_n (n := 1) (by decide +kernel) rfl) <|
  zq_cons (zq_s_aload_n (n := 0) (by decide +kernel) rfl) <|
  zq_cons (zq_s_getf (index := 153) (by decide +kernel) zf_X9_153) <|
  zq_cons (zq_s_ic_ge (off := 28) (by decide +kernel) (by decide)) <|
  zq_cons (zq_s_aload_n (n := 0) (by decide +kernel) rfl) <|
  zq_cons (zq_s_getf (index := 58) (by decide +kernel) zf_X9_58) <|
  zq_cons (zq_s_iconst (n := 0) (by decide +kernel) (by decide +kernel)) <|
  zq_cons (zq_s_iload_n (n := 1) (by decide +kernel) rfl) <|
  zq_cons (zq_s_iast (by decide +kernel)) <|
  zq_cons (zq_s_aload_n (n := 0) (by decide +kernel) rfl) <|
  zq_cons (zq_s_iconst (n := 1) (by decide +kernel) (by decide +kernel)) <|
  zq_cons (zq_s_iload_n (n := 1) (by decide +kernel) rfl) <|
  zq_cons (zq_s_ishl (by decide +kernel)) <|
  zq_cons (List.forall_mem_cons.mpr ⟨⟨zi_X9_isSpared, rfl, zq_s_callV (n := 1) (index := 276) (by decide +kernel) rfl zw_1254 zw_1256 zw_65 zw_91 zw_1257 (by decide +kernel) (by decide +kernel) ⟨rfl, rfl⟩⟩, fun _ h => absurd h List.not_mem_nil⟩) <|
  zq_cons (zq_s_if_eq (off := 5) (by decide +kernel) (by decide)) <|
  zq_cons (zq_s_iconst (n := 1) (by decide +kernel) (by decide +kernel)) <|
  zq_cons (⟨rfl, (by decide +kernel)⟩) <|
  zq_cons (zq_s_iinc (n := 1) (by decide +kernel) (by decide +kernel) (by decide +kernel)) <|
  zq_cons (zq_s_goto (off := (-30)) (by decide +kernel) (by decide)) <|
  zq_cons (zq_s_iconst (n := 0) (by decide +kernel) (by decide +kernel)) <|
  zq_cons (zq_s_istore_n (n := 1) (by decide +kernel) rfl (by decide +kernel)) <|
  zq_cons (zq_s_iload_n (n := 1) (by decide +kernel) rfl) <|
  zq_cons (zq_s_aload_n (n := 0) (by decide +kernel) rfl) <|
  zq_cons (zq_s_getf (index := 153) (by decide +kernel) zf_X9_153) <|
  zq_cons (zq_s_ic_ge (off := 57) (by decide +kernel) (by decide)) <|
  zq_cons (zq_s_iload_n (n := 1) (by decide +kernel) rfl) <|
  zq_cons (zq_s_iconst (n := 1) (by decide +kernel) (by decide +kernel)) <|
  zq_cons (zq_s_iadd (by decide +kernel)) <|
  zq_cons (zq_s_istore_n (n := 2) (by decide +kernel) rfl (by decide +kernel)) <|
  zq_cons (zq_s_iload_n (n := 2) (by decide +kernel) rfl) <|
  zq_nil
def zc_X9_spareBy_1 : List (Nat × zq_It) := [(64, .inl (zq_al 65 0)), (65, .inl (zq_getf 68 [(8, 10)])), (68, .inl (zq_ic_ge 71 107)), (71, .inl (zq_al 72 0)), (72, .inl (zq_getf 75 [(8, 25)])), (75, .inl (zq_push 76 (.int 0))), (76, .inl (zq_il 77 1)), (77, .inl (zq_iast 78)), (78, .inl (zq_al 79 0)), (79, .inl (zq_getf 82 [(8, 25)])), (82, .inl (zq_push 83 (.int 1))), (83, .inl (zq_il 84 2)), (84, .inl (zq_iast 85)), (85, .inl (zq_al 86 0)), (86, .inl (zq_push 87 (.int 1))), (87, .inl (zq_il 88 1)), (88, .inl (zq_i2 89 (fun x y => x <<< (y &&& 31)))), (89, .inl (zq_push 90 (.int 1))), (90, .inl (zq_il 91 2)), (91, .inl (zq_i2 92 (fun x y => x <<< (y &&& 31)))), (92, .inl (zq_i2 93 (fun x y => x ||| y))), (93, .inr (.inl (2, .inr [(8, zn_X9_isSpared)]))), (96, .inl (zq_if_eq 99 101)), (99, .inl (zq_push 100 (.int 2))), (100, .inr (.inr 1)), (101, .inl (zq_inc 104 2 1)), (104, .inl (zq_goto 63)), (107, .inl (zq_inc 110 1 1)), (110, .inl (zq_goto 51)), (113, .inl (zq_push 114 (.int (-1)))), (114, .inr (.inr 1))]
theorem zk_X9_spareBy_1 : zq_oks zi_X9_spareBy zc_X9_spareBy_1 := zq_cons (zq_s_aload_n (n := 0) (by decide +kernel) rfl) <|
  zq_cons (zq_s_getf (index := 153) (by decide +kernel) zf_X9_153) <|
  zq_cons (zq_s_ic_ge (off := 39) (by decide +kernel) (by decide)) <|
  zq_cons (zq_s_aload_n (n := 0) (by decide +kernel) rfl) <|
  zq_cons (zq_s_getf (index := 58) (by decide +kernel) zf_X9_58) <|
  zq_cons (zq_s_iconst (n := 0) (by decide +kernel) (by decide +kernel)) <|
  zq_cons (zq_s_iload_n (n := 1) (by decide +kernel) rfl) <|
  zq_cons (zq_s_iast (by decide +kernel)) <|
  zq_cons (zq_s_aload_n (n := 0) (by decide +kernel) rfl) <|
  zq_cons (zq_s_getf (index := 58) (by decide +kernel) zf_X9_58) <|
  zq_cons (zq_s_iconst (n := 1) (by decide +kernel) (by decide +kernel)) <|
  zq_cons (zq_s_iload_n (n := 2) (by decide +kernel) rfl) <|
  zq_cons (zq_s_iast (by decide +kernel)) <|
  zq_cons (zq_s_aload_n (n := 0) (by decide +kernel) rfl) <|
  zq_cons (zq_s_iconst (n := 1) (by decide +kernel) (by decide +kernel)) <|
  zq_cons (zq_s_iload_n (n := 1) (by decide +kernel) rfl) <|
  zq_cons (zq_s_ishl (by decide +kernel)) <|
  zq_cons (zq_s_iconst (n := 1) (by decide +kernel) (by decide +kernel)) <|
  zq_cons (zq_s_iload_n (n := 2) (by decide +kernel) rfl) <|
  zq_cons (zq_s_ishl (by decide +kernel)) <|
  zq_cons (zq_s_ior (by decide +kernel)) <|
  zq_cons (List.forall_mem_cons.mpr ⟨⟨zi_X9_isSpared, rfl, zq_s_callV (n := 1) (index := 276) (by decide +kernel) rfl zw_1254 zw_1256 zw_65 zw_91 zw_1257 (by decide +kernel) (by decide +kernel) ⟨rfl, rfl⟩⟩, fun _ h => absurd h List.not_mem_nil⟩) <|
  zq_cons (zq_s_if_eq (off := 5) (by decide +kernel) (by decide)) <|
  zq_cons (zq_s_iconst (n := 2) (by decide +kernel) (by decide +kernel)) <|
  zq_cons (⟨rfl, (by decide +kernel)⟩) <|
  zq_cons (zq_s_iinc (n := 1) (by decide +kernel) (by decide +kernel) (by decide +kernel)) <|
  zq_cons (zq_s_goto (off := (-41)) (by decide +kernel) (by decide)) <|
  zq_cons (zq_s_iinc (n := 1) (by decide +kernel) (by decide +kernel) (by decide +kernel)) <|
  zq_cons (zq_s_goto (off := (-59)) (by decide +kernel) (by decide)) <|
  zq_cons (zq_s_iconst (n := (-1)) (by decide +kernel) (by decide +kernel)) <|
  zq_cons (⟨rfl, (by decide +kernel)⟩) <|
  zq_nil
def zc_X9_spareBy : List (Nat × zq_It) := zc_X9_spareBy_0 ++ (zc_X9_spareBy_1)
theorem zk_X9_spareBy : zq_oks zi_X9_spareBy zc_X9_spareBy := zq_app zk_X9_spareBy_0 (zk_X9_spareBy_1)
def zc_X9_ofRow : List (Nat × zq_It) := [(0, .inl (zq_il 1 2)), (1, .inl (zq_push 2 (.int (-1)))), (2, .inl (zq_ic_ne 5 9)), (5, .inl (zq_il 6 1)), (6, .inl (zq_goto 24)), (9, .inl (zq_il 10 2)), (10, .inl (zq_il 11 1)), (11, .inl (zq_ic_ge 14 23)), (14, .inl (zq_al 15 0)), (15, .inl (zq_getf 18 [(8, 25)])), (18, .inl (zq_il 19 2)), (19, .inl (zq_iald 20)), (20, .inl (zq_goto 24)), (23, .inl (zq_push 24 (.int (-1)))), (24, .inr (.inr 1))]
theorem zk_X9_ofRow : zq_oks zi_X9_ofRow zc_X9_ofRow := zq_cons (zq_s_iload_n (n := 2) (by decide +kernel) rfl) <|
  zq_cons (zq_s_iconst (n := (-1)) (by decide +kernel) (by decide +kernel)) <|
  zq_cons (zq_s_ic_ne (off := 7) (by decide +kernel) (by decide)) <|
  zq_cons (zq_s_iload_n (n := 1) (by decide +kernel) rfl) <|
  zq_cons (zq_s_goto (off := 18) (by decide +kernel) (by decide)) <|
  zq_cons (zq_s_iload_n (n := 2) (by decide +kernel) rfl) <|
  zq_cons (zq_s_iload_n (n := 1) (by decide +kernel) rfl) <|
  zq_cons (zq_s_ic_ge (off := 12) (by decide +kernel) (by decide)) <|
  zq_cons (zq_s_aload_n (n := 0) (by decide +kernel) rfl) <|
  zq_cons (zq_s_getf (index := 58) (by decide +kernel) zf_X9_58) <|
  zq_cons (zq_s_iload_n (n := 2) (by decide +kernel) rfl) <|
  zq_cons (zq_s_iald (by decide +kernel)) <|
  zq_cons (zq_s_goto (off := 4) (by decide +kernel) (by decide)) <|
  zq_cons (zq_s_iconst (n := (-1)) (by decide +kernel) (by decide +kernel)) <|
  zq_cons (⟨rfl, (by decide +kernel)⟩) <|
  zq_nil
def zc_X9_spare : List (Nat × zq_It) := [(0, .inl (zq_il 1 1)), (1, .inl (zq_push 2 (.int (-1)))), (2, .inl (zq_push 3 (.int 1))), (3, .inr (.inl (3, .inl zn_X9_in))), (6, .inl (zq_if_eq 9 21)), (9, .inl (zq_al 10 0)), (10, .inl (zq_al 11 0)), (11, .inr (.inl (1, .inr [(8, zn_X9_spareBy)]))), (14, .inl (zq_il 15 1)), (15, .inr (.inl (3, .inr [(8, zn_X9_ofRow)]))), (18, .inl (zq_goto 23)), (21, .inl (zq_push 23 (.int (-2)))), (23, .inr (.inr 1))]
theorem zk_X9_spare : zq_oks zi_X9_spare zc_X9_spare := zq_cons (zq_s_iload_n (n := 1) (by decide +kernel) rfl) <|
  zq_cons (zq_s_iconst (n := (-1)) (by decide +kernel) (by decide +kernel)) <|
  zq_cons (zq_s_iconst (n := 1) (by decide +kernel) (by decide +kernel)) <|
  zq_cons (⟨zi_X9_in, rfl, zq_s_callS (n := 3) (index := 95) (by decide +kernel) zw_984 zw_985 zw_91 zw_986 (by decide +kernel) (by decide +kernel) ⟨rfl, rfl⟩⟩) <|
  zq_cons (zq_s_if_eq (off := 15) (by decide +kernel) (by decide)) <|
  zq_cons (zq_s_aload_n (n := 0) (by decide +kernel) rfl) <|
  zq_cons (zq_s_aload_n (n := 0) (by decide +kernel) rfl) <|
  zq_cons (List.forall_mem_cons.mpr ⟨⟨zi_X9_spareBy, rfl, zq_s_callV (n := 0) (index := 279) (by decide +kernel) rfl zw_1250 zw_1252 zw_64 zw_91 zw_1253 (by decide +kernel) (by decide +kernel) ⟨rfl, rfl⟩⟩, fun _ h => absurd h List.not_mem_nil⟩) <|
  zq_cons (zq_s_iload_n (n := 1) (by decide +kernel) rfl) <|
  zq_cons (List.forall_mem_cons.mpr ⟨⟨zi_X9_ofRow, rfl, zq_s_callV (n := 2) (index := 282) (by decide +kernel) rfl zw_1258 zw_1260 zw_66 zw_91 zw_1261 (by decide +kernel) (by decide +kernel) ⟨rfl, rfl⟩⟩, fun _ h => absurd h List.not_mem_nil⟩) <|
  zq_cons (zq_s_goto (off := 5) (by decide +kernel) (by decide)) <|
  zq_cons (zq_s_bipush (n := (-2)) (by decide +kernel) (by decide +kernel)) <|
  zq_cons (⟨rfl, (by decide +kernel)⟩) <|
  zq_nil
def zc_X9_seen_0 : List (Nat × zq_It) := [(0, .inl (zq_il 1 1)), (1, .inr (.inl (1, .inl zn_X9_isHour))), (4, .inl (zq_if_eq 7 21)), (7, .inl (zq_il 8 2)), (8, .inr (.inl (1, .inl zn_X9_isEight))), (11, .inl (zq_if_eq 14 21)), (14, .inl (zq_il 15 3)), (15, .inr (.inl (1, .inl zn_X9_isEight))), (18, .inl (zq_if_ne 21 24)), (21, .inl (zq_push 23 (.int (-2)))), (23, .inr (.inr 1)), (24, .inl (zq_al 25 0)), (25, .inl (zq_getf 28 [(8, 26)])), (28, .inl (zq_push 30 (.int 8))), (30, .inl (zq_ic_ne 33 36)), (33, .inl (zq_push 35 (.int (-4)))), (35, .inr (.inr 1)), (36, .inl (zq_al 37 0)), (37, .inl (zq_getf 40 [(8, 27)])), (40, .inl (zq_al 41 0)), (41, .inl (zq_getf 44 [(8, 26)])), (44, .inl (zq_il 45 1)), (45, .inl (zq_iast 46)), (46, .inl (zq_al 47 0)), (47, .inl (zq_getf 50 [(8, 28)])), (50, .inl (zq_al 51 0)), (51, .inl (zq_getf 54 [(8, 26)])), (54, .inl (zq_il 55 2)), (55, .inl (zq_iast 56)), (56, .inl (zq_al 57 0)), (57, .inl (zq_getf 60 [(8, 29)])), (60, .inl (zq_al 61 0)), (61, .inl (zq_getf 64 [(8, 26)])), (64, .inl (zq_il 65 3)), (65, .inl (zq_iast 66)), (66, .inl (zq_al 67 0)), (67, .inl (zq_dup 68)), (68, .inl (zq_getf 71 [(8, 26)])), (71, .inl (zq_push 72 (.int 1))), (72, .inl (zq_i2 73 (fun x y => x + y)))]
theorem zk_X9_seen_0 : zq_oks zi_X9_seen zc_X9_seen_0 := zq_cons (zq_s_iload_n (n := 1) (by decide +kernel) rfl) <|
  zq_cons (⟨zi_X9_isHour, rfl, zq_s_callS (n := 1) (index := 150) (by decide +kernel) zw_1064 zw_1065 zw_91 zw_1066 (by decide +kernel) (by decide +kernel) ⟨rfl, rfl⟩⟩) <|
  zq_cons (zq_s_if_eq (off := 17) (by decide +kernel) (by decide)) <|
  zq_cons (zq_s_iload_n (n := 2) (by decide +kernel) rfl) <|
  zq_cons (⟨zi_X9_isEight, rfl, zq_s_callS (n := 1) (index := 107) (by decide +kernel) zw_1015 zw_1016 zw_91 zw_1017 (by decide +kernel) (by decide +kernel) ⟨rfl, rfl⟩⟩) <|
  zq_cons (zq_s_if_eq (off := 10) (by decide +kernel) (by decide)) <|
  zq_cons (zq_s_iload_n (n := 3) (by decide +kernel) rfl) <|
  zq_cons (⟨zi_X9_isEight, rfl, zq_s_callS (n := 1) (index := 107) (by decide +kernel) zw_1015 zw_1016 zw_91 zw_1017 (by decide +kernel) (by decide +kernel) ⟨rfl, rfl⟩⟩) <|
  zq_cons (zq_s_if_ne (off := 6) (by decide +kernel) (by decide)) <|
  zq_cons (zq_s_bipush (n := (-2)) (by decide +kernel) (by decide +kernel)) <|
  zq_cons (⟨rfl, (by decide +kernel)⟩) <|
  zq_cons (zq_s_aload_n (n := 0) (by decide +kernel) rfl) <|
  zq_cons (zq_s_getf (index := 285) (by decide +kernel) zf_X9_285) <|
  zq_cons (zq_s_bipush (n := 8) (by decide +kernel) (by decide +kernel)) <|
  zq_cons (zq_s_ic_ne (off := 6) (by decide +kernel) (by decide)) <|
  zq_cons (zq_s_bipush (n := (-4)) (by decide +kernel) (by decide +kernel)) <|
  zq_cons (⟨rfl, (by decide +kernel)⟩) <|
  zq_cons (zq_s_aload_n (n := 0) (by decide +kernel) rfl) <|
  zq_cons (zq_s_getf (index := 61) (by decide +kernel) zf_X9_61) <|
  zq_cons (zq_s_aload_n (n := 0) (by decide +kernel) rfl) <|
  zq_cons (zq_s_getf (index := 285) (by decide +kernel) zf_X9_285) <|
  zq_cons (zq_s_iload_n (n := 1) (by decide +kernel) rfl) <|
  zq_cons (zq_s_iast (by decide +kernel)) <|
  zq_cons (zq_s_aload_n (n := 0) (by decide +kernel) rfl) <|
  zq_cons (zq_s_getf (index := 64) (by decide +kernel) zf_X9_64) <|
  zq_cons (zq_s_aload_n (n := 0) (by decide +kernel) rfl) <|
  zq_cons (zq_s_getf (index := 285) (by decide +kernel) zf_X9_285) <|
  zq_cons (zq_s_iload_n (n := 2) (by decide +kernel) rfl) <|
  zq_cons (zq_s_iast (by decide +kernel)) <|
  zq_cons (zq_s_aload_n (n := 0) (by decide +kernel) rfl) <|
  zq_cons (zq_s_getf (index := 67) (by decide +kernel) zf_X9_67) <|
  zq_cons (zq_s_aload_n (n := 0) (by decide +kernel) rfl) <|
  zq_cons (zq_s_getf (index := 285) (by decide +kernel) zf_X9_285) <|
  zq_cons (zq_s_iload_n (n := 3) (by decide +kernel) rfl) <|
  zq_cons (zq_s_iast (by decide +kernel)) <|
  zq_cons (zq_s_aload_n (n := 0) (by decide +kernel) rfl) <|
  zq_cons (zq_s_dup (by decide +kernel)) <|
  zq_cons (zq_s_getf (index := 285) (by decide +kernel) zf_X9_285) <|
  zq_cons (zq_s_iconst (n := 1) (by decide +kernel) (by decide +kernel)) <|
  zq_cons (zq_s_iadd (by decide +kernel)) <|
  zq_nil
def zc_X9_seen_1 : List (Nat × zq_It) := [(73, .inl (zq_puti 76 false [(8, 26)])), (76, .inl (zq_al 77 0)), (77, .inl (zq_getf 80 [(8, 26)])), (80, .inr (.inr 1))]
theorem zk_X9_seen_1 : zq_oks zi_X9_seen zc_X9_seen_1 := zq_cons (zq_s_puti (index := 285) (by decide +kernel) zp_X9_285 (fun _ _ => ⟨rfl, rfl⟩)) <|
  zq_cons (zq_s_aload_n (n := 0) (by decide +kernel) rfl) <|
  zq_cons (zq_s_getf (index := 285) (by decide +kernel) zf_X9_285) <|
  zq_cons (⟨rfl, (by decide +kernel)⟩) <|
  zq_nil
def zc_X9_seen : List (Nat × zq_It) := zc_X9_seen_0 ++ (zc_X9_seen_1)
theorem zk_X9_seen : zq_oks zi_X9_seen zc_X9_seen := zq_app zk_X9_seen_0 (zk_X9_seen_1)
def zc_X9_forget : List (Nat × zq_It) := [(0, .inl (zq_al 1 0)), (1, .inl (zq_getf 4 [(8, 26)])), (4, .inl (zq_is 5 1)), (5, .inl (zq_al 6 0)), (6, .inl (zq_push 7 (.int 0))), (7, .inl (zq_puti 10 false [(8, 26)])), (10, .inl (zq_il 11 1)), (11, .inr (.inr 1))]
theorem zk_X9_forget : zq_oks zi_X9_forget zc_X9_forget := zq_cons (zq_s_aload_n (n := 0) (by decide +kernel) rfl) <|
  zq_cons (zq_s_getf (index := 285) (by decide +kernel) zf_X9_285) <|
  zq_cons (zq_s_istore_n (n := 1) (by decide +kernel) rfl (by decide +kernel)) <|
  zq_cons (zq_s_aload_n (n := 0) (by decide +kernel) rfl) <|
  zq_cons (zq_s_iconst (n := 0) (by decide +kernel) (by decide +kernel)) <|
  zq_cons (zq_s_puti (index := 285) (by decide +kernel) zp_X9_285 (fun _ _ => ⟨rfl, rfl⟩)) <|
  zq_cons (zq_s_iload_n (n := 1) (by decide +kernel) rfl) <|
  zq_cons (⟨rfl, (by decide +kernel)⟩) <|
  zq_nil
def zc_X9_isSeen_0 : List (Nat × zq_It) := [(0, .inl (zq_al 1 0)), (1, .inr (.inl (1, .inr [(8, zn_X9_runs)]))), (4, .inl (zq_push 5 (.int 1))), (5, .inl (zq_is 6 1)), (6, .inl (zq_push 7 (.int 0))), (7, .inl (zq_is 8 2)), (8, .inl (zq_il 9 2)), (9, .inl (zq_al 10 0)), (10, .inl (zq_getf 13 [(8, 26)])), (13, .inl (zq_ic_ge 16 75)), (16, .inl (zq_il 17 1)), (17, .inl (zq_if_eq 20 75)), (20, .inl (zq_al 21 0)), (21, .inl (zq_getf 24 [(8, 28)])), (24, .inl (zq_il 25 2)), (25, .inl (zq_iald 26)), (26, .inl (zq_al 27 0)), (27, .inl (zq_getf 30 [(8, 5)])), (30, .inl (zq_ic_ge 33 67)), (33, .inl (zq_al 34 0)), (34, .inl (zq_getf 37 [(8, 24)])), (37, .inl (zq_push 39 (.int 8))), (39, .inl (zq_al 40 0)), (40, .inl (zq_getf 43 [(8, 27)])), (43, .inl (zq_il 44 2)), (44, .inl (zq_iald 45)), (45, .inl (zq_i2 46 (fun x y => x * y))), (46, .inl (zq_al 47 0)), (47, .inl (zq_getf 50 [(8, 28)])), (50, .inl (zq_il 51 2)), (51, .inl (zq_iald 52)), (52, .inl (zq_i2 53 (fun x y => x + y))), (53, .inl (zq_iald 54)), (54, .inl (zq_al 55 0)), (55, .inl (zq_getf 58 [(8, 29)])), (58, .inl (zq_il 59 2)), (59, .inl (zq_iald 60)), (60, .inl (zq_ic_ne 63 67)), (63, .inl (zq_push 64 (.int 1))), (64, .inl (zq_goto 68))]
theorem zk_X9_isSeen_0 : zq_oks zi_X9_isSeen zc_X9_isSeen_0 := zq_cons (zq_s_aload_n (n := 0) (by decide +kernel) rfl) <|
  zq_cons (List.forall_mem_cons.mpr ⟨⟨zi_X9_runs, rfl, zq_s_callV (n := 0) (index := 213) (by decide +kernel) rfl zw_1099 zw_1101 zw_38 zw_91 zw_1102 (by decide +kernel) (by decide +kernel) ⟨rfl, rfl⟩⟩, fun _ h => absurd h List.not_mem_nil⟩) <|
  zq_cons (zq_s_iconst (n := 1) (by decide +kernel) (by decide +kernel)) <|
  zq_cons (zq_s_istore_n (n := 1) (by decide +kernel) rfl (by decide +kernel)) <|
  zq_cons (zq_s_iconst (n := 0) (by decide +kernel) (by decide +kernel)) <|
  zq_cons (zq_s_istore_n (n := 2) (by decide +kernel) rfl (by decide +kernel)) <|
  zq_cons (zq_s_iload_n (n := 2) (by decide +kernel) rfl) <|
  zq_cons (zq_s_aload_n (n := 0) (by decide +kernel) rfl) <|
  zq_cons (zq_s_getf (index := 285) (by decide +kernel) zf_X9_285) <|
  zq_cons (zq_s_ic_ge (off := 62) (by decide +kernel) (by decide)) <|
  zq_cons (zq_s_iload_n (n := 1) (by decide +kernel) rfl) <|
  zq_cons (zq_s_if_eq (off := 58) (by decide +kernel) (by decide)) <|
  zq_cons (zq_s_aload_n (n := 0) (by decide +kernel) rfl) <|
  zq_cons (zq_s_getf (index := 64) (by decide +kernel) zf_X9_64) <|
  zq_cons (zq_s_iload_n (n := 2) (by decide +kernel) rfl) <|
  zq_cons (zq_s_iald (by decide +kernel)) <|
  zq_cons (zq_s_aload_n (n := 0) (by decide +kernel) rfl) <|
  zq_cons (zq_s_getf (index := 113) (by decide +kernel) zf_X9_113) <|
  zq_cons (zq_s_ic_ge (off := 37) (by decide +kernel) (by decide)) <|
  zq_cons (zq_s_aload_n (n := 0) (by decide +kernel) rfl) <|
  zq_cons (zq_s_getf (index := 55) (by decide +kernel) zf_X9_55) <|
  zq_cons (zq_s_bipush (n := 8) (by decide +kernel) (by decide +kernel)) <|
  zq_cons (zq_s_aload_n (n := 0) (by decide +kernel) rfl) <|
  zq_cons (zq_s_getf (index := 61) (by decide +kernel) zf_X9_61) <|
  zq_cons (zq_s_iload_n (n := 2) (by decide +kernel) rfl) <|
  zq_cons (zq_s_iald (by decide +kernel)) <|
  zq_cons (zq_s_imul (by decide +kernel)) <|
  zq_cons (zq_s_aload_n (n := 0) (by decide +kernel) rfl) <|
  zq_cons (zq_s_getf (index := 64) (by decide +kernel) zf_X9_64) <|
  zq_cons (zq_s_iload_n (n := 2) (by decide +kernel) rfl) <|
  zq_cons (zq_s_iald (by decide +kernel)) <|
  zq_cons (zq_s_iadd (by decide +kernel)) <|
  zq_cons (zq_s_iald (by decide +kernel)) <|
  zq_cons (zq_s_aload_n (n := 0) (by decide +kernel) rfl) <|
  zq_cons (zq_s_getf (index := 67) (by decide +kernel) zf_X9_67) <|
  zq_cons (zq_s_iload_n (n := 2) (by decide +kernel) rfl) <|
  zq_cons (zq_s_iald (by decide +kernel)) <|
  zq_cons (zq_s_ic_ne (off := 7) (by decide +kernel) (by decide)) <|
  zq_cons (zq_s_iconst (n := 1) (by decide +kernel) (by decide +kernel)) <|
  zq_cons (zq_s_goto (off := 4) (by decide +kernel) (by decide)) <|
  zq_nil
def zc_X9_isSeen_1 : List (Nat × zq_It) := [(67, .inl (zq_push 68 (.int 0))), (68, .inl (zq_is 69 1)), (69, .inl (zq_inc 72 2 1)), (72, .inl (zq_goto 8)), (75, .inl (zq_il 76 1)), (76, .inr (.inr 2))]
theorem zk_X9_isSeen_1 : zq_oks zi_X9_isSeen zc_X9_isSeen_1 := zq_cons (zq_s_iconst (n := 0) (by decide +kernel) (by decide +kernel)) <|
  zq_cons (zq_s_istore_n (n := 1) (by decide +kernel) rfl (by decide +kernel)) <|
  zq_cons (zq_s_iinc (n := 1) (by decide +kernel) (by decide +kernel) (by decide +kernel)) <|
  zq_cons (zq_s_goto (off := (-64)) (by decide +kernel) (by decide)) <|
  zq_cons (zq_s_iload_n (n := 1) (by decide +kernel) rfl) <|
  zq_cons (⟨rfl, (by decide +kernel)⟩) <|
  zq_nil
def zc_X9_isSeen : List (Nat × zq_It) := zc_X9_isSeen_0 ++ (zc_X9_isSeen_1)
theorem zk_X9_isSeen : zq_oks zi_X9_isSeen zc_X9_isSeen := zq_app zk_X9_isSeen_0 (zk_X9_isSeen_1)
def zc_X9_neverNow : List (Nat × zq_It) := [(0, .inl (zq_al 1 0)), (1, .inr (.inl (1, .inr [(8, zn_X9_asTold)]))), (4, .inl (zq_push 5 (.int 0))), (5, .inl (zq_is 6 1)), (6, .inl (zq_push 7 (.int 0))), (7, .inl (zq_is 8 2)), (8, .inl (zq_il 9 2)), (9, .inl (zq_al 10 0)), (10, .inl (zq_getf 13 [(8, 10)])), (13, .inl (zq_ic_ge 16 46)), (16, .inl (zq_al 17 0)), (17, .inl (zq_push 18 (.int 1))), (18, .inl (zq_il 19 2)), (19, .inl (zq_i2 20 (fun x y => x <<< (y &&& 31)))), (20, .inl (zq_puti 23 false [(8, 19)])), (23, .inl (zq_il 24 1)), (24, .inl (zq_al 25 0)), (25, .inr (.inl (1, .inr [(8, zn_X9_isSeen)]))), (28, .inl (zq_if_eq 31 37)), (31, .inl (zq_push 32 (.int 1))), (32, .inl (zq_il 33 2)), (33, .inl (zq_i2 34 (fun x y => x <<< (y &&& 31)))), (34, .inl (zq_goto 38)), (37, .inl (zq_push 38 (.int 0))), (38, .inl (zq_i2 39 (fun x y => x ||| y))), (39, .inl (zq_is 40 1)), (40, .inl (zq_inc 43 2 1)), (43, .inl (zq_goto 8)), (46, .inl (zq_il 47 1)), (47, .inr (.inr 1))]
theorem zk_X9_neverNow : zq_oks zi_X9_neverNow zc_X9_neverNow := zq_cons (zq_s_aload_n (n := 0) (by decide +kernel) rfl) <|
  zq_cons (List.forall_mem_cons.mpr ⟨⟨zi_X9_asTold, rfl, zq_s_callV (n := 0) (index := 210) (by decide +kernel) rfl zw_1095 zw_1097 zw_37 zw_91 zw_1098 (by decide +kernel) (by decide +kernel) ⟨rfl, rfl⟩⟩, fun _ h => absurd h List.not_mem_nil⟩) <|
  zq_cons (zq_s_iconst (n := 0) (by decide +kernel) (by decide +kernel)) <|
  zq_cons (zq_s_istore_n (n := 1) (by decide +kernel) rfl (by decide +kernel)) <|
  zq_cons (zq_s_iconst (n := 0) (by decide +kernel) (by decide +kernel)) <|
  zq_cons (zq_s_istore_n (n := 2) (by decide +kernel) rfl (by decide +kernel)) <|
  zq_cons (zq_s_iload_n (n := 2) (by decide +kernel) rfl) <|
  zq_cons (zq_s_aload_n (n := 0) (by decide +kernel) rfl) <|
  zq_cons (zq_s_getf (index := 153) (by decide +kernel) zf_X9_153) <|
  zq_cons (zq_s_ic_ge (off := 33) (by decide +kernel) (by decide)) <|
  zq_cons (zq_s_aload_n (n := 0) (by decide +kernel) rfl) <|
  zq_cons (zq_s_iconst (n := 1) (by decide +kernel) (by decide +kernel)) <|
  zq_cons (zq_s_iload_n (n := 2) (by decide +kernel) rfl) <|
  zq_cons (zq_s_ishl (by decide +kernel)) <|
  zq_cons (zq_s_puti (index := 172) (by decide +kernel) zp_X9_172 (fun _ _ => ⟨rfl, rfl⟩)) <|
  zq_cons (zq_s_iload_n (n := 1) (by decide +kernel) rfl) <|
  zq_cons (zq_s_aload_n (n := 0) (by decide +kernel) rfl) <|
  zq_cons (List.forall_mem_cons.mpr ⟨⟨zi_X9_isSeen, rfl, zq_s_callV (n := 0) (index := 288) (by decide +kernel) rfl zw_1278 zw_1280 zw_68 zw_91 zw_1281 (by decide +kernel) (by decide +kernel) ⟨rfl, rfl⟩⟩, fun _ h => absurd h List.not_mem_nil⟩) <|
  zq_cons (zq_s_if_eq (off := 9) (by decide +kernel) (by decide)) <|
  zq_cons (zq_s_iconst (n := 1) (by decide +kernel) (by decide +kernel)) <|
  zq_cons (zq_s_iload_n (n := 2) (by decide +kernel) rfl) <|
  zq_cons (zq_s_ishl (by decide +kernel)) <|
  zq_cons (zq_s_goto (off := 4) (by decide +kernel) (by decide)) <|
  zq_cons (zq_s_iconst (n := 0) (by decide +kernel) (by decide +kernel)) <|
  zq_cons (zq_s_ior (by decide +kernel)) <|
  zq_cons (zq_s_istore_n (n := 1) (by decide +kernel) rfl (by decide +kernel)) <|
  zq_cons (zq_s_iinc (n := 1) (by decide +kernel) (by decide +kernel) (by decide +kernel)) <|
  zq_cons (zq_s_goto (off := (-35)) (by decide +kernel) (by decide)) <|
  zq_cons (zq_s_iload_n (n := 1) (by decide +kernel) rfl) <|
  zq_cons (⟨rfl, (by decide +kernel)⟩) <|
  zq_nil
def zc_X9_never : List (Nat × zq_It) := [(0, .inl (zq_al 1 0)), (1, .inr (.inl (1, .inr [(8, zn_X9_neverNow)]))), (4, .inr (.inr 1))]
theorem zk_X9_never : zq_oks zi_X9_never zc_X9_never := zq_cons (zq_s_aload_n (n := 0) (by decide +kernel) rfl) <|
  zq_cons (List.forall_mem_cons.mpr ⟨⟨zi_X9_neverNow, rfl, zq_s_callV (n := 0) (index := 292) (by decide +kernel) rfl zw_1274 zw_1276 zw_67 zw_91 zw_1277 (by decide +kernel) (by decide +kernel) ⟨rfl, rfl⟩⟩, fun _ h => absurd h List.not_mem_nil⟩) <|
  zq_cons (⟨rfl, (by decide +kernel)⟩) <|
  zq_nil
def zc_X9_sortsBy : List (Nat × zq_It) := [(0, .inl (zq_al 1 0)), (1, .inr (.inl (1, .inr [(8, zn_X9_asTold)]))), (4, .inl (zq_al 5 0)), (5, .inl (zq_getf 8 [(8, 6)])), (8, .inl (zq_il 9 1)), (9, .inl (zq_iald 10)), (10, .inl (zq_is 11 2)), (11, .inl (zq_push 12 (.int 0))), (12, .inl (zq_is 13 3)), (13, .inl (zq_push 14 (.int 0))), (14, .inl (zq_is 16 4)), (16, .inl (zq_il 18 4)), (18, .inl (zq_push 19 (.int 3))), (19, .inl (zq_ic_ge 22 54)), (22, .inl (zq_al 23 0)), (23, .inl (zq_getf 26 [(8, 6)])), (26, .inl (zq_il 27 1)), (27, .inl (zq_il 29 4)), (29, .inl (zq_iast 30)), (30, .inl (zq_il 31 3)), (31, .inl (zq_al 32 0)), (32, .inr (.inl (1, .inr [(8, zn_X9_isSeen)]))), (35, .inl (zq_if_eq 38 45)), (38, .inl (zq_push 39 (.int 1))), (39, .inl (zq_il 41 4)), (41, .inl (zq_i2 42 (fun x y => x <<< (y &&& 31)))), (42, .inl (zq_goto 46)), (45, .inl (zq_push 46 (.int 0))), (46, .inl (zq_i2 47 (fun x y => x ||| y))), (47, .inl (zq_is 48 3)), (48, .inl (zq_inc 51 4 1)), (51, .inl (zq_goto 16)), (54, .inl (zq_al 55 0)), (55, .inl (zq_getf 58 [(8, 6)])), (58, .inl (zq_il 59 1)), (59, .inl (zq_il 60 2)), (60, .inl (zq_iast 61)), (61, .inl (zq_il 62 3)), (62, .inr (.inr 1))]
theorem zk_X9_sortsBy : zq_oks zi_X9_sortsBy zc_X9_sortsBy := zq_cons (zq_s_aload_n (n := 0) (by decide +kernel) rfl) <|
  zq_cons (List.forall_mem_cons.mpr ⟨⟨zi_X9_asTold, rfl, zq_s_callV (n := 0) (index := 210) (by decide +kernel) rfl zw_1095 zw_1097 zw_37 zw_91 zw_1098 (by decide +kernel) (by decide +kernel) ⟨rfl, rfl⟩⟩, fun _ h => absurd h List.not_mem_nil⟩) <|
  zq_cons (zq_s_aload_n (n := 0) (by decide +kernel) rfl) <|
  zq_cons (zq_s_getf (index := 22) (by decide +kernel) zf_X9_22) <|
  zq_cons (zq_s_iload_n (n := 1) (by decide +kernel) rfl) <|
  zq_cons (zq_s_iald (by decide +kernel)) <|
  zq_cons (zq_s_istore_n (n := 2) (by decide +kernel) rfl (by decide +kernel)) <|
  zq_cons (zq_s_iconst (n := 0) (by decide +kernel) (by decide +kernel)) <|
  zq_cons (zq_s_istore_n (n := 3) (by decide +kernel) rfl (by decide +kernel)) <|
  zq_cons (zq_s_iconst (n := 0) (by decide +kernel) (by decide +kernel)) <|
  zq_cons (zq_s_istore (by decide +kernel) (by decide +kernel)) <|
  zq_cons (zq_s_iload (by decide +kernel)) <|
  zq_cons (zq_s_iconst (n := 3) (by decide +kernel) (by decide +kernel)) <|
  zq_cons (zq_s_ic_ge (off := 35) (by decide +kernel) (by decide)) <|
  zq_cons (zq_s_aload_n (n := 0) (by decide +kernel) rfl) <|
  zq_cons (zq_s_getf (index := 22) (by decide +kernel) zf_X9_22) <|
  zq_cons (zq_s_iload_n (n := 1) (by decide +kernel) rfl) <|
  zq_cons (zq_s_iload (by decide +kernel)) <|
  zq_cons (zq_s_iast (by decide +kernel)) <|
  zq_cons (zq_s_iload_n (n := 3) (by decide +kernel) rfl) <|
  zq_cons (zq_s_aload_n (n := 0) (by decide +kernel) rfl) <|
  zq_cons (List.forall_mem_cons.mpr ⟨⟨zi_X9_isSeen, rfl, zq_s_callV (n := 0) (index := 288) (by decide +kernel) rfl zw_1278 zw_1280 zw_68 zw_91 zw_1281 (by decide +kernel) (by decide +kernel) ⟨rfl, rfl⟩⟩, fun _ h => absurd h List.not_mem_nil⟩) <|
  zq_cons (zq_s_if_eq (off := 10) (by decide +kernel) (by decide)) <|
  zq_cons (zq_s_iconst (n := 1) (by decide +kernel) (by decide +kernel)) <|
  zq_cons (zq_s_iload (by decide +kernel)) <|
  zq_cons (zq_s_ishl (by decide +kernel)) <|
  zq_cons (zq_s_goto (off := 4) (by decide +kernel) (by decide)) <|
  zq_cons (zq_s_iconst (n := 0) (by decide +kernel) (by decide +kernel)) <|
  zq_cons (zq_s_ior (by decide +kernel)) <|
  zq_cons (zq_s_istore_n (n := 3) (by decide +kernel) rfl (by decide +kernel)) <|
  zq_cons (zq_s_iinc (n := 1) (by decide +kernel) (by decide +kernel) (by decide +kernel)) <|
  zq_cons (zq_s_goto (off := (-35)) (by decide +kernel) (by decide)) <|
  zq_cons (zq_s_aload_n (n := 0) (by decide +kernel) rfl) <|
  zq_cons (zq_s_getf (index := 22) (by decide +kernel) zf_X9_22) <|
  zq_cons (zq_s_iload_n (n := 1) (by decide +kernel) rfl) <|
  zq_cons (zq_s_iload_n (n := 2) (by decide +kernel) rfl) <|
  zq_cons (zq_s_iast (by decide +kernel)) <|
  zq_cons (zq_s_iload_n (n := 3) (by decide +kernel) rfl) <|
  zq_cons (⟨rfl, (by decide +kernel)⟩) <|
  zq_nil
def zc_X9_bedsBy_0 : List (Nat × zq_It) := [(0, .inl (zq_al 1 0)), (1, .inr (.inl (1, .inr [(8, zn_X9_asTold)]))), (4, .inl (zq_al 5 0)), (5, .inl (zq_getf 8 [(8, 8)])), (8, .inl (zq_il 9 1)), (9, .inl (zq_iald 10)), (10, .inl (zq_is 11 2)), (11, .inl (zq_push 12 (.int 0))), (12, .inl (zq_is 13 3)), (13, .inl (zq_push 14 (.int 0))), (14, .inl (zq_is 16 4)), (16, .inl (zq_il 18 4)), (18, .inl (zq_push 20 (.int 8))), (20, .inl (zq_ic_ge 23 96)), (23, .inl (zq_al 24 0)), (24, .inl (zq_getf 27 [(8, 8)])), (27, .inl (zq_il 28 1)), (28, .inl (zq_il 30 4)), (30, .inl (zq_iast 31)), (31, .inl (zq_il 32 3)), (32, .inl (zq_al 33 0)), (33, .inr (.inl (1, .inr [(8, zn_X9_isSeen)]))), (36, .inl (zq_if_eq 39 46)), (39, .inl (zq_push 40 (.int 1))), (40, .inl (zq_il 42 4)), (42, .inl (zq_i2 43 (fun x y => x <<< (y &&& 31)))), (43, .inl (zq_goto 47)), (46, .inl (zq_push 47 (.int 0))), (47, .inl (zq_i2 48 (fun x y => x ||| y))), (48, .inl (zq_is 49 3)), (49, .inl (zq_push 50 (.int 0))), (50, .inl (zq_is 52 5)), (52, .inl (zq_il 54 5)), (54, .inl (zq_push 56 (.int 24))), (56, .inl (zq_ic_ge 59 90)), (59, .inl (zq_al 60 0)), (60, .inl (zq_getf 63 [(8, 30)])), (63, .inl (zq_push 65 (.int 24))), (65, .inl (zq_il 67 4)), (67, .inl (zq_i2 68 (fun x y => x * y)))]
theorem zk_X9_bedsBy_0 : zq_oks zi_X9_bedsBy zc_X9_bedsBy_0 := zq_cons (zq_s_aload_n (n := 0) (by decide +kernel) rfl) <|
  zq_cons (List.forall_mem_cons.mpr ⟨⟨zi_X9_asTold, rfl, zq_s_callV (n := 0) (index := 210) (by decide +kernel) rfl zw_1095 zw_1097 zw_37 zw_91 zw_1098 (by decide +kernel) (by decide +kernel) ⟨rfl, rfl⟩⟩, fun _ h => absurd h List.not_mem_nil⟩) <|
  zq_cons (zq_s_aload_n (n := 0) (by decide +kernel) rfl) <|
  zq_cons (zq_s_getf (index := 28) (by decide +kernel) zf_X9_28) <|
  zq_cons (zq_s_iload_n (n := 1) (by decide +kernel) rfl) <|
  zq_cons (zq_s_iald (by decide +kernel)) <|
  zq_cons (zq_s_istore_n (n := 2) (by decide +kernel) rfl (by decide +kernel)) <|
  zq_cons (zq_s_iconst (n := 0) (by decide +kernel) (by decide +kernel)) <|
  zq_cons (zq_s_istore_n (n := 3) (by decide +kernel) rfl (by decide +kernel)) <|
  zq_cons (zq_s_iconst (n := 0) (by decide +kernel) (by decide +kernel)) <|
  zq_cons (zq_s_istore (by decide +kernel) (by decide +kernel)) <|
  zq_cons (zq_s_iload (by decide +kernel)) <|
  zq_cons (zq_s_bipush (n := 8) (by decide +kernel) (by decide +kernel)) <|
  zq_cons (zq_s_ic_ge (off := 76) (by decide +kernel) (by decide)) <|
  zq_cons (zq_s_aload_n (n := 0) (by decide +kernel) rfl) <|
  zq_cons (zq_s_getf (index := 28) (by decide +kernel) zf_X9_28) <|
  zq_cons (zq_s_iload_n (n := 1) (by decide +kernel) rfl) <|
  zq_cons (zq_s_iload (by decide +kernel)) <|
  zq_cons (zq_s_iast (by decide +kernel)) <|
  zq_cons (zq_s_iload_n (n := 3) (by decide +kernel) rfl) <|
  zq_cons (zq_s_aload_n (n := 0) (by decide +kernel) rfl) <|
  zq_cons (List.forall_mem_cons.mpr ⟨⟨zi_X9_isSeen, rfl, zq_s_callV (n := 0) (index := 288) (by decide +kernel) rfl zw_1278 zw_1280 zw_68 zw_91 zw_1281 (by decide +kernel) (by decide +kernel) ⟨rfl, rfl⟩⟩, fun _ h => absurd h List.not_mem_nil⟩) <|
  zq_cons (zq_s_if_eq (off := 10) (by decide +kernel) (by decide)) <|
  zq_cons (zq_s_iconst (n := 1) (by decide +kernel) (by decide +kernel)) <|
  zq_cons (zq_s_iload (by decide +kernel)) <|
  zq_cons (zq_s_ishl (by decide +kernel)) <|
  zq_cons (zq_s_goto (off := 4) (by decide +kernel) (by decide)) <|
  zq_cons (zq_s_iconst (n := 0) (by decide +kernel) (by decide +kernel)) <|
  zq_cons (zq_s_ior (by decide +kernel)) <|
  zq_cons (zq_s_istore_n (n := 3) (by decide +kernel) rfl (by decide +kernel)) <|
  zq_cons (zq_s_iconst (n := 0) (by decide +kernel) (by decide +kernel)) <|
  zq_cons (zq_s_istore (by decide +kernel) (by decide +kernel)) <|
  zq_cons (zq_s_iload (by decide +kernel)) <|
  zq_cons (zq_s_bipush (n := 24) (by decide +kernel) (by decide +kernel)) <|
  zq_cons (zq_s_ic_ge (off := 34) (by decide +kernel) (by decide)) <|
  zq_cons (zq_s_aload_n (n := 0) (by decide +kernel) rfl) <|
  zq_cons (zq_s_getf (index := 70) (by decide +kernel) zf_X9_70) <|
  zq_cons (zq_s_bipush (n := 24) (by decide +kernel) (by decide +kernel)) <|
  zq_cons (zq_s_iload (by decide +kernel)) <|
  zq_cons (zq_s_imul (by decide +kernel)) <|
  zq_nil
def zc_X9_bedsBy_1 : List (Nat × zq_It) := [(68, .inl (zq_il 70 5)), (70, .inl (zq_i2 71 (fun x y => x + y))), (71, .inl (zq_al 72 0)), (72, .inl (zq_getf 75 [(8, 24)])), (75, .inl (zq_push 77 (.int 8))), (77, .inl (zq_il 79 5)), (79, .inl (zq_i2 80 (fun x y => x * y))), (80, .inl (zq_il 81 1)), (81, .inl (zq_i2 82 (fun x y => x + y))), (82, .inl (zq_iald 83)), (83, .inl (zq_iast 84)), (84, .inl (zq_inc 87 5 1)), (87, .inl (zq_goto 52)), (90, .inl (zq_inc 93 4 1)), (93, .inl (zq_goto 16)), (96, .inl (zq_al 97 0)), (97, .inl (zq_getf 100 [(8, 8)])), (100, .inl (zq_il 101 1)), (101, .inl (zq_il 102 2)), (102, .inl (zq_iast 103)), (103, .inl (zq_il 104 3)), (104, .inr (.inr 1))]
theorem zk_X9_bedsBy_1 : zq_oks zi_X9_bedsBy zc_X9_bedsBy_1 := zq_cons (zq_s_iload (by decide +kernel)) <|
  zq_cons (zq_s_iadd (by decide +kernel)) <|
  zq_cons (zq_s_aload_n (n := 0) (by decide +kernel) rfl) <|
  zq_cons (zq_s_getf (index := 55) (by decide +kernel) zf_X9_55) <|
  zq_cons (zq_s_bipush (n := 8) (by decide +kernel) (by decide +kernel)) <|
  zq_cons (zq_s_iload (by decide +kernel)) <|
  zq_cons (zq_s_imul (by decide +kernel)) <|
  zq_cons (zq_s_iload_n (n := 1) (by decide +kernel) rfl) <|
  zq_cons (zq_s_iadd (by decide +kernel)) <|
  zq_cons (zq_s_iald (by decide +kernel)) <|
  zq_cons (zq_s_iast (by decide +kernel)) <|
  zq_cons (zq_s_iinc (n := 1) (by decide +kernel) (by decide +kernel) (by decide +kernel)) <|
  zq_cons (zq_s_goto (off := (-35)) (by decide +kernel) (by decide)) <|
  zq_cons (zq_s_iinc (n := 1) (by decide +kernel) (by decide +kernel) (by decide +kernel)) <|
  zq_cons (zq_s_goto (off := (-77)) (by decide +kernel) (by decide)) <|
  zq_cons (zq_s_aload_n (n := 0) (by decide +kernel) rfl) <|
  zq_cons (zq_s_getf (index := 28) (by decide +kernel) zf_X9_28) <|
  zq_cons (zq_s_iload_n (n := 1) (by decide +kernel) rfl) <|
  zq_cons (zq_s_iload_n (n := 2) (by decide +kernel) rfl) <|
  zq_cons (zq_s_iast (by decide +kernel)) <|
  zq_cons (zq_s_iload_n (n := 3) (by decide +kernel) rfl) <|
  zq_cons (⟨rfl, (by decide +kernel)⟩) <|
  zq_nil
def zc_X9_bedsBy : List (Nat × zq_It) := zc_X9_bedsBy_0 ++ (zc_X9_bedsBy_1)
theorem zk_X9_bedsBy : zq_oks zi_X9_bedsBy zc_X9_bedsBy := zq_app zk_X9_bedsBy_0 (zk_X9_bedsBy_1)
def zc_X9_was : List (Nat × zq_It) := [(0, .inl (zq_al 1 0)), (1, .inl (zq_il 2 1)), (2, .inr (.inl (2, .inr [(8, zn_X9_isPerson)]))), (5, .inl (zq_if_eq 8 35)), (8, .inl (zq_il 9 2)), (9, .inr (.inl (1, .inl zn_X9_isTwo))), (12, .inl (zq_if_eq 15 35)), (15, .inl (zq_il 16 2)), (16, .inl (zq_if_ne 19 27)), (19, .inl (zq_al 20 0)), (20, .inl (zq_il 21 1)), (21, .inr (.inl (2, .inr [(8, zn_X9_sortsBy)]))), (24, .inl (zq_goto 37)), (27, .inl (zq_al 28 0)), (28, .inl (zq_il 29 1)), (29, .inr (.inl (2, .inr [(8, zn_X9_bedsBy)]))), (32, .inl (zq_goto 37)), (35, .inl (zq_push 37 (.int (-2)))), (37, .inr (.inr 1))]
theorem zk_X9_was : zq_oks zi_X9_was zc_X9_was := zq_cons (zq_s_aload_n (n := 0) (by decide +kernel) rfl) <|
  zq_cons (zq_s_iload_n (n := 1) (by decide +kernel) rfl) <|
  zq_cons (List.forall_mem_cons.mpr ⟨⟨zi_X9_isPerson, rfl, zq_s_callV (n := 1) (index := 141) (by decide +kernel) rfl zw_1045 zw_1047 zw_32 zw_91 zw_1048 (by decide +kernel) (by decide +kernel) ⟨rfl, rfl⟩⟩, fun _ h => absurd h List.not_mem_nil⟩) <|
  zq_cons (zq_s_if_eq (off := 30) (by decide +kernel) (by decide)) <|
  zq_cons (zq_s_iload_n (n := 2) (by decide +kernel) rfl) <|
  zq_cons (⟨zi_X9_isTwo, rfl, zq_s_callS (n := 1) (index := 135) (by decide +kernel) zw_1034 zw_1035 zw_91 zw_1036 (by decide +kernel) (by decide +kernel) ⟨rfl, rfl⟩⟩) <|
  zq_cons (zq_s_if_eq (off := 23) (by decide +kernel) (by decide)) <|
  zq_cons (zq_s_iload_n (n := 2) (by decide +kernel) rfl) <|
  zq_cons (zq_s_if_ne (off := 11) (by decide +kernel) (by decide)) <|
  zq_cons (zq_s_aload_n (n := 0) (by decide +kernel) rfl) <|
  zq_cons (zq_s_iload_n (n := 1) (by decide +kernel) rfl) <|
  zq_cons (List.forall_mem_cons.mpr ⟨⟨zi_X9_sortsBy, rfl, zq_s_callV (n := 1) (index := 295) (by decide +kernel) rfl zw_1286 zw_1288 zw_69 zw_91 zw_1289 (by decide +kernel) (by decide +kernel) ⟨rfl, rfl⟩⟩, fun _ h => absurd h List.not_mem_nil⟩) <|
  zq_cons (zq_s_goto (off := 13) (by decide +kernel) (by decide)) <|
  zq_cons (zq_s_aload_n (n := 0) (by decide +kernel) rfl) <|
  zq_cons (zq_s_iload_n (n := 1) (by decide +kernel) rfl) <|
  zq_cons (List.forall_mem_cons.mpr ⟨⟨zi_X9_bedsBy, rfl, zq_s_callV (n := 1) (index := 298) (by decide +kernel) rfl zw_1290 zw_1292 zw_70 zw_91 zw_1293 (by decide +kernel) (by decide +kernel) ⟨rfl, rfl⟩⟩, fun _ h => absurd h List.not_mem_nil⟩) <|
  zq_cons (zq_s_goto (off := 5) (by decide +kernel) (by decide)) <|
  zq_cons (zq_s_bipush (n := (-2)) (by decide +kernel) (by decide +kernel)) <|
  zq_cons (⟨rfl, (by decide +kernel)⟩) <|
  zq_nil
