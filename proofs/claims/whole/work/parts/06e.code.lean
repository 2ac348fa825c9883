def zc_X9_askOf_0 : List (Nat × zq_It) := [(0, .inl (zq_al 1 0)), (1, .inl (zq_il 2 1)), (2, .inr (.inl (2, .inr [(8, zn_X9_bedsBy)]))), (5, .inl (zq_is 6 2)), (6, .inl (zq_push 7 (.int (-1)))), (7, .inl (zq_is 8 3)), (8, .inl (zq_push 9 (.int 0))), (9, .inl (zq_is 11 4)), (11, .inl (zq_push 12 (.int 0))), (12, .inl (zq_is 14 5)), (14, .inl (zq_il 16 5)), (16, .inl (zq_push 18 (.int 24))), (18, .inl (zq_ic_ge 21 183)), (21, .inl (zq_push 22 (.int 0))), (22, .inl (zq_is 24 6)), (24, .inl (zq_push 25 (.int 0))), (25, .inl (zq_is 27 7)), (27, .inl (zq_il 29 7)), (29, .inl (zq_push 31 (.int 8))), (31, .inl (zq_ic_ge 34 132)), (34, .inl (zq_push 35 (.int 0))), (35, .inl (zq_is 37 8)), (37, .inl (zq_push 38 (.int 0))), (38, .inl (zq_is 40 9)), (40, .inl (zq_il 42 9)), (42, .inl (zq_push 44 (.int 8))), (44, .inl (zq_ic_ge 47 110)), (47, .inl (zq_il 49 8)), (49, .inl (zq_il 50 2)), (50, .inl (zq_il 52 7)), (52, .inr (.inl (2, .inl zn_X9_isIn))), (55, .inl (zq_if_eq 58 100)), (58, .inl (zq_il 59 2)), (59, .inl (zq_il 61 9)), (61, .inr (.inl (2, .inl zn_X9_isIn))), (64, .inl (zq_if_eq 67 100)), (67, .inl (zq_al 68 0)), (68, .inl (zq_getf 71 [(8, 30)])), (71, .inl (zq_push 73 (.int 24))), (73, .inl (zq_il 75 7))]
theorem zk_X9_askOf_0 : zq_oks zi_X9_askOf zc_X9_askOf_0 := zq_cons (zq_s_aload_n (n := 0) (by decide +kernel) rfl) <|
  zq_cons (zq_s_iload_n (n := 1) (by decide +kernel) rfl) <|
  zq_cons (List.forall_mem_cons.mpr ⟨⟨zi_X9_bedsBy, rfl, zq_s_callV (n := 1) (index := 298) (by decide +kernel) rfl zw_1290 zw_1292 zw_70 zw_91 zw_1293 (by decide +kernel) (by decide +kernel) ⟨rfl, rfl⟩⟩, fun _ h => absurd h List.not_mem_nil⟩) <|
  zq_cons (zq_s_istore_n (n := 2) (by decide +kernel) rfl (by decide +kernel)) <|
  zq_cons (zq_s_iconst (n := (-1)) (by decide +kernel) (by decide +kernel)) <|
  zq_cons (zq_s_istore_n (n := 3) (by decide +kernel) rfl (by decide +kernel)) <|
  zq_cons (zq_s_iconst (n := 0) (by decide +kernel) (by decide +kernel)) <|
  zq_cons (zq_s_istore (by decide +kernel) (by decide +kernel)) <|
  zq_cons (zq_s_iconst (n := 0) (by decide +kernel) (by decide +kernel)) <|
  zq_cons (zq_s_istore (by decide +kernel) (by decide +kernel)) <|
  zq_cons (zq_s_iload (by decide +kernel)) <|
  zq_cons (zq_s_bipush (n := 24) (by decide +kernel) (by decide +kernel)) <|
  zq_cons (zq_s_ic_ge (off := 165) (by decide +kernel) (by decide)) <|
  zq_cons (zq_s_iconst (n := 0) (by decide +kernel) (by decide +kernel)) <|
  zq_cons (zq_s_istore (by decide +kernel) (by decide +kernel)) <|
  zq_cons (zq_s_iconst (n := 0) (by decide +kernel) (by decide +kernel)) <|
  zq_cons (zq_s_istore (by decide +kernel) (by decide +kernel)) <|
  zq_cons (zq_s_iload (by decide +kernel)) <|
  zq_cons (zq_s_bipush (n := 8) (by decide +kernel) (by decide +kernel)) <|
  zq_cons (zq_s_ic_ge (off := 101) (by decide +kernel) (by decide)) <|
  zq_cons (zq_s_iconst (n := 0) (by decide +kernel) (by decide +kernel)) <|
  zq_cons (zq_s_istore (by decide +kernel) (by decide +kernel)) <|
  zq_cons (zq_s_iconst (n := 0) (by decide +kernel) (by decide +kernel)) <|
  zq_cons (zq_s_istore (by decide +kernel) (by decide +kernel)) <|
  zq_cons (zq_s_iload (by decide +kernel)) <|
  zq_cons (zq_s_bipush (n := 8) (by decide +kernel) (by decide +kernel)) <|
  zq_cons (zq_s_ic_ge (off := 66) (by decide +kernel) (by decide)) <|
  zq_cons (zq_s_iload (by decide +kernel)) <|
  zq_cons (zq_s_iload_n (n := 2) (by decide +kernel) rfl) <|
  zq_cons (zq_s_iload (by decide +kernel)) <|
  zq_cons (⟨zi_X9_isIn, rfl, zq_s_callS (n := 2) (index := 175) (by decide +kernel) zw_1107 zw_1108 zw_91 zw_1109 (by decide +kernel) (by decide +kernel) ⟨rfl, rfl⟩⟩) <|
  zq_cons (zq_s_if_eq (off := 45) (by decide +kernel) (by decide)) <|
  zq_cons (zq_s_iload_n (n := 2) (by decide +kernel) rfl) <|
  zq_cons (zq_s_iload (by decide +kernel)) <|
  zq_cons (⟨zi_X9_isIn, rfl, zq_s_callS (n := 2) (index := 175) (by decide +kernel) zw_1107 zw_1108 zw_91 zw_1109 (by decide +kernel) (by decide +kernel) ⟨rfl, rfl⟩⟩) <|
  zq_cons (zq_s_if_eq (off := 36) (by decide +kernel) (by decide)) <|
  zq_cons (zq_s_aload_n (n := 0) (by decide +kernel) rfl) <|
  zq_cons (zq_s_getf (index := 70) (by decide +kernel) zf_X9_70) <|
  zq_cons (zq_s_bipush (n := 24) (by decide +kernel) (by decide +kernel)) <|
  zq_cons (zq_s_iload (by decide +kernel)) <|
  zq_nil
def zc_X9_askOf_1 : List (Nat × zq_It) := [(75, .inl (zq_i2 76 (fun x y => x * y))), (76, .inl (zq_il 78 5)), (78, .inl (zq_i2 79 (fun x y => x + y))), (79, .inl (zq_iald 80)), (80, .inl (zq_al 81 0)), (81, .inl (zq_getf 84 [(8, 30)])), (84, .inl (zq_push 86 (.int 24))), (86, .inl (zq_il 88 9)), (88, .inl (zq_i2 89 (fun x y => x * y))), (89, .inl (zq_il 91 5)), (91, .inl (zq_i2 92 (fun x y => x + y))), (92, .inl (zq_iald 93)), (93, .inl (zq_ic_ne 96 100)), (96, .inl (zq_push 97 (.int 1))), (97, .inl (zq_goto 101)), (100, .inl (zq_push 101 (.int 0))), (101, .inl (zq_i2 102 (fun x y => x + y))), (102, .inl (zq_is 104 8)), (104, .inl (zq_inc 107 9 1)), (107, .inl (zq_goto 40)), (110, .inl (zq_il 112 8)), (112, .inl (zq_il 114 6)), (114, .inl (zq_ic_le 117 122)), (117, .inl (zq_il 119 8)), (119, .inl (zq_goto 124)), (122, .inl (zq_il 124 6)), (124, .inl (zq_is 126 6)), (126, .inl (zq_inc 129 7 1)), (129, .inl (zq_goto 27)), (132, .inl (zq_il 133 3)), (133, .inl (zq_push 134 (.int (-1)))), (134, .inl (zq_ic_eq 137 144)), (137, .inl (zq_il 139 6)), (139, .inl (zq_il 141 4)), (141, .inl (zq_ic_ge 144 148)), (144, .inl (zq_push 145 (.int 1))), (145, .inl (zq_goto 149)), (148, .inl (zq_push 149 (.int 0))), (149, .inl (zq_is 151 7)), (151, .inl (zq_il 153 7))]
theorem zk_X9_askOf_1 : zq_oks zi_X9_askOf zc_X9_askOf_1 := zq_cons (zq_s_imul (by decide +kernel)) <|
  zq_cons (zq_s_iload (by decide +kernel)) <|
  zq_cons (zq_s_iadd (by decide +kernel)) <|
  zq_cons (zq_s_iald (by decide +kernel)) <|
  zq_cons (zq_s_aload_n (n := 0) (by decide +kernel) rfl) <|
  zq_cons (zq_s_getf (index := 70) (by decide +kernel) zf_X9_70) <|
  zq_cons (zq_s_bipush (n := 24) (by decide +kernel) (by decide +kernel)) <|
  zq_cons (zq_s_iload (by decide +kernel)) <|
  zq_cons (zq_s_imul (by decide +kernel)) <|
  zq_cons (zq_s_iload (by decide +kernel)) <|
  zq_cons (zq_s_iadd (by decide +kernel)) <|
  zq_cons (zq_s_iald (by decide +kernel)) <|
  zq_cons (zq_s_ic_ne (off := 7) (by decide +kernel) (by decide)) <|
  zq_cons (zq_s_iconst (n := 1) (by decide +kernel) (by decide +kernel)) <|
  zq_cons (zq_s_goto (off := 4) (by decide +kernel) (by decide)) <|
  zq_cons (zq_s_iconst (n := 0) (by decide +kernel) (by decide +kernel)) <|
  zq_cons (zq_s_iadd (by decide +kernel)) <|
  zq_cons (zq_s_istore (by decide +kernel) (by decide +kernel)) <|
  zq_cons (zq_s_iinc (n := 1) (by decide +kernel) (by decide +kernel) (by decide +kernel)) <|
  zq_cons (zq_s_goto (off := (-67)) (by decide +kernel) (by decide)) <|
  zq_cons (zq_s_iload (by decide +kernel)) <|
  zq_cons (zq_s_iload (by decide +kernel)) <|
  zq_cons (zq_s_ic_le (off := 8) (by decide +kernel) (by decide)) <|
  zq_cons (zq_s_iload (by decide +kernel)) <|
  zq_cons (zq_s_goto (off := 5) (by decide +kernel) (by decide)) <|
  zq_cons (zq_s_iload (by decide +kernel)) <|
  zq_cons (zq_s_istore (by decide +kernel) (by decide +kernel)) <|
  zq_cons (zq_s_iinc (n := 1) (by decide +kernel) (by decide +kernel) (by decide +kernel)) <|
  zq_cons (zq_s_goto (off := (-102)) (by decide +kernel) (by decide)) <|
  zq_cons (zq_s_iload_n (n := 3) (by decide +kernel) rfl) <|
  zq_cons (zq_s_iconst (n := (-1)) (by decide +kernel) (by decide +kernel)) <|
  zq_cons (zq_s_ic_eq (off := 10) (by decide +kernel) (by decide)) <|
  zq_cons (zq_s_iload (by decide +kernel)) <|
  zq_cons (zq_s_iload (by decide +kernel)) <|
  zq_cons (zq_s_ic_ge (off := 7) (by decide +kernel) (by decide)) <|
  zq_cons (zq_s_iconst (n := 1) (by decide +kernel) (by decide +kernel)) <|
  zq_cons (zq_s_goto (off := 4) (by decide +kernel) (by decide)) <|
  zq_cons (zq_s_iconst (n := 0) (by decide +kernel) (by decide +kernel)) <|
  zq_cons (zq_s_istore (by decide +kernel) (by decide +kernel)) <|
  zq_cons (zq_s_iload (by decide +kernel)) <|
  zq_nil
def zc_X9_askOf_2 : List (Nat × zq_It) := [(153, .inl (zq_if_eq 156 161)), (156, .inl (zq_il 158 5)), (158, .inl (zq_goto 162)), (161, .inl (zq_il 162 3)), (162, .inl (zq_is 163 3)), (163, .inl (zq_il 165 7)), (165, .inl (zq_if_eq 168 173)), (168, .inl (zq_il 170 6)), (170, .inl (zq_goto 175)), (173, .inl (zq_il 175 4)), (175, .inl (zq_is 177 4)), (177, .inl (zq_inc 180 5 1)), (180, .inl (zq_goto 14)), (183, .inl (zq_il 184 3)), (184, .inr (.inr 1))]
theorem zk_X9_askOf_2 : zq_oks zi_X9_askOf zc_X9_askOf_2 := zq_cons (zq_s_if_eq (off := 8) (by decide +kernel) (by decide)) <|
  zq_cons (zq_s_iload (by decide +kernel)) <|
  zq_cons (zq_s_goto (off := 4) (by decide +kernel) (by decide)) <|
  zq_cons (zq_s_iload_n (n := 3) (by decide +kernel) rfl) <|
  zq_cons (zq_s_istore_n (n := 3) (by decide +kernel) rfl (by decide +kernel)) <|
  zq_cons (zq_s_iload (by decide +kernel)) <|
  zq_cons (zq_s_if_eq (off := 8) (by decide +kernel) (by decide)) <|
  zq_cons (zq_s_iload (by decide +kernel)) <|
  zq_cons (zq_s_goto (off := 5) (by decide +kernel) (by decide)) <|
  zq_cons (zq_s_iload (by decide +kernel)) <|
  zq_cons (zq_s_istore (by decide +kernel) (by decide +kernel)) <|
  zq_cons (zq_s_iinc (n := 1) (by decide +kernel) (by decide +kernel) (by decide +kernel)) <|
  zq_cons (zq_s_goto (off := (-166)) (by decide +kernel) (by decide)) <|
  zq_cons (zq_s_iload_n (n := 3) (by decide +kernel) rfl) <|
  zq_cons (⟨rfl, (by decide +kernel)⟩) <|
  zq_nil
def zc_X9_askOf : List (Nat × zq_It) := zc_X9_askOf_0 ++ (zc_X9_askOf_1 ++ (zc_X9_askOf_2))
theorem zk_X9_askOf : zq_oks zi_X9_askOf zc_X9_askOf := zq_app zk_X9_askOf_0 (zq_app zk_X9_askOf_1 (zk_X9_askOf_2))
def zc_X9_ask : List (Nat × zq_It) := [(0, .inl (zq_al 1 0)), (1, .inl (zq_il 2 1)), (2, .inr (.inl (2, .inr [(8, zn_X9_isPerson)]))), (5, .inl (zq_if_eq 8 16)), (8, .inl (zq_al 9 0)), (9, .inl (zq_il 10 1)), (10, .inr (.inl (2, .inr [(8, zn_X9_askOf)]))), (13, .inl (zq_goto 18)), (16, .inl (zq_push 18 (.int (-2)))), (18, .inr (.inr 1))]
theorem zk_X9_ask : zq_oks zi_X9_ask zc_X9_ask := zq_cons (zq_s_aload_n (n := 0) (by decide +kernel) rfl) <|
  zq_cons (zq_s_iload_n (n := 1) (by decide +kernel) rfl) <|
  zq_cons (List.forall_mem_cons.mpr ⟨⟨zi_X9_isPerson, rfl, zq_s_callV (n := 1) (index := 141) (by decide +kernel) rfl zw_1045 zw_1047 zw_32 zw_91 zw_1048 (by decide +kernel) (by decide +kernel) ⟨rfl, rfl⟩⟩, fun _ h => absurd h List.not_mem_nil⟩) <|
  zq_cons (zq_s_if_eq (off := 11) (by decide +kernel) (by decide)) <|
  zq_cons (zq_s_aload_n (n := 0) (by decide +kernel) rfl) <|
  zq_cons (zq_s_iload_n (n := 1) (by decide +kernel) rfl) <|
  zq_cons (List.forall_mem_cons.mpr ⟨⟨zi_X9_askOf, rfl, zq_s_callV (n := 1) (index := 301) (by decide +kernel) rfl zw_1298 zw_1300 zw_71 zw_91 zw_1301 (by decide +kernel) (by decide +kernel) ⟨rfl, rfl⟩⟩, fun _ h => absurd h List.not_mem_nil⟩) <|
  zq_cons (zq_s_goto (off := 5) (by decide +kernel) (by decide)) <|
  zq_cons (zq_s_bipush (n := (-2)) (by decide +kernel) (by decide +kernel)) <|
  zq_cons (⟨rfl, (by decide +kernel)⟩) <|
  zq_nil
def zc_X9_chanceOf_0 : List (Nat × zq_It) := [(0, .inl (zq_al 1 0)), (1, .inr (.inl (1, .inr [(8, zn_X9_asTold)]))), (4, .inl (zq_push 5 (.long 0))), (5, .inl (zq_lst 7 5)), (7, .inl (zq_push 8 (.int 0))), (8, .inl (zq_is 10 7)), (10, .inl (zq_il 12 7)), (12, .inl (zq_push 13 (.int 1))), (13, .inl (zq_al 14 0)), (14, .inl (zq_getf 17 [(8, 10)])), (17, .inl (zq_i2 18 (fun x y => x <<< (y &&& 31)))), (18, .inl (zq_ic_ge 21 110)), (21, .inl (zq_push 22 (.long 1))), (22, .inl (zq_lst 24 8)), (24, .inl (zq_push 25 (.int 0))), (25, .inl (zq_is 27 10)), (27, .inl (zq_il 29 10)), (29, .inl (zq_al 30 0)), (30, .inl (zq_getf 33 [(8, 10)])), (33, .inl (zq_ic_ge 36 67)), (36, .inl (zq_ll 38 8)), (38, .inl (zq_il 40 7)), (40, .inl (zq_il 42 10)), (42, .inr (.inl (2, .inl zn_X9_isIn))), (45, .inl (zq_if_eq 48 56)), (48, .inl (zq_push 50 (.int 16))), (50, .inl (zq_il 51 1)), (51, .inl (zq_i2 52 (fun x y => x - y))), (52, .inl (zq_i2l 53)), (53, .inl (zq_goto 58)), (56, .inl (zq_il 57 1)), (57, .inl (zq_i2l 58)), (58, .inl (zq_l2 59 (fun x y => x * y))), (59, .inl (zq_lst 61 8)), (61, .inl (zq_inc 64 10 1)), (64, .inl (zq_goto 27)), (67, .inl (zq_ll 69 8)), (69, .inl (zq_push 70 (.long 0))), (70, .inl (zq_lcmp 71)), (71, .inl (zq_if_le 74 104))]
theorem zk_X9_chanceOf_0 : zq_oks zi_X9_chanceOf zc_X9_chanceOf_0 := zq_cons (zq_s_aload_n (n := 0) (by decide +kernel) rfl) <|
  zq_cons (List.forall_mem_cons.mpr ⟨⟨zi_X9_asTold, rfl, zq_s_callV (n := 0) (index := 210) (by decide +kernel) rfl zw_1095 zw_1097 zw_37 zw_91 zw_1098 (by decide +kernel) (by decide +kernel) ⟨rfl, rfl⟩⟩, fun _ h => absurd h List.not_mem_nil⟩) <|
  zq_cons (zq_s_lconst (n := 0) (by decide +kernel) (by decide +kernel)) <|
  zq_cons (zq_s_lstore (by decide +kernel) (by decide +kernel)) <|
  zq_cons (zq_s_iconst (n := 0) (by decide +kernel) (by decide +kernel)) <|
  zq_cons (zq_s_istore (by decide +kernel) (by decide +kernel)) <|
  zq_cons (zq_s_iload (by decide +kernel)) <|
  zq_cons (zq_s_iconst (n := 1) (by decide +kernel) (by decide +kernel)) <|
  zq_cons (zq_s_aload_n (n := 0) (by decide +kernel) rfl) <|
  zq_cons (zq_s_getf (index := 153) (by decide +kernel) zf_X9_153) <|
  zq_cons (zq_s_ishl (by decide +kernel)) <|
  zq_cons (zq_s_ic_ge (off := 92) (by decide +kernel) (by decide)) <|
  zq_cons (zq_s_lconst (n := 1) (by decide +kernel) (by decide +kernel)) <|
  zq_cons (zq_s_lstore (by decide +kernel) (by decide +kernel)) <|
  zq_cons (zq_s_iconst (n := 0) (by decide +kernel) (by decide +kernel)) <|
  zq_cons (zq_s_istore (by decide +kernel) (by decide +kernel)) <|
  zq_cons (zq_s_iload (by decide +kernel)) <|
  zq_cons (zq_s_aload_n (n := 0) (by decide +kernel) rfl) <|
  zq_cons (zq_s_getf (index := 153) (by decide +kernel) zf_X9_153) <|
  zq_cons (zq_s_ic_ge (off := 34) (by decide +kernel) (by decide)) <|
  zq_cons (zq_s_lload (by decide +kernel)) <|
  zq_cons (zq_s_iload (by decide +kernel)) <|
  zq_cons (zq_s_iload (by decide +kernel)) <|
  zq_cons (⟨zi_X9_isIn, rfl, zq_s_callS (n := 2) (index := 175) (by decide +kernel) zw_1107 zw_1108 zw_91 zw_1109 (by decide +kernel) (by decide +kernel) ⟨rfl, rfl⟩⟩) <|
  zq_cons (zq_s_if_eq (off := 11) (by decide +kernel) (by decide)) <|
  zq_cons (zq_s_bipush (n := 16) (by decide +kernel) (by decide +kernel)) <|
  zq_cons (zq_s_iload_n (n := 1) (by decide +kernel) rfl) <|
  zq_cons (zq_s_isub (by decide +kernel)) <|
  zq_cons (zq_s_i2l (by decide +kernel)) <|
  zq_cons (zq_s_goto (off := 5) (by decide +kernel) (by decide)) <|
  zq_cons (zq_s_iload_n (n := 1) (by decide +kernel) rfl) <|
  zq_cons (zq_s_i2l (by decide +kernel)) <|
  zq_cons (zq_s_lmul (by decide +kernel)) <|
  zq_cons (zq_s_lstore (by decide +kernel) (by decide +kernel)) <|
  zq_cons (zq_s_iinc (n := 1) (by decide +kernel) (by decide +kernel) (by decide +kernel)) <|
  zq_cons (zq_s_goto (off := (-37)) (by decide +kernel) (by decide)) <|
  zq_cons (zq_s_lload (by decide +kernel)) <|
  zq_cons (zq_s_lconst (n := 0) (by decide +kernel) (by decide +kernel)) <|
  zq_cons (zq_s_lcmp (by decide +kernel)) <|
  zq_cons (zq_s_if_le (off := 33) (by decide +kernel) (by decide)) <|
  zq_nil
def zc_X9_chanceOf_1 : List (Nat × zq_It) := [(74, .inl (zq_al 75 0)), (75, .inl (zq_il 77 7)), (77, .inl (zq_puti 80 false [(8, 19)])), (80, .inl (zq_al 81 0)), (81, .inr (.inl (1, .inr [(8, zn_X9_runs)]))), (84, .inl (zq_ll 86 5)), (86, .inl (zq_al 87 0)), (87, .inl (zq_il 88 3)), (88, .inl (zq_il 89 2)), (89, .inr (.inl (3, .inr [(8, zn_X9_isByItself)]))), (92, .inl (zq_if_eq 95 100)), (95, .inl (zq_ll 97 8)), (97, .inl (zq_goto 101)), (100, .inl (zq_push 101 (.long 0))), (101, .inl (zq_l2 102 (fun x y => x + y))), (102, .inl (zq_lst 104 5)), (104, .inl (zq_inc 107 7 1)), (107, .inl (zq_goto 10)), (110, .inl (zq_ll 112 5)), (112, .inl (zq_push 113 (.long 1))), (113, .inl (zq_push 114 (.int 4))), (114, .inl (zq_al 115 0)), (115, .inl (zq_getf 118 [(8, 10)])), (118, .inl (zq_i2 119 (fun x y => x * y))), (119, .inl (zq_lsf 120 (fun x y => x <<< (y.toInt64 &&& 63)))), (120, .inl (zq_il 122 4)), (122, .inr (.inl (3, .inl zn_X9_lowest))), (125, .inr (.inr 3))]
theorem zk_X9_chanceOf_1 : zq_oks zi_X9_chanceOf zc_X9_chanceOf_1 := zq_cons (zq_s_aload_n (n := 0) (by decide +kernel) rfl) <|
  zq_cons (zq_s_iload (by decide +kernel)) <|
  zq_cons (zq_s_puti (index := 172) (by decide +kernel) zp_X9_172 (fun _ _ => ⟨rfl, rfl⟩)) <|
  zq_cons (zq_s_aload_n (n := 0) (by decide +kernel) rfl) <|
  zq_cons (List.forall_mem_cons.mpr ⟨⟨zi_X9_runs, rfl, zq_s_callV (n := 0) (index := 213) (by decide +kernel) rfl zw_1099 zw_1101 zw_38 zw_91 zw_1102 (by decide +kernel) (by decide +kernel) ⟨rfl, rfl⟩⟩, fun _ h => absurd h List.not_mem_nil⟩) <|
  zq_cons (zq_s_lload (by decide +kernel)) <|
  zq_cons (zq_s_aload_n (n := 0) (by decide +kernel) rfl) <|
  zq_cons (zq_s_iload_n (n := 3) (by decide +kernel) rfl) <|
  zq_cons (zq_s_iload_n (n := 2) (by decide +kernel) rfl) <|
  zq_cons (List.forall_mem_cons.mpr ⟨⟨zi_X9_isByItself, rfl, zq_s_callV (n := 2) (index := 252) (by decide +kernel) rfl zw_1210 zw_1212 zw_58 zw_91 zw_1213 (by decide +kernel) (by decide +kernel) ⟨rfl, rfl⟩⟩, fun _ h => absurd h List.not_mem_nil⟩) <|
  zq_cons (zq_s_if_eq (off := 8) (by decide +kernel) (by decide)) <|
  zq_cons (zq_s_lload (by decide +kernel)) <|
  zq_cons (zq_s_goto (off := 4) (by decide +kernel) (by decide)) <|
  zq_cons (zq_s_lconst (n := 0) (by decide +kernel) (by decide +kernel)) <|
  zq_cons (zq_s_ladd (by decide +kernel)) <|
  zq_cons (zq_s_lstore (by decide +kernel) (by decide +kernel)) <|
  zq_cons (zq_s_iinc (n := 1) (by decide +kernel) (by decide +kernel) (by decide +kernel)) <|
  zq_cons (zq_s_goto (off := (-97)) (by decide +kernel) (by decide)) <|
  zq_cons (zq_s_lload (by decide +kernel)) <|
  zq_cons (zq_s_lconst (n := 1) (by decide +kernel) (by decide +kernel)) <|
  zq_cons (zq_s_iconst (n := 4) (by decide +kernel) (by decide +kernel)) <|
  zq_cons (zq_s_aload_n (n := 0) (by decide +kernel) rfl) <|
  zq_cons (zq_s_getf (index := 153) (by decide +kernel) zf_X9_153) <|
  zq_cons (zq_s_imul (by decide +kernel)) <|
  zq_cons (zq_s_lshl (by decide +kernel)) <|
  zq_cons (zq_s_iload (by decide +kernel)) <|
  zq_cons (⟨zi_X9_lowest, rfl, zq_s_callS (n := 3) (index := 304) (by decide +kernel) zw_1310 zw_1311 zw_91 zw_1312 (by decide +kernel) (by decide +kernel) ⟨rfl, rfl⟩⟩) <|
  zq_cons (⟨rfl, (by decide +kernel)⟩) <|
  zq_nil
def zc_X9_chanceOf : List (Nat × zq_It) := zc_X9_chanceOf_0 ++ (zc_X9_chanceOf_1)
theorem zk_X9_chanceOf : zq_oks zi_X9_chanceOf zc_X9_chanceOf := zq_app zk_X9_chanceOf_0 (zk_X9_chanceOf_1)
def zc_X9_chance : List (Nat × zq_It) := [(0, .inl (zq_il 1 1)), (1, .inl (zq_push 2 (.int 0))), (2, .inl (zq_push 4 (.int 16))), (4, .inr (.inl (3, .inl zn_X9_in))), (7, .inl (zq_if_eq 10 45)), (10, .inl (zq_al 11 0)), (11, .inl (zq_il 12 2)), (12, .inr (.inl (2, .inr [(8, zn_X9_isPerson)]))), (15, .inl (zq_if_eq 18 45)), (18, .inl (zq_il 19 3)), (19, .inr (.inl (1, .inl zn_X9_isHour))), (22, .inl (zq_if_eq 25 45)), (25, .inl (zq_il 27 4)), (27, .inr (.inl (1, .inl zn_X9_isTwo))), (30, .inl (zq_if_eq 33 45)), (33, .inl (zq_al 34 0)), (34, .inl (zq_il 35 1)), (35, .inl (zq_il 36 2)), (36, .inl (zq_il 37 3)), (37, .inl (zq_il 39 4)), (39, .inr (.inl (5, .inr [(8, zn_X9_chanceOf)]))), (42, .inl (zq_goto 50)), (45, .inl (zq_push 47 (.int (-2)))), (47, .inr (.inl (1, .inl zn_X9_no))), (50, .inr (.inr 3))]
theorem zk_X9_chance : zq_oks zi_X9_chance zc_X9_chance := zq_cons (zq_s_iload_n (n := 1) (by decide +kernel) rfl) <|
  zq_cons (zq_s_iconst (n := 0) (by decide +kernel) (by decide +kernel)) <|
  zq_cons (zq_s_bipush (n := 16) (by decide +kernel) (by decide +kernel)) <|
  zq_cons (⟨zi_X9_in, rfl, zq_s_callS (n := 3) (index := 95) (by decide +kernel) zw_984 zw_985 zw_91 zw_986 (by decide +kernel) (by decide +kernel) ⟨rfl, rfl⟩⟩) <|
  zq_cons (zq_s_if_eq (off := 38) (by decide +kernel) (by decide)) <|
  zq_cons (zq_s_aload_n (n := 0) (by decide +kernel) rfl) <|
  zq_cons (zq_s_iload_n (n := 2) (by decide +kernel) rfl) <|
  zq_cons (List.forall_mem_cons.mpr ⟨⟨zi_X9_isPerson, rfl, zq_s_callV (n := 1) (index := 141) (by decide +kernel) rfl zw_1045 zw_1047 zw_32 zw_91 zw_1048 (by decide +kernel) (by decide +kernel) ⟨rfl, rfl⟩⟩, fun _ h => absurd h List.not_mem_nil⟩) <|
  zq_cons (zq_s_if_eq (off := 30) (by decide +kernel) (by decide)) <|
  zq_cons (zq_s_iload_n (n := 3) (by decide +kernel) rfl) <|
  zq_cons (⟨zi_X9_isHour, rfl, zq_s_callS (n := 1) (index := 150) (by decide +kernel) zw_1064 zw_1065 zw_91 zw_1066 (by decide +kernel) (by decide +kernel) ⟨rfl, rfl⟩⟩) <|
  zq_cons (zq_s_if_eq (off := 23) (by decide +kernel) (by decide)) <|
  zq_cons (zq_s_iload (by decide +kernel)) <|
  zq_cons (⟨zi_X9_isTwo, rfl, zq_s_callS (n := 1) (index := 135) (by decide +kernel) zw_1034 zw_1035 zw_91 zw_1036 (by decide +kernel) (by decide +kernel) ⟨rfl, rfl⟩⟩) <|
  zq_cons (zq_s_if_eq (off := 15) (by decide +kernel) (by decide)) <|
  zq_cons (zq_s_aload_n (n := 0) (by decide +kernel) rfl) <|
  zq_cons (zq_s_iload_n (n := 1) (by decide +kernel) rfl) <|
  zq_cons (zq_s_iload_n (n := 2) (by decide +kernel) rfl) <|
  zq_cons (zq_s_iload_n (n := 3) (by decide +kernel) rfl) <|
  zq_cons (zq_s_iload (by decide +kernel)) <|
  zq_cons (List.forall_mem_cons.mpr ⟨⟨zi_X9_chanceOf, rfl, zq_s_callV (n := 4) (index := 308) (by decide +kernel) rfl zw_1306 zw_1308 zw_72 zw_91 zw_1309 (by decide +kernel) (by decide +kernel) ⟨rfl, rfl⟩⟩, fun _ h => absurd h List.not_mem_nil⟩) <|
  zq_cons (zq_s_goto (off := 8) (by decide +kernel) (by decide)) <|
  zq_cons (zq_s_bipush (n := (-2)) (by decide +kernel) (by decide +kernel)) <|
  zq_cons (⟨zi_X9_no, rfl, zq_s_callS (n := 1) (index := 312) (by decide +kernel) zw_1313 zw_1314 zw_91 zw_1315 (by decide +kernel) (by decide +kernel) ⟨rfl, rfl⟩⟩) <|
  zq_cons (⟨rfl, (by decide +kernel)⟩) <|
  zq_nil
def zc_X9_weeksOf_0 : List (Nat × zq_It) := [(0, .inl (zq_al 1 0)), (1, .inr (.inl (1, .inr [(8, zn_X9_asTold)]))), (4, .inl (zq_il 5 1)), (5, .inl (zq_is 7 4)), (7, .inl (zq_al 8 0)), (8, .inl (zq_il 9 2)), (9, .inl (zq_puti 12 false [(8, 15)])), (12, .inl (zq_push 13 (.int 0))), (13, .inl (zq_is 15 5)), (15, .inl (zq_il 17 5)), (17, .inl (zq_il 18 2)), (18, .inl (zq_ic_ge 21 107)), (21, .inl (zq_push 24 (.int 1103515245))), (24, .inl (zq_il 26 4)), (26, .inl (zq_i2 27 (fun x y => x * y))), (27, .inl (zq_push 30 (.int 12345))), (30, .inl (zq_i2 31 (fun x y => x + y))), (31, .inl (zq_is 33 4)), (33, .inl (zq_al 34 0)), (34, .inl (zq_getf 37 [(8, 16)])), (37, .inl (zq_il 39 5)), (39, .inl (zq_il 41 4)), (41, .inl (zq_push 43 (.int 16))), (43, .inl (zq_i2 44 zq_ush)), (44, .inl (zq_push 45 (.int 2))), (45, .inl (zq_i2c 46 (fun x y => x - x / y * y))), (46, .inl (zq_iast 47)), (47, .inl (zq_push 50 (.int 1103515245))), (50, .inl (zq_il 52 4)), (52, .inl (zq_i2 53 (fun x y => x * y))), (53, .inl (zq_push 56 (.int 12345))), (56, .inl (zq_i2 57 (fun x y => x + y))), (57, .inl (zq_is 59 4)), (59, .inl (zq_al 60 0)), (60, .inl (zq_getf 63 [(8, 17)])), (63, .inl (zq_il 65 5)), (65, .inl (zq_il 67 4)), (67, .inl (zq_push 69 (.int 16))), (69, .inl (zq_i2 70 zq_ush)), (70, .inl (zq_push 72 (.int 24)))]
theorem zk_X9_weeksOf_0 : zq_oks zi_X9_weeksOf zc_X9_weeksOf_0 := zq_cons (zq_s_aload_n (n := 0) (by decide +kernel) rfl) <|
  zq_cons (List.forall_mem_cons.mpr ⟨⟨zi_X9_asTold, rfl, zq_s_callV (n := 0) (index := 210) (by decide +kernel) rfl zw_1095 zw_1097 zw_37 zw_91 zw_1098 (by decide +kernel) (by decide +kernel) ⟨rfl, rfl⟩⟩, fun _ h => absurd h List.not_mem_nil⟩) <|
  zq_cons (zq_s_iload_n (n := 1) (by decide +kernel) rfl) <|
  zq_cons (zq_s_istore (by decide +kernel) (by decide +kernel)) <|
  zq_cons (zq_s_aload_n (n := 0) (by decide +kernel) rfl) <|
  zq_cons (zq_s_iload_n (n := 2) (by decide +kernel) rfl) <|
  zq_cons (zq_s_puti (index := 169) (by decide +kernel) zp_X9_169 (fun _ _ => ⟨rfl, rfl⟩)) <|
  zq_cons (zq_s_iconst (n := 0) (by decide +kernel) (by decide +kernel)) <|
  zq_cons (zq_s_istore (by decide +kernel) (by decide +kernel)) <|
  zq_cons (zq_s_iload (by decide +kernel)) <|
  zq_cons (zq_s_iload_n (n := 2) (by decide +kernel) rfl) <|
  zq_cons (zq_s_ic_ge (off := 89) (by decide +kernel) (by decide)) <|
  zq_cons (zq_s_ldcw (index := 316) (by decide +kernel) zw_1325) <|
  zq_cons (zq_s_iload (by decide +kernel)) <|
  zq_cons (zq_s_imul (by decide +kernel)) <|
  zq_cons (zq_s_sipush (n := 12345) (by decide +kernel) (by decide +kernel)) <|
  zq_cons (zq_s_iadd (by decide +kernel)) <|
  zq_cons (zq_s_istore (by decide +kernel) (by decide +kernel)) <|
  zq_cons (zq_s_aload_n (n := 0) (by decide +kernel) rfl) <|
  zq_cons (zq_s_getf (index := 40) (by decide +kernel) zf_X9_40) <|
  zq_cons (zq_s_iload (by decide +kernel)) <|
  zq_cons (zq_s_iload (by decide +kernel)) <|
  zq_cons (zq_s_bipush (n := 16) (by decide +kernel) (by decide +kernel)) <|
  zq_cons (zq_s_iushr (by decide +kernel)) <|
  zq_cons (zq_s_iconst (n := 2) (by decide +kernel) (by decide +kernel)) <|
  zq_cons (zq_s_irem (by decide +kernel)) <|
  zq_cons (zq_s_iast (by decide +kernel)) <|
  zq_cons (zq_s_ldcw (index := 316) (by decide +kernel) zw_1325) <|
  zq_cons (zq_s_iload (by decide +kernel)) <|
  zq_cons (zq_s_imul (by decide +kernel)) <|
  zq_cons (zq_s_sipush (n := 12345) (by decide +kernel) (by decide +kernel)) <|
  zq_cons (zq_s_iadd (by decide +kernel)) <|
  zq_cons (zq_s_istore (by decide +kernel) (by decide +kernel)) <|
  zq_cons (zq_s_aload_n (n := 0) (by decide +kernel) rfl) <|
  zq_cons (zq_s_getf (index := 43) (by decide +kernel) zf_X9_43) <|
  zq_cons (zq_s_iload (by decide +kernel)) <|
  zq_cons (zq_s_iload (by decide +kernel)) <|
  zq_cons (zq_s_bipush (n := 16) (by decide +kernel) (by decide +kernel)) <|
  zq_cons (zq_s_iushr (by decide +kernel)) <|
  zq_cons (zq_s_bipush (n := 24) (by decide +kernel) (by decide +kernel)) <|
  zq_nil
def zc_X9_weeksOf_1 : List (Nat × zq_It) := [(72, .inl (zq_i2c 73 (fun x y => x - x / y * y))), (73, .inl (zq_iast 74)), (74, .inl (zq_push 77 (.int 1103515245))), (77, .inl (zq_il 79 4)), (79, .inl (zq_i2 80 (fun x y => x * y))), (80, .inl (zq_push 83 (.int 12345))), (83, .inl (zq_i2 84 (fun x y => x + y))), (84, .inl (zq_is 86 4)), (86, .inl (zq_al 87 0)), (87, .inl (zq_getf 90 [(8, 18)])), (90, .inl (zq_il 92 5)), (92, .inl (zq_il 94 4)), (94, .inl (zq_push 96 (.int 16))), (96, .inl (zq_i2 97 zq_ush)), (97, .inl (zq_push 99 (.int 8))), (99, .inl (zq_i2c 100 (fun x y => x - x / y * y))), (100, .inl (zq_iast 101)), (101, .inl (zq_inc 104 5 1)), (104, .inl (zq_goto 15)), (107, .inl (zq_al 108 0)), (108, .inr (.inl (1, .inr [(8, zn_X9_runs)]))), (111, .inl (zq_il 112 3)), (112, .inl (zq_if_ne 115 126)), (115, .inl (zq_al 116 0)), (116, .inl (zq_al 117 0)), (117, .inr (.inl (1, .inr [(8, zn_X9_aloneNow)]))), (120, .inr (.inl (2, .inr [(8, zn_X9_many)]))), (123, .inl (zq_goto 135)), (126, .inl (zq_al 127 0)), (127, .inl (zq_al 128 0)), (128, .inl (zq_push 129 (.int 0))), (129, .inr (.inl (2, .inr [(8, zn_X9_emptyNow)]))), (132, .inr (.inl (2, .inr [(8, zn_X9_many)]))), (135, .inr (.inr 1))]
theorem zk_X9_weeksOf_1 : zq_oks zi_X9_weeksOf zc_X9_weeksOf_1 := zq_cons (zq_s_irem (by decide +kernel)) <|
  zq_cons (zq_s_iast (by decide +kernel)) <|
  zq_cons (zq_s_ldcw (index := 316) (by decide +kernel) zw_1325) <|
  zq_cons (zq_s_iload (by decide +kernel)) <|
  zq_cons (zq_s_imul (by decide +kernel)) <|
  zq_cons (zq_s_sipush (n := 12345) (by decide +kernel) (by decide +kernel)) <|
  zq_cons (zq_s_iadd (by decide +kernel)) <|
  zq_cons (zq_s_istore (by decide +kernel) (by decide +kernel)) <|
  zq_cons (zq_s_aload_n (n := 0) (by decide +kernel) rfl) <|
  zq_cons (zq_s_getf (index := 46) (by decide +kernel) zf_X9_46) <|
  zq_cons (zq_s_iload (by decide +kernel)) <|
  zq_cons (zq_s_iload (by decide +kernel)) <|
  zq_cons (zq_s_bipush (n := 16) (by decide +kernel) (by decide +kernel)) <|
  zq_cons (zq_s_iushr (by decide +kernel)) <|
  zq_cons (zq_s_bipush (n := 8) (by decide +kernel) (by decide +kernel)) <|
  zq_cons (zq_s_irem (by decide +kernel)) <|
  zq_cons (zq_s_iast (by decide +kernel)) <|
  zq_cons (zq_s_iinc (n := 1) (by decide +kernel) (by decide +kernel) (by decide +kernel)) <|
  zq_cons (zq_s_goto (off := (-89)) (by decide +kernel) (by decide)) <|
  zq_cons (zq_s_aload_n (n := 0) (by decide +kernel) rfl) <|
  zq_cons (List.forall_mem_cons.mpr ⟨⟨zi_X9_runs, rfl, zq_s_callV (n := 0) (index := 213) (by decide +kernel) rfl zw_1099 zw_1101 zw_38 zw_91 zw_1102 (by decide +kernel) (by decide +kernel) ⟨rfl, rfl⟩⟩, fun _ h => absurd h List.not_mem_nil⟩) <|
  zq_cons (zq_s_iload_n (n := 3) (by decide +kernel) rfl) <|
  zq_cons (zq_s_if_ne (off := 14) (by decide +kernel) (by decide)) <|
  zq_cons (zq_s_aload_n (n := 0) (by decide +kernel) rfl) <|
  zq_cons (zq_s_aload_n (n := 0) (by decide +kernel) rfl) <|
  zq_cons (List.forall_mem_cons.mpr ⟨⟨zi_X9_aloneNow, rfl, zq_s_callV (n := 0) (index := 255) (by decide +kernel) rfl zw_1206 zw_1208 zw_57 zw_91 zw_1209 (by decide +kernel) (by decide +kernel) ⟨rfl, rfl⟩⟩, fun _ h => absurd h List.not_mem_nil⟩) <|
  zq_cons (List.forall_mem_cons.mpr ⟨⟨zi_X9_many, rfl, zq_s_callV (n := 1) (index := 246) (by decide +kernel) rfl zw_1194 zw_1196 zw_55 zw_91 zw_1197 (by decide +kernel) (by decide +kernel) ⟨rfl, rfl⟩⟩, fun _ h => absurd h List.not_mem_nil⟩) <|
  zq_cons (zq_s_goto (off := 12) (by decide +kernel) (by decide)) <|
  zq_cons (zq_s_aload_n (n := 0) (by decide +kernel) rfl) <|
  zq_cons (zq_s_aload_n (n := 0) (by decide +kernel) rfl) <|
  zq_cons (zq_s_iconst (n := 0) (by decide +kernel) (by decide +kernel)) <|
  zq_cons (List.forall_mem_cons.mpr ⟨⟨zi_X9_emptyNow, rfl, zq_s_callV (n := 1) (index := 234) (by decide +kernel) rfl zw_1170 zw_1172 zw_51 zw_91 zw_1173 (by decide +kernel) (by decide +kernel) ⟨rfl, rfl⟩⟩, fun _ h => absurd h List.not_mem_nil⟩) <|
  zq_cons (List.forall_mem_cons.mpr ⟨⟨zi_X9_many, rfl, zq_s_callV (n := 1) (index := 246) (by decide +kernel) rfl zw_1194 zw_1196 zw_55 zw_91 zw_1197 (by decide +kernel) (by decide +kernel) ⟨rfl, rfl⟩⟩, fun _ h => absurd h List.not_mem_nil⟩) <|
  zq_cons (⟨rfl, (by decide +kernel)⟩) <|
  zq_nil
def zc_X9_weeksOf : List (Nat × zq_It) := zc_X9_weeksOf_0 ++ (zc_X9_weeksOf_1)
theorem zk_X9_weeksOf : zq_oks zi_X9_weeksOf zc_X9_weeksOf := zq_app zk_X9_weeksOf_0 (zk_X9_weeksOf_1)
def zc_X9_weeks : List (Nat × zq_It) := [(0, .inl (zq_il 1 2)), (1, .inl (zq_push 2 (.int 0))), (2, .inl (zq_push 4 (.int 8))), (4, .inr (.inl (3, .inl zn_X9_in))), (7, .inl (zq_if_eq 10 27)), (10, .inl (zq_il 11 3)), (11, .inr (.inl (1, .inl zn_X9_isTwo))), (14, .inl (zq_if_eq 17 27)), (17, .inl (zq_al 18 0)), (18, .inl (zq_il 19 1)), (19, .inl (zq_il 20 2)), (20, .inl (zq_il 21 3)), (21, .inr (.inl (4, .inr [(8, zn_X9_weeksOf)]))), (24, .inl (zq_goto 29)), (27, .inl (zq_push 29 (.int (-2)))), (29, .inr (.inr 1))]
theorem zk_X9_weeks : zq_oks zi_X9_weeks zc_X9_weeks := zq_cons (zq_s_iload_n (n := 2) (by decide +kernel) rfl) <|
  zq_cons (zq_s_iconst (n := 0) (by decide +kernel) (by decide +kernel)) <|
  zq_cons (zq_s_bipush (n := 8) (by decide +kernel) (by decide +kernel)) <|
  zq_cons (⟨zi_X9_in, rfl, zq_s_callS (n := 3) (index := 95) (by decide +kernel) zw_984 zw_985 zw_91 zw_986 (by decide +kernel) (by decide +kernel) ⟨rfl, rfl⟩⟩) <|
  zq_cons (zq_s_if_eq (off := 20) (by decide +kernel) (by decide)) <|
  zq_cons (zq_s_iload_n (n := 3) (by decide +kernel) rfl) <|
  zq_cons (⟨zi_X9_isTwo, rfl, zq_s_callS (n := 1) (index := 135) (by decide +kernel) zw_1034 zw_1035 zw_91 zw_1036 (by decide +kernel) (by decide +kernel) ⟨rfl, rfl⟩⟩) <|
  zq_cons (zq_s_if_eq (off := 13) (by decide +kernel) (by decide)) <|
  zq_cons (zq_s_aload_n (n := 0) (by decide +kernel) rfl) <|
  zq_cons (zq_s_iload_n (n := 1) (by decide +kernel) rfl) <|
  zq_cons (zq_s_iload_n (n := 2) (by decide +kernel) rfl) <|
  zq_cons (zq_s_iload_n (n := 3) (by decide +kernel) rfl) <|
  zq_cons (List.forall_mem_cons.mpr ⟨⟨zi_X9_weeksOf, rfl, zq_s_callV (n := 3) (index := 317) (by decide +kernel) rfl zw_1321 zw_1323 zw_73 zw_91 zw_1324 (by decide +kernel) (by decide +kernel) ⟨rfl, rfl⟩⟩, fun _ h => absurd h List.not_mem_nil⟩) <|
  zq_cons (zq_s_goto (off := 5) (by decide +kernel) (by decide)) <|
  zq_cons (zq_s_bipush (n := (-2)) (by decide +kernel) (by decide +kernel)) <|
  zq_cons (⟨rfl, (by decide +kernel)⟩) <|
  zq_nil
def zc_X9_meets : List (Nat × zq_It) := [(0, .inl (zq_al 1 0)), (1, .inl (zq_il 2 1)), (2, .inl (zq_puti 5 false [(8, 36)])), (5, .inl (zq_push 7 (.int (-10)))), (7, .inl (zq_il 8 1)), (8, .inl (zq_i2 9 (fun x y => x - y))), (9, .inr (.inr 1))]
theorem zk_X9_meets : zq_oks zi_X9_meets zc_X9_meets := zq_cons (zq_s_aload_n (n := 0) (by decide +kernel) rfl) <|
  zq_cons (zq_s_iload_n (n := 1) (by decide +kernel) rfl) <|
  zq_cons (zq_s_puti (index := 320) (by decide +kernel) zp_X9_320 (fun _ _ => ⟨rfl, rfl⟩)) <|
  zq_cons (zq_s_bipush (n := (-10)) (by decide +kernel) (by decide +kernel)) <|
  zq_cons (zq_s_iload_n (n := 1) (by decide +kernel) rfl) <|
  zq_cons (zq_s_isub (by decide +kernel)) <|
  zq_cons (⟨rfl, (by decide +kernel)⟩) <|
  zq_nil
def zc_X9_isSheet : List (Nat × zq_It) := [(0, .inl (zq_il 1 0)), (1, .inl (zq_push 2 (.int 0))), (2, .inl (zq_push 3 (.int 3))), (3, .inr (.inl (3, .inl zn_X9_in))), (6, .inr (.inr 2))]
theorem zk_X9_isSheet : zq_oks zi_X9_isSheet zc_X9_isSheet := zq_cons (zq_s_iload_n (n := 0) (by decide +kernel) rfl) <|
  zq_cons (zq_s_iconst (n := 0) (by decide +kernel) (by decide +kernel)) <|
  zq_cons (zq_s_iconst (n := 3) (by decide +kernel) (by decide +kernel)) <|
  zq_cons (⟨zi_X9_in, rfl, zq_s_callS (n := 3) (index := 95) (by decide +kernel) zw_984 zw_985 zw_91 zw_986 (by decide +kernel) (by decide +kernel) ⟨rfl, rfl⟩⟩) <|
  zq_cons (⟨rfl, (by decide +kernel)⟩) <|
  zq_nil
def zc_X9_sheet_0 : List (Nat × zq_It) := [(0, .inl (zq_il 1 1)), (1, .inr (.inl (1, .inl zn_X9_isSheet))), (4, .inl (zq_if_eq 7 22)), (7, .inl (zq_il 8 2)), (8, .inl (zq_push 9 (.int 0))), (9, .inl (zq_push 10 (.int 2))), (10, .inr (.inl (3, .inl zn_X9_in))), (13, .inl (zq_if_eq 16 22)), (16, .inl (zq_il 17 3)), (17, .inl (zq_push 19 (.int 60))), (19, .inl (zq_ic_le 22 25)), (22, .inl (zq_push 24 (.int (-2)))), (24, .inr (.inr 1)), (25, .inl (zq_il 26 3)), (26, .inl (zq_if_ge 29 35)), (29, .inl (zq_al 30 0)), (30, .inl (zq_push 31 (.int 5))), (31, .inr (.inl (2, .inr [(8, zn_X9_meets)]))), (34, .inr (.inr 1)), (35, .inl (zq_al 36 0)), (36, .inl (zq_getf 39 [(8, 31)])), (39, .inl (zq_il 40 1)), (40, .inl (zq_push 41 (.int 1))), (41, .inl (zq_zast 42)), (42, .inl (zq_al 43 0)), (43, .inl (zq_getf 46 [(8, 32)])), (46, .inl (zq_il 47 1)), (47, .inl (zq_il 48 2)), (48, .inl (zq_iast 49)), (49, .inl (zq_al 50 0)), (50, .inl (zq_getf 53 [(8, 33)])), (53, .inl (zq_il 54 1)), (54, .inl (zq_il 55 3)), (55, .inl (zq_iast 56)), (56, .inl (zq_push 57 (.int 0))), (57, .inl (zq_is 59 4)), (59, .inl (zq_il 61 4)), (61, .inl (zq_push 63 (.int 60))), (63, .inl (zq_ic_ge 66 85)), (66, .inl (zq_al 67 0))]
theorem zk_X9_sheet_0 : zq_oks zi_X9_sheet zc_X9_sheet_0 := zq_cons (zq_s_iload_n (n := 1) (by decide +kernel) rfl) <|
  zq_cons (⟨zi_X9_isSheet, rfl, zq_s_callS (n := 1) (index := 156) (by decide +kernel) zw_1075 zw_1076 zw_91 zw_1077 (by decide +kernel) (by decide +kernel) ⟨rfl, rfl⟩⟩) <|
  zq_cons (zq_s_if_eq (off := 18) (by decide +kernel) (by decide)) <|
  zq_cons (zq_s_iload_n (n := 2) (by decide +kernel) rfl) <|
  zq_cons (zq_s_iconst (n := 0) (by decide +kernel) (by decide +kernel)) <|
  zq_cons (zq_s_iconst (n := 2) (by decide +kernel) (by decide +kernel)) <|
  zq_cons (⟨zi_X9_in, rfl, zq_s_callS (n := 3) (index := 95) (by decide +kernel) zw_984 zw_985 zw_91 zw_986 (by decide +kernel) (by decide +kernel) ⟨rfl, rfl⟩⟩) <|
  zq_cons (zq_s_if_eq (off := 9) (by decide +kernel) (by decide)) <|
  zq_cons (zq_s_iload_n (n := 3) (by decide +kernel) rfl) <|
  zq_cons (zq_s_bipush (n := 60) (by decide +kernel) (by decide +kernel)) <|
  zq_cons (zq_s_ic_le (off := 6) (by decide +kernel) (by decide)) <|
  zq_cons (zq_s_bipush (n := (-2)) (by decide +kernel) (by decide +kernel)) <|
  zq_cons (⟨rfl, (by decide +kernel)⟩) <|
  zq_cons (zq_s_iload_n (n := 3) (by decide +kernel) rfl) <|
  zq_cons (zq_s_if_ge (off := 9) (by decide +kernel) (by decide)) <|
  zq_cons (zq_s_aload_n (n := 0) (by decide +kernel) rfl) <|
  zq_cons (zq_s_iconst (n := 5) (by decide +kernel) (by decide +kernel)) <|
  zq_cons (List.forall_mem_cons.mpr ⟨⟨zi_X9_meets, rfl, zq_s_callV (n := 1) (index := 159) (by decide +kernel) rfl zw_1078 zw_1080 zw_34 zw_91 zw_1081 (by decide +kernel) (by decide +kernel) ⟨rfl, rfl⟩⟩, fun _ h => absurd h List.not_mem_nil⟩) <|
  zq_cons (⟨rfl, (by decide +kernel)⟩) <|
  zq_cons (zq_s_aload_n (n := 0) (by decide +kernel) rfl) <|
  zq_cons (zq_s_getf (index := 73) (by decide +kernel) zf_X9_73) <|
  zq_cons (zq_s_iload_n (n := 1) (by decide +kernel) rfl) <|
  zq_cons (zq_s_iconst (n := 1) (by decide +kernel) (by decide +kernel)) <|
  zq_cons (zq_s_zast (by decide +kernel)) <|
  zq_cons (zq_s_aload_n (n := 0) (by decide +kernel) rfl) <|
  zq_cons (zq_s_getf (index := 77) (by decide +kernel) zf_X9_77) <|
  zq_cons (zq_s_iload_n (n := 1) (by decide +kernel) rfl) <|
  zq_cons (zq_s_iload_n (n := 2) (by decide +kernel) rfl) <|
  zq_cons (zq_s_iast (by decide +kernel)) <|
  zq_cons (zq_s_aload_n (n := 0) (by decide +kernel) rfl) <|
  zq_cons (zq_s_getf (index := 80) (by decide +kernel) zf_X9_80) <|
  zq_cons (zq_s_iload_n (n := 1) (by decide +kernel) rfl) <|
  zq_cons (zq_s_iload_n (n := 3) (by decide +kernel) rfl) <|
  zq_cons (zq_s_iast (by decide +kernel)) <|
  zq_cons (zq_s_iconst (n := 0) (by decide +kernel) (by decide +kernel)) <|
  zq_cons (zq_s_istore (by decide +kernel) (by decide +kernel)) <|
  zq_cons (zq_s_iload (by decide +kernel)) <|
  zq_cons (zq_s_bipush (n := 60) (by decide +kernel) (by decide +kernel)) <|
  zq_cons (zq_s_ic_ge (off := 22) (by decide +kernel) (by decide)) <|
  zq_cons (zq_s_aload_n (n := 0) (by decide +kernel) rfl) <|
  zq_nil
def zc_X9_sheet_1 : List (Nat × zq_It) := [(67, .inl (zq_getf 70 [(8, 34)])), (70, .inl (zq_push 72 (.int 60))), (72, .inl (zq_il 73 1)), (73, .inl (zq_i2 74 (fun x y => x * y))), (74, .inl (zq_il 76 4)), (76, .inl (zq_i2 77 (fun x y => x + y))), (77, .inl (zq_push 78 (.int 0))), (78, .inl (zq_iast 79)), (79, .inl (zq_inc 82 4 1)), (82, .inl (zq_goto 59)), (85, .inl (zq_il 86 3)), (86, .inr (.inr 1))]
theorem zk_X9_sheet_1 : zq_oks zi_X9_sheet zc_X9_sheet_1 := zq_cons (zq_s_getf (index := 83) (by decide +kernel) zf_X9_83) <|
  zq_cons (zq_s_bipush (n := 60) (by decide +kernel) (by decide +kernel)) <|
  zq_cons (zq_s_iload_n (n := 1) (by decide +kernel) rfl) <|
  zq_cons (zq_s_imul (by decide +kernel)) <|
  zq_cons (zq_s_iload (by decide +kernel)) <|
  zq_cons (zq_s_iadd (by decide +kernel)) <|
  zq_cons (zq_s_iconst (n := 0) (by decide +kernel) (by decide +kernel)) <|
  zq_cons (zq_s_iast (by decide +kernel)) <|
  zq_cons (zq_s_iinc (n := 1) (by decide +kernel) (by decide +kernel) (by decide +kernel)) <|
  zq_cons (zq_s_goto (off := (-23)) (by decide +kernel) (by decide)) <|
  zq_cons (zq_s_iload_n (n := 3) (by decide +kernel) rfl) <|
  zq_cons (⟨rfl, (by decide +kernel)⟩) <|
  zq_nil
def zc_X9_sheet : List (Nat × zq_It) := zc_X9_sheet_0 ++ (zc_X9_sheet_1)
theorem zk_X9_sheet : zq_oks zi_X9_sheet zc_X9_sheet := zq_app zk_X9_sheet_0 (zk_X9_sheet_1)
def zc_X9_lose : List (Nat × zq_It) := [(0, .inl (zq_il 1 1)), (1, .inr (.inl (1, .inl zn_X9_isSheet))), (4, .inl (zq_if_ne 7 10)), (7, .inl (zq_push 9 (.int (-2)))), (9, .inr (.inr 1)), (10, .inl (zq_al 11 0)), (11, .inl (zq_getf 14 [(8, 31)])), (14, .inl (zq_il 15 1)), (15, .inl (zq_zald 16)), (16, .inl (zq_if_ne 19 25)), (19, .inl (zq_al 20 0)), (20, .inl (zq_push 21 (.int 1))), (21, .inr (.inl (2, .inr [(8, zn_X9_meets)]))), (24, .inr (.inr 1)), (25, .inl (zq_al 26 0)), (26, .inl (zq_getf 29 [(8, 31)])), (29, .inl (zq_il 30 1)), (30, .inl (zq_push 31 (.int 0))), (31, .inl (zq_zast 32)), (32, .inl (zq_al 33 0)), (33, .inl (zq_getf 36 [(8, 33)])), (36, .inl (zq_il 37 1)), (37, .inl (zq_iald 38)), (38, .inr (.inr 1))]
theorem zk_X9_lose : zq_oks zi_X9_lose zc_X9_lose := zq_cons (zq_s_iload_n (n := 1) (by decide +kernel) rfl) <|
  zq_cons (⟨zi_X9_isSheet, rfl, zq_s_callS (n := 1) (index := 156) (by decide +kernel) zw_1075 zw_1076 zw_91 zw_1077 (by decide +kernel) (by decide +kernel) ⟨rfl, rfl⟩⟩) <|
  zq_cons (zq_s_if_ne (off := 6) (by decide +kernel) (by decide)) <|
  zq_cons (zq_s_bipush (n := (-2)) (by decide +kernel) (by decide +kernel)) <|
  zq_cons (⟨rfl, (by decide +kernel)⟩) <|
  zq_cons (zq_s_aload_n (n := 0) (by decide +kernel) rfl) <|
  zq_cons (zq_s_getf (index := 73) (by decide +kernel) zf_X9_73) <|
  zq_cons (zq_s_iload_n (n := 1) (by decide +kernel) rfl) <|
  zq_cons (zq_s_zald (by decide +kernel)) <|
  zq_cons (zq_s_if_ne (off := 9) (by decide +kernel) (by decide)) <|
  zq_cons (zq_s_aload_n (n := 0) (by decide +kernel) rfl) <|
  zq_cons (zq_s_iconst (n := 1) (by decide +kernel) (by decide +kernel)) <|
  zq_cons (List.forall_mem_cons.mpr ⟨⟨zi_X9_meets, rfl, zq_s_callV (n := 1) (index := 159) (by decide +kernel) rfl zw_1078 zw_1080 zw_34 zw_91 zw_1081 (by decide +kernel) (by decide +kernel) ⟨rfl, rfl⟩⟩, fun _ h => absurd h List.not_mem_nil⟩) <|
  zq_cons (⟨rfl, (by decide +kernel)⟩) <|
  zq_cons (zq_s_aload_n (n := 0) (by decide +kernel) rfl) <|
  zq_cons (zq_s_getf (index := 73) (by decide +kernel) zf_X9_73) <|
  zq_cons (zq_s_iload_n (n := 1) (by decide +kernel) rfl) <|
  zq_cons (zq_s_iconst (n := 0) (by decide +kernel) (by decide +kernel)) <|
  zq_cons (zq_s_zast (by decide +kernel)) <|
  zq_cons (zq_s_aload_n (n := 0) (by decide +kernel) rfl) <|
  zq_cons (zq_s_getf (index := 80) (by decide +kernel) zf_X9_80) <|
  zq_cons (zq_s_iload_n (n := 1) (by decide +kernel) rfl) <|
  zq_cons (zq_s_iald (by decide +kernel)) <|
  zq_cons (⟨rfl, (by decide +kernel)⟩) <|
  zq_nil
def zc_X9_lacks : List (Nat × zq_It) := [(0, .inl (zq_al 1 0)), (1, .inl (zq_getf 4 [(8, 31)])), (4, .inl (zq_il 5 1)), (5, .inl (zq_zald 6)), (6, .inl (zq_if_ne 9 13)), (9, .inl (zq_push 10 (.int 1))), (10, .inl (zq_goto 48)), (13, .inl (zq_al 14 0)), (14, .inl (zq_getf 17 [(8, 32)])), (17, .inl (zq_il 18 1)), (18, .inl (zq_iald 19)), (19, .inl (zq_il 20 2)), (20, .inl (zq_ic_eq 23 27)), (23, .inl (zq_push 24 (.int 3))), (24, .inl (zq_goto 48)), (27, .inl (zq_il 28 3)), (28, .inl (zq_push 29 (.int 0))), (29, .inl (zq_al 30 0)), (30, .inl (zq_getf 33 [(8, 33)])), (33, .inl (zq_il 34 1)), (34, .inl (zq_iald 35)), (35, .inl (zq_push 36 (.int 1))), (36, .inl (zq_i2 37 (fun x y => x - y))), (37, .inr (.inl (3, .inl zn_X9_in))), (40, .inl (zq_if_eq 43 47)), (43, .inl (zq_push 44 (.int 0))), (44, .inl (zq_goto 48)), (47, .inl (zq_push 48 (.int 2))), (48, .inr (.inr 1))]
theorem zk_X9_lacks : zq_oks zi_X9_lacks zc_X9_lacks := zq_cons (zq_s_aload_n (n := 0) (by decide +kernel) rfl) <|
  zq_cons (zq_s_getf (index := 73) (by decide +kernel) zf_X9_73) <|
  zq_cons (zq_s_iload_n (n := 1) (by decide +kernel) rfl) <|
  zq_cons (zq_s_zald (by decide +kernel)) <|
  zq_cons (zq_s_if_ne (off := 7) (by decide +kernel) (by decide)) <|
  zq_cons (zq_s_iconst (n := 1) (by decide +kernel) (by decide +kernel)) <|
  zq_cons (zq_s_goto (off := 38) (by decide +kernel) (by decide)) <|
  zq_cons (zq_s_aload_n (n := 0) (by decide +kernel) rfl) <|
  zq_cons (zq_s_getf (index := 77) (by decide +kernel) zf_X9_77) <|
  zq_cons (zq_s_iload_n (n := 1) (by decide +kernel) rfl) <|
  zq_cons (zq_s_iald (by decide +kernel)) <|
  zq_cons (zq_s_iload_n (n := 2) (by decide +kernel) rfl) <|
  zq_cons (zq_s_ic_eq (off := 7) (by decide +kernel) (by decide)) <|
  zq_cons (zq_s_iconst (n := 3) (by decide +kernel) (by decide +kernel)) <|
  zq_cons (zq_s_goto (off := 24) (by decide +kernel) (by decide)) <|
  zq_cons (zq_s_iload_n (n := 3) (by decide +kernel) rfl) <|
  zq_cons (zq_s_iconst (n := 0) (by decide +kernel) (by decide +kernel)) <|
  zq_cons (zq_s_aload_n (n := 0) (by decide +kernel) rfl) <|
  zq_cons (zq_s_getf (index := 80) (by decide +kernel) zf_X9_80) <|
  zq_cons (zq_s_iload_n (n := 1) (by decide +kernel) rfl) <|
  zq_cons (zq_s_iald (by decide +kernel)) <|
  zq_cons (zq_s_iconst (n := 1) (by decide +kernel) (by decide +kernel)) <|
  zq_cons (zq_s_isub (by decide +kernel)) <|
  zq_cons (⟨zi_X9_in, rfl, zq_s_callS (n := 3) (index := 95) (by decide +kernel) zw_984 zw_985 zw_91 zw_986 (by decide +kernel) (by decide +kernel) ⟨rfl, rfl⟩⟩) <|
  zq_cons (zq_s_if_eq (off := 7) (by decide +kernel) (by decide)) <|
  zq_cons (zq_s_iconst (n := 0) (by decide +kernel) (by decide +kernel)) <|
  zq_cons (zq_s_goto (off := 4) (by decide +kernel) (by decide)) <|
  zq_cons (zq_s_iconst (n := 2) (by decide +kernel) (by decide +kernel)) <|
  zq_cons (⟨rfl, (by decide +kernel)⟩) <|
  zq_nil
def zc_X9_keep : List (Nat × zq_It) := [(0, .inl (zq_al 1 0)), (1, .inl (zq_getf 4 [(8, 34)])), (4, .inl (zq_push 6 (.int 60))), (6, .inl (zq_il 7 1)), (7, .inl (zq_i2 8 (fun x y => x * y))), (8, .inl (zq_il 9 2)), (9, .inl (zq_i2 10 (fun x y => x + y))), (10, .inl (zq_al 11 0)), (11, .inl (zq_getf 14 [(8, 32)])), (14, .inl (zq_il 15 1)), (15, .inl (zq_iald 16)), (16, .inl (zq_if_ne 19 24)), (19, .inl (zq_il 20 3)), (20, .inl (zq_i1 21 (fun x => x.toInt8.toInt32))), (21, .inl (zq_goto 40)), (24, .inl (zq_al 25 0)), (25, .inl (zq_getf 28 [(8, 32)])), (28, .inl (zq_il 29 1)), (29, .inl (zq_iald 30)), (30, .inl (zq_push 31 (.int 1))), (31, .inl (zq_ic_ne 34 39)), (34, .inl (zq_il 35 3)), (35, .inl (zq_i1 36 (fun x => x.toInt16.toInt32))), (36, .inl (zq_goto 40)), (39, .inl (zq_il 40 3)), (40, .inl (zq_iast 41)), (41, .inr (.inr 0))]
theorem zk_X9_keep : zq_oks zi_X9_keep zc_X9_keep := zq_cons (zq_s_aload_n (n := 0) (by decide +kernel) rfl) <|
  zq_cons (zq_s_getf (index := 83) (by decide +kernel) zf_X9_83) <|
  zq_cons (zq_s_bipush (n := 60) (by decide +kernel) (by decide +kernel)) <|
  zq_cons (zq_s_iload_n (n := 1) (by decide +kernel) rfl) <|
  zq_cons (zq_s_imul (by decide +kernel)) <|
  zq_cons (zq_s_iload_n (n := 2) (by decide +kernel) rfl) <|
  zq_cons (zq_s_iadd (by decide +kernel)) <|
  zq_cons (zq_s_aload_n (n := 0) (by decide +kernel) rfl) <|
  zq_cons (zq_s_getf (index := 77) (by decide +kernel) zf_X9_77) <|
  zq_cons (zq_s_iload_n (n := 1) (by decide +kernel) rfl) <|
  zq_cons (zq_s_iald (by decide +kernel)) <|
  zq_cons (zq_s_if_ne (off := 8) (by decide +kernel) (by decide)) <|
  zq_cons (zq_s_iload_n (n := 3) (by decide +kernel) rfl) <|
  zq_cons (zq_s_i2b (by decide +kernel)) <|
  zq_cons (zq_s_goto (off := 19) (by decide +kernel) (by decide)) <|
  zq_cons (zq_s_aload_n (n := 0) (by decide +kernel) rfl) <|
  zq_cons (zq_s_getf (index := 77) (by decide +kernel) zf_X9_77) <|
  zq_cons (zq_s_iload_n (n := 1) (by decide +kernel) rfl) <|
  zq_cons (zq_s_iald (by decide +kernel)) <|
  zq_cons (zq_s_iconst (n := 1) (by decide +kernel) (by decide +kernel)) <|
  zq_cons (zq_s_ic_ne (off := 8) (by decide +kernel) (by decide)) <|
  zq_cons (zq_s_iload_n (n := 3) (by decide +kernel) rfl) <|
  zq_cons (zq_s_i2s (by decide +kernel)) <|
  zq_cons (zq_s_goto (off := 4) (by decide +kernel) (by decide)) <|
  zq_cons (zq_s_iload_n (n := 3) (by decide +kernel) rfl) <|
  zq_cons (zq_s_iast (by decide +kernel)) <|
  zq_cons (⟨rfl, (by decide +kernel)⟩) <|
  zq_nil
def zc_X9_put : List (Nat × zq_It) := [(0, .inl (zq_il 1 1)), (1, .inr (.inl (1, .inl zn_X9_isSheet))), (4, .inl (zq_if_eq 7 16)), (7, .inl (zq_il 8 2)), (8, .inl (zq_push 9 (.int 0))), (9, .inl (zq_push 10 (.int 2))), (10, .inr (.inl (3, .inl zn_X9_in))), (13, .inl (zq_if_ne 16 19)), (16, .inl (zq_push 18 (.int (-2)))), (18, .inr (.inr 1)), (19, .inl (zq_al 20 0)), (20, .inl (zq_il 21 1)), (21, .inl (zq_il 22 2)), (22, .inl (zq_il 23 3)), (23, .inr (.inl (4, .inr [(8, zn_X9_lacks)]))), (26, .inl (zq_is 28 5)), (28, .inl (zq_il 30 5)), (30, .inl (zq_if_le 33 40)), (33, .inl (zq_al 34 0)), (34, .inl (zq_il 36 5)), (36, .inr (.inl (2, .inr [(8, zn_X9_meets)]))), (39, .inr (.inr 1)), (40, .inl (zq_al 41 0)), (41, .inl (zq_il 42 1)), (42, .inl (zq_il 43 3)), (43, .inl (zq_il 45 4)), (45, .inr (.inl (4, .inr [(8, zn_X9_keep)]))), (48, .inl (zq_push 49 (.int 1))), (49, .inr (.inr 1))]
theorem zk_X9_put : zq_oks zi_X9_put zc_X9_put := zq_cons (zq_s_iload_n (n := 1) (by decide +kernel) rfl) <|
  zq_cons (⟨zi_X9_isSheet, rfl, zq_s_callS (n := 1) (index := 156) (by decide +kernel) zw_1075 zw_1076 zw_91 zw_1077 (by decide +kernel) (by decide +kernel) ⟨rfl, rfl⟩⟩) <|
  zq_cons (zq_s_if_eq (off := 12) (by decide +kernel) (by decide)) <|
  zq_cons (zq_s_iload_n (n := 2) (by decide +kernel) rfl) <|
  zq_cons (zq_s_iconst (n := 0) (by decide +kernel) (by decide +kernel)) <|
  zq_cons (zq_s_iconst (n := 2) (by decide +kernel) (by decide +kernel)) <|
  zq_cons (⟨zi_X9_in, rfl, zq_s_callS (n := 3) (index := 95) (by decide +kernel) zw_984 zw_985 zw_91 zw_986 (by decide +kernel) (by decide +kernel) ⟨rfl, rfl⟩⟩) <|
  zq_cons (zq_s_if_ne (off := 6) (by decide +kernel) (by decide)) <|
  zq_cons (zq_s_bipush (n := (-2)) (by decide +kernel) (by decide +kernel)) <|
  zq_cons (⟨rfl, (by decide +kernel)⟩) <|
  zq_cons (zq_s_aload_n (n := 0) (by decide +kernel) rfl) <|
  zq_cons (zq_s_iload_n (n := 1) (by decide +kernel) rfl) <|
  zq_cons (zq_s_iload_n (n := 2) (by decide +kernel) rfl) <|
  zq_cons (zq_s_iload_n (n := 3) (by decide +kernel) rfl) <|
  zq_cons (List.forall_mem_cons.mpr ⟨⟨zi_X9_lacks, rfl, zq_s_callV (n := 3) (index := 323) (by decide +kernel) rfl zw_1338 zw_1340 zw_74 zw_91 zw_1341 (by decide +kernel) (by decide +kernel) ⟨rfl, rfl⟩⟩, fun _ h => absurd h List.not_mem_nil⟩) <|
  zq_cons (zq_s_istore (by decide +kernel) (by decide +kernel)) <|
  zq_cons (zq_s_iload (by decide +kernel)) <|
  zq_cons (zq_s_if_le (off := 10) (by decide +kernel) (by decide)) <|
  zq_cons (zq_s_aload_n (n := 0) (by decide +kernel) rfl) <|
  zq_cons (zq_s_iload (by decide +kernel)) <|
  zq_cons (List.forall_mem_cons.mpr ⟨⟨zi_X9_meets, rfl, zq_s_callV (n := 1) (index := 159) (by decide +kernel) rfl zw_1078 zw_1080 zw_34 zw_91 zw_1081 (by decide +kernel) (by decide +kernel) ⟨rfl, rfl⟩⟩, fun _ h => absurd h List.not_mem_nil⟩) <|
  zq_cons (⟨rfl, (by decide +kernel)⟩) <|
  zq_cons (zq_s_aload_n (n := 0) (by decide +kernel) rfl) <|
  zq_cons (zq_s_iload_n (n := 1) (by decide +kernel) rfl) <|
  zq_cons (zq_s_iload_n (n := 3) (by decide +kernel) rfl) <|
  zq_cons (zq_s_iload (by decide +kernel)) <|
  zq_cons (List.forall_mem_cons.mpr ⟨⟨zi_X9_keep, rfl, zq_s_callV (n := 3) (index := 326) (by decide +kernel) rfl zw_1342 zw_1344 zw_75 zw_91 zw_1345 (by decide +kernel) (by decide +kernel) ⟨rfl, rfl⟩⟩, fun _ h => absurd h List.not_mem_nil⟩) <|
  zq_cons (zq_s_iconst (n := 1) (by decide +kernel) (by decide +kernel)) <|
  zq_cons (⟨rfl, (by decide +kernel)⟩) <|
  zq_nil
def zc_X9_get : List (Nat × zq_It) := [(0, .inl (zq_il 1 1)), (1, .inr (.inl (1, .inl zn_X9_isSheet))), (4, .inl (zq_if_eq 7 16)), (7, .inl (zq_il 8 2)), (8, .inl (zq_push 9 (.int 0))), (9, .inl (zq_push 10 (.int 2))), (10, .inr (.inl (3, .inl zn_X9_in))), (13, .inl (zq_if_ne 16 20)), (16, .inl (zq_push 19 (.int (-2147483648)))), (19, .inr (.inr 1)), (20, .inl (zq_al 21 0)), (21, .inl (zq_il 22 1)), (22, .inl (zq_il 23 2)), (23, .inl (zq_il 24 3)), (24, .inr (.inl (4, .inr [(8, zn_X9_lacks)]))), (27, .inl (zq_is 29 4)), (29, .inl (zq_il 31 4)), (31, .inl (zq_if_le 34 44)), (34, .inl (zq_al 35 0)), (35, .inl (zq_il 37 4)), (37, .inl (zq_puti 40 false [(8, 36)])), (40, .inl (zq_push 43 (.int (-2147483648)))), (43, .inr (.inr 1)), (44, .inl (zq_al 45 0)), (45, .inl (zq_getf 48 [(8, 34)])), (48, .inl (zq_push 50 (.int 60))), (50, .inl (zq_il 51 1)), (51, .inl (zq_i2 52 (fun x y => x * y))), (52, .inl (zq_il 53 3)), (53, .inl (zq_i2 54 (fun x y => x + y))), (54, .inl (zq_iald 55)), (55, .inr (.inr 1))]
theorem zk_X9_get : zq_oks zi_X9_get zc_X9_get := zq_cons (zq_s_iload_n (n := 1) (by decide +kernel) rfl) <|
  zq_cons (⟨zi_X9_isSheet, rfl, zq_s_callS (n := 1) (index := 156) (by decide +kernel) zw_1075 zw_1076 zw_91 zw_1077 (by decide +kernel) (by decide +kernel) ⟨rfl, rfl⟩⟩) <|
  zq_cons (zq_s_if_eq (off := 12) (by decide +kernel) (by decide)) <|
  zq_cons (zq_s_iload_n (n := 2) (by decide +kernel) rfl) <|
  zq_cons (zq_s_iconst (n := 0) (by decide +kernel) (by decide +kernel)) <|
  zq_cons (zq_s_iconst (n := 2) (by decide +kernel) (by decide +kernel)) <|
  zq_cons (⟨zi_X9_in, rfl, zq_s_callS (n := 3) (index := 95) (by decide +kernel) zw_984 zw_985 zw_91 zw_986 (by decide +kernel) (by decide +kernel) ⟨rfl, rfl⟩⟩) <|
  zq_cons (zq_s_if_ne (off := 7) (by decide +kernel) (by decide)) <|
  zq_cons (zq_s_ldcw (index := 330) (by decide +kernel) zw_1350) <|
  zq_cons (⟨rfl, (by decide +kernel)⟩) <|
  zq_cons (zq_s_aload_n (n := 0) (by decide +kernel) rfl) <|
  zq_cons (zq_s_iload_n (n := 1) (by decide +kernel) rfl) <|
  zq_cons (zq_s_iload_n (n := 2) (by decide +kernel) rfl) <|
  zq_cons (zq_s_iload_n (n := 3) (by decide +kernel) rfl) <|
  zq_cons (List.forall_mem_cons.mpr ⟨⟨zi_X9_lacks, rfl, zq_s_callV (n := 3) (index := 323) (by decide +kernel) rfl zw_1338 zw_1340 zw_74 zw_91 zw_1341 (by decide +kernel) (by decide +kernel) ⟨rfl, rfl⟩⟩, fun _ h => absurd h List.not_mem_nil⟩) <|
  zq_cons (zq_s_istore (by decide +kernel) (by decide +kernel)) <|
  zq_cons (zq_s_iload (by decide +kernel)) <|
  zq_cons (zq_s_if_le (off := 13) (by decide +kernel) (by decide)) <|
  zq_cons (zq_s_aload_n (n := 0) (by decide +kernel) rfl) <|
  zq_cons (zq_s_iload (by decide +kernel)) <|
  zq_cons (zq_s_puti (index := 320) (by decide +kernel) zp_X9_320 (fun _ _ => ⟨rfl, rfl⟩)) <|
  zq_cons (zq_s_ldcw (index := 330) (by decide +kernel) zw_1350) <|
  zq_cons (⟨rfl, (by decide +kernel)⟩) <|
  zq_cons (zq_s_aload_n (n := 0) (by decide +kernel) rfl) <|
  zq_cons (zq_s_getf (index := 83) (by decide +kernel) zf_X9_83) <|
  zq_cons (zq_s_bipush (n := 60) (by decide +kernel) (by decide +kernel)) <|
  zq_cons (zq_s_iload_n (n := 1) (by decide +kernel) rfl) <|
  zq_cons (zq_s_imul (by decide +kernel)) <|
  zq_cons (zq_s_iload_n (n := 3) (by decide +kernel) rfl) <|
  zq_cons (zq_s_iadd (by decide +kernel)) <|
  zq_cons (zq_s_iald (by decide +kernel)) <|
  zq_cons (⟨rfl, (by decide +kernel)⟩) <|
  zq_nil
def zc_X9_copy_0 : List (Nat × zq_It) := [(0, .inl (zq_il 1 1)), (1, .inr (.inl (1, .inl zn_X9_isSheet))), (4, .inl (zq_if_eq 7 14)), (7, .inl (zq_il 8 3)), (8, .inr (.inl (1, .inl zn_X9_isSheet))), (11, .inl (zq_if_ne 14 17)), (14, .inl (zq_push 16 (.int (-2)))), (16, .inr (.inr 1)), (17, .inl (zq_al 18 0)), (18, .inl (zq_getf 21 [(8, 31)])), (21, .inl (zq_il 22 1)), (22, .inl (zq_zald 23)), (23, .inl (zq_if_eq 26 35)), (26, .inl (zq_al 27 0)), (27, .inl (zq_getf 30 [(8, 31)])), (30, .inl (zq_il 31 3)), (31, .inl (zq_zald 32)), (32, .inl (zq_if_ne 35 41)), (35, .inl (zq_al 36 0)), (36, .inl (zq_push 37 (.int 1))), (37, .inr (.inl (2, .inr [(8, zn_X9_meets)]))), (40, .inr (.inr 1)), (41, .inl (zq_al 42 0)), (42, .inl (zq_getf 45 [(8, 32)])), (45, .inl (zq_il 46 1)), (46, .inl (zq_iald 47)), (47, .inl (zq_al 48 0)), (48, .inl (zq_getf 51 [(8, 32)])), (51, .inl (zq_il 52 3)), (52, .inl (zq_iald 53)), (53, .inl (zq_ic_eq 56 62)), (56, .inl (zq_al 57 0)), (57, .inl (zq_push 58 (.int 4))), (58, .inr (.inl (2, .inr [(8, zn_X9_meets)]))), (61, .inr (.inr 1)), (62, .inl (zq_il 63 2)), (63, .inl (zq_if_lt 66 111)), (66, .inl (zq_il 68 4)), (68, .inl (zq_if_lt 71 111)), (71, .inl (zq_il 73 5))]
theorem zk_X9_copy_0 : zq_oks zi_X9_copy zc_X9_copy_0 := zq_cons (zq_s_iload_n (n := 1) (by decide +kernel) rfl) <|
  zq_cons (⟨zi_X9_isSheet, rfl, zq_s_callS (n := 1) (index := 156) (by decide +kernel) zw_1075 zw_1076 zw_91 zw_1077 (by decide +kernel) (by decide +kernel) ⟨rfl, rfl⟩⟩) <|
  zq_cons (zq_s_if_eq (off := 10) (by decide +kernel) (by decide)) <|
  zq_cons (zq_s_iload_n (n := 3) (by decide +kernel) rfl) <|
  zq_cons (⟨zi_X9_isSheet, rfl, zq_s_callS (n := 1) (index := 156) (by decide +kernel) zw_1075 zw_1076 zw_91 zw_1077 (by decide +kernel) (by decide +kernel) ⟨rfl, rfl⟩⟩) <|
  zq_cons (zq_s_if_ne (off := 6) (by decide +kernel) (by decide)) <|
  zq_cons (zq_s_bipush (n := (-2)) (by decide +kernel) (by decide +kernel)) <|
  zq_cons (⟨rfl, (by decide +kernel)⟩) <|
  zq_cons (zq_s_aload_n (n := 0) (by decide +kernel) rfl) <|
  zq_cons (zq_s_getf (index := 73) (by decide +kernel) zf_X9_73) <|
  zq_cons (zq_s_iload_n (n := 1) (by decide +kernel) rfl) <|
  zq_cons (zq_s_zald (by decide +kernel)) <|
  zq_cons (zq_s_if_eq (off := 12) (by decide +kernel) (by decide)) <|
  zq_cons (zq_s_aload_n (n := 0) (by decide +kernel) rfl) <|
  zq_cons (zq_s_getf (index := 73) (by decide +kernel) zf_X9_73) <|
  zq_cons (zq_s_iload_n (n := 3) (by decide +kernel) rfl) <|
  zq_cons (zq_s_zald (by decide +kernel)) <|
  zq_cons (zq_s_if_ne (off := 9) (by decide +kernel) (by decide)) <|
  zq_cons (zq_s_aload_n (n := 0) (by decide +kernel) rfl) <|
  zq_cons (zq_s_iconst (n := 1) (by decide +kernel) (by decide +kernel)) <|
  zq_cons (List.forall_mem_cons.mpr ⟨⟨zi_X9_meets, rfl, zq_s_callV (n := 1) (index := 159) (by decide +kernel) rfl zw_1078 zw_1080 zw_34 zw_91 zw_1081 (by decide +kernel) (by decide +kernel) ⟨rfl, rfl⟩⟩, fun _ h => absurd h List.not_mem_nil⟩) <|
  zq_cons (⟨rfl, (by decide +kernel)⟩) <|
  zq_cons (zq_s_aload_n (n := 0) (by decide +kernel) rfl) <|
  zq_cons (zq_s_getf (index := 77) (by decide +kernel) zf_X9_77) <|
  zq_cons (zq_s_iload_n (n := 1) (by decide +kernel) rfl) <|
  zq_cons (zq_s_iald (by decide +kernel)) <|
  zq_cons (zq_s_aload_n (n := 0) (by decide +kernel) rfl) <|
  zq_cons (zq_s_getf (index := 77) (by decide +kernel) zf_X9_77) <|
  zq_cons (zq_s_iload_n (n := 3) (by decide +kernel) rfl) <|
  zq_cons (zq_s_iald (by decide +kernel)) <|
  zq_cons (zq_s_ic_eq (off := 9) (by decide +kernel) (by decide)) <|
  zq_cons (zq_s_aload_n (n := 0) (by decide +kernel) rfl) <|
  zq_cons (zq_s_iconst (n := 4) (by decide +kernel) (by decide +kernel)) <|
  zq_cons (List.forall_mem_cons.mpr ⟨⟨zi_X9_meets, rfl, zq_s_callV (n := 1) (index := 159) (by decide +kernel) rfl zw_1078 zw_1080 zw_34 zw_91 zw_1081 (by decide +kernel) (by decide +kernel) ⟨rfl, rfl⟩⟩, fun _ h => absurd h List.not_mem_nil⟩) <|
  zq_cons (⟨rfl, (by decide +kernel)⟩) <|
  zq_cons (zq_s_iload_n (n := 2) (by decide +kernel) rfl) <|
  zq_cons (zq_s_if_lt (off := 48) (by decide +kernel) (by decide)) <|
  zq_cons (zq_s_iload (by decide +kernel)) <|
  zq_cons (zq_s_if_lt (off := 43) (by decide +kernel) (by decide)) <|
  zq_cons (zq_s_iload (by decide +kernel)) <|
  zq_nil
def zc_X9_copy_1 : List (Nat × zq_It) := [(73, .inl (zq_if_lt 76 111)), (76, .inl (zq_il 77 2)), (77, .inl (zq_i2l 78)), (78, .inl (zq_il 80 5)), (80, .inl (zq_i2l 81)), (81, .inl (zq_l2 82 (fun x y => x + y))), (82, .inl (zq_al 83 0)), (83, .inl (zq_getf 86 [(8, 33)])), (86, .inl (zq_il 87 1)), (87, .inl (zq_iald 88)), (88, .inl (zq_i2l 89)), (89, .inl (zq_lcmp 90)), (90, .inl (zq_if_gt 93 111)), (93, .inl (zq_il 95 4)), (95, .inl (zq_i2l 96)), (96, .inl (zq_il 98 5)), (98, .inl (zq_i2l 99)), (99, .inl (zq_l2 100 (fun x y => x + y))), (100, .inl (zq_al 101 0)), (101, .inl (zq_getf 104 [(8, 33)])), (104, .inl (zq_il 105 3)), (105, .inl (zq_iald 106)), (106, .inl (zq_i2l 107)), (107, .inl (zq_lcmp 108)), (108, .inl (zq_if_le 111 117)), (111, .inl (zq_al 112 0)), (112, .inl (zq_push 113 (.int 2))), (113, .inr (.inl (2, .inr [(8, zn_X9_meets)]))), (116, .inr (.inr 1)), (117, .inl (zq_push 118 (.int 0))), (118, .inl (zq_is 120 6)), (120, .inl (zq_il 122 6)), (122, .inl (zq_il 124 5)), (124, .inl (zq_ic_ge 127 154)), (127, .inl (zq_al 128 0)), (128, .inl (zq_getf 131 [(8, 35)])), (131, .inl (zq_il 133 6)), (133, .inl (zq_al 134 0)), (134, .inl (zq_getf 137 [(8, 34)])), (137, .inl (zq_push 139 (.int 60)))]
theorem zk_X9_copy_1 : zq_oks zi_X9_copy zc_X9_copy_1 := zq_cons (zq_s_if_lt (off := 38) (by decide +kernel) (by decide)) <|
  zq_cons (zq_s_iload_n (n := 2) (by decide +kernel) rfl) <|
  zq_cons (zq_s_i2l (by decide +kernel)) <|
  zq_cons (zq_s_iload (by decide +kernel)) <|
  zq_cons (zq_s_i2l (by decide +kernel)) <|
  zq_cons (zq_s_ladd (by decide +kernel)) <|
  zq_cons (zq_s_aload_n (n := 0) (by decide +kernel) rfl) <|
  zq_cons (zq_s_getf (index := 80) (by decide +kernel) zf_X9_80) <|
  zq_cons (zq_s_iload_n (n := 1) (by decide +kernel) rfl) <|
  zq_cons (zq_s_iald (by decide +kernel)) <|
  zq_cons (zq_s_i2l (by decide +kernel)) <|
  zq_cons (zq_s_lcmp (by decide +kernel)) <|
  zq_cons (zq_s_if_gt (off := 21) (by decide +kernel) (by decide)) <|
  zq_cons (zq_s_iload (by decide +kernel)) <|
  zq_cons (zq_s_i2l (by decide +kernel)) <|
  zq_cons (zq_s_iload (by decide +kernel)) <|
  zq_cons (zq_s_i2l (by decide +kernel)) <|
  zq_cons (zq_s_ladd (by decide +kernel)) <|
  zq_cons (zq_s_aload_n (n := 0) (by decide +kernel) rfl) <|
  zq_cons (zq_s_getf (index := 80) (by decide +kernel) zf_X9_80) <|
  zq_cons (zq_s_iload_n (n := 3) (by decide +kernel) rfl) <|
  zq_cons (zq_s_iald (by decide +kernel)) <|
  zq_cons (zq_s_i2l (by decide +kernel)) <|
  zq_cons (zq_s_lcmp (by decide +kernel)) <|
  zq_cons (zq_s_if_le (off := 9) (by decide +kernel) (by decide)) <|
  zq_cons (zq_s_aload_n (n := 0) (by decide +kernel) rfl) <|
  zq_cons (zq_s_iconst (n := 2) (by decide +kernel) (by decide +kernel)) <|
  zq_cons (List.forall_mem_cons.mpr ⟨⟨zi_X9_meets, rfl, zq_s_callV (n := 1) (index := 159) (by decide +kernel) rfl zw_1078 zw_1080 zw_34 zw_91 zw_1081 (by decide +kernel) (by decide +kernel) ⟨rfl, rfl⟩⟩, fun _ h => absurd h List.not_mem_nil⟩) <|
  zq_cons (⟨rfl, (by decide +kernel)⟩) <|
  zq_cons (zq_s_iconst (n := 0) (by decide +kernel) (by decide +kernel)) <|
  zq_cons (zq_s_istore (by decide +kernel) (by decide +kernel)) <|
  zq_cons (zq_s_iload (by decide +kernel)) <|
  zq_cons (zq_s_iload (by decide +kernel)) <|
  zq_cons (zq_s_ic_ge (off := 30) (by decide +kernel) (by decide)) <|
  zq_cons (zq_s_aload_n (n := 0) (by decide +kernel) rfl) <|
  zq_cons (zq_s_getf (index := 86) (by decide +kernel) zf_X9_86) <|
  zq_cons (zq_s_iload (by decide +kernel)) <|
  zq_cons (zq_s_aload_n (n := 0) (by decide +kernel) rfl) <|
  zq_cons (zq_s_getf (index := 83) (by decide +kernel) zf_X9_83) <|
  zq_cons (zq_s_bipush (n := 60) (by decide +kernel) (by decide +kernel)) <|
  zq_nil
def zc_X9_copy_2 : List (Nat × zq_It) := [(139, .inl (zq_il 140 1)), (140, .inl (zq_i2 141 (fun x y => x * y))), (141, .inl (zq_il 142 2)), (142, .inl (zq_i2 143 (fun x y => x + y))), (143, .inl (zq_il 145 6)), (145, .inl (zq_i2 146 (fun x y => x + y))), (146, .inl (zq_iald 147)), (147, .inl (zq_iast 148)), (148, .inl (zq_inc 151 6 1)), (151, .inl (zq_goto 120)), (154, .inl (zq_push 155 (.int 0))), (155, .inl (zq_is 157 6)), (157, .inl (zq_il 159 6)), (159, .inl (zq_il 161 5)), (161, .inl (zq_ic_ge 164 192)), (164, .inl (zq_al 165 0)), (165, .inl (zq_getf 168 [(8, 34)])), (168, .inl (zq_push 170 (.int 60))), (170, .inl (zq_il 171 3)), (171, .inl (zq_i2 172 (fun x y => x * y))), (172, .inl (zq_il 174 4)), (174, .inl (zq_i2 175 (fun x y => x + y))), (175, .inl (zq_il 177 6)), (177, .inl (zq_i2 178 (fun x y => x + y))), (178, .inl (zq_al 179 0)), (179, .inl (zq_getf 182 [(8, 35)])), (182, .inl (zq_il 184 6)), (184, .inl (zq_iald 185)), (185, .inl (zq_iast 186)), (186, .inl (zq_inc 189 6 1)), (189, .inl (zq_goto 157)), (192, .inl (zq_push 193 (.int 1))), (193, .inr (.inr 1))]
theorem zk_X9_copy_2 : zq_oks zi_X9_copy zc_X9_copy_2 := zq_cons (zq_s_iload_n (n := 1) (by decide +kernel) rfl) <|
  zq_cons (zq_s_imul (by decide +kernel)) <|
  zq_cons (zq_s_iload_n (n := 2) (by decide +kernel) rfl) <|
  zq_cons (zq_s_iadd (by decide +kernel)) <|
  zq_cons (zq_s_iload (by decide +kernel)) <|
  zq_cons (zq_s_iadd (by decide +kernel)) <|
  zq_cons (zq_s_iald (by decide +kernel)) <|
  zq_cons (zq_s_iast (by decide +kernel)) <|
  zq_cons (zq_s_iinc (n := 1) (by decide +kernel) (by decide +kernel) (by decide +kernel)) <|
  zq_cons (zq_s_goto (off := (-31)) (by decide +kernel) (by decide)) <|
  zq_cons (zq_s_iconst (n := 0) (by decide +kernel) (by decide +kernel)) <|
  zq_cons (zq_s_istore (by decide +kernel) (by decide +kernel)) <|
  zq_cons (zq_s_iload (by decide +kernel)) <|
  zq_cons (zq_s_iload (by decide +kernel)) <|
  zq_cons (zq_s_ic_ge (off := 31) (by decide +kernel) (by decide)) <|
  zq_cons (zq_s_aload_n (n := 0) (by decide +kernel) rfl) <|
  zq_cons (zq_s_getf (index := 83) (by decide +kernel) zf_X9_83) <|
  zq_cons (zq_s_bipush (n := 60) (by decide +kernel) (by decide +kernel)) <|
  zq_cons (zq_s_iload_n (n := 3) (by decide +kernel) rfl) <|
  zq_cons (zq_s_imul (by decide +kernel)) <|
  zq_cons (zq_s_iload (by decide +kernel)) <|
  zq_cons (zq_s_iadd (by decide +kernel)) <|
  zq_cons (zq_s_iload (by decide +kernel)) <|
  zq_cons (zq_s_iadd (by decide +kernel)) <|
  zq_cons (zq_s_aload_n (n := 0) (by decide +kernel) rfl) <|
  zq_cons (zq_s_getf (index := 86) (by decide +kernel) zf_X9_86) <|
  zq_cons (zq_s_iload (by decide +kernel)) <|
  zq_cons (zq_s_iald (by decide +kernel)) <|
  zq_cons (zq_s_iast (by decide +kernel)) <|
  zq_cons (zq_s_iinc (n := 1) (by decide +kernel) (by decide +kernel) (by decide +kernel)) <|
  zq_cons (zq_s_goto (off := (-32)) (by decide +kernel) (by decide)) <|
  zq_cons (zq_s_iconst (n := 1) (by decide +kernel) (by decide +kernel)) <|
  zq_cons (⟨rfl, (by decide +kernel)⟩) <|
  zq_nil
def zc_X9_copy : List (Nat × zq_It) := zc_X9_copy_0 ++ (zc_X9_copy_1 ++ (zc_X9_copy_2))
theorem zk_X9_copy : zq_oks zi_X9_copy zc_X9_copy := zq_app zk_X9_copy_0 (zq_app zk_X9_copy_1 (zk_X9_copy_2))
def zc_X9_write_0 : List (Nat × zq_It) := [(0, .inl (zq_al 1 0)), (1, .inl (zq_il 2 1)), (2, .inr (.inl (2, .inr [(8, zn_X9_isPerson)]))), (5, .inl (zq_if_eq 8 15)), (8, .inl (zq_il 9 2)), (9, .inr (.inl (1, .inl zn_X9_isSheet))), (12, .inl (zq_if_ne 15 18)), (15, .inl (zq_push 17 (.int (-2)))), (17, .inr (.inr 1)), (18, .inl (zq_al 19 0)), (19, .inl (zq_getf 22 [(8, 31)])), (22, .inl (zq_il 23 2)), (23, .inl (zq_zald 24)), (24, .inl (zq_if_ne 27 33)), (27, .inl (zq_al 28 0)), (28, .inl (zq_push 29 (.int 1))), (29, .inr (.inl (2, .inr [(8, zn_X9_meets)]))), (32, .inr (.inr 1)), (33, .inl (zq_al 34 0)), (34, .inr (.inl (1, .inr [(8, zn_X9_runsTold)]))), (37, .inl (zq_push 38 (.int 0))), (38, .inl (zq_is 39 3)), (39, .inl (zq_il 40 3)), (40, .inl (zq_al 41 0)), (41, .inl (zq_getf 44 [(8, 33)])), (44, .inl (zq_il 45 2)), (45, .inl (zq_iald 46)), (46, .inl (zq_ic_ge 49 78)), (49, .inl (zq_il 50 3)), (50, .inl (zq_push 52 (.int 24))), (52, .inl (zq_ic_ge 55 78)), (55, .inl (zq_al 56 0)), (56, .inl (zq_il 57 2)), (57, .inl (zq_il 58 3)), (58, .inl (zq_al 59 0)), (59, .inl (zq_getf 62 [(8, 24)])), (62, .inl (zq_push 64 (.int 8))), (64, .inl (zq_il 65 3)), (65, .inl (zq_i2 66 (fun x y => x * y))), (66, .inl (zq_il 67 1))]
theorem zk_X9_write_0 : zq_oks zi_X9_write zc_X9_write_0 := zq_cons (zq_s_aload_n (n := 0) (by decide +kernel) rfl) <|
  zq_cons (zq_s_iload_n (n := 1) (by decide +kernel) rfl) <|
  zq_cons (List.forall_mem_cons.mpr ⟨⟨zi_X9_isPerson, rfl, zq_s_callV (n := 1) (index := 141) (by decide +kernel) rfl zw_1045 zw_1047 zw_32 zw_91 zw_1048 (by decide +kernel) (by decide +kernel) ⟨rfl, rfl⟩⟩, fun _ h => absurd h List.not_mem_nil⟩) <|
  zq_cons (zq_s_if_eq (off := 10) (by decide +kernel) (by decide)) <|
  zq_cons (zq_s_iload_n (n := 2) (by decide +kernel) rfl) <|
  zq_cons (⟨zi_X9_isSheet, rfl, zq_s_callS (n := 1) (index := 156) (by decide +kernel) zw_1075 zw_1076 zw_91 zw_1077 (by decide +kernel) (by decide +kernel) ⟨rfl, rfl⟩⟩) <|
  zq_cons (zq_s_if_ne (off := 6) (by decide +kernel) (by decide)) <|
  zq_cons (zq_s_bipush (n := (-2)) (by decide +kernel) (by decide +kernel)) <|
  zq_cons (⟨rfl, (by decide +kernel)⟩) <|
  zq_cons (zq_s_aload_n (n := 0) (by decide +kernel) rfl) <|
  zq_cons (zq_s_getf (index := 73) (by decide +kernel) zf_X9_73) <|
  zq_cons (zq_s_iload_n (n := 2) (by decide +kernel) rfl) <|
  zq_cons (zq_s_zald (by decide +kernel)) <|
  zq_cons (zq_s_if_ne (off := 9) (by decide +kernel) (by decide)) <|
  zq_cons (zq_s_aload_n (n := 0) (by decide +kernel) rfl) <|
  zq_cons (zq_s_iconst (n := 1) (by decide +kernel) (by decide +kernel)) <|
  zq_cons (List.forall_mem_cons.mpr ⟨⟨zi_X9_meets, rfl, zq_s_callV (n := 1) (index := 159) (by decide +kernel) rfl zw_1078 zw_1080 zw_34 zw_91 zw_1081 (by decide +kernel) (by decide +kernel) ⟨rfl, rfl⟩⟩, fun _ h => absurd h List.not_mem_nil⟩) <|
  zq_cons (⟨rfl, (by decide +kernel)⟩) <|
  zq_cons (zq_s_aload_n (n := 0) (by decide +kernel) rfl) <|
  zq_cons (List.forall_mem_cons.mpr ⟨⟨zi_X9_runsTold, rfl, zq_s_callV (n := 0) (index := 216) (by decide +kernel) rfl zw_1091 zw_1093 zw_36 zw_91 zw_1094 (by decide +kernel) (by decide +kernel) ⟨rfl, rfl⟩⟩, fun _ h => absurd h List.not_mem_nil⟩) <|
  zq_cons (zq_s_iconst (n := 0) (by decide +kernel) (by decide +kernel)) <|
  zq_cons (zq_s_istore_n (n := 3) (by decide +kernel) rfl (by decide +kernel)) <|
  zq_cons (zq_s_iload_n (n := 3) (by decide +kernel) rfl) <|
  zq_cons (zq_s_aload_n (n := 0) (by decide +kernel) rfl) <|
  zq_cons (zq_s_getf (index := 80) (by decide +kernel) zf_X9_80) <|
  zq_cons (zq_s_iload_n (n := 2) (by decide +kernel) rfl) <|
  zq_cons (zq_s_iald (by decide +kernel)) <|
  zq_cons (zq_s_ic_ge (off := 32) (by decide +kernel) (by decide)) <|
  zq_cons (zq_s_iload_n (n := 3) (by decide +kernel) rfl) <|
  zq_cons (zq_s_bipush (n := 24) (by decide +kernel) (by decide +kernel)) <|
  zq_cons (zq_s_ic_ge (off := 26) (by decide +kernel) (by decide)) <|
  zq_cons (zq_s_aload_n (n := 0) (by decide +kernel) rfl) <|
  zq_cons (zq_s_iload_n (n := 2) (by decide +kernel) rfl) <|
  zq_cons (zq_s_iload_n (n := 3) (by decide +kernel) rfl) <|
  zq_cons (zq_s_aload_n (n := 0) (by decide +kernel) rfl) <|
  zq_cons (zq_s_getf (index := 55) (by decide +kernel) zf_X9_55) <|
  zq_cons (zq_s_bipush (n := 8) (by decide +kernel) (by decide +kernel)) <|
  zq_cons (zq_s_iload_n (n := 3) (by decide +kernel) rfl) <|
  zq_cons (zq_s_imul (by decide +kernel)) <|
  zq_cons (zq_s_iload_n (n := 1) (by decide +kernel) rfl) <|
  zq_nil
def zc_X9_write_1 : List (Nat × zq_It) := [(67, .inl (zq_i2 68 (fun x y => x + y))), (68, .inl (zq_iald 69)), (69, .inr (.inl (4, .inr [(8, zn_X9_keep)]))), (72, .inl (zq_inc 75 3 1)), (75, .inl (zq_goto 39)), (78, .inl (zq_il 79 3)), (79, .inr (.inr 1))]
theorem zk_X9_write_1 : zq_oks zi_X9_write zc_X9_write_1 := zq_cons (zq_s_iadd (by decide +kernel)) <|
  zq_cons (zq_s_iald (by decide +kernel)) <|
  zq_cons (List.forall_mem_cons.mpr ⟨⟨zi_X9_keep, rfl, zq_s_callV (n := 3) (index := 326) (by decide +kernel) rfl zw_1342 zw_1344 zw_75 zw_91 zw_1345 (by decide +kernel) (by decide +kernel) ⟨rfl, rfl⟩⟩, fun _ h => absurd h List.not_mem_nil⟩) <|
  zq_cons (zq_s_iinc (n := 1) (by decide +kernel) (by decide +kernel) (by decide +kernel)) <|
  zq_cons (zq_s_goto (off := (-36)) (by decide +kernel) (by decide)) <|
  zq_cons (zq_s_iload_n (n := 3) (by decide +kernel) rfl) <|
  zq_cons (⟨rfl, (by decide +kernel)⟩) <|
  zq_nil
def zc_X9_write : List (Nat × zq_It) := zc_X9_write_0 ++ (zc_X9_write_1)
theorem zk_X9_write : zq_oks zi_X9_write zc_X9_write := zq_app zk_X9_write_0 (zk_X9_write_1)
def zc_X9_sumOf : List (Nat × zq_It) := [(0, .inl (zq_al 1 0)), (1, .inr (.inl (1, .inr [(8, zn_X9_runsTold)]))), (4, .inl (zq_push 5 (.int 0))), (5, .inl (zq_is 6 2)), (6, .inl (zq_push 7 (.int 0))), (7, .inl (zq_is 8 3)), (8, .inl (zq_il 9 3)), (9, .inl (zq_push 11 (.int 8))), (11, .inl (zq_ic_ge 14 32)), (14, .inl (zq_il 15 2)), (15, .inl (zq_al 16 0)), (16, .inl (zq_al 17 0)), (17, .inl (zq_il 18 3)), (18, .inr (.inl (2, .inr [(8, zn_X9_emptyNow)]))), (21, .inr (.inl (2, .inr [(8, zn_X9_many)]))), (24, .inl (zq_i2 25 (fun x y => x + y))), (25, .inl (zq_is 26 2)), (26, .inl (zq_inc 29 3 1)), (29, .inl (zq_goto 8)), (32, .inl (zq_il 33 1)), (33, .inl (zq_if_ne 36 43)), (36, .inl (zq_al 37 0)), (37, .inl (zq_getf 40 [(8, 2)])), (40, .inl (zq_goto 72)), (43, .inl (zq_il 44 1)), (44, .inl (zq_push 45 (.int 1))), (45, .inl (zq_ic_ne 48 55)), (48, .inl (zq_al 49 0)), (49, .inl (zq_getf 52 [(8, 5)])), (52, .inl (zq_goto 72)), (55, .inl (zq_il 56 1)), (56, .inl (zq_push 57 (.int 5))), (57, .inl (zq_ic_ne 60 71)), (60, .inl (zq_al 61 0)), (61, .inl (zq_al 62 0)), (62, .inr (.inl (1, .inr [(8, zn_X9_aloneNow)]))), (65, .inr (.inl (2, .inr [(8, zn_X9_many)]))), (68, .inl (zq_goto 72)), (71, .inl (zq_il 72 2)), (72, .inr (.inr 1))]
theorem zk_X9_sumOf : zq_oks zi_X9_sumOf zc_X9_sumOf := zq_cons (zq_s_aload_n (n := 0) (by decide +kernel) rfl) <|
  zq_cons (List.forall_mem_cons.mpr ⟨⟨zi_X9_runsTold, rfl, zq_s_callV (n := 0) (index := 216) (by decide +kernel) rfl zw_1091 zw_1093 zw_36 zw_91 zw_1094 (by decide +kernel) (by decide +kernel) ⟨rfl, rfl⟩⟩, fun _ h => absurd h List.not_mem_nil⟩) <|
  zq_cons (zq_s_iconst (n := 0) (by decide +kernel) (by decide +kernel)) <|
  zq_cons (zq_s_istore_n (n := 2) (by decide +kernel) rfl (by decide +kernel)) <|
  zq_cons (zq_s_iconst (n := 0) (by decide +kernel) (by decide +kernel)) <|
  zq_cons (zq_s_istore_n (n := 3) (by decide +kernel) rfl (by decide +kernel)) <|
  zq_cons (zq_s_iload_n (n := 3) (by decide +kernel) rfl) <|
  zq_cons (zq_s_bipush (n := 8) (by decide +kernel) (by decide +kernel)) <|
  zq_cons (zq_s_ic_ge (off := 21) (by decide +kernel) (by decide)) <|
  zq_cons (zq_s_iload_n (n := 2) (by decide +kernel) rfl) <|
  zq_cons (zq_s_aload_n (n := 0) (by decide +kernel) rfl) <|
  zq_cons (zq_s_aload_n (n := 0) (by decide +kernel) rfl) <|
  zq_cons (zq_s_iload_n (n := 3) (by decide +kernel) rfl) <|
  zq_cons (List.forall_mem_cons.mpr ⟨⟨zi_X9_emptyNow, rfl, zq_s_callV (n := 1) (index := 234) (by decide +kernel) rfl zw_1170 zw_1172 zw_51 zw_91 zw_1173 (by decide +kernel) (by decide +kernel) ⟨rfl, rfl⟩⟩, fun _ h => absurd h List.not_mem_nil⟩) <|
  zq_cons (List.forall_mem_cons.mpr ⟨⟨zi_X9_many, rfl, zq_s_callV (n := 1) (index := 246) (by decide +kernel) rfl zw_1194 zw_1196 zw_55 zw_91 zw_1197 (by decide +kernel) (by decide +kernel) ⟨rfl, rfl⟩⟩, fun _ h => absurd h List.not_mem_nil⟩) <|
  zq_cons (zq_s_iadd (by decide +kernel)) <|
  zq_cons (zq_s_istore_n (n := 2) (by decide +kernel) rfl (by decide +kernel)) <|
  zq_cons (zq_s_iinc (n := 1) (by decide +kernel) (by decide +kernel) (by decide +kernel)) <|
  zq_cons (zq_s_goto (off := (-21)) (by decide +kernel) (by decide)) <|
  zq_cons (zq_s_iload_n (n := 1) (by decide +kernel) rfl) <|
  zq_cons (zq_s_if_ne (off := 10) (by decide +kernel) (by decide)) <|
  zq_cons (zq_s_aload_n (n := 0) (by decide +kernel) rfl) <|
  zq_cons (zq_s_getf (index := 110) (by decide +kernel) zf_X9_110) <|
  zq_cons (zq_s_goto (off := 32) (by decide +kernel) (by decide)) <|
  zq_cons (zq_s_iload_n (n := 1) (by decide +kernel) rfl) <|
  zq_cons (zq_s_iconst (n := 1) (by decide +kernel) (by decide +kernel)) <|
  zq_cons (zq_s_ic_ne (off := 10) (by decide +kernel) (by decide)) <|
  zq_cons (zq_s_aload_n (n := 0) (by decide +kernel) rfl) <|
  zq_cons (zq_s_getf (index := 113) (by decide +kernel) zf_X9_113) <|
  zq_cons (zq_s_goto (off := 20) (by decide +kernel) (by decide)) <|
  zq_cons (zq_s_iload_n (n := 1) (by decide +kernel) rfl) <|
  zq_cons (zq_s_iconst (n := 5) (by decide +kernel) (by decide +kernel)) <|
  zq_cons (zq_s_ic_ne (off := 14) (by decide +kernel) (by decide)) <|
  zq_cons (zq_s_aload_n (n := 0) (by decide +kernel) rfl) <|
  zq_cons (zq_s_aload_n (n := 0) (by decide +kernel) rfl) <|
  zq_cons (List.forall_mem_cons.mpr ⟨⟨zi_X9_aloneNow, rfl, zq_s_callV (n := 0) (index := 255) (by decide +kernel) rfl zw_1206 zw_1208 zw_57 zw_91 zw_1209 (by decide +kernel) (by decide +kernel) ⟨rfl, rfl⟩⟩, fun _ h => absurd h List.not_mem_nil⟩) <|
  zq_cons (List.forall_mem_cons.mpr ⟨⟨zi_X9_many, rfl, zq_s_callV (n := 1) (index := 246) (by decide +kernel) rfl zw_1194 zw_1196 zw_55 zw_91 zw_1197 (by decide +kernel) (by decide +kernel) ⟨rfl, rfl⟩⟩, fun _ h => absurd h List.not_mem_nil⟩) <|
  zq_cons (zq_s_goto (off := 4) (by decide +kernel) (by decide)) <|
  zq_cons (zq_s_iload_n (n := 2) (by decide +kernel) rfl) <|
  zq_cons (⟨rfl, (by decide +kernel)⟩) <|
  zq_nil
def zc_X9_count : List (Nat × zq_It) := [(0, .inl (zq_il 1 1)), (1, .inl (zq_tsw 0 8 82 [52, 52, 58, 58, 67, 52, 52, 72, 77])), (52, .inl (zq_al 53 0)), (53, .inl (zq_il 54 1)), (54, .inr (.inl (2, .inr [(8, zn_X9_sumOf)]))), (57, .inr (.inr 1)), (58, .inl (zq_al 59 0)), (59, .inl (zq_getf 62 [(8, 0)])), (62, .inl (zq_il 63 1)), (63, .inl (zq_push 64 (.int 2))), (64, .inl (zq_i2 65 (fun x y => x - y))), (65, .inl (zq_iald 66)), (66, .inr (.inr 1)), (67, .inl (zq_al 68 0)), (68, .inl (zq_getf 71 [(8, 10)])), (71, .inr (.inr 1)), (72, .inl (zq_al 73 0)), (73, .inl (zq_getf 76 [(8, 26)])), (76, .inr (.inr 1)), (77, .inl (zq_al 78 0)), (78, .inl (zq_getf 81 [(8, 36)])), (81, .inr (.inr 1)), (82, .inl (zq_push 84 (.int (-2)))), (84, .inr (.inr 1))]
theorem zk_X9_count : zq_oks zi_X9_count zc_X9_count := zq_cons (zq_s_iload_n (n := 1) (by decide +kernel) rfl) <|
  zq_cons (zq_s_tsw (dflt := 81) (offs := #[51, 51, 57, 57, 66, 51, 51, 71, 76]) (len := 51) (by decide +kernel) (by decide) (by decide) (zq_tb (by decide +kernel))) <|
  zq_cons (zq_s_aload_n (n := 0) (by decide +kernel) rfl) <|
  zq_cons (zq_s_iload_n (n := 1) (by decide +kernel) rfl) <|
  zq_cons (List.forall_mem_cons.mpr ⟨⟨zi_X9_sumOf, rfl, zq_s_callV (n := 1) (index := 331) (by decide +kernel) rfl zw_1363 zw_1365 zw_76 zw_91 zw_1366 (by decide +kernel) (by decide +kernel) ⟨rfl, rfl⟩⟩, fun _ h => absurd h List.not_mem_nil⟩) <|
  zq_cons (⟨rfl, (by decide +kernel)⟩) <|
  zq_cons (zq_s_aload_n (n := 0) (by decide +kernel) rfl) <|
  zq_cons (zq_s_getf (index := 7) (by decide +kernel) zf_X9_7) <|
  zq_cons (zq_s_iload_n (n := 1) (by decide +kernel) rfl) <|
  zq_cons (zq_s_iconst (n := 2) (by decide +kernel) (by decide +kernel)) <|
  zq_cons (zq_s_isub (by decide +kernel)) <|
  zq_cons (zq_s_iald (by decide +kernel)) <|
  zq_cons (⟨rfl, (by decide +kernel)⟩) <|
  zq_cons (zq_s_aload_n (n := 0) (by decide +kernel) rfl) <|
  zq_cons (zq_s_getf (index := 153) (by decide +kernel) zf_X9_153) <|
  zq_cons (⟨rfl, (by decide +kernel)⟩) <|
  zq_cons (zq_s_aload_n (n := 0) (by decide +kernel) rfl) <|
  zq_cons (zq_s_getf (index := 285) (by decide +kernel) zf_X9_285) <|
  zq_cons (⟨rfl, (by decide +kernel)⟩) <|
  zq_cons (zq_s_aload_n (n := 0) (by decide +kernel) rfl) <|
  zq_cons (zq_s_getf (index := 320) (by decide +kernel) zf_X9_320) <|
  zq_cons (⟨rfl, (by decide +kernel)⟩) <|
  zq_cons (zq_s_bipush (n := (-2)) (by decide +kernel) (by decide +kernel)) <|
  zq_cons (⟨rfl, (by decide +kernel)⟩) <|
  zq_nil
def zc_X9_hourDigest : List (Nat × zq_It) := [(0, .inl (zq_push 3 (.long 31))), (3, .inl (zq_ll 4 1)), (4, .inl (zq_l2 5 (fun x y => x * y))), (5, .inl (zq_al 6 0)), (6, .inl (zq_il 7 3)), (7, .inl (zq_il 9 4)), (9, .inl (zq_push 10 (.int 0))), (10, .inr (.inl (4, .inr [(8, zn_X9_atOf)]))), (13, .inl (zq_i2l 14)), (14, .inl (zq_l2 15 (fun x y => x + y))), (15, .inl (zq_lst 17 5)), (17, .inl (zq_push 20 (.long 31))), (20, .inl (zq_ll 22 5)), (22, .inl (zq_l2 23 (fun x y => x * y))), (23, .inl (zq_al 24 0)), (24, .inl (zq_il 25 3)), (25, .inl (zq_il 27 4)), (27, .inl (zq_push 28 (.int 1))), (28, .inr (.inl (4, .inr [(8, zn_X9_atOf)]))), (31, .inl (zq_i2l 32)), (32, .inl (zq_l2 33 (fun x y => x + y))), (33, .inr (.inr 3))]
theorem zk_X9_hourDigest : zq_oks zi_X9_hourDigest zc_X9_hourDigest := zq_cons (zq_s_ldc2 (index := 334) (by decide +kernel) zw_1372) <|
  zq_cons (zq_s_lload_n (n := 1) (by decide +kernel) rfl) <|
  zq_cons (zq_s_lmul (by decide +kernel)) <|
  zq_cons (zq_s_aload_n (n := 0) (by decide +kernel) rfl) <|
  zq_cons (zq_s_iload_n (n := 3) (by decide +kernel) rfl) <|
  zq_cons (zq_s_iload (by decide +kernel)) <|
  zq_cons (zq_s_iconst (n := 0) (by decide +kernel) (by decide +kernel)) <|
  zq_cons (List.forall_mem_cons.mpr ⟨⟨zi_X9_atOf, rfl, zq_s_callV (n := 3) (index := 219) (by decide +kernel) rfl zw_1087 zw_1089 zw_35 zw_91 zw_1090 (by decide +kernel) (by decide +kernel) ⟨rfl, rfl⟩⟩, fun _ h => absurd h List.not_mem_nil⟩) <|
  zq_cons (zq_s_i2l (by decide +kernel)) <|
  zq_cons (zq_s_ladd (by decide +kernel)) <|
  zq_cons (zq_s_lstore (by decide +kernel) (by decide +kernel)) <|
  zq_cons (zq_s_ldc2 (index := 334) (by decide +kernel) zw_1372) <|
  zq_cons (zq_s_lload (by decide +kernel)) <|
  zq_cons (zq_s_lmul (by decide +kernel)) <|
  zq_cons (zq_s_aload_n (n := 0) (by decide +kernel) rfl) <|
  zq_cons (zq_s_iload_n (n := 3) (by decide +kernel) rfl) <|
  zq_cons (zq_s_iload (by decide +kernel)) <|
  zq_cons (zq_s_iconst (n := 1) (by decide +kernel) (by decide +kernel)) <|
  zq_cons (List.forall_mem_cons.mpr ⟨⟨zi_X9_atOf, rfl, zq_s_callV (n := 3) (index := 219) (by decide +kernel) rfl zw_1087 zw_1089 zw_35 zw_91 zw_1090 (by decide +kernel) (by decide +kernel) ⟨rfl, rfl⟩⟩, fun _ h => absurd h List.not_mem_nil⟩) <|
  zq_cons (zq_s_i2l (by decide +kernel)) <|
  zq_cons (zq_s_ladd (by decide +kernel)) <|
  zq_cons (⟨rfl, (by decide +kernel)⟩) <|
  zq_nil
def zc_X9_personDigest_0 : List (Nat × zq_It) := [(0, .inl (zq_ll 1 1)), (1, .inl (zq_lst 3 4)), (3, .inl (zq_push 4 (.int 0))), (4, .inl (zq_is 6 6)), (6, .inl (zq_il 8 6)), (8, .inl (zq_push 9 (.int 3))), (9, .inl (zq_ic_ge 12 35)), (12, .inl (zq_push 15 (.long 31))), (15, .inl (zq_ll 17 4)), (17, .inl (zq_l2 18 (fun x y => x * y))), (18, .inl (zq_al 19 0)), (19, .inl (zq_il 20 3)), (20, .inl (zq_il 22 6)), (22, .inr (.inl (3, .inr [(8, zn_X9_personOf)]))), (25, .inl (zq_i2l 26)), (26, .inl (zq_l2 27 (fun x y => x + y))), (27, .inl (zq_lst 29 4)), (29, .inl (zq_inc 32 6 1)), (32, .inl (zq_goto 6)), (35, .inl (zq_al 36 0)), (36, .inl (zq_ll 38 4)), (38, .inl (zq_push 39 (.int 0))), (39, .inl (zq_il 40 3)), (40, .inr (.inl (4, .inr [(8, zn_X9_hourDigest)]))), (43, .inl (zq_lst 45 4)), (45, .inl (zq_al 46 0)), (46, .inl (zq_ll 48 4)), (48, .inl (zq_push 49 (.int 5))), (49, .inl (zq_il 50 3)), (50, .inr (.inl (4, .inr [(8, zn_X9_hourDigest)]))), (53, .inl (zq_lst 55 4)), (55, .inl (zq_al 56 0)), (56, .inl (zq_ll 58 4)), (58, .inl (zq_push 60 (.int 12))), (60, .inl (zq_il 61 3)), (61, .inr (.inl (4, .inr [(8, zn_X9_hourDigest)]))), (64, .inl (zq_lst 66 4)), (66, .inl (zq_al 67 0)), (67, .inl (zq_ll 69 4)), (69, .inl (zq_push 71 (.int 23)))]
theorem zk_X9_personDigest_0 : zq_oks zi_X9_personDigest zc_X9_personDigest_0 := zq_cons (zq_s_lload_n (n := 1) (by decide +kernel) rfl) <|
  zq_cons (zq_s_lstore (by decide +kernel) (by decide +kernel)) <|
  zq_cons (zq_s_iconst (n := 0) (by decide +kernel) (by decide +kernel)) <|
  zq_cons (zq_s_istore (by decide +kernel) (by decide +kernel)) <|
  zq_cons (zq_s_iload (by decide +kernel)) <|
  zq_cons (zq_s_iconst (n := 3) (by decide +kernel) (by decide +kernel)) <|
  zq_cons (zq_s_ic_ge (off := 26) (by decide +kernel) (by decide)) <|
  zq_cons (zq_s_ldc2 (index := 334) (by decide +kernel) zw_1372) <|
  zq_cons (zq_s_lload (by decide +kernel)) <|
  zq_cons (zq_s_lmul (by decide +kernel)) <|
  zq_cons (zq_s_aload_n (n := 0) (by decide +kernel) rfl) <|
  zq_cons (zq_s_iload_n (n := 3) (by decide +kernel) rfl) <|
  zq_cons (zq_s_iload (by decide +kernel)) <|
  zq_cons (List.forall_mem_cons.mpr ⟨⟨zi_X9_personOf, rfl, zq_s_callV (n := 2) (index := 147) (by decide +kernel) rfl zw_1052 zw_1054 zw_33 zw_91 zw_1055 (by decide +kernel) (by decide +kernel) ⟨rfl, rfl⟩⟩, fun _ h => absurd h List.not_mem_nil⟩) <|
  zq_cons (zq_s_i2l (by decide +kernel)) <|
  zq_cons (zq_s_ladd (by decide +kernel)) <|
  zq_cons (zq_s_lstore (by decide +kernel) (by decide +kernel)) <|
  zq_cons (zq_s_iinc (n := 1) (by decide +kernel) (by decide +kernel) (by decide +kernel)) <|
  zq_cons (zq_s_goto (off := (-26)) (by decide +kernel) (by decide)) <|
  zq_cons (zq_s_aload_n (n := 0) (by decide +kernel) rfl) <|
  zq_cons (zq_s_lload (by decide +kernel)) <|
  zq_cons (zq_s_iconst (n := 0) (by decide +kernel) (by decide +kernel)) <|
  zq_cons (zq_s_iload_n (n := 3) (by decide +kernel) rfl) <|
  zq_cons (List.forall_mem_cons.mpr ⟨⟨zi_X9_hourDigest, rfl, zq_s_callV (n := 3) (index := 336) (by decide +kernel) rfl zw_1378 zw_1380 zw_78 zw_91 zw_1381 (by decide +kernel) (by decide +kernel) ⟨rfl, rfl⟩⟩, fun _ h => absurd h List.not_mem_nil⟩) <|
  zq_cons (zq_s_lstore (by decide +kernel) (by decide +kernel)) <|
  zq_cons (zq_s_aload_n (n := 0) (by decide +kernel) rfl) <|
  zq_cons (zq_s_lload (by decide +kernel)) <|
  zq_cons (zq_s_iconst (n := 5) (by decide +kernel) (by decide +kernel)) <|
  zq_cons (zq_s_iload_n (n := 3) (by decide +kernel) rfl) <|
  zq_cons (List.forall_mem_cons.mpr ⟨⟨zi_X9_hourDigest, rfl, zq_s_callV (n := 3) (index := 336) (by decide +kernel) rfl zw_1378 zw_1380 zw_78 zw_91 zw_1381 (by decide +kernel) (by decide +kernel) ⟨rfl, rfl⟩⟩, fun _ h => absurd h List.not_mem_nil⟩) <|
  zq_cons (zq_s_lstore (by decide +kernel) (by decide +kernel)) <|
  zq_cons (zq_s_aload_n (n := 0) (by decide +kernel) rfl) <|
  zq_cons (zq_s_lload (by decide +kernel)) <|
  zq_cons (zq_s_bipush (n := 12) (by decide +kernel) (by decide +kernel)) <|
  zq_cons (zq_s_iload_n (n := 3) (by decide +kernel) rfl) <|
  zq_cons (List.forall_mem_cons.mpr ⟨⟨zi_X9_hourDigest, rfl, zq_s_callV (n := 3) (index := 336) (by decide +kernel) rfl zw_1378 zw_1380 zw_78 zw_91 zw_1381 (by decide +kernel) (by decide +kernel) ⟨rfl, rfl⟩⟩, fun _ h => absurd h List.not_mem_nil⟩) <|
  zq_cons (zq_s_lstore (by decide +kernel) (by decide +kernel)) <|
  zq_cons (zq_s_aload_n (n := 0) (by decide +kernel) rfl) <|
  zq_cons (zq_s_lload (by decide +kernel)) <|
  zq_cons (zq_s_bipush (n := 23) (by decide +kernel) (by decide +kernel)) <|
  zq_nil
def zc_X9_personDigest_1 : List (Nat × zq_It) := [(71, .inl (zq_il 72 3)), (72, .inr (.inl (4, .inr [(8, zn_X9_hourDigest)]))), (75, .inl (zq_lst 77 4)), (77, .inl (zq_push 80 (.long 31))), (80, .inl (zq_ll 82 4)), (82, .inl (zq_l2 83 (fun x y => x * y))), (83, .inl (zq_al 84 0)), (84, .inl (zq_il 85 3)), (85, .inl (zq_push 86 (.int 0))), (86, .inr (.inl (3, .inr [(8, zn_X9_sleepOf)]))), (89, .inl (zq_i2l 90)), (90, .inl (zq_l2 91 (fun x y => x + y))), (91, .inl (zq_lst 93 4)), (93, .inl (zq_push 96 (.long 31))), (96, .inl (zq_ll 98 4)), (98, .inl (zq_l2 99 (fun x y => x * y))), (99, .inl (zq_al 100 0)), (100, .inl (zq_il 101 3)), (101, .inl (zq_push 102 (.int 1))), (102, .inr (.inl (3, .inr [(8, zn_X9_sleepOf)]))), (105, .inl (zq_i2l 106)), (106, .inl (zq_l2 107 (fun x y => x + y))), (107, .inl (zq_lst 109 4)), (109, .inl (zq_push 112 (.long 31))), (112, .inl (zq_ll 114 4)), (114, .inl (zq_l2 115 (fun x y => x * y))), (115, .inl (zq_al 116 0)), (116, .inl (zq_il 117 3)), (117, .inr (.inl (2, .inr [(8, zn_X9_sortsBy)]))), (120, .inl (zq_i2l 121)), (121, .inl (zq_l2 122 (fun x y => x + y))), (122, .inl (zq_lst 124 4)), (124, .inl (zq_push 127 (.long 31))), (127, .inl (zq_ll 129 4)), (129, .inl (zq_l2 130 (fun x y => x * y))), (130, .inl (zq_al 131 0)), (131, .inl (zq_il 132 3)), (132, .inr (.inl (2, .inr [(8, zn_X9_bedsBy)]))), (135, .inl (zq_i2l 136)), (136, .inl (zq_l2 137 (fun x y => x + y)))]
theorem zk_X9_personDigest_1 : zq_oks zi_X9_personDigest zc_X9_personDigest_1 := zq_cons (zq_s_iload_n (n := 3) (by decide +kernel) rfl) <|
  zq_cons (List.forall_mem_cons.mpr ⟨⟨zi_X9_hourDigest, rfl, zq_s_callV (n := 3) (index := 336) (by decide +kernel) rfl zw_1378 zw_1380 zw_78 zw_91 zw_1381 (by decide +kernel) (by decide +kernel) ⟨rfl, rfl⟩⟩, fun _ h => absurd h List.not_mem_nil⟩) <|
  zq_cons (zq_s_lstore (by decide +kernel) (by decide +kernel)) <|
  zq_cons (zq_s_ldc2 (index := 334) (by decide +kernel) zw_1372) <|
  zq_cons (zq_s_lload (by decide +kernel)) <|
  zq_cons (zq_s_lmul (by decide +kernel)) <|
  zq_cons (zq_s_aload_n (n := 0) (by decide +kernel) rfl) <|
  zq_cons (zq_s_iload_n (n := 3) (by decide +kernel) rfl) <|
  zq_cons (zq_s_iconst (n := 0) (by decide +kernel) (by decide +kernel)) <|
  zq_cons (List.forall_mem_cons.mpr ⟨⟨zi_X9_sleepOf, rfl, zq_s_callV (n := 2) (index := 264) (by decide +kernel) rfl zw_1218 zw_1220 zw_59 zw_91 zw_1221 (by decide +kernel) (by decide +kernel) ⟨rfl, rfl⟩⟩, fun _ h => absurd h List.not_mem_nil⟩) <|
  zq_cons (zq_s_i2l (by decide +kernel)) <|
  zq_cons (zq_s_ladd (by decide +kernel)) <|
  zq_cons (zq_s_lstore (by decide +kernel) (by decide +kernel)) <|
  zq_cons (zq_s_ldc2 (index := 334) (by decide +kernel) zw_1372) <|
  zq_cons (zq_s_lload (by decide +kernel)) <|
  zq_cons (zq_s_lmul (by decide +kernel)) <|
  zq_cons (zq_s_aload_n (n := 0) (by decide +kernel) rfl) <|
  zq_cons (zq_s_iload_n (n := 3) (by decide +kernel) rfl) <|
  zq_cons (zq_s_iconst (n := 1) (by decide +kernel) (by decide +kernel)) <|
  zq_cons (List.forall_mem_cons.mpr ⟨⟨zi_X9_sleepOf, rfl, zq_s_callV (n := 2) (index := 264) (by decide +kernel) rfl zw_1218 zw_1220 zw_59 zw_91 zw_1221 (by decide +kernel) (by decide +kernel) ⟨rfl, rfl⟩⟩, fun _ h => absurd h List.not_mem_nil⟩) <|
  zq_cons (zq_s_i2l (by decide +kernel)) <|
  zq_cons (zq_s_ladd (by decide +kernel)) <|
  zq_cons (zq_s_lstore (by decide +kernel) (by decide +kernel)) <|
  zq_cons (zq_s_ldc2 (index := 334) (by decide +kernel) zw_1372) <|
  zq_cons (zq_s_lload (by decide +kernel)) <|
  zq_cons (zq_s_lmul (by decide +kernel)) <|
  zq_cons (zq_s_aload_n (n := 0) (by decide +kernel) rfl) <|
  zq_cons (zq_s_iload_n (n := 3) (by decide +kernel) rfl) <|
  zq_cons (List.forall_mem_cons.mpr ⟨⟨zi_X9_sortsBy, rfl, zq_s_callV (n := 1) (index := 295) (by decide +kernel) rfl zw_1286 zw_1288 zw_69 zw_91 zw_1289 (by decide +kernel) (by decide +kernel) ⟨rfl, rfl⟩⟩, fun _ h => absurd h List.not_mem_nil⟩) <|
  zq_cons (zq_s_i2l (by decide +kernel)) <|
  zq_cons (zq_s_ladd (by decide +kernel)) <|
  zq_cons (zq_s_lstore (by decide +kernel) (by decide +kernel)) <|
  zq_cons (zq_s_ldc2 (index := 334) (by decide +kernel) zw_1372) <|
  zq_cons (zq_s_lload (by decide +kernel)) <|
  zq_cons (zq_s_lmul (by decide +kernel)) <|
  zq_cons (zq_s_aload_n (n := 0) (by decide +kernel) rfl) <|
  zq_cons (zq_s_iload_n (n := 3) (by decide +kernel) rfl) <|
  zq_cons (List.forall_mem_cons.mpr ⟨⟨zi_X9_bedsBy, rfl, zq_s_callV (n := 1) (index := 298) (by decide +kernel) rfl zw_1290 zw_1292 zw_70 zw_91 zw_1293 (by decide +kernel) (by decide +kernel) ⟨rfl, rfl⟩⟩, fun _ h => absurd h List.not_mem_nil⟩) <|
  zq_cons (zq_s_i2l (by decide +kernel)) <|
  zq_cons (zq_s_ladd (by decide +kernel)) <|
  zq_nil
def zc_X9_personDigest_2 : List (Nat × zq_It) := [(137, .inl (zq_lst 139 4)), (139, .inl (zq_push 142 (.long 31))), (142, .inl (zq_ll 144 4)), (144, .inl (zq_l2 145 (fun x y => x * y))), (145, .inl (zq_al 146 0)), (146, .inl (zq_il 147 3)), (147, .inr (.inl (2, .inr [(8, zn_X9_askOf)]))), (150, .inl (zq_i2l 151)), (151, .inl (zq_l2 152 (fun x y => x + y))), (152, .inl (zq_lst 154 4)), (154, .inl (zq_push 157 (.long 31))), (157, .inl (zq_ll 159 4)), (159, .inl (zq_l2 160 (fun x y => x * y))), (160, .inl (zq_al 161 0)), (161, .inl (zq_push 162 (.int 5))), (162, .inl (zq_il 163 3)), (163, .inl (zq_push 165 (.int 14))), (165, .inl (zq_push 166 (.int 0))), (166, .inr (.inl (5, .inr [(8, zn_X9_chanceOf)]))), (169, .inl (zq_l2 170 (fun x y => x + y))), (170, .inl (zq_lst 172 4)), (172, .inl (zq_push 175 (.long 31))), (175, .inl (zq_ll 177 4)), (177, .inl (zq_l2 178 (fun x y => x * y))), (178, .inl (zq_al 179 0)), (179, .inl (zq_push 180 (.int 5))), (180, .inl (zq_il 181 3)), (181, .inl (zq_push 183 (.int 14))), (183, .inl (zq_push 184 (.int 1))), (184, .inr (.inl (5, .inr [(8, zn_X9_chanceOf)]))), (187, .inl (zq_l2 188 (fun x y => x + y))), (188, .inl (zq_lst 190 4)), (190, .inl (zq_push 193 (.long 31))), (193, .inl (zq_ll 195 4)), (195, .inl (zq_l2 196 (fun x y => x * y))), (196, .inl (zq_il 197 3)), (197, .inl (zq_if_ne 200 204)), (200, .inl (zq_push 201 (.int 0))), (201, .inl (zq_goto 210)), (204, .inl (zq_al 205 0))]
theorem zk_X9_personDigest_2 : zq_oks zi_X9_personDigest zc_X9_personDigest_2 := zq_cons (zq_s_lstore (by decide +kernel) (by decide +kernel)) <|
  zq_cons (zq_s_ldc2 (index := 334) (by decide +kernel) zw_1372) <|
  zq_cons (zq_s_lload (by decide +kernel)) <|
  zq_cons (zq_s_lmul (by decide +kernel)) <|
  zq_cons (zq_s_aload_n (n := 0) (by decide +kernel) rfl) <|
  zq_cons (zq_s_iload_n (n := 3) (by decide +kernel) rfl) <|
  zq_cons (List.forall_mem_cons.mpr ⟨⟨zi_X9_askOf, rfl, zq_s_callV (n := 1) (index := 301) (by decide +kernel) rfl zw_1298 zw_1300 zw_71 zw_91 zw_1301 (by decide +kernel) (by decide +kernel) ⟨rfl, rfl⟩⟩, fun _ h => absurd h List.not_mem_nil⟩) <|
  zq_cons (zq_s_i2l (by decide +kernel)) <|
  zq_cons (zq_s_ladd (by decide +kernel)) <|
  zq_cons (zq_s_lstore (by decide +kernel) (by decide +kernel)) <|
  zq_cons (zq_s_ldc2 (index := 334) (by decide +kernel) zw_1372) <|
  zq_cons (zq_s_lload (by decide +kernel)) <|
  zq_cons (zq_s_lmul (by decide +kernel)) <|
  zq_cons (zq_s_aload_n (n := 0) (by decide +kernel) rfl) <|
  zq_cons (zq_s_iconst (n := 5) (by decide +kernel) (by decide +kernel)) <|
  zq_cons (zq_s_iload_n (n := 3) (by decide +kernel) rfl) <|
  zq_cons (zq_s_bipush (n := 14) (by decide +kernel) (by decide +kernel)) <|
  zq_cons (zq_s_iconst (n := 0) (by decide +kernel) (by decide +kernel)) <|
  zq_cons (List.forall_mem_cons.mpr ⟨⟨zi_X9_chanceOf, rfl, zq_s_callV (n := 4) (index := 308) (by decide +kernel) rfl zw_1306 zw_1308 zw_72 zw_91 zw_1309 (by decide +kernel) (by decide +kernel) ⟨rfl, rfl⟩⟩, fun _ h => absurd h List.not_mem_nil⟩) <|
  zq_cons (zq_s_ladd (by decide +kernel)) <|
  zq_cons (zq_s_lstore (by decide +kernel) (by decide +kernel)) <|
  zq_cons (zq_s_ldc2 (index := 334) (by decide +kernel) zw_1372) <|
  zq_cons (zq_s_lload (by decide +kernel)) <|
  zq_cons (zq_s_lmul (by decide +kernel)) <|
  zq_cons (zq_s_aload_n (n := 0) (by decide +kernel) rfl) <|
  zq_cons (zq_s_iconst (n := 5) (by decide +kernel) (by decide +kernel)) <|
  zq_cons (zq_s_iload_n (n := 3) (by decide +kernel) rfl) <|
  zq_cons (zq_s_bipush (n := 14) (by decide +kernel) (by decide +kernel)) <|
  zq_cons (zq_s_iconst (n := 1) (by decide +kernel) (by decide +kernel)) <|
  zq_cons (List.forall_mem_cons.mpr ⟨⟨zi_X9_chanceOf, rfl, zq_s_callV (n := 4) (index := 308) (by decide +kernel) rfl zw_1306 zw_1308 zw_72 zw_91 zw_1309 (by decide +kernel) (by decide +kernel) ⟨rfl, rfl⟩⟩, fun _ h => absurd h List.not_mem_nil⟩) <|
  zq_cons (zq_s_ladd (by decide +kernel)) <|
  zq_cons (zq_s_lstore (by decide +kernel) (by decide +kernel)) <|
  zq_cons (zq_s_ldc2 (index := 334) (by decide +kernel) zw_1372) <|
  zq_cons (zq_s_lload (by decide +kernel)) <|
  zq_cons (zq_s_lmul (by decide +kernel)) <|
  zq_cons (zq_s_iload_n (n := 3) (by decide +kernel) rfl) <|
  zq_cons (zq_s_if_ne (off := 7) (by decide +kernel) (by decide)) <|
  zq_cons (zq_s_iconst (n := 0) (by decide +kernel) (by decide +kernel)) <|
  zq_cons (zq_s_goto (off := 9) (by decide +kernel) (by decide)) <|
  zq_cons (zq_s_aload_n (n := 0) (by decide +kernel) rfl) <|
  zq_nil
def zc_X9_personDigest_3 : List (Nat × zq_It) := [(205, .inl (zq_push 206 (.int 0))), (206, .inl (zq_il 207 3)), (207, .inr (.inl (3, .inr [(8, zn_X9_metOf)]))), (210, .inl (zq_i2l 211)), (211, .inl (zq_l2 212 (fun x y => x + y))), (212, .inr (.inr 3))]
theorem zk_X9_personDigest_3 : zq_oks zi_X9_personDigest zc_X9_personDigest_3 := zq_cons (zq_s_iconst (n := 0) (by decide +kernel) (by decide +kernel)) <|
  zq_cons (zq_s_iload_n (n := 3) (by decide +kernel) rfl) <|
  zq_cons (List.forall_mem_cons.mpr ⟨⟨zi_X9_metOf, rfl, zq_s_callV (n := 2) (index := 231) (by decide +kernel) rfl zw_1158 zw_1160 zw_49 zw_91 zw_1161 (by decide +kernel) (by decide +kernel) ⟨rfl, rfl⟩⟩, fun _ h => absurd h List.not_mem_nil⟩) <|
  zq_cons (zq_s_i2l (by decide +kernel)) <|
  zq_cons (zq_s_ladd (by decide +kernel)) <|
  zq_cons (⟨rfl, (by decide +kernel)⟩) <|
  zq_nil
def zc_X9_personDigest : List (Nat × zq_It) := zc_X9_personDigest_0 ++ (zc_X9_personDigest_1 ++ (zc_X9_personDigest_2 ++ (zc_X9_personDigest_3)))
theorem zk_X9_personDigest : zq_oks zi_X9_personDigest zc_X9_personDigest := zq_app zk_X9_personDigest_0 (zq_app zk_X9_personDigest_1 (zq_app zk_X9_personDigest_2 (zk_X9_personDigest_3)))
def zc_X9_digest_0 : List (Nat × zq_It) := [(0, .inl (zq_push 3 (.long 17))), (3, .inl (zq_lst 4 1)), (4, .inl (zq_push 5 (.int 0))), (5, .inl (zq_is 6 3)), (6, .inl (zq_il 7 3)), (7, .inl (zq_push 9 (.int 8))), (9, .inl (zq_ic_ge 12 31)), (12, .inl (zq_push 15 (.long 31))), (15, .inl (zq_ll 16 1)), (16, .inl (zq_l2 17 (fun x y => x * y))), (17, .inl (zq_al 18 0)), (18, .inl (zq_il 19 3)), (19, .inr (.inl (2, .inr [(8, zn_X9_count)]))), (22, .inl (zq_i2l 23)), (23, .inl (zq_l2 24 (fun x y => x + y))), (24, .inl (zq_lst 25 1)), (25, .inl (zq_inc 28 3 1)), (28, .inl (zq_goto 6)), (31, .inl (zq_push 34 (.long 31))), (34, .inl (zq_ll 35 1)), (35, .inl (zq_l2 36 (fun x y => x * y))), (36, .inl (zq_al 37 0)), (37, .inl (zq_push 38 (.int 0))), (38, .inr (.inl (2, .inr [(8, zn_X9_faultOf)]))), (41, .inl (zq_i2l 42)), (42, .inl (zq_l2 43 (fun x y => x + y))), (43, .inl (zq_lst 44 1)), (44, .inl (zq_push 47 (.long 31))), (47, .inl (zq_ll 48 1)), (48, .inl (zq_l2 49 (fun x y => x * y))), (49, .inl (zq_al 50 0)), (50, .inl (zq_push 51 (.int 1))), (51, .inr (.inl (2, .inr [(8, zn_X9_faultOf)]))), (54, .inl (zq_i2l 55)), (55, .inl (zq_l2 56 (fun x y => x + y))), (56, .inl (zq_lst 57 1)), (57, .inl (zq_push 58 (.int 0))), (58, .inl (zq_is 59 3)), (59, .inl (zq_il 60 3)), (60, .inl (zq_al 61 0))]
theorem zk_X9_digest_0 : zq_oks zi_X9_digest zc_X9_digest_0 := zq_cons (zq_s_ldc2 (index := 340) (by decide +kernel) zw_1371) <|
  zq_cons (zq_s_lstore_n (n := 1) (by decide +kernel) rfl (by decide +kernel)) <|
  zq_cons (zq_s_iconst (n := 0) (by decide +kernel) (by decide +kernel)) <|
  zq_cons (zq_s_istore_n (n := 3) (by decide +kernel) rfl (by decide +kernel)) <|
  zq_cons (zq_s_iload_n (n := 3) (by decide +kernel) rfl) <|
  zq_cons (zq_s_bipush (n := 8) (by decide +kernel) (by decide +kernel)) <|
  zq_cons (zq_s_ic_ge (off := 22) (by decide +kernel) (by decide)) <|
  zq_cons (zq_s_ldc2 (index := 334) (by decide +kernel) zw_1372) <|
  zq_cons (zq_s_lload_n (n := 1) (by decide +kernel) rfl) <|
  zq_cons (zq_s_lmul (by decide +kernel)) <|
  zq_cons (zq_s_aload_n (n := 0) (by decide +kernel) rfl) <|
  zq_cons (zq_s_iload_n (n := 3) (by decide +kernel) rfl) <|
  zq_cons (List.forall_mem_cons.mpr ⟨⟨zi_X9_count, rfl, zq_s_callV (n := 1) (index := 342) (by decide +kernel) rfl zw_1373 zw_1360 zw_1361 zw_91 zw_1362 (by decide +kernel) (by decide +kernel) ⟨rfl, rfl⟩⟩, fun _ h => absurd h List.not_mem_nil⟩) <|
  zq_cons (zq_s_i2l (by decide +kernel)) <|
  zq_cons (zq_s_ladd (by decide +kernel)) <|
  zq_cons (zq_s_lstore_n (n := 1) (by decide +kernel) rfl (by decide +kernel)) <|
  zq_cons (zq_s_iinc (n := 1) (by decide +kernel) (by decide +kernel) (by decide +kernel)) <|
  zq_cons (zq_s_goto (off := (-22)) (by decide +kernel) (by decide)) <|
  zq_cons (zq_s_ldc2 (index := 334) (by decide +kernel) zw_1372) <|
  zq_cons (zq_s_lload_n (n := 1) (by decide +kernel) rfl) <|
  zq_cons (zq_s_lmul (by decide +kernel)) <|
  zq_cons (zq_s_aload_n (n := 0) (by decide +kernel) rfl) <|
  zq_cons (zq_s_iconst (n := 0) (by decide +kernel) (by decide +kernel)) <|
  zq_cons (List.forall_mem_cons.mpr ⟨⟨zi_X9_faultOf, rfl, zq_s_callV (n := 1) (index := 126) (by decide +kernel) rfl zw_999 zw_1001 zw_24 zw_91 zw_1002 (by decide +kernel) (by decide +kernel) ⟨rfl, rfl⟩⟩, fun _ h => absurd h List.not_mem_nil⟩) <|
  zq_cons (zq_s_i2l (by decide +kernel)) <|
  zq_cons (zq_s_ladd (by decide +kernel)) <|
  zq_cons (zq_s_lstore_n (n := 1) (by decide +kernel) rfl (by decide +kernel)) <|
  zq_cons (zq_s_ldc2 (index := 334) (by decide +kernel) zw_1372) <|
  zq_cons (zq_s_lload_n (n := 1) (by decide +kernel) rfl) <|
  zq_cons (zq_s_lmul (by decide +kernel)) <|
  zq_cons (zq_s_aload_n (n := 0) (by decide +kernel) rfl) <|
  zq_cons (zq_s_iconst (n := 1) (by decide +kernel) (by decide +kernel)) <|
  zq_cons (List.forall_mem_cons.mpr ⟨⟨zi_X9_faultOf, rfl, zq_s_callV (n := 1) (index := 126) (by decide +kernel) rfl zw_999 zw_1001 zw_24 zw_91 zw_1002 (by decide +kernel) (by decide +kernel) ⟨rfl, rfl⟩⟩, fun _ h => absurd h List.not_mem_nil⟩) <|
  zq_cons (zq_s_i2l (by decide +kernel)) <|
  zq_cons (zq_s_ladd (by decide +kernel)) <|
  zq_cons (zq_s_lstore_n (n := 1) (by decide +kernel) rfl (by decide +kernel)) <|
  zq_cons (zq_s_iconst (n := 0) (by decide +kernel) (by decide +kernel)) <|
  zq_cons (zq_s_istore_n (n := 3) (by decide +kernel) rfl (by decide +kernel)) <|
  zq_cons (zq_s_iload_n (n := 3) (by decide +kernel) rfl) <|
  zq_cons (zq_s_aload_n (n := 0) (by decide +kernel) rfl) <|
  zq_nil
def zc_X9_digest_1 : List (Nat × zq_It) := [(61, .inl (zq_getf 64 [(8, 2)])), (64, .inl (zq_ic_ge 67 101)), (67, .inl (zq_push 70 (.long 31))), (70, .inl (zq_ll 71 1)), (71, .inl (zq_l2 72 (fun x y => x * y))), (72, .inl (zq_al 73 0)), (73, .inl (zq_il 74 3)), (74, .inl (zq_push 75 (.int 0))), (75, .inr (.inl (3, .inr [(8, zn_X9_doorOf)]))), (78, .inl (zq_i2l 79)), (79, .inl (zq_l2 80 (fun x y => x + y))), (80, .inl (zq_lst 81 1)), (81, .inl (zq_push 84 (.long 31))), (84, .inl (zq_ll 85 1)), (85, .inl (zq_l2 86 (fun x y => x * y))), (86, .inl (zq_al 87 0)), (87, .inl (zq_il 88 3)), (88, .inl (zq_push 89 (.int 1))), (89, .inr (.inl (3, .inr [(8, zn_X9_doorOf)]))), (92, .inl (zq_i2l 93)), (93, .inl (zq_l2 94 (fun x y => x + y))), (94, .inl (zq_lst 95 1)), (95, .inl (zq_inc 98 3 1)), (98, .inl (zq_goto 59)), (101, .inl (zq_push 102 (.int 0))), (102, .inl (zq_is 103 3)), (103, .inl (zq_il 104 3)), (104, .inl (zq_push 106 (.int 8))), (106, .inl (zq_ic_ge 109 160)), (109, .inl (zq_push 112 (.long 31))), (112, .inl (zq_ll 113 1)), (113, .inl (zq_l2 114 (fun x y => x * y))), (114, .inl (zq_al 115 0)), (115, .inl (zq_il 116 3)), (116, .inr (.inl (2, .inr [(8, zn_X9_emptyOf)]))), (119, .inl (zq_i2l 120)), (120, .inl (zq_l2 121 (fun x y => x + y))), (121, .inl (zq_lst 122 1)), (122, .inl (zq_push 125 (.long 31))), (125, .inl (zq_ll 126 1))]
theorem zk_X9_digest_1 : zq_oks zi_X9_digest zc_X9_digest_1 := zq_cons (zq_s_getf (index := 110) (by decide +kernel) zf_X9_110) <|
  zq_cons (zq_s_ic_ge (off := 37) (by decide +kernel) (by decide)) <|
  zq_cons (zq_s_ldc2 (index := 334) (by decide +kernel) zw_1372) <|
  zq_cons (zq_s_lload_n (n := 1) (by decide +kernel) rfl) <|
  zq_cons (zq_s_lmul (by decide +kernel)) <|
  zq_cons (zq_s_aload_n (n := 0) (by decide +kernel) rfl) <|
  zq_cons (zq_s_iload_n (n := 3) (by decide +kernel) rfl) <|
  zq_cons (zq_s_iconst (n := 0) (by decide +kernel) (by decide +kernel)) <|
  zq_cons (List.forall_mem_cons.mpr ⟨⟨zi_X9_doorOf, rfl, zq_s_callV (n := 2) (index := 138) (by decide +kernel) rfl zw_1037 zw_1039 zw_31 zw_91 zw_1040 (by decide +kernel) (by decide +kernel) ⟨rfl, rfl⟩⟩, fun _ h => absurd h List.not_mem_nil⟩) <|
  zq_cons (zq_s_i2l (by decide +kernel)) <|
  zq_cons (zq_s_ladd (by decide +kernel)) <|
  zq_cons (zq_s_lstore_n (n := 1) (by decide +kernel) rfl (by decide +kernel)) <|
  zq_cons (zq_s_ldc2 (index := 334) (by decide +kernel) zw_1372) <|
  zq_cons (zq_s_lload_n (n := 1) (by decide +kernel) rfl) <|
  zq_cons (zq_s_lmul (by decide +kernel)) <|
  zq_cons (zq_s_aload_n (n := 0) (by decide +kernel) rfl) <|
  zq_cons (zq_s_iload_n (n := 3) (by decide +kernel) rfl) <|
  zq_cons (zq_s_iconst (n := 1) (by decide +kernel) (by decide +kernel)) <|
  zq_cons (List.forall_mem_cons.mpr ⟨⟨zi_X9_doorOf, rfl, zq_s_callV (n := 2) (index := 138) (by decide +kernel) rfl zw_1037 zw_1039 zw_31 zw_91 zw_1040 (by decide +kernel) (by decide +kernel) ⟨rfl, rfl⟩⟩, fun _ h => absurd h List.not_mem_nil⟩) <|
  zq_cons (zq_s_i2l (by decide +kernel)) <|
  zq_cons (zq_s_ladd (by decide +kernel)) <|
  zq_cons (zq_s_lstore_n (n := 1) (by decide +kernel) rfl (by decide +kernel)) <|
  zq_cons (zq_s_iinc (n := 1) (by decide +kernel) (by decide +kernel) (by decide +kernel)) <|
  zq_cons (zq_s_goto (off := (-39)) (by decide +kernel) (by decide)) <|
  zq_cons (zq_s_iconst (n := 0) (by decide +kernel) (by decide +kernel)) <|
  zq_cons (zq_s_istore_n (n := 3) (by decide +kernel) rfl (by decide +kernel)) <|
  zq_cons (zq_s_iload_n (n := 3) (by decide +kernel) rfl) <|
  zq_cons (zq_s_bipush (n := 8) (by decide +kernel) (by decide +kernel)) <|
  zq_cons (zq_s_ic_ge (off := 54) (by decide +kernel) (by decide)) <|
  zq_cons (zq_s_ldc2 (index := 334) (by decide +kernel) zw_1372) <|
  zq_cons (zq_s_lload_n (n := 1) (by decide +kernel) rfl) <|
  zq_cons (zq_s_lmul (by decide +kernel)) <|
  zq_cons (zq_s_aload_n (n := 0) (by decide +kernel) rfl) <|
  zq_cons (zq_s_iload_n (n := 3) (by decide +kernel) rfl) <|
  zq_cons (List.forall_mem_cons.mpr ⟨⟨zi_X9_emptyOf, rfl, zq_s_callV (n := 1) (index := 237) (by decide +kernel) rfl zw_1166 zw_1168 zw_50 zw_91 zw_1169 (by decide +kernel) (by decide +kernel) ⟨rfl, rfl⟩⟩, fun _ h => absurd h List.not_mem_nil⟩) <|
  zq_cons (zq_s_i2l (by decide +kernel)) <|
  zq_cons (zq_s_ladd (by decide +kernel)) <|
  zq_cons (zq_s_lstore_n (n := 1) (by decide +kernel) rfl (by decide +kernel)) <|
  zq_cons (zq_s_ldc2 (index := 334) (by decide +kernel) zw_1372) <|
  zq_cons (zq_s_lload_n (n := 1) (by decide +kernel) rfl) <|
  zq_nil
def zc_X9_digest_2 : List (Nat × zq_It) := [(126, .inl (zq_l2 127 (fun x y => x * y))), (127, .inl (zq_al 128 0)), (128, .inl (zq_push 130 (.int 9))), (130, .inl (zq_il 131 3)), (131, .inl (zq_push 132 (.int 0))), (132, .inr (.inl (4, .inr [(8, zn_X9_farOf)]))), (135, .inl (zq_i2l 136)), (136, .inl (zq_l2 137 (fun x y => x + y))), (137, .inl (zq_lst 138 1)), (138, .inl (zq_push 141 (.long 31))), (141, .inl (zq_ll 142 1)), (142, .inl (zq_l2 143 (fun x y => x * y))), (143, .inl (zq_al 144 0)), (144, .inl (zq_push 146 (.int 23))), (146, .inl (zq_il 147 3)), (147, .inl (zq_push 148 (.int 5))), (148, .inr (.inl (4, .inr [(8, zn_X9_farOf)]))), (151, .inl (zq_i2l 152)), (152, .inl (zq_l2 153 (fun x y => x + y))), (153, .inl (zq_lst 154 1)), (154, .inl (zq_inc 157 3 1)), (157, .inl (zq_goto 103)), (160, .inl (zq_push 161 (.int 0))), (161, .inl (zq_is 162 3)), (162, .inl (zq_il 163 3)), (163, .inl (zq_al 164 0)), (164, .inl (zq_getf 167 [(8, 5)])), (167, .inl (zq_ic_ge 170 183)), (170, .inl (zq_al 171 0)), (171, .inl (zq_ll 172 1)), (172, .inl (zq_il 173 3)), (173, .inr (.inl (3, .inr [(8, zn_X9_personDigest)]))), (176, .inl (zq_lst 177 1)), (177, .inl (zq_inc 180 3 1)), (180, .inl (zq_goto 162)), (183, .inl (zq_push 184 (.int 0))), (184, .inl (zq_is 185 3)), (185, .inl (zq_il 186 3)), (186, .inl (zq_push 187 (.int 3))), (187, .inl (zq_ic_ge 190 209))]
theorem zk_X9_digest_2 : zq_oks zi_X9_digest zc_X9_digest_2 := zq_cons (zq_s_lmul (by decide +kernel)) <|
  zq_cons (zq_s_aload_n (n := 0) (by decide +kernel) rfl) <|
  zq_cons (zq_s_bipush (n := 9) (by decide +kernel) (by decide +kernel)) <|
  zq_cons (zq_s_iload_n (n := 3) (by decide +kernel) rfl) <|
  zq_cons (zq_s_iconst (n := 0) (by decide +kernel) (by decide +kernel)) <|
  zq_cons (List.forall_mem_cons.mpr ⟨⟨zi_X9_farOf, rfl, zq_s_callV (n := 3) (index := 228) (by decide +kernel) rfl zw_1150 zw_1152 zw_48 zw_91 zw_1153 (by decide +kernel) (by decide +kernel) ⟨rfl, rfl⟩⟩, fun _ h => absurd h List.not_mem_nil⟩) <|
  zq_cons (zq_s_i2l (by decide +kernel)) <|
  zq_cons (zq_s_ladd (by decide +kernel)) <|
  zq_cons (zq_s_lstore_n (n := 1) (by decide +kernel) rfl (by decide +kernel)) <|
  zq_cons (zq_s_ldc2 (index := 334) (by decide +kernel) zw_1372) <|
  zq_cons (zq_s_lload_n (n := 1) (by decide +kernel) rfl) <|
  zq_cons (zq_s_lmul (by decide +kernel)) <|
  zq_cons (zq_s_aload_n (n := 0) (by decide +kernel) rfl) <|
  zq_cons (zq_s_bipush (n := 23) (by decide +kernel) (by decide +kernel)) <|
  zq_cons (zq_s_iload_n (n := 3) (by decide +kernel) rfl) <|
  zq_cons (zq_s_iconst (n := 5) (by decide +kernel) (by decide +kernel)) <|
  zq_cons (List.forall_mem_cons.mpr ⟨⟨zi_X9_farOf, rfl, zq_s_callV (n := 3) (index := 228) (by decide +kernel) rfl zw_1150 zw_1152 zw_48 zw_91 zw_1153 (by decide +kernel) (by decide +kernel) ⟨rfl, rfl⟩⟩, fun _ h => absurd h List.not_mem_nil⟩) <|
  zq_cons (zq_s_i2l (by decide +kernel)) <|
  zq_cons (zq_s_ladd (by decide +kernel)) <|
  zq_cons (zq_s_lstore_n (n := 1) (by decide +kernel) rfl (by decide +kernel)) <|
  zq_cons (zq_s_iinc (n := 1) (by decide +kernel) (by decide +kernel) (by decide +kernel)) <|
  zq_cons (zq_s_goto (off := (-54)) (by decide +kernel) (by decide)) <|
  zq_cons (zq_s_iconst (n := 0) (by decide +kernel) (by decide +kernel)) <|
  zq_cons (zq_s_istore_n (n := 3) (by decide +kernel) rfl (by decide +kernel)) <|
  zq_cons (zq_s_iload_n (n := 3) (by decide +kernel) rfl) <|
  zq_cons (zq_s_aload_n (n := 0) (by decide +kernel) rfl) <|
  zq_cons (zq_s_getf (index := 113) (by decide +kernel) zf_X9_113) <|
  zq_cons (zq_s_ic_ge (off := 16) (by decide +kernel) (by decide)) <|
  zq_cons (zq_s_aload_n (n := 0) (by decide +kernel) rfl) <|
  zq_cons (zq_s_lload_n (n := 1) (by decide +kernel) rfl) <|
  zq_cons (zq_s_iload_n (n := 3) (by decide +kernel) rfl) <|
  zq_cons (List.forall_mem_cons.mpr ⟨⟨zi_X9_personDigest, rfl, zq_s_callV (n := 2) (index := 345) (by decide +kernel) rfl zw_1374 zw_1376 zw_77 zw_91 zw_1377 (by decide +kernel) (by decide +kernel) ⟨rfl, rfl⟩⟩, fun _ h => absurd h List.not_mem_nil⟩) <|
  zq_cons (zq_s_lstore_n (n := 1) (by decide +kernel) rfl (by decide +kernel)) <|
  zq_cons (zq_s_iinc (n := 1) (by decide +kernel) (by decide +kernel) (by decide +kernel)) <|
  zq_cons (zq_s_goto (off := (-18)) (by decide +kernel) (by decide)) <|
  zq_cons (zq_s_iconst (n := 0) (by decide +kernel) (by decide +kernel)) <|
  zq_cons (zq_s_istore_n (n := 3) (by decide +kernel) rfl (by decide +kernel)) <|
  zq_cons (zq_s_iload_n (n := 3) (by decide +kernel) rfl) <|
  zq_cons (zq_s_iconst (n := 3) (by decide +kernel) (by decide +kernel)) <|
  zq_cons (zq_s_ic_ge (off := 22) (by decide +kernel) (by decide)) <|
  zq_nil
def zc_X9_digest_3 : List (Nat × zq_It) := [(190, .inl (zq_push 193 (.long 31))), (193, .inl (zq_ll 194 1)), (194, .inl (zq_l2 195 (fun x y => x * y))), (195, .inl (zq_al 196 0)), (196, .inl (zq_il 197 3)), (197, .inr (.inl (2, .inr [(8, zn_X9_foundOf)]))), (200, .inl (zq_i2l 201)), (201, .inl (zq_l2 202 (fun x y => x + y))), (202, .inl (zq_lst 203 1)), (203, .inl (zq_inc 206 3 1)), (206, .inl (zq_goto 185)), (209, .inl (zq_push 210 (.int 0))), (210, .inl (zq_is 211 3)), (211, .inl (zq_il 212 3)), (212, .inl (zq_push 213 (.int 3))), (213, .inl (zq_ic_ge 216 235)), (216, .inl (zq_push 219 (.long 31))), (219, .inl (zq_ll 220 1)), (220, .inl (zq_l2 221 (fun x y => x * y))), (221, .inl (zq_al 222 0)), (222, .inl (zq_il 223 3)), (223, .inr (.inl (2, .inr [(8, zn_X9_crowdOf)]))), (226, .inl (zq_i2l 227)), (227, .inl (zq_l2 228 (fun x y => x + y))), (228, .inl (zq_lst 229 1)), (229, .inl (zq_inc 232 3 1)), (232, .inl (zq_goto 211)), (235, .inl (zq_push 238 (.long 31))), (238, .inl (zq_ll 239 1)), (239, .inl (zq_l2 240 (fun x y => x * y))), (240, .inl (zq_al 241 0)), (241, .inr (.inl (1, .inr [(8, zn_X9_aloneOf)]))), (244, .inl (zq_i2l 245)), (245, .inl (zq_l2 246 (fun x y => x + y))), (246, .inl (zq_lst 247 1)), (247, .inl (zq_push 250 (.long 31))), (250, .inl (zq_ll 251 1)), (251, .inl (zq_l2 252 (fun x y => x * y))), (252, .inl (zq_al 253 0)), (253, .inl (zq_push 255 (.int 8)))]
theorem zk_X9_digest_3 : zq_oks zi_X9_digest zc_X9_digest_3 := zq_cons (zq_s_ldc2 (index := 334) (by decide +kernel) zw_1372) <|
  zq_cons (zq_s_lload_n (n := 1) (by decide +kernel) rfl) <|
  zq_cons (zq_s_lmul (by decide +kernel)) <|
  zq_cons (zq_s_aload_n (n := 0) (by decide +kernel) rfl) <|
  zq_cons (zq_s_iload_n (n := 3) (by decide +kernel) rfl) <|
  zq_cons (List.forall_mem_cons.mpr ⟨⟨zi_X9_foundOf, rfl, zq_s_callV (n := 1) (index := 243) (by decide +kernel) rfl zw_1178 zw_1180 zw_52 zw_91 zw_1181 (by decide +kernel) (by decide +kernel) ⟨rfl, rfl⟩⟩, fun _ h => absurd h List.not_mem_nil⟩) <|
  zq_cons (zq_s_i2l (by decide +kernel)) <|
  zq_cons (zq_s_ladd (by decide +kernel)) <|
  zq_cons (zq_s_lstore_n (n := 1) (by decide +kernel) rfl (by decide +kernel)) <|
  zq_cons (zq_s_iinc (n := 1) (by decide +kernel) (by decide +kernel) (by decide +kernel)) <|
  zq_cons (zq_s_goto (off := (-21)) (by decide +kernel) (by decide)) <|
  zq_cons (zq_s_iconst (n := 0) (by decide +kernel) (by decide +kernel)) <|
  zq_cons (zq_s_istore_n (n := 3) (by decide +kernel) rfl (by decide +kernel)) <|
  zq_cons (zq_s_iload_n (n := 3) (by decide +kernel) rfl) <|
  zq_cons (zq_s_iconst (n := 3) (by decide +kernel) (by decide +kernel)) <|
  zq_cons (zq_s_ic_ge (off := 22) (by decide +kernel) (by decide)) <|
  zq_cons (zq_s_ldc2 (index := 334) (by decide +kernel) zw_1372) <|
  zq_cons (zq_s_lload_n (n := 1) (by decide +kernel) rfl) <|
  zq_cons (zq_s_lmul (by decide +kernel)) <|
  zq_cons (zq_s_aload_n (n := 0) (by decide +kernel) rfl) <|
  zq_cons (zq_s_iload_n (n := 3) (by decide +kernel) rfl) <|
  zq_cons (List.forall_mem_cons.mpr ⟨⟨zi_X9_crowdOf, rfl, zq_s_callV (n := 1) (index := 249) (by decide +kernel) rfl zw_1190 zw_1192 zw_54 zw_91 zw_1193 (by decide +kernel) (by decide +kernel) ⟨rfl, rfl⟩⟩, fun _ h => absurd h List.not_mem_nil⟩) <|
  zq_cons (zq_s_i2l (by decide +kernel)) <|
  zq_cons (zq_s_ladd (by decide +kernel)) <|
  zq_cons (zq_s_lstore_n (n := 1) (by decide +kernel) rfl (by decide +kernel)) <|
  zq_cons (zq_s_iinc (n := 1) (by decide +kernel) (by decide +kernel) (by decide +kernel)) <|
  zq_cons (zq_s_goto (off := (-21)) (by decide +kernel) (by decide)) <|
  zq_cons (zq_s_ldc2 (index := 334) (by decide +kernel) zw_1372) <|
  zq_cons (zq_s_lload_n (n := 1) (by decide +kernel) rfl) <|
  zq_cons (zq_s_lmul (by decide +kernel)) <|
  zq_cons (zq_s_aload_n (n := 0) (by decide +kernel) rfl) <|
  zq_cons (List.forall_mem_cons.mpr ⟨⟨zi_X9_aloneOf, rfl, zq_s_callV (n := 0) (index := 258) (by decide +kernel) rfl zw_1202 zw_1204 zw_56 zw_91 zw_1205 (by decide +kernel) (by decide +kernel) ⟨rfl, rfl⟩⟩, fun _ h => absurd h List.not_mem_nil⟩) <|
  zq_cons (zq_s_i2l (by decide +kernel)) <|
  zq_cons (zq_s_ladd (by decide +kernel)) <|
  zq_cons (zq_s_lstore_n (n := 1) (by decide +kernel) rfl (by decide +kernel)) <|
  zq_cons (zq_s_ldc2 (index := 334) (by decide +kernel) zw_1372) <|
  zq_cons (zq_s_lload_n (n := 1) (by decide +kernel) rfl) <|
  zq_cons (zq_s_lmul (by decide +kernel)) <|
  zq_cons (zq_s_aload_n (n := 0) (by decide +kernel) rfl) <|
  zq_cons (zq_s_bipush (n := 8) (by decide +kernel) (by decide +kernel)) <|
  zq_nil
def zc_X9_digest_4 : List (Nat × zq_It) := [(255, .inl (zq_push 256 (.int 0))), (256, .inr (.inl (3, .inr [(8, zn_X9_niceOf)]))), (259, .inl (zq_i2l 260)), (260, .inl (zq_l2 261 (fun x y => x + y))), (261, .inl (zq_lst 262 1)), (262, .inl (zq_push 265 (.long 31))), (265, .inl (zq_ll 266 1)), (266, .inl (zq_l2 267 (fun x y => x * y))), (267, .inl (zq_al 268 0)), (268, .inl (zq_push 270 (.int 8))), (270, .inl (zq_push 271 (.int 1))), (271, .inr (.inl (3, .inr [(8, zn_X9_niceOf)]))), (274, .inl (zq_i2l 275)), (275, .inl (zq_l2 276 (fun x y => x + y))), (276, .inl (zq_lst 277 1)), (277, .inl (zq_push 280 (.long 31))), (280, .inl (zq_ll 281 1)), (281, .inl (zq_l2 282 (fun x y => x * y))), (282, .inl (zq_al 283 0)), (283, .inl (zq_push 284 (.int 0))), (284, .inr (.inl (2, .inr [(8, zn_X9_lensOf)]))), (287, .inl (zq_i2l 288)), (288, .inl (zq_l2 289 (fun x y => x + y))), (289, .inl (zq_lst 290 1)), (290, .inl (zq_push 293 (.long 31))), (293, .inl (zq_ll 294 1)), (294, .inl (zq_l2 295 (fun x y => x * y))), (295, .inl (zq_al 296 0)), (296, .inl (zq_push 297 (.int 1))), (297, .inr (.inl (2, .inr [(8, zn_X9_lensOf)]))), (300, .inl (zq_i2l 301)), (301, .inl (zq_l2 302 (fun x y => x + y))), (302, .inl (zq_lst 303 1)), (303, .inl (zq_al 304 0)), (304, .inr (.inl (1, .inr [(8, zn_X9_spareBy)]))), (307, .inl (zq_is 308 3)), (308, .inl (zq_push 311 (.long 31))), (311, .inl (zq_ll 312 1)), (312, .inl (zq_l2 313 (fun x y => x * y))), (313, .inl (zq_il 314 3))]
theorem zk_X9_digest_4 : zq_oks zi_X9_digest zc_X9_digest_4 := zq_cons (zq_s_iconst (n := 0) (by decide +kernel) (by decide +kernel)) <|
  zq_cons (List.forall_mem_cons.mpr ⟨⟨zi_X9_niceOf, rfl, zq_s_callV (n := 2) (index := 270) (by decide +kernel) rfl zw_1230 zw_1232 zw_61 zw_91 zw_1233 (by decide +kernel) (by decide +kernel) ⟨rfl, rfl⟩⟩, fun _ h => absurd h List.not_mem_nil⟩) <|
  zq_cons (zq_s_i2l (by decide +kernel)) <|
  zq_cons (zq_s_ladd (by decide +kernel)) <|
  zq_cons (zq_s_lstore_n (n := 1) (by decide +kernel) rfl (by decide +kernel)) <|
  zq_cons (zq_s_ldc2 (index := 334) (by decide +kernel) zw_1372) <|
  zq_cons (zq_s_lload_n (n := 1) (by decide +kernel) rfl) <|
  zq_cons (zq_s_lmul (by decide +kernel)) <|
  zq_cons (zq_s_aload_n (n := 0) (by decide +kernel) rfl) <|
  zq_cons (zq_s_bipush (n := 8) (by decide +kernel) (by decide +kernel)) <|
  zq_cons (zq_s_iconst (n := 1) (by decide +kernel) (by decide +kernel)) <|
  zq_cons (List.forall_mem_cons.mpr ⟨⟨zi_X9_niceOf, rfl, zq_s_callV (n := 2) (index := 270) (by decide +kernel) rfl zw_1230 zw_1232 zw_61 zw_91 zw_1233 (by decide +kernel) (by decide +kernel) ⟨rfl, rfl⟩⟩, fun _ h => absurd h List.not_mem_nil⟩) <|
  zq_cons (zq_s_i2l (by decide +kernel)) <|
  zq_cons (zq_s_ladd (by decide +kernel)) <|
  zq_cons (zq_s_lstore_n (n := 1) (by decide +kernel) rfl (by decide +kernel)) <|
  zq_cons (zq_s_ldc2 (index := 334) (by decide +kernel) zw_1372) <|
  zq_cons (zq_s_lload_n (n := 1) (by decide +kernel) rfl) <|
  zq_cons (zq_s_lmul (by decide +kernel)) <|
  zq_cons (zq_s_aload_n (n := 0) (by decide +kernel) rfl) <|
  zq_cons (zq_s_iconst (n := 0) (by decide +kernel) (by decide +kernel)) <|
  zq_cons (List.forall_mem_cons.mpr ⟨⟨zi_X9_lensOf, rfl, zq_s_callV (n := 1) (index := 273) (by decide +kernel) rfl zw_1242 zw_1244 zw_63 zw_91 zw_1245 (by decide +kernel) (by decide +kernel) ⟨rfl, rfl⟩⟩, fun _ h => absurd h List.not_mem_nil⟩) <|
  zq_cons (zq_s_i2l (by decide +kernel)) <|
  zq_cons (zq_s_ladd (by decide +kernel)) <|
  zq_cons (zq_s_lstore_n (n := 1) (by decide +kernel) rfl (by decide +kernel)) <|
  zq_cons (zq_s_ldc2 (index := 334) (by decide +kernel) zw_1372) <|
  zq_cons (zq_s_lload_n (n := 1) (by decide +kernel) rfl) <|
  zq_cons (zq_s_lmul (by decide +kernel)) <|
  zq_cons (zq_s_aload_n (n := 0) (by decide +kernel) rfl) <|
  zq_cons (zq_s_iconst (n := 1) (by decide +kernel) (by decide +kernel)) <|
  zq_cons (List.forall_mem_cons.mpr ⟨⟨zi_X9_lensOf, rfl, zq_s_callV (n := 1) (index := 273) (by decide +kernel) rfl zw_1242 zw_1244 zw_63 zw_91 zw_1245 (by decide +kernel) (by decide +kernel) ⟨rfl, rfl⟩⟩, fun _ h => absurd h List.not_mem_nil⟩) <|
  zq_cons (zq_s_i2l (by decide +kernel)) <|
  zq_cons (zq_s_ladd (by decide +kernel)) <|
  zq_cons (zq_s_lstore_n (n := 1) (by decide +kernel) rfl (by decide +kernel)) <|
  zq_cons (zq_s_aload_n (n := 0) (by decide +kernel) rfl) <|
  zq_cons (List.forall_mem_cons.mpr ⟨⟨zi_X9_spareBy, rfl, zq_s_callV (n := 0) (index := 279) (by decide +kernel) rfl zw_1250 zw_1252 zw_64 zw_91 zw_1253 (by decide +kernel) (by decide +kernel) ⟨rfl, rfl⟩⟩, fun _ h => absurd h List.not_mem_nil⟩) <|
  zq_cons (zq_s_istore_n (n := 3) (by decide +kernel) rfl (by decide +kernel)) <|
  zq_cons (zq_s_ldc2 (index := 334) (by decide +kernel) zw_1372) <|
  zq_cons (zq_s_lload_n (n := 1) (by decide +kernel) rfl) <|
  zq_cons (zq_s_lmul (by decide +kernel)) <|
  zq_cons (zq_s_iload_n (n := 3) (by decide +kernel) rfl) <|
  zq_nil
def zc_X9_digest_5 : List (Nat × zq_It) := [(314, .inl (zq_i2l 315)), (315, .inl (zq_l2 316 (fun x y => x + y))), (316, .inl (zq_lst 317 1)), (317, .inl (zq_push 320 (.long 31))), (320, .inl (zq_ll 321 1)), (321, .inl (zq_l2 322 (fun x y => x * y))), (322, .inl (zq_al 323 0)), (323, .inl (zq_il 324 3)), (324, .inl (zq_push 325 (.int 0))), (325, .inr (.inl (3, .inr [(8, zn_X9_ofRow)]))), (328, .inl (zq_i2l 329)), (329, .inl (zq_l2 330 (fun x y => x + y))), (330, .inl (zq_lst 331 1)), (331, .inl (zq_push 334 (.long 31))), (334, .inl (zq_ll 335 1)), (335, .inl (zq_l2 336 (fun x y => x * y))), (336, .inl (zq_al 337 0)), (337, .inr (.inl (1, .inr [(8, zn_X9_neverNow)]))), (340, .inl (zq_i2l 341)), (341, .inl (zq_l2 342 (fun x y => x + y))), (342, .inl (zq_lst 343 1)), (343, .inl (zq_push 346 (.long 31))), (346, .inl (zq_ll 347 1)), (347, .inl (zq_l2 348 (fun x y => x * y))), (348, .inl (zq_al 349 0)), (349, .inl (zq_push 351 (.int 7))), (351, .inl (zq_push 353 (.int 6))), (353, .inl (zq_push 354 (.int 0))), (354, .inr (.inl (4, .inr [(8, zn_X9_weeksOf)]))), (357, .inl (zq_i2l 358)), (358, .inl (zq_l2 359 (fun x y => x + y))), (359, .inl (zq_lst 360 1)), (360, .inl (zq_push 363 (.long 31))), (363, .inl (zq_ll 364 1)), (364, .inl (zq_l2 365 (fun x y => x * y))), (365, .inl (zq_al 366 0)), (366, .inl (zq_push 368 (.int 7))), (368, .inl (zq_push 370 (.int 6))), (370, .inl (zq_push 371 (.int 1))), (371, .inr (.inl (4, .inr [(8, zn_X9_weeksOf)])))]
theorem zk_X9_digest_5 : zq_oks zi_X9_digest zc_X9_digest_5 := zq_cons (zq_s_i2l (by decide +kernel)) <|
  zq_cons (zq_s_ladd (by decide +kernel)) <|
  zq_cons (zq_s_lstore_n (n := 1) (by decide +kernel) rfl (by decide +kernel)) <|
  zq_cons (zq_s_ldc2 (index := 334) (by decide +kernel) zw_1372) <|
  zq_cons (zq_s_lload_n (n := 1) (by decide +kernel) rfl) <|
  zq_cons (zq_s_lmul (by decide +kernel)) <|
  zq_cons (zq_s_aload_n (n := 0) (by decide +kernel) rfl) <|
  zq_cons (zq_s_iload_n (n := 3) (by decide +kernel) rfl) <|
  zq_cons (zq_s_iconst (n := 0) (by decide +kernel) (by decide +kernel)) <|
  zq_cons (List.forall_mem_cons.mpr ⟨⟨zi_X9_ofRow, rfl, zq_s_callV (n := 2) (index := 282) (by decide +kernel) rfl zw_1258 zw_1260 zw_66 zw_91 zw_1261 (by decide +kernel) (by decide +kernel) ⟨rfl, rfl⟩⟩, fun _ h => absurd h List.not_mem_nil⟩) <|
  zq_cons (zq_s_i2l (by decide +kernel)) <|
  zq_cons (zq_s_ladd (by decide +kernel)) <|
  zq_cons (zq_s_lstore_n (n := 1) (by decide +kernel) rfl (by decide +kernel)) <|
  zq_cons (zq_s_ldc2 (index := 334) (by decide +kernel) zw_1372) <|
  zq_cons (zq_s_lload_n (n := 1) (by decide +kernel) rfl) <|
  zq_cons (zq_s_lmul (by decide +kernel)) <|
  zq_cons (zq_s_aload_n (n := 0) (by decide +kernel) rfl) <|
  zq_cons (List.forall_mem_cons.mpr ⟨⟨zi_X9_neverNow, rfl, zq_s_callV (n := 0) (index := 292) (by decide +kernel) rfl zw_1274 zw_1276 zw_67 zw_91 zw_1277 (by decide +kernel) (by decide +kernel) ⟨rfl, rfl⟩⟩, fun _ h => absurd h List.not_mem_nil⟩) <|
  zq_cons (zq_s_i2l (by decide +kernel)) <|
  zq_cons (zq_s_ladd (by decide +kernel)) <|
  zq_cons (zq_s_lstore_n (n := 1) (by decide +kernel) rfl (by decide +kernel)) <|
  zq_cons (zq_s_ldc2 (index := 334) (by decide +kernel) zw_1372) <|
  zq_cons (zq_s_lload_n (n := 1) (by decide +kernel) rfl) <|
  zq_cons (zq_s_lmul (by decide +kernel)) <|
  zq_cons (zq_s_aload_n (n := 0) (by decide +kernel) rfl) <|
  zq_cons (zq_s_bipush (n := 7) (by decide +kernel) (by decide +kernel)) <|
  zq_cons (zq_s_bipush (n := 6) (by decide +kernel) (by decide +kernel)) <|
  zq_cons (zq_s_iconst (n := 0) (by decide +kernel) (by decide +kernel)) <|
  zq_cons (List.forall_mem_cons.mpr ⟨⟨zi_X9_weeksOf, rfl, zq_s_callV (n := 3) (index := 317) (by decide +kernel) rfl zw_1321 zw_1323 zw_73 zw_91 zw_1324 (by decide +kernel) (by decide +kernel) ⟨rfl, rfl⟩⟩, fun _ h => absurd h List.not_mem_nil⟩) <|
  zq_cons (zq_s_i2l (by decide +kernel)) <|
  zq_cons (zq_s_ladd (by decide +kernel)) <|
  zq_cons (zq_s_lstore_n (n := 1) (by decide +kernel) rfl (by decide +kernel)) <|
  zq_cons (zq_s_ldc2 (index := 334) (by decide +kernel) zw_1372) <|
  zq_cons (zq_s_lload_n (n := 1) (by decide +kernel) rfl) <|
  zq_cons (zq_s_lmul (by decide +kernel)) <|
  zq_cons (zq_s_aload_n (n := 0) (by decide +kernel) rfl) <|
  zq_cons (zq_s_bipush (n := 7) (by decide +kernel) (by decide +kernel)) <|
  zq_cons (zq_s_bipush (n := 6) (by decide +kernel) (by decide +kernel)) <|
  zq_cons (zq_s_iconst (n := 1) (by decide +kernel) (by decide +kernel)) <|
  zq_cons (List.forall_mem_cons.mpr ⟨⟨zi_X9_weeksOf, rfl, zq_s_callV (n := 3) (index := 317) (by decide +kernel) rfl zw_1321 zw_1323 zw_73 zw_91 zw_1324 (by decide +kernel) (by decide +kernel) ⟨rfl, rfl⟩⟩, fun _ h => absurd h List.not_mem_nil⟩) <|
  zq_nil
def zc_X9_digest_6 : List (Nat × zq_It) := [(374, .inl (zq_i2l 375)), (375, .inl (zq_l2 376 (fun x y => x + y))), (376, .inr (.inr 3))]
theorem zk_X9_digest_6 : zq_oks zi_X9_digest zc_X9_digest_6 := zq_cons (zq_s_i2l (by decide +kernel)) <|
  zq_cons (zq_s_ladd (by decide +kernel)) <|
  zq_cons (⟨rfl, (by decide +kernel)⟩) <|
  zq_nil
def zc_X9_digest : List (Nat × zq_It) := zc_X9_digest_0 ++ (zc_X9_digest_1 ++ (zc_X9_digest_2 ++ (zc_X9_digest_3 ++ (zc_X9_digest_4 ++ (zc_X9_digest_5 ++ (zc_X9_digest_6))))))
theorem zk_X9_digest : zq_oks zi_X9_digest zc_X9_digest := zq_app zk_X9_digest_0 (zq_app zk_X9_digest_1 (zq_app zk_X9_digest_2 (zq_app zk_X9_digest_3 (zq_app zk_X9_digest_4 (zq_app zk_X9_digest_5 (zk_X9_digest_6))))))
def zc_J6_bitCount_0f7a4_0 : List (Nat × zq_It) := [(0, .inl (zq_il 1 0)), (1, .inl (zq_il 2 0)), (2, .inl (zq_push 3 (.int 1))), (3, .inl (zq_i2 4 zq_ush)), (4, .inl (zq_push 7 (.int 1431655765))), (7, .inl (zq_i2 8 (fun x y => x &&& y))), (8, .inl (zq_i2 9 (fun x y => x - y))), (9, .inl (zq_is 10 0)), (10, .inl (zq_il 11 0)), (11, .inl (zq_push 14 (.int 858993459))), (14, .inl (zq_i2 15 (fun x y => x &&& y))), (15, .inl (zq_il 16 0)), (16, .inl (zq_push 17 (.int 2))), (17, .inl (zq_i2 18 zq_ush)), (18, .inl (zq_push 21 (.int 858993459))), (21, .inl (zq_i2 22 (fun x y => x &&& y))), (22, .inl (zq_i2 23 (fun x y => x + y))), (23, .inl (zq_is 24 0)), (24, .inl (zq_il 25 0)), (25, .inl (zq_il 26 0)), (26, .inl (zq_push 27 (.int 4))), (27, .inl (zq_i2 28 zq_ush)), (28, .inl (zq_i2 29 (fun x y => x + y))), (29, .inl (zq_push 32 (.int 252645135))), (32, .inl (zq_i2 33 (fun x y => x &&& y))), (33, .inl (zq_is 34 0)), (34, .inl (zq_il 35 0)), (35, .inl (zq_il 36 0)), (36, .inl (zq_push 38 (.int 8))), (38, .inl (zq_i2 39 zq_ush)), (39, .inl (zq_i2 40 (fun x y => x + y))), (40, .inl (zq_is 41 0)), (41, .inl (zq_il 42 0)), (42, .inl (zq_il 43 0)), (43, .inl (zq_push 45 (.int 16))), (45, .inl (zq_i2 46 zq_ush)), (46, .inl (zq_i2 47 (fun x y => x + y))), (47, .inl (zq_is 48 0)), (48, .inl (zq_il 49 0)), (49, .inl (zq_push 51 (.int 63)))]
theorem zk_J6_bitCount_0f7a4_0 : zq_oks zi_J6_bitCount_0f7a4 zc_J6_bitCount_0f7a4_0 := zq_cons (zq_s_iload_n (n := 0) (by decide +kernel) rfl) <|
  zq_cons (zq_s_iload_n (n := 0) (by decide +kernel) rfl) <|
  zq_cons (zq_s_iconst (n := 1) (by decide +kernel) (by decide +kernel)) <|
  zq_cons (zq_s_iushr (by decide +kernel)) <|
  zq_cons (zq_s_ldcw (index := 265) (by decide +kernel) zw_634) <|
  zq_cons (zq_s_iand (by decide +kernel)) <|
  zq_cons (zq_s_isub (by decide +kernel)) <|
  zq_cons (zq_s_istore_n (n := 0) (by decide +kernel) rfl (by decide +kernel)) <|
  zq_cons (zq_s_iload_n (n := 0) (by decide +kernel) rfl) <|
  zq_cons (zq_s_ldcw (index := 266) (by decide +kernel) zw_635) <|
  zq_cons (zq_s_iand (by decide +kernel)) <|
  zq_cons (zq_s_iload_n (n := 0) (by decide +kernel) rfl) <|
  zq_cons (zq_s_iconst (n := 2) (by decide +kernel) (by decide +kernel)) <|
  zq_cons (zq_s_iushr (by decide +kernel)) <|
  zq_cons (zq_s_ldcw (index := 266) (by decide +kernel) zw_635) <|
  zq_cons (zq_s_iand (by decide +kernel)) <|
  zq_cons (zq_s_iadd (by decide +kernel)) <|
  zq_cons (zq_s_istore_n (n := 0) (by decide +kernel) rfl (by decide +kernel)) <|
  zq_cons (zq_s_iload_n (n := 0) (by decide +kernel) rfl) <|
  zq_cons (zq_s_iload_n (n := 0) (by decide +kernel) rfl) <|
  zq_cons (zq_s_iconst (n := 4) (by decide +kernel) (by decide +kernel)) <|
  zq_cons (zq_s_iushr (by decide +kernel)) <|
  zq_cons (zq_s_iadd (by decide +kernel)) <|
  zq_cons (zq_s_ldcw (index := 267) (by decide +kernel) zw_636) <|
  zq_cons (zq_s_iand (by decide +kernel)) <|
  zq_cons (zq_s_istore_n (n := 0) (by decide +kernel) rfl (by decide +kernel)) <|
  zq_cons (zq_s_iload_n (n := 0) (by decide +kernel) rfl) <|
  zq_cons (zq_s_iload_n (n := 0) (by decide +kernel) rfl) <|
  zq_cons (zq_s_bipush (n := 8) (by decide +kernel) (by decide +kernel)) <|
  zq_cons (zq_s_iushr (by decide +kernel)) <|
  zq_cons (zq_s_iadd (by decide +kernel)) <|
  zq_cons (zq_s_istore_n (n := 0) (by decide +kernel) rfl (by decide +kernel)) <|
  zq_cons (zq_s_iload_n (n := 0) (by decide +kernel) rfl) <|
  zq_cons (zq_s_iload_n (n := 0) (by decide +kernel) rfl) <|
  zq_cons (zq_s_bipush (n := 16) (by decide +kernel) (by decide +kernel)) <|
  zq_cons (zq_s_iushr (by decide +kernel)) <|
  zq_cons (zq_s_iadd (by decide +kernel)) <|
  zq_cons (zq_s_istore_n (n := 0) (by decide +kernel) rfl (by decide +kernel)) <|
  zq_cons (zq_s_iload_n (n := 0) (by decide +kernel) rfl) <|
  zq_cons (zq_s_bipush (n := 63) (by decide +kernel) (by decide +kernel)) <|
  zq_nil
def zc_J6_bitCount_0f7a4_1 : List (Nat × zq_It) := [(51, .inl (zq_i2 52 (fun x y => x &&& y))), (52, .inr (.inr 1))]
theorem zk_J6_bitCount_0f7a4_1 : zq_oks zi_J6_bitCount_0f7a4 zc_J6_bitCount_0f7a4_1 := zq_cons (zq_s_iand (by decide +kernel)) <|
  zq_cons (⟨rfl, (by decide +kernel)⟩) <|
  zq_nil
def zc_J6_bitCount_0f7a4 : List (Nat × zq_It) := zc_J6_bitCount_0f7a4_0 ++ (zc_J6_bitCount_0f7a4_1)
theorem zk_J6_bitCount_0f7a4 : zq_oks zi_J6_bitCount_0f7a4 zc_J6_bitCount_0f7a4 := zq_app zk_J6_bitCount_0f7a4_0 (zk_J6_bitCount_0f7a4_1)
def zc_J7_fill_d0a16 : List (Nat × zq_It) := [(0, .inl (zq_push 1 (.int 0))), (1, .inl (zq_is 2 3)), (2, .inl (zq_al 3 0)), (3, .inl (zq_alen 4)), (4, .inl (zq_is 6 4)), (6, .inl (zq_il 7 3)), (7, .inl (zq_il 9 4)), (9, .inl (zq_ic_ge 12 22)), (12, .inl (zq_al 13 0)), (13, .inl (zq_il 14 3)), (14, .inl (zq_ll 15 1)), (15, .inl (zq_last 16)), (16, .inl (zq_inc 19 3 1)), (19, .inl (zq_goto 6)), (22, .inr (.inr 0))]
theorem zk_J7_fill_d0a16 : zq_oks zi_J7_fill_d0a16 zc_J7_fill_d0a16 := zq_cons (zq_s_iconst (n := 0) (by decide +kernel) (by decide +kernel)) <|
  zq_cons (zq_s_istore_n (n := 3) (by decide +kernel) rfl (by decide +kernel)) <|
  zq_cons (zq_s_aload_n (n := 0) (by decide +kernel) rfl) <|
  zq_cons (zq_s_alen (by decide +kernel)) <|
  zq_cons (zq_s_istore (by decide +kernel) (by decide +kernel)) <|
  zq_cons (zq_s_iload_n (n := 3) (by decide +kernel) rfl) <|
  zq_cons (zq_s_iload (by decide +kernel)) <|
  zq_cons (zq_s_ic_ge (off := 13) (by decide +kernel) (by decide)) <|
  zq_cons (zq_s_aload_n (n := 0) (by decide +kernel) rfl) <|
  zq_cons (zq_s_iload_n (n := 3) (by decide +kernel) rfl) <|
  zq_cons (zq_s_lload_n (n := 1) (by decide +kernel) rfl) <|
  zq_cons (zq_s_last (by decide +kernel)) <|
  zq_cons (zq_s_iinc (n := 1) (by decide +kernel) (by decide +kernel) (by decide +kernel)) <|
  zq_cons (zq_s_goto (off := (-13)) (by decide +kernel) (by decide)) <|
  zq_cons (⟨rfl, (by decide +kernel)⟩) <|
  zq_nil
def zc_J7_fill_53178 : List (Nat × zq_It) := [(0, .inl (zq_push 1 (.int 0))), (1, .inl (zq_is 2 2)), (2, .inl (zq_al 3 0)), (3, .inl (zq_alen 4)), (4, .inl (zq_is 5 3)), (5, .inl (zq_il 6 2)), (6, .inl (zq_il 7 3)), (7, .inl (zq_ic_ge 10 20)), (10, .inl (zq_al 11 0)), (11, .inl (zq_il 12 2)), (12, .inl (zq_il 13 1)), (13, .inl (zq_iast 14)), (14, .inl (zq_inc 17 2 1)), (17, .inl (zq_goto 5)), (20, .inr (.inr 0))]
theorem zk_J7_fill_53178 : zq_oks zi_J7_fill_53178 zc_J7_fill_53178 := zq_cons (zq_s_iconst (n := 0) (by decide +kernel) (by decide +kernel)) <|
  zq_cons (zq_s_istore_n (n := 2) (by decide +kernel) rfl (by decide +kernel)) <|
  zq_cons (zq_s_aload_n (n := 0) (by decide +kernel) rfl) <|
  zq_cons (zq_s_alen (by decide +kernel)) <|
  zq_cons (zq_s_istore_n (n := 3) (by decide +kernel) rfl (by decide +kernel)) <|
  zq_cons (zq_s_iload_n (n := 2) (by decide +kernel) rfl) <|
  zq_cons (zq_s_iload_n (n := 3) (by decide +kernel) rfl) <|
  zq_cons (zq_s_ic_ge (off := 13) (by decide +kernel) (by decide)) <|
  zq_cons (zq_s_aload_n (n := 0) (by decide +kernel) rfl) <|
  zq_cons (zq_s_iload_n (n := 2) (by decide +kernel) rfl) <|
  zq_cons (zq_s_iload_n (n := 1) (by decide +kernel) rfl) <|
  zq_cons (zq_s_iast (by decide +kernel)) <|
  zq_cons (zq_s_iinc (n := 1) (by decide +kernel) (by decide +kernel) (by decide +kernel)) <|
  zq_cons (zq_s_goto (off := (-12)) (by decide +kernel) (by decide)) <|
  zq_cons (⟨rfl, (by decide +kernel)⟩) <|
  zq_nil
