def zc_X8_event : List (Nat × zq_It) := [(0, .inl (zq_il 1 1)), (1, .inl (zq_il 2 2)), (2, .inl (zq_il 3 3)), (3, .inr (.inl (3, .inl zn_X8_isEvent))), (6, .inl (zq_if_ne 9 12)), (9, .inl (zq_push 11 (.int (-2)))), (11, .inr (.inr 1)), (12, .inl (zq_al 13 0)), (13, .inl (zq_getf 16 [(7, 2)])), (16, .inl (zq_getf 19 [(1, 3)])), (19, .inl (zq_push 21 (.int 8))), (21, .inl (zq_ic_lt 24 27)), (24, .inl (zq_push 26 (.int (-4)))), (26, .inr (.inr 1)), (27, .inl (zq_al 28 0)), (28, .inl (zq_getf 31 [(7, 2)])), (31, .inl (zq_il 32 1)), (32, .inl (zq_il 33 2)), (33, .inl (zq_il 34 3)), (34, .inr (.inl (4, .inr [(1, zn_X1_add)]))), (37, .inl (zq_al 38 0)), (38, .inr (.inl (1, .inr [(7, zn_X8_changed)]))), (41, .inl (zq_al 42 0)), (42, .inl (zq_getf 45 [(7, 2)])), (45, .inl (zq_getf 48 [(1, 3)])), (48, .inr (.inr 1))]
theorem zk_X8_event : zq_oks zi_X8_event zc_X8_event := zq_cons (zq_s_iload_n (n := 1) (by decide +kernel) rfl) <|
  zq_cons (zq_s_iload_n (n := 2) (by decide +kernel) rfl) <|
  zq_cons (zq_s_iload_n (n := 3) (by decide +kernel) rfl) <|
  zq_cons (⟨zi_X8_isEvent, rfl, zq_s_callS (n := 3) (index := 149) (by decide +kernel) zw_497 zw_498 zw_80 zw_499 (by decide +kernel) (by decide +kernel) ⟨rfl, rfl⟩⟩) <|
  zq_cons (zq_s_if_ne (off := 6) (by decide +kernel) (by decide)) <|
  zq_cons (zq_s_bipush (n := (-2)) (by decide +kernel) (by decide +kernel)) <|
  zq_cons (⟨rfl, (by decide +kernel)⟩) <|
  zq_cons (zq_s_aload_n (n := 0) (by decide +kernel) rfl) <|
  zq_cons (zq_s_getf (index := 26) (by decide +kernel) zf_X8_26) <|
  zq_cons (zq_s_getf (index := 152) (by decide +kernel) zf_X8_152) <|
  zq_cons (zq_s_bipush (n := 8) (by decide +kernel) (by decide +kernel)) <|
  zq_cons (zq_s_ic_lt (off := 6) (by decide +kernel) (by decide)) <|
  zq_cons (zq_s_bipush (n := (-4)) (by decide +kernel) (by decide +kernel)) <|
  zq_cons (⟨rfl, (by decide +kernel)⟩) <|
  zq_cons (zq_s_aload_n (n := 0) (by decide +kernel) rfl) <|
  zq_cons (zq_s_getf (index := 26) (by decide +kernel) zf_X8_26) <|
  zq_cons (zq_s_iload_n (n := 1) (by decide +kernel) rfl) <|
  zq_cons (zq_s_iload_n (n := 2) (by decide +kernel) rfl) <|
  zq_cons (zq_s_iload_n (n := 3) (by decide +kernel) rfl) <|
  zq_cons (List.forall_mem_cons.mpr ⟨⟨zi_X1_add, rfl, zq_s_callV (n := 3) (index := 153) (by decide +kernel) rfl zw_503 zw_504 zw_505 zw_85 zw_506 (by decide +kernel) (by decide +kernel) ⟨rfl, rfl⟩⟩, fun _ h => absurd h List.not_mem_nil⟩) <|
  zq_cons (zq_s_aload_n (n := 0) (by decide +kernel) rfl) <|
  zq_cons (List.forall_mem_cons.mpr ⟨⟨zi_X8_changed, rfl, zq_s_callV (n := 0) (index := 146) (by decide +kernel) rfl zw_455 zw_457 zw_3 zw_80 zw_458 (by decide +kernel) (by decide +kernel) ⟨rfl, rfl⟩⟩, fun _ h => absurd h List.not_mem_nil⟩) <|
  zq_cons (zq_s_aload_n (n := 0) (by decide +kernel) rfl) <|
  zq_cons (zq_s_getf (index := 26) (by decide +kernel) zf_X8_26) <|
  zq_cons (zq_s_getf (index := 152) (by decide +kernel) zf_X8_152) <|
  zq_cons (⟨rfl, (by decide +kernel)⟩) <|
  zq_nil
def zc_X8_back : List (Nat × zq_It) := [(0, .inl (zq_al 1 0)), (1, .inl (zq_getf 4 [(7, 2)])), (4, .inl (zq_getf 7 [(1, 3)])), (7, .inl (zq_if_ne 10 13)), (10, .inl (zq_push 12 (.int (-3)))), (12, .inr (.inr 1)), (13, .inl (zq_al 14 0)), (14, .inl (zq_getf 17 [(7, 2)])), (17, .inl (zq_dup 18)), (18, .inl (zq_getf 21 [(1, 3)])), (21, .inl (zq_push 22 (.int 1))), (22, .inl (zq_i2 23 (fun x y => x - y))), (23, .inl (zq_puti 26 false [(1, 3)])), (26, .inl (zq_al 27 0)), (27, .inr (.inl (1, .inr [(7, zn_X8_changed)]))), (30, .inl (zq_al 31 0)), (31, .inl (zq_getf 34 [(7, 2)])), (34, .inl (zq_getf 37 [(1, 3)])), (37, .inr (.inr 1))]
theorem zk_X8_back : zq_oks zi_X8_back zc_X8_back := zq_cons (zq_s_aload_n (n := 0) (by decide +kernel) rfl) <|
  zq_cons (zq_s_getf (index := 26) (by decide +kernel) zf_X8_26) <|
  zq_cons (zq_s_getf (index := 152) (by decide +kernel) zf_X8_152) <|
  zq_cons (zq_s_if_ne (off := 6) (by decide +kernel) (by decide)) <|
  zq_cons (zq_s_bipush (n := (-3)) (by decide +kernel) (by decide +kernel)) <|
  zq_cons (⟨rfl, (by decide +kernel)⟩) <|
  zq_cons (zq_s_aload_n (n := 0) (by decide +kernel) rfl) <|
  zq_cons (zq_s_getf (index := 26) (by decide +kernel) zf_X8_26) <|
  zq_cons (zq_s_dup (by decide +kernel)) <|
  zq_cons (zq_s_getf (index := 152) (by decide +kernel) zf_X8_152) <|
  zq_cons (zq_s_iconst (n := 1) (by decide +kernel) (by decide +kernel)) <|
  zq_cons (zq_s_isub (by decide +kernel)) <|
  zq_cons (zq_s_puti (index := 152) (by decide +kernel) zp_X8_152 (fun _ _ => ⟨rfl, rfl⟩)) <|
  zq_cons (zq_s_aload_n (n := 0) (by decide +kernel) rfl) <|
  zq_cons (List.forall_mem_cons.mpr ⟨⟨zi_X8_changed, rfl, zq_s_callV (n := 0) (index := 146) (by decide +kernel) rfl zw_455 zw_457 zw_3 zw_80 zw_458 (by decide +kernel) (by decide +kernel) ⟨rfl, rfl⟩⟩, fun _ h => absurd h List.not_mem_nil⟩) <|
  zq_cons (zq_s_aload_n (n := 0) (by decide +kernel) rfl) <|
  zq_cons (zq_s_getf (index := 26) (by decide +kernel) zf_X8_26) <|
  zq_cons (zq_s_getf (index := 152) (by decide +kernel) zf_X8_152) <|
  zq_cons (⟨rfl, (by decide +kernel)⟩) <|
  zq_nil
def zc_X8_read_0 : List (Nat × zq_It) := [(0, .inl (zq_il 1 1)), (1, .inr (.inl (1, .inl zn_X8_isSheet))), (4, .inl (zq_if_ne 7 10)), (7, .inl (zq_push 9 (.int (-2)))), (9, .inr (.inr 1)), (10, .inl (zq_al 11 0)), (11, .inl (zq_getf 14 [(7, 6)])), (14, .inl (zq_il 15 1)), (15, .inl (zq_aald 16)), (16, .inl (zq_as 17 2)), (17, .inl (zq_al 18 2)), (18, .inr (.inl (1, .inr [(4, zn_X4_isLost)]))), (21, .inl (zq_if_eq 24 30)), (24, .inl (zq_al 25 0)), (25, .inl (zq_push 26 (.int 1))), (26, .inr (.inl (2, .inr [(7, zn_X8_refuse)]))), (29, .inr (.inr 1)), (30, .inl (zq_push 31 (.int 0))), (31, .inl (zq_is 32 3)), (32, .inl (zq_push 33 (.int 0))), (33, .inl (zq_is 35 4)), (35, .inl (zq_il 37 4)), (37, .inl (zq_push 38 (.int 2))), (38, .inl (zq_i2 39 (fun x y => x + y))), (39, .inl (zq_al 40 2)), (40, .inl (zq_getf 43 [(4, 2)])), (43, .inl (zq_ic_ge 46 90)), (46, .inl (zq_al 47 0)), (47, .inl (zq_al 48 2)), (48, .inl (zq_getf 51 [(4, 0)])), (51, .inl (zq_il 53 4)), (53, .inl (zq_iald 54)), (54, .inl (zq_al 55 2)), (55, .inl (zq_getf 58 [(4, 0)])), (58, .inl (zq_il 60 4)), (60, .inl (zq_push 61 (.int 1))), (61, .inl (zq_i2 62 (fun x y => x + y))), (62, .inl (zq_iald 63)), (63, .inl (zq_al 64 2)), (64, .inl (zq_getf 67 [(4, 0)]))]
theorem zk_X8_read_0 : zq_oks zi_X8_read zc_X8_read_0 := zq_cons (zq_s_iload_n (n := 1) (by decide +kernel) rfl) <|
  zq_cons (⟨zi_X8_isSheet, rfl, zq_s_callS (n := 1) (index := 156) (by decide +kernel) zw_515 zw_516 zw_80 zw_517 (by decide +kernel) (by decide +kernel) ⟨rfl, rfl⟩⟩) <|
  zq_cons (zq_s_if_ne (off := 6) (by decide +kernel) (by decide)) <|
  zq_cons (zq_s_bipush (n := (-2)) (by decide +kernel) (by decide +kernel)) <|
  zq_cons (⟨rfl, (by decide +kernel)⟩) <|
  zq_cons (zq_s_aload_n (n := 0) (by decide +kernel) rfl) <|
  zq_cons (zq_s_getf (index := 49) (by decide +kernel) zf_X8_49) <|
  zq_cons (zq_s_iload_n (n := 1) (by decide +kernel) rfl) <|
  zq_cons (zq_s_aald (by decide +kernel)) <|
  zq_cons (zq_s_astore_n (n := 2) (by decide +kernel) rfl (by decide +kernel)) <|
  zq_cons (zq_s_aload_n (n := 2) (by decide +kernel) rfl) <|
  zq_cons (List.forall_mem_cons.mpr ⟨⟨zi_X4_isLost, rfl, zq_s_callV (n := 0) (index := 159) (by decide +kernel) rfl zw_518 zw_519 zw_520 zw_88 zw_521 (by decide +kernel) (by decide +kernel) ⟨rfl, rfl⟩⟩, fun _ h => absurd h List.not_mem_nil⟩) <|
  zq_cons (zq_s_if_eq (off := 9) (by decide +kernel) (by decide)) <|
  zq_cons (zq_s_aload_n (n := 0) (by decide +kernel) rfl) <|
  zq_cons (zq_s_iconst (n := 1) (by decide +kernel) (by decide +kernel)) <|
  zq_cons (List.forall_mem_cons.mpr ⟨⟨zi_X8_refuse, rfl, zq_s_callV (n := 1) (index := 162) (by decide +kernel) rfl zw_522 zw_524 zw_5 zw_80 zw_525 (by decide +kernel) (by decide +kernel) ⟨rfl, rfl⟩⟩, fun _ h => absurd h List.not_mem_nil⟩) <|
  zq_cons (⟨rfl, (by decide +kernel)⟩) <|
  zq_cons (zq_s_iconst (n := 0) (by decide +kernel) (by decide +kernel)) <|
  zq_cons (zq_s_istore_n (n := 3) (by decide +kernel) rfl (by decide +kernel)) <|
  zq_cons (zq_s_iconst (n := 0) (by decide +kernel) (by decide +kernel)) <|
  zq_cons (zq_s_istore (by decide +kernel) (by decide +kernel)) <|
  zq_cons (zq_s_iload (by decide +kernel)) <|
  zq_cons (zq_s_iconst (n := 2) (by decide +kernel) (by decide +kernel)) <|
  zq_cons (zq_s_iadd (by decide +kernel)) <|
  zq_cons (zq_s_aload_n (n := 2) (by decide +kernel) rfl) <|
  zq_cons (zq_s_getf (index := 166) (by decide +kernel) zf_X8_166) <|
  zq_cons (zq_s_ic_ge (off := 47) (by decide +kernel) (by decide)) <|
  zq_cons (zq_s_aload_n (n := 0) (by decide +kernel) rfl) <|
  zq_cons (zq_s_aload_n (n := 2) (by decide +kernel) rfl) <|
  zq_cons (zq_s_getf (index := 167) (by decide +kernel) zf_X8_167) <|
  zq_cons (zq_s_iload (by decide +kernel)) <|
  zq_cons (zq_s_iald (by decide +kernel)) <|
  zq_cons (zq_s_aload_n (n := 2) (by decide +kernel) rfl) <|
  zq_cons (zq_s_getf (index := 167) (by decide +kernel) zf_X8_167) <|
  zq_cons (zq_s_iload (by decide +kernel)) <|
  zq_cons (zq_s_iconst (n := 1) (by decide +kernel) (by decide +kernel)) <|
  zq_cons (zq_s_iadd (by decide +kernel)) <|
  zq_cons (zq_s_iald (by decide +kernel)) <|
  zq_cons (zq_s_aload_n (n := 2) (by decide +kernel) rfl) <|
  zq_cons (zq_s_getf (index := 167) (by decide +kernel) zf_X8_167) <|
  zq_nil
def zc_X8_read_1 : List (Nat × zq_It) := [(67, .inl (zq_il 69 4)), (69, .inl (zq_push 70 (.int 2))), (70, .inl (zq_i2 71 (fun x y => x + y))), (71, .inl (zq_iald 72)), (72, .inr (.inl (4, .inr [(7, zn_X8_event)]))), (75, .inl (zq_if_ge 78 81)), (78, .inl (zq_goto 90)), (81, .inl (zq_inc 84 3 1)), (84, .inl (zq_inc 87 4 3)), (87, .inl (zq_goto 35)), (90, .inl (zq_il 91 3)), (91, .inr (.inr 1))]
theorem zk_X8_read_1 : zq_oks zi_X8_read zc_X8_read_1 := zq_cons (zq_s_iload (by decide +kernel)) <|
  zq_cons (zq_s_iconst (n := 2) (by decide +kernel) (by decide +kernel)) <|
  zq_cons (zq_s_iadd (by decide +kernel)) <|
  zq_cons (zq_s_iald (by decide +kernel)) <|
  zq_cons (List.forall_mem_cons.mpr ⟨⟨zi_X8_event, rfl, zq_s_callV (n := 3) (index := 170) (by decide +kernel) rfl zw_526 zw_494 zw_495 zw_80 zw_496 (by decide +kernel) (by decide +kernel) ⟨rfl, rfl⟩⟩, fun _ h => absurd h List.not_mem_nil⟩) <|
  zq_cons (zq_s_if_ge (off := 6) (by decide +kernel) (by decide)) <|
  zq_cons (zq_s_goto (off := 12) (by decide +kernel) (by decide)) <|
  zq_cons (zq_s_iinc (n := 1) (by decide +kernel) (by decide +kernel) (by decide +kernel)) <|
  zq_cons (zq_s_iinc (n := 3) (by decide +kernel) (by decide +kernel) (by decide +kernel)) <|
  zq_cons (zq_s_goto (off := (-52)) (by decide +kernel) (by decide)) <|
  zq_cons (zq_s_iload_n (n := 3) (by decide +kernel) rfl) <|
  zq_cons (⟨rfl, (by decide +kernel)⟩) <|
  zq_nil
def zc_X8_read : List (Nat × zq_It) := zc_X8_read_0 ++ (zc_X8_read_1)
theorem zk_X8_read : zq_oks zi_X8_read zc_X8_read := zq_app zk_X8_read_0 (zk_X8_read_1)
def zc_X8_at : List (Nat × zq_It) := [(0, .inl (zq_il 1 1)), (1, .inr (.inl (1, .inl zn_X8_isHour))), (4, .inl (zq_if_eq 7 24)), (7, .inl (zq_al 8 0)), (8, .inl (zq_il 9 2)), (9, .inr (.inl (2, .inr [(7, zn_X8_isPerson)]))), (12, .inl (zq_if_eq 15 24)), (15, .inl (zq_il 16 3)), (16, .inl (zq_push 17 (.int 0))), (17, .inl (zq_push 18 (.int 1))), (18, .inr (.inl (3, .inl zn_X8_within))), (21, .inl (zq_if_ne 24 27)), (24, .inl (zq_push 26 (.int (-2)))), (26, .inr (.inr 1)), (27, .inl (zq_il 28 3)), (28, .inl (zq_if_ne 31 35)), (31, .inl (zq_il 32 1)), (32, .inl (zq_goto 41)), (35, .inl (zq_il 36 1)), (36, .inl (zq_al 37 0)), (37, .inl (zq_getf 40 [(7, 12)])), (40, .inl (zq_i2 41 (fun x y => x + y))), (41, .inl (zq_is 43 4)), (43, .inl (zq_il 45 4)), (45, .inl (zq_push 47 (.int 23))), (47, .inl (zq_ic_le 50 54)), (50, .inl (zq_push 51 (.int (-1)))), (51, .inl (zq_goto 64)), (54, .inl (zq_al 55 0)), (55, .inr (.inl (1, .inr [(7, zn_X8_weekAsTold)]))), (58, .inl (zq_il 60 4)), (60, .inl (zq_il 61 2)), (61, .inr (.inl (3, .inr [(6, zn_X7_roomOf)]))), (64, .inr (.inr 1))]
theorem zk_X8_at : zq_oks zi_X8_at zc_X8_at := zq_cons (zq_s_iload_n (n := 1) (by decide +kernel) rfl) <|
  zq_cons (⟨zi_X8_isHour, rfl, zq_s_callS (n := 1) (index := 174) (by decide +kernel) zw_500 zw_501 zw_80 zw_502 (by decide +kernel) (by decide +kernel) ⟨rfl, rfl⟩⟩) <|
  zq_cons (zq_s_if_eq (off := 20) (by decide +kernel) (by decide)) <|
  zq_cons (zq_s_aload_n (n := 0) (by decide +kernel) rfl) <|
  zq_cons (zq_s_iload_n (n := 2) (by decide +kernel) rfl) <|
  zq_cons (List.forall_mem_cons.mpr ⟨⟨zi_X8_isPerson, rfl, zq_s_callV (n := 1) (index := 133) (by decide +kernel) rfl zw_485 zw_487 zw_4 zw_80 zw_488 (by decide +kernel) (by decide +kernel) ⟨rfl, rfl⟩⟩, fun _ h => absurd h List.not_mem_nil⟩) <|
  zq_cons (zq_s_if_eq (off := 12) (by decide +kernel) (by decide)) <|
  zq_cons (zq_s_iload_n (n := 3) (by decide +kernel) rfl) <|
  zq_cons (zq_s_iconst (n := 0) (by decide +kernel) (by decide +kernel)) <|
  zq_cons (zq_s_iconst (n := 1) (by decide +kernel) (by decide +kernel)) <|
  zq_cons (⟨zi_X8_within, rfl, zq_s_callS (n := 3) (index := 98) (by decide +kernel) zw_383 zw_384 zw_80 zw_385 (by decide +kernel) (by decide +kernel) ⟨rfl, rfl⟩⟩) <|
  zq_cons (zq_s_if_ne (off := 6) (by decide +kernel) (by decide)) <|
  zq_cons (zq_s_bipush (n := (-2)) (by decide +kernel) (by decide +kernel)) <|
  zq_cons (⟨rfl, (by decide +kernel)⟩) <|
  zq_cons (zq_s_iload_n (n := 3) (by decide +kernel) rfl) <|
  zq_cons (zq_s_if_ne (off := 7) (by decide +kernel) (by decide)) <|
  zq_cons (zq_s_iload_n (n := 1) (by decide +kernel) rfl) <|
  zq_cons (zq_s_goto (off := 9) (by decide +kernel) (by decide)) <|
  zq_cons (zq_s_iload_n (n := 1) (by decide +kernel) rfl) <|
  zq_cons (zq_s_aload_n (n := 0) (by decide +kernel) rfl) <|
  zq_cons (zq_s_getf (index := 77) (by decide +kernel) zf_X8_77) <|
  zq_cons (zq_s_iadd (by decide +kernel)) <|
  zq_cons (zq_s_istore (by decide +kernel) (by decide +kernel)) <|
  zq_cons (zq_s_iload (by decide +kernel)) <|
  zq_cons (zq_s_bipush (n := 23) (by decide +kernel) (by decide +kernel)) <|
  zq_cons (zq_s_ic_le (off := 7) (by decide +kernel) (by decide)) <|
  zq_cons (zq_s_iconst (n := (-1)) (by decide +kernel) (by decide +kernel)) <|
  zq_cons (zq_s_goto (off := 13) (by decide +kernel) (by decide)) <|
  zq_cons (zq_s_aload_n (n := 0) (by decide +kernel) rfl) <|
  zq_cons (List.forall_mem_cons.mpr ⟨⟨zi_X8_weekAsTold, rfl, zq_s_callV (n := 0) (index := 177) (by decide +kernel) rfl zw_531 zw_533 zw_6 zw_80 zw_534 (by decide +kernel) (by decide +kernel) ⟨rfl, rfl⟩⟩, fun _ h => absurd h List.not_mem_nil⟩) <|
  zq_cons (zq_s_iload (by decide +kernel)) <|
  zq_cons (zq_s_iload_n (n := 2) (by decide +kernel) rfl) <|
  zq_cons (List.forall_mem_cons.mpr ⟨⟨zi_X7_roomOf, rfl, zq_s_callV (n := 2) (index := 181) (by decide +kernel) rfl zw_572 zw_569 zw_570 zw_89 zw_571 (by decide +kernel) (by decide +kernel) ⟨rfl, rfl⟩⟩, fun _ h => absurd h List.not_mem_nil⟩) <|
  zq_cons (⟨rfl, (by decide +kernel)⟩) <|
  zq_nil
def zc_X8_room : List (Nat × zq_It) := [(0, .inl (zq_il 1 1)), (1, .inr (.inl (1, .inl zn_X8_isHour))), (4, .inl (zq_if_eq 7 14)), (7, .inl (zq_il 8 2)), (8, .inr (.inl (1, .inl zn_X8_isRoom))), (11, .inl (zq_if_ne 14 17)), (14, .inl (zq_push 16 (.int (-2)))), (16, .inr (.inr 1)), (17, .inl (zq_al 18 0)), (18, .inr (.inl (1, .inr [(7, zn_X8_weekAsTold)]))), (21, .inl (zq_il 22 1)), (22, .inl (zq_il 23 2)), (23, .inr (.inl (3, .inr [(6, zn_X7_whoIn)]))), (26, .inr (.inr 1))]
theorem zk_X8_room : zq_oks zi_X8_room zc_X8_room := zq_cons (zq_s_iload_n (n := 1) (by decide +kernel) rfl) <|
  zq_cons (⟨zi_X8_isHour, rfl, zq_s_callS (n := 1) (index := 174) (by decide +kernel) zw_500 zw_501 zw_80 zw_502 (by decide +kernel) (by decide +kernel) ⟨rfl, rfl⟩⟩) <|
  zq_cons (zq_s_if_eq (off := 10) (by decide +kernel) (by decide)) <|
  zq_cons (zq_s_iload_n (n := 2) (by decide +kernel) rfl) <|
  zq_cons (⟨zi_X8_isRoom, rfl, zq_s_callS (n := 1) (index := 185) (by decide +kernel) zw_577 zw_578 zw_80 zw_579 (by decide +kernel) (by decide +kernel) ⟨rfl, rfl⟩⟩) <|
  zq_cons (zq_s_if_ne (off := 6) (by decide +kernel) (by decide)) <|
  zq_cons (zq_s_bipush (n := (-2)) (by decide +kernel) (by decide +kernel)) <|
  zq_cons (⟨rfl, (by decide +kernel)⟩) <|
  zq_cons (zq_s_aload_n (n := 0) (by decide +kernel) rfl) <|
  zq_cons (List.forall_mem_cons.mpr ⟨⟨zi_X8_weekAsTold, rfl, zq_s_callV (n := 0) (index := 177) (by decide +kernel) rfl zw_531 zw_533 zw_6 zw_80 zw_534 (by decide +kernel) (by decide +kernel) ⟨rfl, rfl⟩⟩, fun _ h => absurd h List.not_mem_nil⟩) <|
  zq_cons (zq_s_iload_n (n := 1) (by decide +kernel) rfl) <|
  zq_cons (zq_s_iload_n (n := 2) (by decide +kernel) rfl) <|
  zq_cons (List.forall_mem_cons.mpr ⟨⟨zi_X7_whoIn, rfl, zq_s_callV (n := 2) (index := 188) (by decide +kernel) rfl zw_580 zw_581 zw_582 zw_89 zw_583 (by decide +kernel) (by decide +kernel) ⟨rfl, rfl⟩⟩, fun _ h => absurd h List.not_mem_nil⟩) <|
  zq_cons (⟨rfl, (by decide +kernel)⟩) <|
  zq_nil
def zc_X8_far : List (Nat × zq_It) := [(0, .inl (zq_il 1 1)), (1, .inr (.inl (1, .inl zn_X8_isHour))), (4, .inl (zq_if_eq 7 21)), (7, .inl (zq_il 8 2)), (8, .inr (.inl (1, .inl zn_X8_isRoom))), (11, .inl (zq_if_eq 14 21)), (14, .inl (zq_il 15 3)), (15, .inr (.inl (1, .inl zn_X8_isRoom))), (18, .inl (zq_if_ne 21 24)), (21, .inl (zq_push 23 (.int (-2)))), (23, .inr (.inr 1)), (24, .inl (zq_al 25 0)), (25, .inr (.inl (1, .inr [(7, zn_X8_weekAsTold)]))), (28, .inl (zq_il 29 1)), (29, .inl (zq_il 30 2)), (30, .inl (zq_il 31 3)), (31, .inr (.inl (4, .inr [(6, zn_X7_doorsBetween)]))), (34, .inr (.inr 1))]
theorem zk_X8_far : zq_oks zi_X8_far zc_X8_far := zq_cons (zq_s_iload_n (n := 1) (by decide +kernel) rfl) <|
  zq_cons (⟨zi_X8_isHour, rfl, zq_s_callS (n := 1) (index := 174) (by decide +kernel) zw_500 zw_501 zw_80 zw_502 (by decide +kernel) (by decide +kernel) ⟨rfl, rfl⟩⟩) <|
  zq_cons (zq_s_if_eq (off := 17) (by decide +kernel) (by decide)) <|
  zq_cons (zq_s_iload_n (n := 2) (by decide +kernel) rfl) <|
  zq_cons (⟨zi_X8_isRoom, rfl, zq_s_callS (n := 1) (index := 185) (by decide +kernel) zw_577 zw_578 zw_80 zw_579 (by decide +kernel) (by decide +kernel) ⟨rfl, rfl⟩⟩) <|
  zq_cons (zq_s_if_eq (off := 10) (by decide +kernel) (by decide)) <|
  zq_cons (zq_s_iload_n (n := 3) (by decide +kernel) rfl) <|
  zq_cons (⟨zi_X8_isRoom, rfl, zq_s_callS (n := 1) (index := 185) (by decide +kernel) zw_577 zw_578 zw_80 zw_579 (by decide +kernel) (by decide +kernel) ⟨rfl, rfl⟩⟩) <|
  zq_cons (zq_s_if_ne (off := 6) (by decide +kernel) (by decide)) <|
  zq_cons (zq_s_bipush (n := (-2)) (by decide +kernel) (by decide +kernel)) <|
  zq_cons (⟨rfl, (by decide +kernel)⟩) <|
  zq_cons (zq_s_aload_n (n := 0) (by decide +kernel) rfl) <|
  zq_cons (List.forall_mem_cons.mpr ⟨⟨zi_X8_weekAsTold, rfl, zq_s_callV (n := 0) (index := 177) (by decide +kernel) rfl zw_531 zw_533 zw_6 zw_80 zw_534 (by decide +kernel) (by decide +kernel) ⟨rfl, rfl⟩⟩, fun _ h => absurd h List.not_mem_nil⟩) <|
  zq_cons (zq_s_iload_n (n := 1) (by decide +kernel) rfl) <|
  zq_cons (zq_s_iload_n (n := 2) (by decide +kernel) rfl) <|
  zq_cons (zq_s_iload_n (n := 3) (by decide +kernel) rfl) <|
  zq_cons (List.forall_mem_cons.mpr ⟨⟨zi_X7_doorsBetween, rfl, zq_s_callV (n := 3) (index := 191) (by decide +kernel) rfl zw_588 zw_589 zw_590 zw_89 zw_591 (by decide +kernel) (by decide +kernel) ⟨rfl, rfl⟩⟩, fun _ h => absurd h List.not_mem_nil⟩) <|
  zq_cons (⟨rfl, (by decide +kernel)⟩) <|
  zq_nil
def zc_X8_meet : List (Nat × zq_It) := [(0, .inl (zq_al 1 0)), (1, .inl (zq_il 2 1)), (2, .inr (.inl (2, .inr [(7, zn_X8_isPerson)]))), (5, .inl (zq_if_eq 8 21)), (8, .inl (zq_al 9 0)), (9, .inl (zq_il 10 2)), (10, .inr (.inl (2, .inr [(7, zn_X8_isPerson)]))), (13, .inl (zq_if_eq 16 21)), (16, .inl (zq_il 17 1)), (17, .inl (zq_il 18 2)), (18, .inl (zq_ic_ne 21 24)), (21, .inl (zq_push 23 (.int (-2)))), (23, .inr (.inr 1)), (24, .inl (zq_al 25 0)), (25, .inr (.inl (1, .inr [(7, zn_X8_weekAsTold)]))), (28, .inl (zq_as 29 3)), (29, .inl (zq_push 30 (.int 0))), (30, .inl (zq_is 32 4)), (32, .inl (zq_il 34 4)), (34, .inl (zq_push 36 (.int 24))), (36, .inl (zq_ic_ge 39 65)), (39, .inl (zq_al 40 3)), (40, .inl (zq_il 42 4)), (42, .inl (zq_il 43 1)), (43, .inr (.inl (3, .inr [(6, zn_X7_roomOf)]))), (46, .inl (zq_al 47 3)), (47, .inl (zq_il 49 4)), (49, .inl (zq_il 50 2)), (50, .inr (.inl (3, .inr [(6, zn_X7_roomOf)]))), (53, .inl (zq_ic_ne 56 59)), (56, .inl (zq_il 58 4)), (58, .inr (.inr 1)), (59, .inl (zq_inc 62 4 1)), (62, .inl (zq_goto 32)), (65, .inl (zq_push 66 (.int (-1)))), (66, .inr (.inr 1))]
theorem zk_X8_meet : zq_oks zi_X8_meet zc_X8_meet := zq_cons (zq_s_aload_n (n := 0) (by decide +kernel) rfl) <|
  zq_cons (zq_s_iload_n (n := 1) (by decide +kernel) rfl) <|
  zq_cons (List.forall_mem_cons.mpr ⟨⟨zi_X8_isPerson, rfl, zq_s_callV (n := 1) (index := 133) (by decide +kernel) rfl zw_485 zw_487 zw_4 zw_80 zw_488 (by decide +kernel) (by decide +kernel) ⟨rfl, rfl⟩⟩, fun _ h => absurd h List.not_mem_nil⟩) <|
  zq_cons (zq_s_if_eq (off := 16) (by decide +kernel) (by decide)) <|
  zq_cons (zq_s_aload_n (n := 0) (by decide +kernel) rfl) <|
  zq_cons (zq_s_iload_n (n := 2) (by decide +kernel) rfl) <|
  zq_cons (List.forall_mem_cons.mpr ⟨⟨zi_X8_isPerson, rfl, zq_s_callV (n := 1) (index := 133) (by decide +kernel) rfl zw_485 zw_487 zw_4 zw_80 zw_488 (by decide +kernel) (by decide +kernel) ⟨rfl, rfl⟩⟩, fun _ h => absurd h List.not_mem_nil⟩) <|
  zq_cons (zq_s_if_eq (off := 8) (by decide +kernel) (by decide)) <|
  zq_cons (zq_s_iload_n (n := 1) (by decide +kernel) rfl) <|
  zq_cons (zq_s_iload_n (n := 2) (by decide +kernel) rfl) <|
  zq_cons (zq_s_ic_ne (off := 6) (by decide +kernel) (by decide)) <|
  zq_cons (zq_s_bipush (n := (-2)) (by decide +kernel) (by decide +kernel)) <|
  zq_cons (⟨rfl, (by decide +kernel)⟩) <|
  zq_cons (zq_s_aload_n (n := 0) (by decide +kernel) rfl) <|
  zq_cons (List.forall_mem_cons.mpr ⟨⟨zi_X8_weekAsTold, rfl, zq_s_callV (n := 0) (index := 177) (by decide +kernel) rfl zw_531 zw_533 zw_6 zw_80 zw_534 (by decide +kernel) (by decide +kernel) ⟨rfl, rfl⟩⟩, fun _ h => absurd h List.not_mem_nil⟩) <|
  zq_cons (zq_s_astore_n (n := 3) (by decide +kernel) rfl (by decide +kernel)) <|
  zq_cons (zq_s_iconst (n := 0) (by decide +kernel) (by decide +kernel)) <|
  zq_cons (zq_s_istore (by decide +kernel) (by decide +kernel)) <|
  zq_cons (zq_s_iload (by decide +kernel)) <|
  zq_cons (zq_s_bipush (n := 24) (by decide +kernel) (by decide +kernel)) <|
  zq_cons (zq_s_ic_ge (off := 29) (by decide +kernel) (by decide)) <|
  zq_cons (zq_s_aload_n (n := 3) (by decide +kernel) rfl) <|
  zq_cons (zq_s_iload (by decide +kernel)) <|
  zq_cons (zq_s_iload_n (n := 1) (by decide +kernel) rfl) <|
  zq_cons (List.forall_mem_cons.mpr ⟨⟨zi_X7_roomOf, rfl, zq_s_callV (n := 2) (index := 181) (by decide +kernel) rfl zw_572 zw_569 zw_570 zw_89 zw_571 (by decide +kernel) (by decide +kernel) ⟨rfl, rfl⟩⟩, fun _ h => absurd h List.not_mem_nil⟩) <|
  zq_cons (zq_s_aload_n (n := 3) (by decide +kernel) rfl) <|
  zq_cons (zq_s_iload (by decide +kernel)) <|
  zq_cons (zq_s_iload_n (n := 2) (by decide +kernel) rfl) <|
  zq_cons (List.forall_mem_cons.mpr ⟨⟨zi_X7_roomOf, rfl, zq_s_callV (n := 2) (index := 181) (by decide +kernel) rfl zw_572 zw_569 zw_570 zw_89 zw_571 (by decide +kernel) (by decide +kernel) ⟨rfl, rfl⟩⟩, fun _ h => absurd h List.not_mem_nil⟩) <|
  zq_cons (zq_s_ic_ne (off := 6) (by decide +kernel) (by decide)) <|
  zq_cons (zq_s_iload (by decide +kernel)) <|
  zq_cons (⟨rfl, (by decide +kernel)⟩) <|
  zq_cons (zq_s_iinc (n := 1) (by decide +kernel) (by decide +kernel) (by decide +kernel)) <|
  zq_cons (zq_s_goto (off := (-30)) (by decide +kernel) (by decide)) <|
  zq_cons (zq_s_iconst (n := (-1)) (by decide +kernel) (by decide +kernel)) <|
  zq_cons (⟨rfl, (by decide +kernel)⟩) <|
  zq_nil
def zc_X8_empty : List (Nat × zq_It) := [(0, .inl (zq_il 1 1)), (1, .inr (.inl (1, .inl zn_X8_isRoom))), (4, .inl (zq_if_eq 7 18)), (7, .inl (zq_al 8 0)), (8, .inr (.inl (1, .inr [(7, zn_X8_weekAsTold)]))), (11, .inl (zq_il 12 1)), (12, .inr (.inl (2, .inr [(6, zn_X7_emptyHours)]))), (15, .inl (zq_goto 20)), (18, .inl (zq_push 20 (.int (-2)))), (20, .inr (.inr 1))]
theorem zk_X8_empty : zq_oks zi_X8_empty zc_X8_empty := zq_cons (zq_s_iload_n (n := 1) (by decide +kernel) rfl) <|
  zq_cons (⟨zi_X8_isRoom, rfl, zq_s_callS (n := 1) (index := 185) (by decide +kernel) zw_577 zw_578 zw_80 zw_579 (by decide +kernel) (by decide +kernel) ⟨rfl, rfl⟩⟩) <|
  zq_cons (zq_s_if_eq (off := 14) (by decide +kernel) (by decide)) <|
  zq_cons (zq_s_aload_n (n := 0) (by decide +kernel) rfl) <|
  zq_cons (List.forall_mem_cons.mpr ⟨⟨zi_X8_weekAsTold, rfl, zq_s_callV (n := 0) (index := 177) (by decide +kernel) rfl zw_531 zw_533 zw_6 zw_80 zw_534 (by decide +kernel) (by decide +kernel) ⟨rfl, rfl⟩⟩, fun _ h => absurd h List.not_mem_nil⟩) <|
  zq_cons (zq_s_iload_n (n := 1) (by decide +kernel) rfl) <|
  zq_cons (List.forall_mem_cons.mpr ⟨⟨zi_X7_emptyHours, rfl, zq_s_callV (n := 1) (index := 194) (by decide +kernel) rfl zw_600 zw_601 zw_602 zw_89 zw_603 (by decide +kernel) (by decide +kernel) ⟨rfl, rfl⟩⟩, fun _ h => absurd h List.not_mem_nil⟩) <|
  zq_cons (zq_s_goto (off := 5) (by decide +kernel) (by decide)) <|
  zq_cons (zq_s_bipush (n := (-2)) (by decide +kernel) (by decide +kernel)) <|
  zq_cons (⟨rfl, (by decide +kernel)⟩) <|
  zq_nil
def zc_X8_found : List (Nat × zq_It) := [(0, .inl (zq_il 1 1)), (1, .inl (zq_push 2 (.int 0))), (2, .inl (zq_push 3 (.int 2))), (3, .inr (.inl (3, .inl zn_X8_within))), (6, .inl (zq_if_ne 9 12)), (9, .inl (zq_push 11 (.int (-2)))), (11, .inr (.inr 1)), (12, .inl (zq_al 13 0)), (13, .inr (.inl (1, .inr [(7, zn_X8_weekAsTold)]))), (16, .inl (zq_as 17 2)), (17, .inl (zq_al 18 2)), (18, .inr (.inl (1, .inr [(6, zn_X7_findingHour)]))), (21, .inl (zq_is 22 3)), (22, .inl (zq_il 23 1)), (23, .inl (zq_if_eq 26 31)), (26, .inl (zq_il 27 3)), (27, .inl (zq_push 28 (.int (-1)))), (28, .inl (zq_ic_ne 31 33)), (31, .inl (zq_il 32 3)), (32, .inr (.inr 1)), (33, .inl (zq_al 34 2)), (34, .inl (zq_il 35 3)), (35, .inr (.inl (2, .inr [(6, zn_X7_finder)]))), (38, .inl (zq_is 40 4)), (40, .inl (zq_il 41 1)), (41, .inl (zq_push 42 (.int 1))), (42, .inl (zq_ic_ne 45 50)), (45, .inl (zq_il 47 4)), (47, .inl (zq_goto 57)), (50, .inl (zq_al 51 2)), (51, .inl (zq_il 52 3)), (52, .inl (zq_il 54 4)), (54, .inr (.inl (3, .inr [(6, zn_X7_childWith)]))), (57, .inr (.inr 1))]
theorem zk_X8_found : zq_oks zi_X8_found zc_X8_found := zq_cons (zq_s_iload_n (n := 1) (by decide +kernel) rfl) <|
  zq_cons (zq_s_iconst (n := 0) (by decide +kernel) (by decide +kernel)) <|
  zq_cons (zq_s_iconst (n := 2) (by decide +kernel) (by decide +kernel)) <|
  zq_cons (⟨zi_X8_within, rfl, zq_s_callS (n := 3) (index := 98) (by decide +kernel) zw_383 zw_384 zw_80 zw_385 (by decide +kernel) (by decide +kernel) ⟨rfl, rfl⟩⟩) <|
  zq_cons (zq_s_if_ne (off := 6) (by decide +kernel) (by decide)) <|
  zq_cons (zq_s_bipush (n := (-2)) (by decide +kernel) (by decide +kernel)) <|
  zq_cons (⟨rfl, (by decide +kernel)⟩) <|
  zq_cons (zq_s_aload_n (n := 0) (by decide +kernel) rfl) <|
  zq_cons (List.forall_mem_cons.mpr ⟨⟨zi_X8_weekAsTold, rfl, zq_s_callV (n := 0) (index := 177) (by decide +kernel) rfl zw_531 zw_533 zw_6 zw_80 zw_534 (by decide +kernel) (by decide +kernel) ⟨rfl, rfl⟩⟩, fun _ h => absurd h List.not_mem_nil⟩) <|
  zq_cons (zq_s_astore_n (n := 2) (by decide +kernel) rfl (by decide +kernel)) <|
  zq_cons (zq_s_aload_n (n := 2) (by decide +kernel) rfl) <|
  zq_cons (List.forall_mem_cons.mpr ⟨⟨zi_X7_findingHour, rfl, zq_s_callV (n := 0) (index := 197) (by decide +kernel) rfl zw_609 zw_610 zw_611 zw_89 zw_612 (by decide +kernel) (by decide +kernel) ⟨rfl, rfl⟩⟩, fun _ h => absurd h List.not_mem_nil⟩) <|
  zq_cons (zq_s_istore_n (n := 3) (by decide +kernel) rfl (by decide +kernel)) <|
  zq_cons (zq_s_iload_n (n := 1) (by decide +kernel) rfl) <|
  zq_cons (zq_s_if_eq (off := 8) (by decide +kernel) (by decide)) <|
  zq_cons (zq_s_iload_n (n := 3) (by decide +kernel) rfl) <|
  zq_cons (zq_s_iconst (n := (-1)) (by decide +kernel) (by decide +kernel)) <|
  zq_cons (zq_s_ic_ne (off := 5) (by decide +kernel) (by decide)) <|
  zq_cons (zq_s_iload_n (n := 3) (by decide +kernel) rfl) <|
  zq_cons (⟨rfl, (by decide +kernel)⟩) <|
  zq_cons (zq_s_aload_n (n := 2) (by decide +kernel) rfl) <|
  zq_cons (zq_s_iload_n (n := 3) (by decide +kernel) rfl) <|
  zq_cons (List.forall_mem_cons.mpr ⟨⟨zi_X7_finder, rfl, zq_s_callV (n := 1) (index := 201) (by decide +kernel) rfl zw_621 zw_614 zw_615 zw_89 zw_616 (by decide +kernel) (by decide +kernel) ⟨rfl, rfl⟩⟩, fun _ h => absurd h List.not_mem_nil⟩) <|
  zq_cons (zq_s_istore (by decide +kernel) (by decide +kernel)) <|
  zq_cons (zq_s_iload_n (n := 1) (by decide +kernel) rfl) <|
  zq_cons (zq_s_iconst (n := 1) (by decide +kernel) (by decide +kernel)) <|
  zq_cons (zq_s_ic_ne (off := 8) (by decide +kernel) (by decide)) <|
  zq_cons (zq_s_iload (by decide +kernel)) <|
  zq_cons (zq_s_goto (off := 10) (by decide +kernel) (by decide)) <|
  zq_cons (zq_s_aload_n (n := 2) (by decide +kernel) rfl) <|
  zq_cons (zq_s_iload_n (n := 3) (by decide +kernel) rfl) <|
  zq_cons (zq_s_iload (by decide +kernel)) <|
  zq_cons (List.forall_mem_cons.mpr ⟨⟨zi_X7_childWith, rfl, zq_s_callV (n := 2) (index := 204) (by decide +kernel) rfl zw_622 zw_618 zw_619 zw_89 zw_620 (by decide +kernel) (by decide +kernel) ⟨rfl, rfl⟩⟩, fun _ h => absurd h List.not_mem_nil⟩) <|
  zq_cons (⟨rfl, (by decide +kernel)⟩) <|
  zq_nil
def zc_X8_crowd_0 : List (Nat × zq_It) := [(0, .inl (zq_il 1 1)), (1, .inl (zq_push 2 (.int 0))), (2, .inl (zq_push 3 (.int 2))), (3, .inr (.inl (3, .inl zn_X8_within))), (6, .inl (zq_if_ne 9 12)), (9, .inl (zq_push 11 (.int (-2)))), (11, .inr (.inr 1)), (12, .inl (zq_al 13 0)), (13, .inr (.inl (1, .inr [(7, zn_X8_weekAsTold)]))), (16, .inl (zq_as 17 2)), (17, .inl (zq_push 18 (.int 0))), (18, .inl (zq_is 19 3)), (19, .inl (zq_push 20 (.int 1))), (20, .inl (zq_is 22 4)), (22, .inl (zq_il 24 4)), (24, .inl (zq_push 26 (.int 24))), (26, .inl (zq_ic_ge 29 52)), (29, .inl (zq_al 30 2)), (30, .inl (zq_il 32 4)), (32, .inr (.inl (2, .inr [(6, zn_X7_mostIn)]))), (35, .inl (zq_al 36 2)), (36, .inl (zq_il 37 3)), (37, .inr (.inl (2, .inr [(6, zn_X7_mostIn)]))), (40, .inl (zq_ic_le 43 46)), (43, .inl (zq_il 45 4)), (45, .inl (zq_is 46 3)), (46, .inl (zq_inc 49 4 1)), (49, .inl (zq_goto 22)), (52, .inl (zq_il 53 1)), (53, .inl (zq_if_ne 56 58)), (56, .inl (zq_il 57 3)), (57, .inr (.inr 1)), (58, .inl (zq_al 59 2)), (59, .inl (zq_il 60 3)), (60, .inr (.inl (2, .inr [(6, zn_X7_mostIn)]))), (63, .inl (zq_is 65 4)), (65, .inl (zq_il 66 1)), (66, .inl (zq_push 67 (.int 2))), (67, .inl (zq_ic_ne 70 75)), (70, .inl (zq_il 72 4))]
theorem zk_X8_crowd_0 : zq_oks zi_X8_crowd zc_X8_crowd_0 := zq_cons (zq_s_iload_n (n := 1) (by decide +kernel) rfl) <|
  zq_cons (zq_s_iconst (n := 0) (by decide +kernel) (by decide +kernel)) <|
  zq_cons (zq_s_iconst (n := 2) (by decide +kernel) (by decide +kernel)) <|
  zq_cons (⟨zi_X8_within, rfl, zq_s_callS (n := 3) (index := 98) (by decide +kernel) zw_383 zw_384 zw_80 zw_385 (by decide +kernel) (by decide +kernel) ⟨rfl, rfl⟩⟩) <|
  zq_cons (zq_s_if_ne (off := 6) (by decide +kernel) (by decide)) <|
  zq_cons (zq_s_bipush (n := (-2)) (by decide +kernel) (by decide +kernel)) <|
  zq_cons (⟨rfl, (by decide +kernel)⟩) <|
  zq_cons (zq_s_aload_n (n := 0) (by decide +kernel) rfl) <|
  zq_cons (List.forall_mem_cons.mpr ⟨⟨zi_X8_weekAsTold, rfl, zq_s_callV (n := 0) (index := 177) (by decide +kernel) rfl zw_531 zw_533 zw_6 zw_80 zw_534 (by decide +kernel) (by decide +kernel) ⟨rfl, rfl⟩⟩, fun _ h => absurd h List.not_mem_nil⟩) <|
  zq_cons (zq_s_astore_n (n := 2) (by decide +kernel) rfl (by decide +kernel)) <|
  zq_cons (zq_s_iconst (n := 0) (by decide +kernel) (by decide +kernel)) <|
  zq_cons (zq_s_istore_n (n := 3) (by decide +kernel) rfl (by decide +kernel)) <|
  zq_cons (zq_s_iconst (n := 1) (by decide +kernel) (by decide +kernel)) <|
  zq_cons (zq_s_istore (by decide +kernel) (by decide +kernel)) <|
  zq_cons (zq_s_iload (by decide +kernel)) <|
  zq_cons (zq_s_bipush (n := 24) (by decide +kernel) (by decide +kernel)) <|
  zq_cons (zq_s_ic_ge (off := 26) (by decide +kernel) (by decide)) <|
  zq_cons (zq_s_aload_n (n := 2) (by decide +kernel) rfl) <|
  zq_cons (zq_s_iload (by decide +kernel)) <|
  zq_cons (List.forall_mem_cons.mpr ⟨⟨zi_X7_mostIn, rfl, zq_s_callV (n := 1) (index := 207) (by decide +kernel) rfl zw_627 zw_628 zw_629 zw_89 zw_630 (by decide +kernel) (by decide +kernel) ⟨rfl, rfl⟩⟩, fun _ h => absurd h List.not_mem_nil⟩) <|
  zq_cons (zq_s_aload_n (n := 2) (by decide +kernel) rfl) <|
  zq_cons (zq_s_iload_n (n := 3) (by decide +kernel) rfl) <|
  zq_cons (List.forall_mem_cons.mpr ⟨⟨zi_X7_mostIn, rfl, zq_s_callV (n := 1) (index := 207) (by decide +kernel) rfl zw_627 zw_628 zw_629 zw_89 zw_630 (by decide +kernel) (by decide +kernel) ⟨rfl, rfl⟩⟩, fun _ h => absurd h List.not_mem_nil⟩) <|
  zq_cons (zq_s_ic_le (off := 6) (by decide +kernel) (by decide)) <|
  zq_cons (zq_s_iload (by decide +kernel)) <|
  zq_cons (zq_s_istore_n (n := 3) (by decide +kernel) rfl (by decide +kernel)) <|
  zq_cons (zq_s_iinc (n := 1) (by decide +kernel) (by decide +kernel) (by decide +kernel)) <|
  zq_cons (zq_s_goto (off := (-27)) (by decide +kernel) (by decide)) <|
  zq_cons (zq_s_iload_n (n := 1) (by decide +kernel) rfl) <|
  zq_cons (zq_s_if_ne (off := 5) (by decide +kernel) (by decide)) <|
  zq_cons (zq_s_iload_n (n := 3) (by decide +kernel) rfl) <|
  zq_cons (⟨rfl, (by decide +kernel)⟩) <|
  zq_cons (zq_s_aload_n (n := 2) (by decide +kernel) rfl) <|
  zq_cons (zq_s_iload_n (n := 3) (by decide +kernel) rfl) <|
  zq_cons (List.forall_mem_cons.mpr ⟨⟨zi_X7_mostIn, rfl, zq_s_callV (n := 1) (index := 207) (by decide +kernel) rfl zw_627 zw_628 zw_629 zw_89 zw_630 (by decide +kernel) (by decide +kernel) ⟨rfl, rfl⟩⟩, fun _ h => absurd h List.not_mem_nil⟩) <|
  zq_cons (zq_s_istore (by decide +kernel) (by decide +kernel)) <|
  zq_cons (zq_s_iload_n (n := 1) (by decide +kernel) rfl) <|
  zq_cons (zq_s_iconst (n := 2) (by decide +kernel) (by decide +kernel)) <|
  zq_cons (zq_s_ic_ne (off := 8) (by decide +kernel) (by decide)) <|
  zq_cons (zq_s_iload (by decide +kernel)) <|
  zq_nil
def zc_X8_crowd_1 : List (Nat × zq_It) := [(72, .inl (zq_goto 82)), (75, .inl (zq_al 76 2)), (76, .inl (zq_il 77 3)), (77, .inl (zq_il 79 4)), (79, .inr (.inl (3, .inr [(6, zn_X7_firstRoomOf)]))), (82, .inr (.inr 1))]
theorem zk_X8_crowd_1 : zq_oks zi_X8_crowd zc_X8_crowd_1 := zq_cons (zq_s_goto (off := 10) (by decide +kernel) (by decide)) <|
  zq_cons (zq_s_aload_n (n := 2) (by decide +kernel) rfl) <|
  zq_cons (zq_s_iload_n (n := 3) (by decide +kernel) rfl) <|
  zq_cons (zq_s_iload (by decide +kernel)) <|
  zq_cons (List.forall_mem_cons.mpr ⟨⟨zi_X7_firstRoomOf, rfl, zq_s_callV (n := 2) (index := 210) (by decide +kernel) rfl zw_638 zw_639 zw_640 zw_89 zw_641 (by decide +kernel) (by decide +kernel) ⟨rfl, rfl⟩⟩, fun _ h => absurd h List.not_mem_nil⟩) <|
  zq_cons (⟨rfl, (by decide +kernel)⟩) <|
  zq_nil
def zc_X8_crowd : List (Nat × zq_It) := zc_X8_crowd_0 ++ (zc_X8_crowd_1)
theorem zk_X8_crowd : zq_oks zi_X8_crowd zc_X8_crowd := zq_app zk_X8_crowd_0 (zk_X8_crowd_1)
def zc_X8_alone : List (Nat × zq_It) := [(0, .inl (zq_al 1 0)), (1, .inr (.inl (1, .inr [(7, zn_X8_weekAsTold)]))), (4, .inl (zq_push 6 (.int 23))), (6, .inr (.inl (2, .inr [(6, zn_X7_aloneBehind)]))), (9, .inr (.inr 1))]
theorem zk_X8_alone : zq_oks zi_X8_alone zc_X8_alone := zq_cons (zq_s_aload_n (n := 0) (by decide +kernel) rfl) <|
  zq_cons (List.forall_mem_cons.mpr ⟨⟨zi_X8_weekAsTold, rfl, zq_s_callV (n := 0) (index := 177) (by decide +kernel) rfl zw_531 zw_533 zw_6 zw_80 zw_534 (by decide +kernel) (by decide +kernel) ⟨rfl, rfl⟩⟩, fun _ h => absurd h List.not_mem_nil⟩) <|
  zq_cons (zq_s_bipush (n := 23) (by decide +kernel) (by decide +kernel)) <|
  zq_cons (List.forall_mem_cons.mpr ⟨⟨zi_X7_aloneBehind, rfl, zq_s_callV (n := 1) (index := 213) (by decide +kernel) rfl zw_646 zw_647 zw_648 zw_89 zw_649 (by decide +kernel) (by decide +kernel) ⟨rfl, rfl⟩⟩, fun _ h => absurd h List.not_mem_nil⟩) <|
  zq_cons (⟨rfl, (by decide +kernel)⟩) <|
  zq_nil
def zc_X8_sleep_0 : List (Nat × zq_It) := [(0, .inl (zq_al 1 0)), (1, .inl (zq_il 2 1)), (2, .inr (.inl (2, .inr [(7, zn_X8_isPerson)]))), (5, .inl (zq_if_eq 8 17)), (8, .inl (zq_il 9 2)), (9, .inl (zq_push 10 (.int 0))), (10, .inl (zq_push 11 (.int 1))), (11, .inr (.inl (3, .inl zn_X8_within))), (14, .inl (zq_if_ne 17 20)), (17, .inl (zq_push 19 (.int (-2)))), (19, .inr (.inr 1)), (20, .inl (zq_push 21 (.int 0))), (21, .inl (zq_is 22 3)), (22, .inl (zq_push 23 (.int (-1)))), (23, .inl (zq_is 25 4)), (25, .inl (zq_push 26 (.int 0))), (26, .inl (zq_is 28 5)), (28, .inl (zq_il 30 5)), (30, .inl (zq_push 32 (.int 8))), (32, .inl (zq_ic_ge 35 92)), (35, .inl (zq_al 36 0)), (36, .inl (zq_getf 39 [(7, 8)])), (39, .inl (zq_il 40 1)), (40, .inl (zq_push 41 (.int (-1)))), (41, .inl (zq_il 43 5)), (43, .inr (.inl (4, .inr [(6, zn_X7_suppose)]))), (46, .inl (zq_al 47 0)), (47, .inl (zq_getf 50 [(7, 8)])), (50, .inl (zq_al 51 0)), (51, .inl (zq_getf 54 [(7, 2)])), (54, .inl (zq_push 55 (.int 0))), (55, .inl (zq_al 56 0)), (56, .inl (zq_getf 59 [(7, 12)])), (59, .inr (.inl (4, .inr [(6, zn_X7_runWith)]))), (62, .inl (zq_al 63 0)), (63, .inl (zq_getf 66 [(7, 8)])), (66, .inl (zq_il 67 1)), (67, .inr (.inl (2, .inr [(6, zn_X7_hoursAlone)]))), (70, .inl (zq_is 72 6)), (72, .inl (zq_il 74 6))]
theorem zk_X8_sleep_0 : zq_oks zi_X8_sleep zc_X8_sleep_0 := zq_cons (zq_s_aload_n (n := 0) (by decide +kernel) rfl) <|
  zq_cons (zq_s_iload_n (n := 1) (by decide +kernel) rfl) <|
  zq_cons (List.forall_mem_cons.mpr ⟨⟨zi_X8_isPerson, rfl, zq_s_callV (n := 1) (index := 133) (by decide +kernel) rfl zw_485 zw_487 zw_4 zw_80 zw_488 (by decide +kernel) (by decide +kernel) ⟨rfl, rfl⟩⟩, fun _ h => absurd h List.not_mem_nil⟩) <|
  zq_cons (zq_s_if_eq (off := 12) (by decide +kernel) (by decide)) <|
  zq_cons (zq_s_iload_n (n := 2) (by decide +kernel) rfl) <|
  zq_cons (zq_s_iconst (n := 0) (by decide +kernel) (by decide +kernel)) <|
  zq_cons (zq_s_iconst (n := 1) (by decide +kernel) (by decide +kernel)) <|
  zq_cons (⟨zi_X8_within, rfl, zq_s_callS (n := 3) (index := 98) (by decide +kernel) zw_383 zw_384 zw_80 zw_385 (by decide +kernel) (by decide +kernel) ⟨rfl, rfl⟩⟩) <|
  zq_cons (zq_s_if_ne (off := 6) (by decide +kernel) (by decide)) <|
  zq_cons (zq_s_bipush (n := (-2)) (by decide +kernel) (by decide +kernel)) <|
  zq_cons (⟨rfl, (by decide +kernel)⟩) <|
  zq_cons (zq_s_iconst (n := 0) (by decide +kernel) (by decide +kernel)) <|
  zq_cons (zq_s_istore_n (n := 3) (by decide +kernel) rfl (by decide +kernel)) <|
  zq_cons (zq_s_iconst (n := (-1)) (by decide +kernel) (by decide +kernel)) <|
  zq_cons (zq_s_istore (by decide +kernel) (by decide +kernel)) <|
  zq_cons (zq_s_iconst (n := 0) (by decide +kernel) (by decide +kernel)) <|
  zq_cons (zq_s_istore (by decide +kernel) (by decide +kernel)) <|
  zq_cons (zq_s_iload (by decide +kernel)) <|
  zq_cons (zq_s_bipush (n := 8) (by decide +kernel) (by decide +kernel)) <|
  zq_cons (zq_s_ic_ge (off := 60) (by decide +kernel) (by decide)) <|
  zq_cons (zq_s_aload_n (n := 0) (by decide +kernel) rfl) <|
  zq_cons (zq_s_getf (index := 63) (by decide +kernel) zf_X8_63) <|
  zq_cons (zq_s_iload_n (n := 1) (by decide +kernel) rfl) <|
  zq_cons (zq_s_iconst (n := (-1)) (by decide +kernel) (by decide +kernel)) <|
  zq_cons (zq_s_iload (by decide +kernel)) <|
  zq_cons (List.forall_mem_cons.mpr ⟨⟨zi_X7_suppose, rfl, zq_s_callV (n := 3) (index := 216) (by decide +kernel) rfl zw_654 zw_655 zw_656 zw_89 zw_657 (by decide +kernel) (by decide +kernel) ⟨rfl, rfl⟩⟩, fun _ h => absurd h List.not_mem_nil⟩) <|
  zq_cons (zq_s_aload_n (n := 0) (by decide +kernel) rfl) <|
  zq_cons (zq_s_getf (index := 63) (by decide +kernel) zf_X8_63) <|
  zq_cons (zq_s_aload_n (n := 0) (by decide +kernel) rfl) <|
  zq_cons (zq_s_getf (index := 26) (by decide +kernel) zf_X8_26) <|
  zq_cons (zq_s_iconst (n := 0) (by decide +kernel) (by decide +kernel)) <|
  zq_cons (zq_s_aload_n (n := 0) (by decide +kernel) rfl) <|
  zq_cons (zq_s_getf (index := 77) (by decide +kernel) zf_X8_77) <|
  zq_cons (List.forall_mem_cons.mpr ⟨⟨zi_X7_runWith, rfl, zq_s_callV (n := 3) (index := 219) (by decide +kernel) rfl zw_535 zw_536 zw_537 zw_89 zw_538 (by decide +kernel) (by decide +kernel) ⟨rfl, rfl⟩⟩, fun _ h => absurd h List.not_mem_nil⟩) <|
  zq_cons (zq_s_aload_n (n := 0) (by decide +kernel) rfl) <|
  zq_cons (zq_s_getf (index := 63) (by decide +kernel) zf_X8_63) <|
  zq_cons (zq_s_iload_n (n := 1) (by decide +kernel) rfl) <|
  zq_cons (List.forall_mem_cons.mpr ⟨⟨zi_X7_hoursAlone, rfl, zq_s_callV (n := 1) (index := 223) (by decide +kernel) rfl zw_658 zw_659 zw_660 zw_89 zw_661 (by decide +kernel) (by decide +kernel) ⟨rfl, rfl⟩⟩, fun _ h => absurd h List.not_mem_nil⟩) <|
  zq_cons (zq_s_istore (by decide +kernel) (by decide +kernel)) <|
  zq_cons (zq_s_iload (by decide +kernel)) <|
  zq_nil
def zc_X8_sleep_1 : List (Nat × zq_It) := [(74, .inl (zq_il 76 4)), (76, .inl (zq_ic_le 79 86)), (79, .inl (zq_il 81 5)), (81, .inl (zq_is 82 3)), (82, .inl (zq_il 84 6)), (84, .inl (zq_is 86 4)), (86, .inl (zq_inc 89 5 1)), (89, .inl (zq_goto 28)), (92, .inl (zq_al 93 0)), (93, .inl (zq_getf 96 [(7, 8)])), (96, .inl (zq_push 97 (.int (-1)))), (97, .inl (zq_push 98 (.int (-1)))), (98, .inl (zq_push 99 (.int (-1)))), (99, .inr (.inl (4, .inr [(6, zn_X7_suppose)]))), (102, .inl (zq_il 103 2)), (103, .inl (zq_if_ne 106 110)), (106, .inl (zq_il 107 3)), (107, .inl (zq_goto 112)), (110, .inl (zq_il 112 4)), (112, .inr (.inr 1))]
theorem zk_X8_sleep_1 : zq_oks zi_X8_sleep zc_X8_sleep_1 := zq_cons (zq_s_iload (by decide +kernel)) <|
  zq_cons (zq_s_ic_le (off := 10) (by decide +kernel) (by decide)) <|
  zq_cons (zq_s_iload (by decide +kernel)) <|
  zq_cons (zq_s_istore_n (n := 3) (by decide +kernel) rfl (by decide +kernel)) <|
  zq_cons (zq_s_iload (by decide +kernel)) <|
  zq_cons (zq_s_istore (by decide +kernel) (by decide +kernel)) <|
  zq_cons (zq_s_iinc (n := 1) (by decide +kernel) (by decide +kernel) (by decide +kernel)) <|
  zq_cons (zq_s_goto (off := (-61)) (by decide +kernel) (by decide)) <|
  zq_cons (zq_s_aload_n (n := 0) (by decide +kernel) rfl) <|
  zq_cons (zq_s_getf (index := 63) (by decide +kernel) zf_X8_63) <|
  zq_cons (zq_s_iconst (n := (-1)) (by decide +kernel) (by decide +kernel)) <|
  zq_cons (zq_s_iconst (n := (-1)) (by decide +kernel) (by decide +kernel)) <|
  zq_cons (zq_s_iconst (n := (-1)) (by decide +kernel) (by decide +kernel)) <|
  zq_cons (List.forall_mem_cons.mpr ⟨⟨zi_X7_suppose, rfl, zq_s_callV (n := 3) (index := 216) (by decide +kernel) rfl zw_654 zw_655 zw_656 zw_89 zw_657 (by decide +kernel) (by decide +kernel) ⟨rfl, rfl⟩⟩, fun _ h => absurd h List.not_mem_nil⟩) <|
  zq_cons (zq_s_iload_n (n := 2) (by decide +kernel) rfl) <|
  zq_cons (zq_s_if_ne (off := 7) (by decide +kernel) (by decide)) <|
  zq_cons (zq_s_iload_n (n := 3) (by decide +kernel) rfl) <|
  zq_cons (zq_s_goto (off := 5) (by decide +kernel) (by decide)) <|
  zq_cons (zq_s_iload (by decide +kernel)) <|
  zq_cons (⟨rfl, (by decide +kernel)⟩) <|
  zq_nil
def zc_X8_sleep : List (Nat × zq_It) := zc_X8_sleep_0 ++ (zc_X8_sleep_1)
theorem zk_X8_sleep : zq_oks zi_X8_sleep zc_X8_sleep := zq_app zk_X8_sleep_0 (zk_X8_sleep_1)
def zc_X8_nice_0 : List (Nat × zq_It) := [(0, .inl (zq_il 1 1)), (1, .inr (.inl (1, .inl zn_X8_isHour))), (4, .inl (zq_if_eq 7 16)), (7, .inl (zq_il 8 2)), (8, .inl (zq_push 9 (.int 0))), (9, .inl (zq_push 10 (.int 1))), (10, .inr (.inl (3, .inl zn_X8_within))), (13, .inl (zq_if_ne 16 19)), (16, .inl (zq_push 18 (.int (-2)))), (18, .inr (.inr 1)), (19, .inl (zq_push 20 (.int 0))), (20, .inl (zq_is 21 3)), (21, .inl (zq_push 22 (.int (-1)))), (22, .inl (zq_is 24 4)), (24, .inl (zq_push 25 (.int 0))), (25, .inl (zq_is 27 5)), (27, .inl (zq_il 29 5)), (29, .inl (zq_push 31 (.int 8))), (31, .inl (zq_ic_ge 34 103)), (34, .inl (zq_al 35 0)), (35, .inl (zq_getf 38 [(7, 3)])), (38, .inl (zq_al 39 0)), (39, .inl (zq_getf 42 [(7, 2)])), (42, .inr (.inl (2, .inr [(1, zn_X1_become)]))), (45, .inl (zq_al 46 0)), (46, .inl (zq_getf 49 [(7, 3)])), (49, .inl (zq_push 50 (.int 0))), (50, .inl (zq_il 51 1)), (51, .inl (zq_il 53 5)), (53, .inr (.inl (4, .inr [(1, zn_X1_add)]))), (56, .inl (zq_al 57 0)), (57, .inl (zq_getf 60 [(7, 8)])), (60, .inl (zq_al 61 0)), (61, .inl (zq_getf 64 [(7, 3)])), (64, .inl (zq_push 65 (.int 0))), (65, .inl (zq_al 66 0)), (66, .inl (zq_getf 69 [(7, 12)])), (69, .inr (.inl (4, .inr [(6, zn_X7_runWith)]))), (72, .inl (zq_al 73 0)), (73, .inl (zq_getf 76 [(7, 8)]))]
theorem zk_X8_nice_0 : zq_oks zi_X8_nice zc_X8_nice_0 := zq_cons (zq_s_iload_n (n := 1) (by decide +kernel) rfl) <|
  zq_cons (⟨zi_X8_isHour, rfl, zq_s_callS (n := 1) (index := 174) (by decide +kernel) zw_500 zw_501 zw_80 zw_502 (by decide +kernel) (by decide +kernel) ⟨rfl, rfl⟩⟩) <|
  zq_cons (zq_s_if_eq (off := 12) (by decide +kernel) (by decide)) <|
  zq_cons (zq_s_iload_n (n := 2) (by decide +kernel) rfl) <|
  zq_cons (zq_s_iconst (n := 0) (by decide +kernel) (by decide +kernel)) <|
  zq_cons (zq_s_iconst (n := 1) (by decide +kernel) (by decide +kernel)) <|
  zq_cons (⟨zi_X8_within, rfl, zq_s_callS (n := 3) (index := 98) (by decide +kernel) zw_383 zw_384 zw_80 zw_385 (by decide +kernel) (by decide +kernel) ⟨rfl, rfl⟩⟩) <|
  zq_cons (zq_s_if_ne (off := 6) (by decide +kernel) (by decide)) <|
  zq_cons (zq_s_bipush (n := (-2)) (by decide +kernel) (by decide +kernel)) <|
  zq_cons (⟨rfl, (by decide +kernel)⟩) <|
  zq_cons (zq_s_iconst (n := 0) (by decide +kernel) (by decide +kernel)) <|
  zq_cons (zq_s_istore_n (n := 3) (by decide +kernel) rfl (by decide +kernel)) <|
  zq_cons (zq_s_iconst (n := (-1)) (by decide +kernel) (by decide +kernel)) <|
  zq_cons (zq_s_istore (by decide +kernel) (by decide +kernel)) <|
  zq_cons (zq_s_iconst (n := 0) (by decide +kernel) (by decide +kernel)) <|
  zq_cons (zq_s_istore (by decide +kernel) (by decide +kernel)) <|
  zq_cons (zq_s_iload (by decide +kernel)) <|
  zq_cons (zq_s_bipush (n := 8) (by decide +kernel) (by decide +kernel)) <|
  zq_cons (zq_s_ic_ge (off := 72) (by decide +kernel) (by decide)) <|
  zq_cons (zq_s_aload_n (n := 0) (by decide +kernel) rfl) <|
  zq_cons (zq_s_getf (index := 30) (by decide +kernel) zf_X8_30) <|
  zq_cons (zq_s_aload_n (n := 0) (by decide +kernel) rfl) <|
  zq_cons (zq_s_getf (index := 26) (by decide +kernel) zf_X8_26) <|
  zq_cons (List.forall_mem_cons.mpr ⟨⟨zi_X1_become, rfl, zq_s_callV (n := 1) (index := 226) (by decide +kernel) rfl zw_667 zw_668 zw_669 zw_85 zw_670 (by decide +kernel) (by decide +kernel) ⟨rfl, rfl⟩⟩, fun _ h => absurd h List.not_mem_nil⟩) <|
  zq_cons (zq_s_aload_n (n := 0) (by decide +kernel) rfl) <|
  zq_cons (zq_s_getf (index := 30) (by decide +kernel) zf_X8_30) <|
  zq_cons (zq_s_iconst (n := 0) (by decide +kernel) (by decide +kernel)) <|
  zq_cons (zq_s_iload_n (n := 1) (by decide +kernel) rfl) <|
  zq_cons (zq_s_iload (by decide +kernel)) <|
  zq_cons (List.forall_mem_cons.mpr ⟨⟨zi_X1_add, rfl, zq_s_callV (n := 3) (index := 153) (by decide +kernel) rfl zw_503 zw_504 zw_505 zw_85 zw_506 (by decide +kernel) (by decide +kernel) ⟨rfl, rfl⟩⟩, fun _ h => absurd h List.not_mem_nil⟩) <|
  zq_cons (zq_s_aload_n (n := 0) (by decide +kernel) rfl) <|
  zq_cons (zq_s_getf (index := 63) (by decide +kernel) zf_X8_63) <|
  zq_cons (zq_s_aload_n (n := 0) (by decide +kernel) rfl) <|
  zq_cons (zq_s_getf (index := 30) (by decide +kernel) zf_X8_30) <|
  zq_cons (zq_s_iconst (n := 0) (by decide +kernel) (by decide +kernel)) <|
  zq_cons (zq_s_aload_n (n := 0) (by decide +kernel) rfl) <|
  zq_cons (zq_s_getf (index := 77) (by decide +kernel) zf_X8_77) <|
  zq_cons (List.forall_mem_cons.mpr ⟨⟨zi_X7_runWith, rfl, zq_s_callV (n := 3) (index := 219) (by decide +kernel) rfl zw_535 zw_536 zw_537 zw_89 zw_538 (by decide +kernel) (by decide +kernel) ⟨rfl, rfl⟩⟩, fun _ h => absurd h List.not_mem_nil⟩) <|
  zq_cons (zq_s_aload_n (n := 0) (by decide +kernel) rfl) <|
  zq_cons (zq_s_getf (index := 63) (by decide +kernel) zf_X8_63) <|
  zq_nil
def zc_X8_nice_1 : List (Nat × zq_It) := [(76, .inl (zq_push 78 (.int 23))), (78, .inr (.inl (2, .inr [(6, zn_X7_mostIn)]))), (81, .inl (zq_is 83 6)), (83, .inl (zq_il 85 6)), (85, .inl (zq_il 87 4)), (87, .inl (zq_ic_le 90 97)), (90, .inl (zq_il 92 5)), (92, .inl (zq_is 93 3)), (93, .inl (zq_il 95 6)), (95, .inl (zq_is 97 4)), (97, .inl (zq_inc 100 5 1)), (100, .inl (zq_goto 27)), (103, .inl (zq_il 104 2)), (104, .inl (zq_if_ne 107 111)), (107, .inl (zq_il 108 3)), (108, .inl (zq_goto 113)), (111, .inl (zq_il 113 4)), (113, .inr (.inr 1))]
theorem zk_X8_nice_1 : zq_oks zi_X8_nice zc_X8_nice_1 := zq_cons (zq_s_bipush (n := 23) (by decide +kernel) (by decide +kernel)) <|
  zq_cons (List.forall_mem_cons.mpr ⟨⟨zi_X7_mostIn, rfl, zq_s_callV (n := 1) (index := 207) (by decide +kernel) rfl zw_627 zw_628 zw_629 zw_89 zw_630 (by decide +kernel) (by decide +kernel) ⟨rfl, rfl⟩⟩, fun _ h => absurd h List.not_mem_nil⟩) <|
  zq_cons (zq_s_istore (by decide +kernel) (by decide +kernel)) <|
  zq_cons (zq_s_iload (by decide +kernel)) <|
  zq_cons (zq_s_iload (by decide +kernel)) <|
  zq_cons (zq_s_ic_le (off := 10) (by decide +kernel) (by decide)) <|
  zq_cons (zq_s_iload (by decide +kernel)) <|
  zq_cons (zq_s_istore_n (n := 3) (by decide +kernel) rfl (by decide +kernel)) <|
  zq_cons (zq_s_iload (by decide +kernel)) <|
  zq_cons (zq_s_istore (by decide +kernel) (by decide +kernel)) <|
  zq_cons (zq_s_iinc (n := 1) (by decide +kernel) (by decide +kernel) (by decide +kernel)) <|
  zq_cons (zq_s_goto (off := (-73)) (by decide +kernel) (by decide)) <|
  zq_cons (zq_s_iload_n (n := 2) (by decide +kernel) rfl) <|
  zq_cons (zq_s_if_ne (off := 7) (by decide +kernel) (by decide)) <|
  zq_cons (zq_s_iload_n (n := 3) (by decide +kernel) rfl) <|
  zq_cons (zq_s_goto (off := 5) (by decide +kernel) (by decide)) <|
  zq_cons (zq_s_iload (by decide +kernel)) <|
  zq_cons (⟨rfl, (by decide +kernel)⟩) <|
  zq_nil
def zc_X8_nice : List (Nat × zq_It) := zc_X8_nice_0 ++ (zc_X8_nice_1)
theorem zk_X8_nice : zq_oks zi_X8_nice zc_X8_nice := zq_app zk_X8_nice_0 (zk_X8_nice_1)
def zc_X8_lens_0 : List (Nat × zq_It) := [(0, .inl (zq_il 1 1)), (1, .inl (zq_push 2 (.int 0))), (2, .inl (zq_push 3 (.int 1))), (3, .inr (.inl (3, .inl zn_X8_within))), (6, .inl (zq_if_ne 9 12)), (9, .inl (zq_push 11 (.int (-2)))), (11, .inr (.inr 1)), (12, .inl (zq_push 13 (.int (-1)))), (13, .inl (zq_is 14 2)), (14, .inl (zq_push 15 (.int (-1)))), (15, .inl (zq_is 16 3)), (16, .inl (zq_push 17 (.int 1))), (17, .inl (zq_is 19 4)), (19, .inl (zq_il 21 4)), (21, .inl (zq_push 23 (.int 9))), (23, .inl (zq_ic_gt 26 78)), (26, .inl (zq_al 27 0)), (27, .inl (zq_getf 30 [(7, 8)])), (30, .inl (zq_al 31 0)), (31, .inl (zq_getf 34 [(7, 2)])), (34, .inl (zq_push 35 (.int 0))), (35, .inl (zq_il 37 4)), (37, .inr (.inl (4, .inr [(6, zn_X7_runWith)]))), (40, .inl (zq_al 41 0)), (41, .inl (zq_getf 44 [(7, 8)])), (44, .inr (.inl (1, .inr [(6, zn_X7_findingHour)]))), (47, .inl (zq_is 49 5)), (49, .inl (zq_il 51 5)), (51, .inl (zq_push 52 (.int (-1)))), (52, .inl (zq_ic_eq 55 72)), (55, .inl (zq_il 56 3)), (56, .inl (zq_push 57 (.int (-1)))), (57, .inl (zq_ic_eq 60 66)), (60, .inl (zq_il 62 5)), (62, .inl (zq_il 63 3)), (63, .inl (zq_ic_ge 66 72)), (66, .inl (zq_il 68 4)), (68, .inl (zq_is 69 2)), (69, .inl (zq_il 71 5)), (71, .inl (zq_is 72 3))]
theorem zk_X8_lens_0 : zq_oks zi_X8_lens zc_X8_lens_0 := zq_cons (zq_s_iload_n (n := 1) (by decide +kernel) rfl) <|
  zq_cons (zq_s_iconst (n := 0) (by decide +kernel) (by decide +kernel)) <|
  zq_cons (zq_s_iconst (n := 1) (by decide +kernel) (by decide +kernel)) <|
  zq_cons (⟨zi_X8_within, rfl, zq_s_callS (n := 3) (index := 98) (by decide +kernel) zw_383 zw_384 zw_80 zw_385 (by decide +kernel) (by decide +kernel) ⟨rfl, rfl⟩⟩) <|
  zq_cons (zq_s_if_ne (off := 6) (by decide +kernel) (by decide)) <|
  zq_cons (zq_s_bipush (n := (-2)) (by decide +kernel) (by decide +kernel)) <|
  zq_cons (⟨rfl, (by decide +kernel)⟩) <|
  zq_cons (zq_s_iconst (n := (-1)) (by decide +kernel) (by decide +kernel)) <|
  zq_cons (zq_s_istore_n (n := 2) (by decide +kernel) rfl (by decide +kernel)) <|
  zq_cons (zq_s_iconst (n := (-1)) (by decide +kernel) (by decide +kernel)) <|
  zq_cons (zq_s_istore_n (n := 3) (by decide +kernel) rfl (by decide +kernel)) <|
  zq_cons (zq_s_iconst (n := 1) (by decide +kernel) (by decide +kernel)) <|
  zq_cons (zq_s_istore (by decide +kernel) (by decide +kernel)) <|
  zq_cons (zq_s_iload (by decide +kernel)) <|
  zq_cons (zq_s_bipush (n := 9) (by decide +kernel) (by decide +kernel)) <|
  zq_cons (zq_s_ic_gt (off := 55) (by decide +kernel) (by decide)) <|
  zq_cons (zq_s_aload_n (n := 0) (by decide +kernel) rfl) <|
  zq_cons (zq_s_getf (index := 63) (by decide +kernel) zf_X8_63) <|
  zq_cons (zq_s_aload_n (n := 0) (by decide +kernel) rfl) <|
  zq_cons (zq_s_getf (index := 26) (by decide +kernel) zf_X8_26) <|
  zq_cons (zq_s_iconst (n := 0) (by decide +kernel) (by decide +kernel)) <|
  zq_cons (zq_s_iload (by decide +kernel)) <|
  zq_cons (List.forall_mem_cons.mpr ⟨⟨zi_X7_runWith, rfl, zq_s_callV (n := 3) (index := 219) (by decide +kernel) rfl zw_535 zw_536 zw_537 zw_89 zw_538 (by decide +kernel) (by decide +kernel) ⟨rfl, rfl⟩⟩, fun _ h => absurd h List.not_mem_nil⟩) <|
  zq_cons (zq_s_aload_n (n := 0) (by decide +kernel) rfl) <|
  zq_cons (zq_s_getf (index := 63) (by decide +kernel) zf_X8_63) <|
  zq_cons (List.forall_mem_cons.mpr ⟨⟨zi_X7_findingHour, rfl, zq_s_callV (n := 0) (index := 197) (by decide +kernel) rfl zw_609 zw_610 zw_611 zw_89 zw_612 (by decide +kernel) (by decide +kernel) ⟨rfl, rfl⟩⟩, fun _ h => absurd h List.not_mem_nil⟩) <|
  zq_cons (zq_s_istore (by decide +kernel) (by decide +kernel)) <|
  zq_cons (zq_s_iload (by decide +kernel)) <|
  zq_cons (zq_s_iconst (n := (-1)) (by decide +kernel) (by decide +kernel)) <|
  zq_cons (zq_s_ic_eq (off := 20) (by decide +kernel) (by decide)) <|
  zq_cons (zq_s_iload_n (n := 3) (by decide +kernel) rfl) <|
  zq_cons (zq_s_iconst (n := (-1)) (by decide +kernel) (by decide +kernel)) <|
  zq_cons (zq_s_ic_eq (off := 9) (by decide +kernel) (by decide)) <|
  zq_cons (zq_s_iload (by decide +kernel)) <|
  zq_cons (zq_s_iload_n (n := 3) (by decide +kernel) rfl) <|
  zq_cons (zq_s_ic_ge (off := 9) (by decide +kernel) (by decide)) <|
  zq_cons (zq_s_iload (by decide +kernel)) <|
  zq_cons (zq_s_istore_n (n := 2) (by decide +kernel) rfl (by decide +kernel)) <|
  zq_cons (zq_s_iload (by decide +kernel)) <|
  zq_cons (zq_s_istore_n (n := 3) (by decide +kernel) rfl (by decide +kernel)) <|
  zq_nil
def zc_X8_lens_1 : List (Nat × zq_It) := [(72, .inl (zq_inc 75 4 1)), (75, .inl (zq_goto 19)), (78, .inl (zq_il 79 1)), (79, .inl (zq_if_ne 82 86)), (82, .inl (zq_il 83 2)), (83, .inl (zq_goto 87)), (86, .inl (zq_il 87 3)), (87, .inr (.inr 1))]
theorem zk_X8_lens_1 : zq_oks zi_X8_lens zc_X8_lens_1 := zq_cons (zq_s_iinc (n := 1) (by decide +kernel) (by decide +kernel) (by decide +kernel)) <|
  zq_cons (zq_s_goto (off := (-56)) (by decide +kernel) (by decide)) <|
  zq_cons (zq_s_iload_n (n := 1) (by decide +kernel) rfl) <|
  zq_cons (zq_s_if_ne (off := 7) (by decide +kernel) (by decide)) <|
  zq_cons (zq_s_iload_n (n := 2) (by decide +kernel) rfl) <|
  zq_cons (zq_s_goto (off := 4) (by decide +kernel) (by decide)) <|
  zq_cons (zq_s_iload_n (n := 3) (by decide +kernel) rfl) <|
  zq_cons (⟨rfl, (by decide +kernel)⟩) <|
  zq_nil
def zc_X8_lens : List (Nat × zq_It) := zc_X8_lens_0 ++ (zc_X8_lens_1)
theorem zk_X8_lens : zq_oks zi_X8_lens zc_X8_lens := zq_app zk_X8_lens_0 (zk_X8_lens_1)
def zc_X8_spare : List (Nat × zq_It) := [(0, .inl (zq_il 1 1)), (1, .inl (zq_push 2 (.int (-1)))), (2, .inl (zq_push 3 (.int 1))), (3, .inr (.inl (3, .inl zn_X8_within))), (6, .inl (zq_if_ne 9 12)), (9, .inl (zq_push 11 (.int (-2)))), (11, .inr (.inr 1)), (12, .inl (zq_al 13 0)), (13, .inr (.inl (1, .inr [(7, zn_X8_sparedRow)]))), (16, .inl (zq_is 17 2)), (17, .inl (zq_il 18 2)), (18, .inl (zq_push 19 (.int (-1)))), (19, .inl (zq_ic_ne 22 24)), (22, .inl (zq_push 23 (.int (-1)))), (23, .inr (.inr 1)), (24, .inl (zq_il 25 1)), (25, .inl (zq_push 26 (.int (-1)))), (26, .inl (zq_ic_ne 29 36)), (29, .inl (zq_il 30 2)), (30, .inr (.inl (1, .inl zn_J6_bitCount_0f7a4))), (33, .inl (zq_goto 41)), (36, .inl (zq_il 37 2)), (37, .inl (zq_il 38 1)), (38, .inr (.inl (2, .inl zn_X8_placeOfBit))), (41, .inr (.inr 1))]
theorem zk_X8_spare : zq_oks zi_X8_spare zc_X8_spare := zq_cons (zq_s_iload_n (n := 1) (by decide +kernel) rfl) <|
  zq_cons (zq_s_iconst (n := (-1)) (by decide +kernel) (by decide +kernel)) <|
  zq_cons (zq_s_iconst (n := 1) (by decide +kernel) (by decide +kernel)) <|
  zq_cons (⟨zi_X8_within, rfl, zq_s_callS (n := 3) (index := 98) (by decide +kernel) zw_383 zw_384 zw_80 zw_385 (by decide +kernel) (by decide +kernel) ⟨rfl, rfl⟩⟩) <|
  zq_cons (zq_s_if_ne (off := 6) (by decide +kernel) (by decide)) <|
  zq_cons (zq_s_bipush (n := (-2)) (by decide +kernel) (by decide +kernel)) <|
  zq_cons (⟨rfl, (by decide +kernel)⟩) <|
  zq_cons (zq_s_aload_n (n := 0) (by decide +kernel) rfl) <|
  zq_cons (List.forall_mem_cons.mpr ⟨⟨zi_X8_sparedRow, rfl, zq_s_callV (n := 0) (index := 230) (by decide +kernel) rfl zw_680 zw_682 zw_12 zw_80 zw_683 (by decide +kernel) (by decide +kernel) ⟨rfl, rfl⟩⟩, fun _ h => absurd h List.not_mem_nil⟩) <|
  zq_cons (zq_s_istore_n (n := 2) (by decide +kernel) rfl (by decide +kernel)) <|
  zq_cons (zq_s_iload_n (n := 2) (by decide +kernel) rfl) <|
  zq_cons (zq_s_iconst (n := (-1)) (by decide +kernel) (by decide +kernel)) <|
  zq_cons (zq_s_ic_ne (off := 5) (by decide +kernel) (by decide)) <|
  zq_cons (zq_s_iconst (n := (-1)) (by decide +kernel) (by decide +kernel)) <|
  zq_cons (⟨rfl, (by decide +kernel)⟩) <|
  zq_cons (zq_s_iload_n (n := 1) (by decide +kernel) rfl) <|
  zq_cons (zq_s_iconst (n := (-1)) (by decide +kernel) (by decide +kernel)) <|
  zq_cons (zq_s_ic_ne (off := 10) (by decide +kernel) (by decide)) <|
  zq_cons (zq_s_iload_n (n := 2) (by decide +kernel) rfl) <|
  zq_cons (⟨zi_J6_bitCount_0f7a4, rfl, zq_s_callS (n := 1) (index := 233) (by decide +kernel) zw_688 zw_632 zw_92 zw_633 (by decide +kernel) (by decide +kernel) ⟨rfl, rfl⟩⟩) <|
  zq_cons (zq_s_goto (off := 8) (by decide +kernel) (by decide)) <|
  zq_cons (zq_s_iload_n (n := 2) (by decide +kernel) rfl) <|
  zq_cons (zq_s_iload_n (n := 1) (by decide +kernel) rfl) <|
  zq_cons (⟨zi_X8_placeOfBit, rfl, zq_s_callS (n := 2) (index := 238) (by decide +kernel) zw_689 zw_690 zw_80 zw_691 (by decide +kernel) (by decide +kernel) ⟨rfl, rfl⟩⟩) <|
  zq_cons (⟨rfl, (by decide +kernel)⟩) <|
  zq_nil
def zc_X8_seen : List (Nat × zq_It) := [(0, .inl (zq_il 1 1)), (1, .inr (.inl (1, .inl zn_X8_isHour))), (4, .inl (zq_if_eq 7 24)), (7, .inl (zq_il 8 2)), (8, .inl (zq_push 9 (.int 0))), (9, .inl (zq_push 11 (.int 7))), (11, .inr (.inl (3, .inl zn_X8_within))), (14, .inl (zq_if_eq 17 24)), (17, .inl (zq_il 18 3)), (18, .inr (.inl (1, .inl zn_X8_isRoom))), (21, .inl (zq_if_ne 24 27)), (24, .inl (zq_push 26 (.int (-2)))), (26, .inr (.inr 1)), (27, .inl (zq_al 28 0)), (28, .inl (zq_getf 31 [(7, 5)])), (31, .inl (zq_getf 34 [(5, 3)])), (34, .inl (zq_push 36 (.int 8))), (36, .inl (zq_ic_lt 39 42)), (39, .inl (zq_push 41 (.int (-4)))), (41, .inr (.inr 1)), (42, .inl (zq_al 43 0)), (43, .inl (zq_getf 46 [(7, 5)])), (46, .inl (zq_il 47 1)), (47, .inl (zq_il 48 2)), (48, .inl (zq_il 49 3)), (49, .inr (.inl (4, .inr [(5, zn_X5_add)]))), (52, .inl (zq_al 53 0)), (53, .inl (zq_getf 56 [(7, 5)])), (56, .inl (zq_getf 59 [(5, 3)])), (59, .inr (.inr 1))]
theorem zk_X8_seen : zq_oks zi_X8_seen zc_X8_seen := zq_cons (zq_s_iload_n (n := 1) (by decide +kernel) rfl) <|
  zq_cons (⟨zi_X8_isHour, rfl, zq_s_callS (n := 1) (index := 174) (by decide +kernel) zw_500 zw_501 zw_80 zw_502 (by decide +kernel) (by decide +kernel) ⟨rfl, rfl⟩⟩) <|
  zq_cons (zq_s_if_eq (off := 20) (by decide +kernel) (by decide)) <|
  zq_cons (zq_s_iload_n (n := 2) (by decide +kernel) rfl) <|
  zq_cons (zq_s_iconst (n := 0) (by decide +kernel) (by decide +kernel)) <|
  zq_cons (zq_s_bipush (n := 7) (by decide +kernel) (by decide +kernel)) <|
  zq_cons (⟨zi_X8_within, rfl, zq_s_callS (n := 3) (index := 98) (by decide +kernel) zw_383 zw_384 zw_80 zw_385 (by decide +kernel) (by decide +kernel) ⟨rfl, rfl⟩⟩) <|
  zq_cons (zq_s_if_eq (off := 10) (by decide +kernel) (by decide)) <|
  zq_cons (zq_s_iload_n (n := 3) (by decide +kernel) rfl) <|
  zq_cons (⟨zi_X8_isRoom, rfl, zq_s_callS (n := 1) (index := 185) (by decide +kernel) zw_577 zw_578 zw_80 zw_579 (by decide +kernel) (by decide +kernel) ⟨rfl, rfl⟩⟩) <|
  zq_cons (zq_s_if_ne (off := 6) (by decide +kernel) (by decide)) <|
  zq_cons (zq_s_bipush (n := (-2)) (by decide +kernel) (by decide +kernel)) <|
  zq_cons (⟨rfl, (by decide +kernel)⟩) <|
  zq_cons (zq_s_aload_n (n := 0) (by decide +kernel) rfl) <|
  zq_cons (zq_s_getf (index := 43) (by decide +kernel) zf_X8_43) <|
  zq_cons (zq_s_getf (index := 241) (by decide +kernel) zf_X8_241) <|
  zq_cons (zq_s_bipush (n := 8) (by decide +kernel) (by decide +kernel)) <|
  zq_cons (zq_s_ic_lt (off := 6) (by decide +kernel) (by decide)) <|
  zq_cons (zq_s_bipush (n := (-4)) (by decide +kernel) (by decide +kernel)) <|
  zq_cons (⟨rfl, (by decide +kernel)⟩) <|
  zq_cons (zq_s_aload_n (n := 0) (by decide +kernel) rfl) <|
  zq_cons (zq_s_getf (index := 43) (by decide +kernel) zf_X8_43) <|
  zq_cons (zq_s_iload_n (n := 1) (by decide +kernel) rfl) <|
  zq_cons (zq_s_iload_n (n := 2) (by decide +kernel) rfl) <|
  zq_cons (zq_s_iload_n (n := 3) (by decide +kernel) rfl) <|
  zq_cons (List.forall_mem_cons.mpr ⟨⟨zi_X5_add, rfl, zq_s_callV (n := 3) (index := 242) (by decide +kernel) rfl zw_696 zw_697 zw_698 zw_87 zw_699 (by decide +kernel) (by decide +kernel) ⟨rfl, rfl⟩⟩, fun _ h => absurd h List.not_mem_nil⟩) <|
  zq_cons (zq_s_aload_n (n := 0) (by decide +kernel) rfl) <|
  zq_cons (zq_s_getf (index := 43) (by decide +kernel) zf_X8_43) <|
  zq_cons (zq_s_getf (index := 241) (by decide +kernel) zf_X8_241) <|
  zq_cons (⟨rfl, (by decide +kernel)⟩) <|
  zq_nil
def zc_X8_forget : List (Nat × zq_It) := [(0, .inl (zq_al 1 0)), (1, .inl (zq_getf 4 [(7, 5)])), (4, .inl (zq_getf 7 [(5, 3)])), (7, .inl (zq_is 8 1)), (8, .inl (zq_al 9 0)), (9, .inl (zq_getf 12 [(7, 5)])), (12, .inl (zq_push 13 (.int 0))), (13, .inl (zq_puti 16 false [(5, 3)])), (16, .inl (zq_il 17 1)), (17, .inr (.inr 1))]
theorem zk_X8_forget : zq_oks zi_X8_forget zc_X8_forget := zq_cons (zq_s_aload_n (n := 0) (by decide +kernel) rfl) <|
  zq_cons (zq_s_getf (index := 43) (by decide +kernel) zf_X8_43) <|
  zq_cons (zq_s_getf (index := 241) (by decide +kernel) zf_X8_241) <|
  zq_cons (zq_s_istore_n (n := 1) (by decide +kernel) rfl (by decide +kernel)) <|
  zq_cons (zq_s_aload_n (n := 0) (by decide +kernel) rfl) <|
  zq_cons (zq_s_getf (index := 43) (by decide +kernel) zf_X8_43) <|
  zq_cons (zq_s_iconst (n := 0) (by decide +kernel) (by decide +kernel)) <|
  zq_cons (zq_s_puti (index := 241) (by decide +kernel) zp_X8_241 (fun _ _ => ⟨rfl, rfl⟩)) <|
  zq_cons (zq_s_iload_n (n := 1) (by decide +kernel) rfl) <|
  zq_cons (⟨rfl, (by decide +kernel)⟩) <|
  zq_nil
def zc_X8_never : List (Nat × zq_It) := [(0, .inl (zq_push 1 (.int 0))), (1, .inl (zq_is 2 1)), (2, .inl (zq_push 3 (.int 0))), (3, .inl (zq_is 4 2)), (4, .inl (zq_il 5 2)), (5, .inl (zq_al 6 0)), (6, .inl (zq_getf 9 [(7, 2)])), (9, .inl (zq_getf 12 [(1, 3)])), (12, .inl (zq_ic_ge 15 59)), (15, .inl (zq_al 16 0)), (16, .inl (zq_getf 19 [(7, 8)])), (19, .inl (zq_al 20 0)), (20, .inl (zq_getf 23 [(7, 2)])), (23, .inl (zq_push 24 (.int 1))), (24, .inl (zq_il 25 2)), (25, .inl (zq_i2 26 (fun x y => x <<< (y &&& 31)))), (26, .inl (zq_al 27 0)), (27, .inl (zq_getf 30 [(7, 12)])), (30, .inr (.inl (4, .inr [(6, zn_X7_runWith)]))), (33, .inl (zq_al 34 0)), (34, .inl (zq_getf 37 [(7, 5)])), (37, .inl (zq_al 38 0)), (38, .inl (zq_getf 41 [(7, 8)])), (41, .inr (.inl (2, .inr [(5, zn_X5_allIn)]))), (44, .inl (zq_if_eq 47 53)), (47, .inl (zq_il 48 1)), (48, .inl (zq_push 49 (.int 1))), (49, .inl (zq_il 50 2)), (50, .inl (zq_i2 51 (fun x y => x <<< (y &&& 31)))), (51, .inl (zq_i2 52 (fun x y => x ||| y))), (52, .inl (zq_is 53 1)), (53, .inl (zq_inc 56 2 1)), (56, .inl (zq_goto 4)), (59, .inl (zq_il 60 1)), (60, .inr (.inr 1))]
theorem zk_X8_never : zq_oks zi_X8_never zc_X8_never := zq_cons (zq_s_iconst (n := 0) (by decide +kernel) (by decide +kernel)) <|
  zq_cons (zq_s_istore_n (n := 1) (by decide +kernel) rfl (by decide +kernel)) <|
  zq_cons (zq_s_iconst (n := 0) (by decide +kernel) (by decide +kernel)) <|
  zq_cons (zq_s_istore_n (n := 2) (by decide +kernel) rfl (by decide +kernel)) <|
  zq_cons (zq_s_iload_n (n := 2) (by decide +kernel) rfl) <|
  zq_cons (zq_s_aload_n (n := 0) (by decide +kernel) rfl) <|
  zq_cons (zq_s_getf (index := 26) (by decide +kernel) zf_X8_26) <|
  zq_cons (zq_s_getf (index := 152) (by decide +kernel) zf_X8_152) <|
  zq_cons (zq_s_ic_ge (off := 47) (by decide +kernel) (by decide)) <|
  zq_cons (zq_s_aload_n (n := 0) (by decide +kernel) rfl) <|
  zq_cons (zq_s_getf (index := 63) (by decide +kernel) zf_X8_63) <|
  zq_cons (zq_s_aload_n (n := 0) (by decide +kernel) rfl) <|
  zq_cons (zq_s_getf (index := 26) (by decide +kernel) zf_X8_26) <|
  zq_cons (zq_s_iconst (n := 1) (by decide +kernel) (by decide +kernel)) <|
  zq_cons (zq_s_iload_n (n := 2) (by decide +kernel) rfl) <|
  zq_cons (zq_s_ishl (by decide +kernel)) <|
  zq_cons (zq_s_aload_n (n := 0) (by decide +kernel) rfl) <|
  zq_cons (zq_s_getf (index := 77) (by decide +kernel) zf_X8_77) <|
  zq_cons (List.forall_mem_cons.mpr ⟨⟨zi_X7_runWith, rfl, zq_s_callV (n := 3) (index := 219) (by decide +kernel) rfl zw_535 zw_536 zw_537 zw_89 zw_538 (by decide +kernel) (by decide +kernel) ⟨rfl, rfl⟩⟩, fun _ h => absurd h List.not_mem_nil⟩) <|
  zq_cons (zq_s_aload_n (n := 0) (by decide +kernel) rfl) <|
  zq_cons (zq_s_getf (index := 43) (by decide +kernel) zf_X8_43) <|
  zq_cons (zq_s_aload_n (n := 0) (by decide +kernel) rfl) <|
  zq_cons (zq_s_getf (index := 63) (by decide +kernel) zf_X8_63) <|
  zq_cons (List.forall_mem_cons.mpr ⟨⟨zi_X5_allIn, rfl, zq_s_callV (n := 1) (index := 243) (by decide +kernel) rfl zw_708 zw_709 zw_710 zw_87 zw_711 (by decide +kernel) (by decide +kernel) ⟨rfl, rfl⟩⟩, fun _ h => absurd h List.not_mem_nil⟩) <|
  zq_cons (zq_s_if_eq (off := 9) (by decide +kernel) (by decide)) <|
  zq_cons (zq_s_iload_n (n := 1) (by decide +kernel) rfl) <|
  zq_cons (zq_s_iconst (n := 1) (by decide +kernel) (by decide +kernel)) <|
  zq_cons (zq_s_iload_n (n := 2) (by decide +kernel) rfl) <|
  zq_cons (zq_s_ishl (by decide +kernel)) <|
  zq_cons (zq_s_ior (by decide +kernel)) <|
  zq_cons (zq_s_istore_n (n := 1) (by decide +kernel) rfl (by decide +kernel)) <|
  zq_cons (zq_s_iinc (n := 1) (by decide +kernel) (by decide +kernel) (by decide +kernel)) <|
  zq_cons (zq_s_goto (off := (-52)) (by decide +kernel) (by decide)) <|
  zq_cons (zq_s_iload_n (n := 1) (by decide +kernel) rfl) <|
  zq_cons (⟨rfl, (by decide +kernel)⟩) <|
  zq_nil
def zc_X8_was : List (Nat × zq_It) := [(0, .inl (zq_al 1 0)), (1, .inl (zq_il 2 1)), (2, .inr (.inl (2, .inr [(7, zn_X8_isPerson)]))), (5, .inl (zq_if_eq 8 17)), (8, .inl (zq_il 9 2)), (9, .inl (zq_push 10 (.int 0))), (10, .inl (zq_push 11 (.int 1))), (11, .inr (.inl (3, .inl zn_X8_within))), (14, .inl (zq_if_ne 17 20)), (17, .inl (zq_push 19 (.int (-2)))), (19, .inr (.inr 1)), (20, .inl (zq_il 21 2)), (21, .inl (zq_if_ne 24 32)), (24, .inl (zq_al 25 0)), (25, .inl (zq_il 26 1)), (26, .inr (.inl (2, .inr [(7, zn_X8_sortsThatFit)]))), (29, .inl (zq_goto 37)), (32, .inl (zq_al 33 0)), (33, .inl (zq_il 34 1)), (34, .inr (.inl (2, .inr [(7, zn_X8_bedsThatFit)]))), (37, .inr (.inr 1))]
theorem zk_X8_was : zq_oks zi_X8_was zc_X8_was := zq_cons (zq_s_aload_n (n := 0) (by decide +kernel) rfl) <|
  zq_cons (zq_s_iload_n (n := 1) (by decide +kernel) rfl) <|
  zq_cons (List.forall_mem_cons.mpr ⟨⟨zi_X8_isPerson, rfl, zq_s_callV (n := 1) (index := 133) (by decide +kernel) rfl zw_485 zw_487 zw_4 zw_80 zw_488 (by decide +kernel) (by decide +kernel) ⟨rfl, rfl⟩⟩, fun _ h => absurd h List.not_mem_nil⟩) <|
  zq_cons (zq_s_if_eq (off := 12) (by decide +kernel) (by decide)) <|
  zq_cons (zq_s_iload_n (n := 2) (by decide +kernel) rfl) <|
  zq_cons (zq_s_iconst (n := 0) (by decide +kernel) (by decide +kernel)) <|
  zq_cons (zq_s_iconst (n := 1) (by decide +kernel) (by decide +kernel)) <|
  zq_cons (⟨zi_X8_within, rfl, zq_s_callS (n := 3) (index := 98) (by decide +kernel) zw_383 zw_384 zw_80 zw_385 (by decide +kernel) (by decide +kernel) ⟨rfl, rfl⟩⟩) <|
  zq_cons (zq_s_if_ne (off := 6) (by decide +kernel) (by decide)) <|
  zq_cons (zq_s_bipush (n := (-2)) (by decide +kernel) (by decide +kernel)) <|
  zq_cons (⟨rfl, (by decide +kernel)⟩) <|
  zq_cons (zq_s_iload_n (n := 2) (by decide +kernel) rfl) <|
  zq_cons (zq_s_if_ne (off := 11) (by decide +kernel) (by decide)) <|
  zq_cons (zq_s_aload_n (n := 0) (by decide +kernel) rfl) <|
  zq_cons (zq_s_iload_n (n := 1) (by decide +kernel) rfl) <|
  zq_cons (List.forall_mem_cons.mpr ⟨⟨zi_X8_sortsThatFit, rfl, zq_s_callV (n := 1) (index := 247) (by decide +kernel) rfl zw_717 zw_719 zw_14 zw_80 zw_720 (by decide +kernel) (by decide +kernel) ⟨rfl, rfl⟩⟩, fun _ h => absurd h List.not_mem_nil⟩) <|
  zq_cons (zq_s_goto (off := 8) (by decide +kernel) (by decide)) <|
  zq_cons (zq_s_aload_n (n := 0) (by decide +kernel) rfl) <|
  zq_cons (zq_s_iload_n (n := 1) (by decide +kernel) rfl) <|
  zq_cons (List.forall_mem_cons.mpr ⟨⟨zi_X8_bedsThatFit, rfl, zq_s_callV (n := 1) (index := 250) (by decide +kernel) rfl zw_721 zw_723 zw_15 zw_80 zw_724 (by decide +kernel) (by decide +kernel) ⟨rfl, rfl⟩⟩, fun _ h => absurd h List.not_mem_nil⟩) <|
  zq_cons (⟨rfl, (by decide +kernel)⟩) <|
  zq_nil
def zc_X8_ask : List (Nat × zq_It) := [(0, .inl (zq_al 1 0)), (1, .inl (zq_il 2 1)), (2, .inr (.inl (2, .inr [(7, zn_X8_isPerson)]))), (5, .inl (zq_if_ne 8 11)), (8, .inl (zq_push 10 (.int (-2)))), (10, .inr (.inr 1)), (11, .inl (zq_al 12 0)), (12, .inl (zq_il 13 1)), (13, .inr (.inl (2, .inr [(7, zn_X8_bedsThatFit)]))), (16, .inl (zq_is 17 2)), (17, .inl (zq_push 18 (.int 0))), (18, .inl (zq_is 19 3)), (19, .inl (zq_push 21 (.int 9))), (21, .inl (zq_is 23 4)), (23, .inl (zq_push 24 (.int 0))), (24, .inl (zq_is 26 5)), (26, .inl (zq_il 28 5)), (28, .inl (zq_push 30 (.int 24))), (30, .inl (zq_ic_ge 33 62)), (33, .inl (zq_al 34 0)), (34, .inl (zq_il 36 5)), (36, .inl (zq_il 37 2)), (37, .inr (.inl (3, .inr [(7, zn_X8_mostBedsInOneRoom)]))), (40, .inl (zq_is 42 6)), (42, .inl (zq_il 44 6)), (44, .inl (zq_il 46 4)), (46, .inl (zq_ic_ge 49 56)), (49, .inl (zq_il 51 5)), (51, .inl (zq_is 52 3)), (52, .inl (zq_il 54 6)), (54, .inl (zq_is 56 4)), (56, .inl (zq_inc 59 5 1)), (59, .inl (zq_goto 26)), (62, .inl (zq_il 63 3)), (63, .inr (.inr 1))]
theorem zk_X8_ask : zq_oks zi_X8_ask zc_X8_ask := zq_cons (zq_s_aload_n (n := 0) (by decide +kernel) rfl) <|
  zq_cons (zq_s_iload_n (n := 1) (by decide +kernel) rfl) <|
  zq_cons (List.forall_mem_cons.mpr ⟨⟨zi_X8_isPerson, rfl, zq_s_callV (n := 1) (index := 133) (by decide +kernel) rfl zw_485 zw_487 zw_4 zw_80 zw_488 (by decide +kernel) (by decide +kernel) ⟨rfl, rfl⟩⟩, fun _ h => absurd h List.not_mem_nil⟩) <|
  zq_cons (zq_s_if_ne (off := 6) (by decide +kernel) (by decide)) <|
  zq_cons (zq_s_bipush (n := (-2)) (by decide +kernel) (by decide +kernel)) <|
  zq_cons (⟨rfl, (by decide +kernel)⟩) <|
  zq_cons (zq_s_aload_n (n := 0) (by decide +kernel) rfl) <|
  zq_cons (zq_s_iload_n (n := 1) (by decide +kernel) rfl) <|
  zq_cons (List.forall_mem_cons.mpr ⟨⟨zi_X8_bedsThatFit, rfl, zq_s_callV (n := 1) (index := 250) (by decide +kernel) rfl zw_721 zw_723 zw_15 zw_80 zw_724 (by decide +kernel) (by decide +kernel) ⟨rfl, rfl⟩⟩, fun _ h => absurd h List.not_mem_nil⟩) <|
  zq_cons (zq_s_istore_n (n := 2) (by decide +kernel) rfl (by decide +kernel)) <|
  zq_cons (zq_s_iconst (n := 0) (by decide +kernel) (by decide +kernel)) <|
  zq_cons (zq_s_istore_n (n := 3) (by decide +kernel) rfl (by decide +kernel)) <|
  zq_cons (zq_s_bipush (n := 9) (by decide +kernel) (by decide +kernel)) <|
  zq_cons (zq_s_istore (by decide +kernel) (by decide +kernel)) <|
  zq_cons (zq_s_iconst (n := 0) (by decide +kernel) (by decide +kernel)) <|
  zq_cons (zq_s_istore (by decide +kernel) (by decide +kernel)) <|
  zq_cons (zq_s_iload (by decide +kernel)) <|
  zq_cons (zq_s_bipush (n := 24) (by decide +kernel) (by decide +kernel)) <|
  zq_cons (zq_s_ic_ge (off := 32) (by decide +kernel) (by decide)) <|
  zq_cons (zq_s_aload_n (n := 0) (by decide +kernel) rfl) <|
  zq_cons (zq_s_iload (by decide +kernel)) <|
  zq_cons (zq_s_iload_n (n := 2) (by decide +kernel) rfl) <|
  zq_cons (List.forall_mem_cons.mpr ⟨⟨zi_X8_mostBedsInOneRoom, rfl, zq_s_callV (n := 2) (index := 253) (by decide +kernel) rfl zw_729 zw_731 zw_16 zw_80 zw_732 (by decide +kernel) (by decide +kernel) ⟨rfl, rfl⟩⟩, fun _ h => absurd h List.not_mem_nil⟩) <|
  zq_cons (zq_s_istore (by decide +kernel) (by decide +kernel)) <|
  zq_cons (zq_s_iload (by decide +kernel)) <|
  zq_cons (zq_s_iload (by decide +kernel)) <|
  zq_cons (zq_s_ic_ge (off := 10) (by decide +kernel) (by decide)) <|
  zq_cons (zq_s_iload (by decide +kernel)) <|
  zq_cons (zq_s_istore_n (n := 3) (by decide +kernel) rfl (by decide +kernel)) <|
  zq_cons (zq_s_iload (by decide +kernel)) <|
  zq_cons (zq_s_istore (by decide +kernel) (by decide +kernel)) <|
  zq_cons (zq_s_iinc (n := 1) (by decide +kernel) (by decide +kernel) (by decide +kernel)) <|
  zq_cons (zq_s_goto (off := (-33)) (by decide +kernel) (by decide)) <|
  zq_cons (zq_s_iload_n (n := 3) (by decide +kernel) rfl) <|
  zq_cons (⟨rfl, (by decide +kernel)⟩) <|
  zq_nil
def zc_X8_chance_0 : List (Nat × zq_It) := [(0, .inl (zq_il 1 1)), (1, .inl (zq_push 2 (.int 0))), (2, .inl (zq_push 4 (.int 16))), (4, .inr (.inl (3, .inl zn_X8_within))), (7, .inl (zq_if_eq 10 29)), (10, .inl (zq_al 11 0)), (11, .inl (zq_il 12 2)), (12, .inr (.inl (2, .inr [(7, zn_X8_isPerson)]))), (15, .inl (zq_if_eq 18 29)), (18, .inl (zq_il 19 3)), (19, .inr (.inl (1, .inl zn_X8_isHour))), (22, .inl (zq_if_eq 25 29)), (25, .inl (zq_push 26 (.int 1))), (26, .inl (zq_goto 30)), (29, .inl (zq_push 30 (.int 0))), (30, .inl (zq_is 32 5)), (32, .inl (zq_il 34 5)), (34, .inl (zq_if_eq 37 47)), (37, .inl (zq_il 39 4)), (39, .inl (zq_push 40 (.int 0))), (40, .inl (zq_push 41 (.int 1))), (41, .inr (.inl (3, .inl zn_X8_within))), (44, .inl (zq_if_ne 47 51)), (47, .inl (zq_push 50 (.long (-9223372036854775806)))), (50, .inr (.inr 3)), (51, .inl (zq_al 52 0)), (52, .inl (zq_il 53 1)), (53, .inl (zq_il 54 3)), (54, .inr (.inl (3, .inr [(7, zn_X8_weighOdds)]))), (57, .inl (zq_al 58 0)), (58, .inl (zq_getf 61 [(7, 11)])), (61, .inl (zq_il 62 2)), (62, .inl (zq_lald 63)), (63, .inl (zq_lst 65 6)), (65, .inl (zq_push 66 (.int 4))), (66, .inl (zq_al 67 0)), (67, .inl (zq_getf 70 [(7, 2)])), (70, .inl (zq_getf 73 [(1, 3)])), (73, .inl (zq_i2 74 (fun x y => x * y))), (74, .inl (zq_is 76 8))]
theorem zk_X8_chance_0 : zq_oks zi_X8_chance zc_X8_chance_0 := zq_cons (zq_s_iload_n (n := 1) (by decide +kernel) rfl) <|
  zq_cons (zq_s_iconst (n := 0) (by decide +kernel) (by decide +kernel)) <|
  zq_cons (zq_s_bipush (n := 16) (by decide +kernel) (by decide +kernel)) <|
  zq_cons (⟨zi_X8_within, rfl, zq_s_callS (n := 3) (index := 98) (by decide +kernel) zw_383 zw_384 zw_80 zw_385 (by decide +kernel) (by decide +kernel) ⟨rfl, rfl⟩⟩) <|
  zq_cons (zq_s_if_eq (off := 22) (by decide +kernel) (by decide)) <|
  zq_cons (zq_s_aload_n (n := 0) (by decide +kernel) rfl) <|
  zq_cons (zq_s_iload_n (n := 2) (by decide +kernel) rfl) <|
  zq_cons (List.forall_mem_cons.mpr ⟨⟨zi_X8_isPerson, rfl, zq_s_callV (n := 1) (index := 133) (by decide +kernel) rfl zw_485 zw_487 zw_4 zw_80 zw_488 (by decide +kernel) (by decide +kernel) ⟨rfl, rfl⟩⟩, fun _ h => absurd h List.not_mem_nil⟩) <|
  zq_cons (zq_s_if_eq (off := 14) (by decide +kernel) (by decide)) <|
  zq_cons (zq_s_iload_n (n := 3) (by decide +kernel) rfl) <|
  zq_cons (⟨zi_X8_isHour, rfl, zq_s_callS (n := 1) (index := 174) (by decide +kernel) zw_500 zw_501 zw_80 zw_502 (by decide +kernel) (by decide +kernel) ⟨rfl, rfl⟩⟩) <|
  zq_cons (zq_s_if_eq (off := 7) (by decide +kernel) (by decide)) <|
  zq_cons (zq_s_iconst (n := 1) (by decide +kernel) (by decide +kernel)) <|
  zq_cons (zq_s_goto (off := 4) (by decide +kernel) (by decide)) <|
  zq_cons (zq_s_iconst (n := 0) (by decide +kernel) (by decide +kernel)) <|
  zq_cons (zq_s_istore (by decide +kernel) (by decide +kernel)) <|
  zq_cons (zq_s_iload (by decide +kernel)) <|
  zq_cons (zq_s_if_eq (off := 13) (by decide +kernel) (by decide)) <|
  zq_cons (zq_s_iload (by decide +kernel)) <|
  zq_cons (zq_s_iconst (n := 0) (by decide +kernel) (by decide +kernel)) <|
  zq_cons (zq_s_iconst (n := 1) (by decide +kernel) (by decide +kernel)) <|
  zq_cons (⟨zi_X8_within, rfl, zq_s_callS (n := 3) (index := 98) (by decide +kernel) zw_383 zw_384 zw_80 zw_385 (by decide +kernel) (by decide +kernel) ⟨rfl, rfl⟩⟩) <|
  zq_cons (zq_s_if_ne (off := 7) (by decide +kernel) (by decide)) <|
  zq_cons (zq_s_ldc2 (index := 258) (by decide +kernel) zw_739) <|
  zq_cons (⟨rfl, (by decide +kernel)⟩) <|
  zq_cons (zq_s_aload_n (n := 0) (by decide +kernel) rfl) <|
  zq_cons (zq_s_iload_n (n := 1) (by decide +kernel) rfl) <|
  zq_cons (zq_s_iload_n (n := 3) (by decide +kernel) rfl) <|
  zq_cons (List.forall_mem_cons.mpr ⟨⟨zi_X8_weighOdds, rfl, zq_s_callV (n := 2) (index := 260) (by decide +kernel) rfl zw_740 zw_742 zw_17 zw_80 zw_743 (by decide +kernel) (by decide +kernel) ⟨rfl, rfl⟩⟩, fun _ h => absurd h List.not_mem_nil⟩) <|
  zq_cons (zq_s_aload_n (n := 0) (by decide +kernel) rfl) <|
  zq_cons (zq_s_getf (index := 73) (by decide +kernel) zf_X8_73) <|
  zq_cons (zq_s_iload_n (n := 2) (by decide +kernel) rfl) <|
  zq_cons (zq_s_lald (by decide +kernel)) <|
  zq_cons (zq_s_lstore (by decide +kernel) (by decide +kernel)) <|
  zq_cons (zq_s_iconst (n := 4) (by decide +kernel) (by decide +kernel)) <|
  zq_cons (zq_s_aload_n (n := 0) (by decide +kernel) rfl) <|
  zq_cons (zq_s_getf (index := 26) (by decide +kernel) zf_X8_26) <|
  zq_cons (zq_s_getf (index := 152) (by decide +kernel) zf_X8_152) <|
  zq_cons (zq_s_imul (by decide +kernel)) <|
  zq_cons (zq_s_istore (by decide +kernel) (by decide +kernel)) <|
  zq_nil
def zc_X8_chance_1 : List (Nat × zq_It) := [(76, .inl (zq_push 77 (.int 4))), (77, .inl (zq_al 78 0)), (78, .inl (zq_getf 81 [(7, 2)])), (81, .inl (zq_getf 84 [(1, 3)])), (84, .inl (zq_i2 85 (fun x y => x * y))), (85, .inl (zq_is 87 9)), (87, .inl (zq_il 89 9)), (89, .inl (zq_if_le 92 116)), (92, .inl (zq_ll 94 6)), (94, .inl (zq_push 95 (.long 1))), (95, .inl (zq_l2 96 (fun x y => x &&& y))), (96, .inl (zq_push 97 (.long 0))), (97, .inl (zq_lcmp 98)), (98, .inl (zq_if_ne 101 116)), (101, .inl (zq_ll 103 6)), (103, .inl (zq_push 104 (.int 1))), (104, .inl (zq_lsf 105 (fun x y => x >>> (y.toInt64 &&& 63)))), (105, .inl (zq_lst 107 6)), (107, .inl (zq_inc 110 8 (-1))), (110, .inl (zq_inc 113 9 (-1))), (113, .inl (zq_goto 87)), (116, .inl (zq_il 118 4)), (118, .inl (zq_if_ne 121 126)), (121, .inl (zq_ll 123 6)), (123, .inl (zq_goto 130)), (126, .inl (zq_push 127 (.long 1))), (127, .inl (zq_il 129 8)), (129, .inl (zq_lsf 130 (fun x y => x <<< (y.toInt64 &&& 63)))), (130, .inr (.inr 3))]
theorem zk_X8_chance_1 : zq_oks zi_X8_chance zc_X8_chance_1 := zq_cons (zq_s_iconst (n := 4) (by decide +kernel) (by decide +kernel)) <|
  zq_cons (zq_s_aload_n (n := 0) (by decide +kernel) rfl) <|
  zq_cons (zq_s_getf (index := 26) (by decide +kernel) zf_X8_26) <|
  zq_cons (zq_s_getf (index := 152) (by decide +kernel) zf_X8_152) <|
  zq_cons (zq_s_imul (by decide +kernel)) <|
  zq_cons (zq_s_istore (by decide +kernel) (by decide +kernel)) <|
  zq_cons (zq_s_iload (by decide +kernel)) <|
  zq_cons (zq_s_if_le (off := 27) (by decide +kernel) (by decide)) <|
  zq_cons (zq_s_lload (by decide +kernel)) <|
  zq_cons (zq_s_lconst (n := 1) (by decide +kernel) (by decide +kernel)) <|
  zq_cons (zq_s_land (by decide +kernel)) <|
  zq_cons (zq_s_lconst (n := 0) (by decide +kernel) (by decide +kernel)) <|
  zq_cons (zq_s_lcmp (by decide +kernel)) <|
  zq_cons (zq_s_if_ne (off := 18) (by decide +kernel) (by decide)) <|
  zq_cons (zq_s_lload (by decide +kernel)) <|
  zq_cons (zq_s_iconst (n := 1) (by decide +kernel) (by decide +kernel)) <|
  zq_cons (zq_s_lshr (by decide +kernel)) <|
  zq_cons (zq_s_lstore (by decide +kernel) (by decide +kernel)) <|
  zq_cons (zq_s_iinc (n := (-1)) (by decide +kernel) (by decide +kernel) (by decide +kernel)) <|
  zq_cons (zq_s_iinc (n := (-1)) (by decide +kernel) (by decide +kernel) (by decide +kernel)) <|
  zq_cons (zq_s_goto (off := (-26)) (by decide +kernel) (by decide)) <|
  zq_cons (zq_s_iload (by decide +kernel)) <|
  zq_cons (zq_s_if_ne (off := 8) (by decide +kernel) (by decide)) <|
  zq_cons (zq_s_lload (by decide +kernel)) <|
  zq_cons (zq_s_goto (off := 7) (by decide +kernel) (by decide)) <|
  zq_cons (zq_s_lconst (n := 1) (by decide +kernel) (by decide +kernel)) <|
  zq_cons (zq_s_iload (by decide +kernel)) <|
  zq_cons (zq_s_lshl (by decide +kernel)) <|
  zq_cons (⟨rfl, (by decide +kernel)⟩) <|
  zq_nil
def zc_X8_chance : List (Nat × zq_It) := zc_X8_chance_0 ++ (zc_X8_chance_1)
theorem zk_X8_chance : zq_oks zi_X8_chance zc_X8_chance := zq_app zk_X8_chance_0 (zk_X8_chance_1)
def zc_X8_weeks_0 : List (Nat × zq_It) := [(0, .inl (zq_il 1 2)), (1, .inl (zq_push 2 (.int 0))), (2, .inl (zq_push 4 (.int 8))), (4, .inr (.inl (3, .inl zn_X8_within))), (7, .inl (zq_if_eq 10 19)), (10, .inl (zq_il 11 3)), (11, .inl (zq_push 12 (.int 0))), (12, .inl (zq_push 13 (.int 1))), (13, .inr (.inl (3, .inl zn_X8_within))), (16, .inl (zq_if_ne 19 22)), (19, .inl (zq_push 21 (.int (-2)))), (21, .inr (.inr 1)), (22, .inl (zq_al 23 0)), (23, .inl (zq_getf 26 [(7, 4)])), (26, .inl (zq_il 27 1)), (27, .inl (zq_puti 30 false [(2, 0)])), (30, .inl (zq_al 31 0)), (31, .inl (zq_getf 34 [(7, 3)])), (34, .inl (zq_push 35 (.int 0))), (35, .inl (zq_puti 38 false [(1, 3)])), (38, .inl (zq_push 39 (.int 0))), (39, .inl (zq_is 41 4)), (41, .inl (zq_il 43 4)), (43, .inl (zq_il 44 2)), (44, .inl (zq_ic_ge 47 94)), (47, .inl (zq_al 48 0)), (48, .inl (zq_getf 51 [(7, 4)])), (51, .inl (zq_push 52 (.int 2))), (52, .inr (.inl (2, .inr [(2, zn_X2_draw)]))), (55, .inl (zq_is 57 5)), (57, .inl (zq_al 58 0)), (58, .inl (zq_getf 61 [(7, 4)])), (61, .inl (zq_push 63 (.int 24))), (63, .inr (.inl (2, .inr [(2, zn_X2_draw)]))), (66, .inl (zq_is 68 6)), (68, .inl (zq_al 69 0)), (69, .inl (zq_getf 72 [(7, 3)])), (72, .inl (zq_il 74 5)), (74, .inl (zq_il 76 6)), (76, .inl (zq_al 77 0))]
theorem zk_X8_weeks_0 : zq_oks zi_X8_weeks zc_X8_weeks_0 := zq_cons (zq_s_iload_n (n := 2) (by decide +kernel) rfl) <|
  zq_cons (zq_s_iconst (n := 0) (by decide +kernel) (by decide +kernel)) <|
  zq_cons (zq_s_bipush (n := 8) (by decide +kernel) (by decide +kernel)) <|
  zq_cons (⟨zi_X8_within, rfl, zq_s_callS (n := 3) (index := 98) (by decide +kernel) zw_383 zw_384 zw_80 zw_385 (by decide +kernel) (by decide +kernel) ⟨rfl, rfl⟩⟩) <|
  zq_cons (zq_s_if_eq (off := 12) (by decide +kernel) (by decide)) <|
  zq_cons (zq_s_iload_n (n := 3) (by decide +kernel) rfl) <|
  zq_cons (zq_s_iconst (n := 0) (by decide +kernel) (by decide +kernel)) <|
  zq_cons (zq_s_iconst (n := 1) (by decide +kernel) (by decide +kernel)) <|
  zq_cons (⟨zi_X8_within, rfl, zq_s_callS (n := 3) (index := 98) (by decide +kernel) zw_383 zw_384 zw_80 zw_385 (by decide +kernel) (by decide +kernel) ⟨rfl, rfl⟩⟩) <|
  zq_cons (zq_s_if_ne (off := 6) (by decide +kernel) (by decide)) <|
  zq_cons (zq_s_bipush (n := (-2)) (by decide +kernel) (by decide +kernel)) <|
  zq_cons (⟨rfl, (by decide +kernel)⟩) <|
  zq_cons (zq_s_aload_n (n := 0) (by decide +kernel) rfl) <|
  zq_cons (zq_s_getf (index := 36) (by decide +kernel) zf_X8_36) <|
  zq_cons (zq_s_iload_n (n := 1) (by decide +kernel) rfl) <|
  zq_cons (zq_s_puti (index := 264) (by decide +kernel) zp_X8_264 (fun _ _ => ⟨rfl, rfl⟩)) <|
  zq_cons (zq_s_aload_n (n := 0) (by decide +kernel) rfl) <|
  zq_cons (zq_s_getf (index := 30) (by decide +kernel) zf_X8_30) <|
  zq_cons (zq_s_iconst (n := 0) (by decide +kernel) (by decide +kernel)) <|
  zq_cons (zq_s_puti (index := 152) (by decide +kernel) zp_X8_152 (fun _ _ => ⟨rfl, rfl⟩)) <|
  zq_cons (zq_s_iconst (n := 0) (by decide +kernel) (by decide +kernel)) <|
  zq_cons (zq_s_istore (by decide +kernel) (by decide +kernel)) <|
  zq_cons (zq_s_iload (by decide +kernel)) <|
  zq_cons (zq_s_iload_n (n := 2) (by decide +kernel) rfl) <|
  zq_cons (zq_s_ic_ge (off := 50) (by decide +kernel) (by decide)) <|
  zq_cons (zq_s_aload_n (n := 0) (by decide +kernel) rfl) <|
  zq_cons (zq_s_getf (index := 36) (by decide +kernel) zf_X8_36) <|
  zq_cons (zq_s_iconst (n := 2) (by decide +kernel) (by decide +kernel)) <|
  zq_cons (List.forall_mem_cons.mpr ⟨⟨zi_X2_draw, rfl, zq_s_callV (n := 1) (index := 267) (by decide +kernel) rfl zw_759 zw_760 zw_761 zw_86 zw_762 (by decide +kernel) (by decide +kernel) ⟨rfl, rfl⟩⟩, fun _ h => absurd h List.not_mem_nil⟩) <|
  zq_cons (zq_s_istore (by decide +kernel) (by decide +kernel)) <|
  zq_cons (zq_s_aload_n (n := 0) (by decide +kernel) rfl) <|
  zq_cons (zq_s_getf (index := 36) (by decide +kernel) zf_X8_36) <|
  zq_cons (zq_s_bipush (n := 24) (by decide +kernel) (by decide +kernel)) <|
  zq_cons (List.forall_mem_cons.mpr ⟨⟨zi_X2_draw, rfl, zq_s_callV (n := 1) (index := 267) (by decide +kernel) rfl zw_759 zw_760 zw_761 zw_86 zw_762 (by decide +kernel) (by decide +kernel) ⟨rfl, rfl⟩⟩, fun _ h => absurd h List.not_mem_nil⟩) <|
  zq_cons (zq_s_istore (by decide +kernel) (by decide +kernel)) <|
  zq_cons (zq_s_aload_n (n := 0) (by decide +kernel) rfl) <|
  zq_cons (zq_s_getf (index := 30) (by decide +kernel) zf_X8_30) <|
  zq_cons (zq_s_iload (by decide +kernel)) <|
  zq_cons (zq_s_iload (by decide +kernel)) <|
  zq_cons (zq_s_aload_n (n := 0) (by decide +kernel) rfl) <|
  zq_nil
def zc_X8_weeks_1 : List (Nat × zq_It) := [(77, .inl (zq_getf 80 [(7, 4)])), (80, .inl (zq_push 82 (.int 8))), (82, .inr (.inl (2, .inr [(2, zn_X2_draw)]))), (85, .inr (.inl (4, .inr [(1, zn_X1_add)]))), (88, .inl (zq_inc 91 4 1)), (91, .inl (zq_goto 41)), (94, .inl (zq_al 95 0)), (95, .inl (zq_getf 98 [(7, 8)])), (98, .inl (zq_al 99 0)), (99, .inl (zq_getf 102 [(7, 3)])), (102, .inl (zq_push 103 (.int 0))), (103, .inl (zq_al 104 0)), (104, .inl (zq_getf 107 [(7, 12)])), (107, .inr (.inl (4, .inr [(6, zn_X7_runWith)]))), (110, .inl (zq_il 111 3)), (111, .inl (zq_if_ne 114 126)), (114, .inl (zq_al 115 0)), (115, .inl (zq_getf 118 [(7, 8)])), (118, .inl (zq_push 120 (.int 23))), (120, .inr (.inl (2, .inr [(6, zn_X7_aloneBehind)]))), (123, .inl (zq_goto 134)), (126, .inl (zq_al 127 0)), (127, .inl (zq_getf 130 [(7, 8)])), (130, .inl (zq_push 131 (.int 0))), (131, .inr (.inl (2, .inr [(6, zn_X7_emptyHours)]))), (134, .inr (.inl (1, .inl zn_J6_bitCount_0f7a4))), (137, .inr (.inr 1))]
theorem zk_X8_weeks_1 : zq_oks zi_X8_weeks zc_X8_weeks_1 := zq_cons (zq_s_getf (index := 36) (by decide +kernel) zf_X8_36) <|
  zq_cons (zq_s_bipush (n := 8) (by decide +kernel) (by decide +kernel)) <|
  zq_cons (List.forall_mem_cons.mpr ⟨⟨zi_X2_draw, rfl, zq_s_callV (n := 1) (index := 267) (by decide +kernel) rfl zw_759 zw_760 zw_761 zw_86 zw_762 (by decide +kernel) (by decide +kernel) ⟨rfl, rfl⟩⟩, fun _ h => absurd h List.not_mem_nil⟩) <|
  zq_cons (List.forall_mem_cons.mpr ⟨⟨zi_X1_add, rfl, zq_s_callV (n := 3) (index := 153) (by decide +kernel) rfl zw_503 zw_504 zw_505 zw_85 zw_506 (by decide +kernel) (by decide +kernel) ⟨rfl, rfl⟩⟩, fun _ h => absurd h List.not_mem_nil⟩) <|
  zq_cons (zq_s_iinc (n := 1) (by decide +kernel) (by decide +kernel) (by decide +kernel)) <|
  zq_cons (zq_s_goto (off := (-50)) (by decide +kernel) (by decide)) <|
  zq_cons (zq_s_aload_n (n := 0) (by decide +kernel) rfl) <|
  zq_cons (zq_s_getf (index := 63) (by decide +kernel) zf_X8_63) <|
  zq_cons (zq_s_aload_n (n := 0) (by decide +kernel) rfl) <|
  zq_cons (zq_s_getf (index := 30) (by decide +kernel) zf_X8_30) <|
  zq_cons (zq_s_iconst (n := 0) (by decide +kernel) (by decide +kernel)) <|
  zq_cons (zq_s_aload_n (n := 0) (by decide +kernel) rfl) <|
  zq_cons (zq_s_getf (index := 77) (by decide +kernel) zf_X8_77) <|
  zq_cons (List.forall_mem_cons.mpr ⟨⟨zi_X7_runWith, rfl, zq_s_callV (n := 3) (index := 219) (by decide +kernel) rfl zw_535 zw_536 zw_537 zw_89 zw_538 (by decide +kernel) (by decide +kernel) ⟨rfl, rfl⟩⟩, fun _ h => absurd h List.not_mem_nil⟩) <|
  zq_cons (zq_s_iload_n (n := 3) (by decide +kernel) rfl) <|
  zq_cons (zq_s_if_ne (off := 15) (by decide +kernel) (by decide)) <|
  zq_cons (zq_s_aload_n (n := 0) (by decide +kernel) rfl) <|
  zq_cons (zq_s_getf (index := 63) (by decide +kernel) zf_X8_63) <|
  zq_cons (zq_s_bipush (n := 23) (by decide +kernel) (by decide +kernel)) <|
  zq_cons (List.forall_mem_cons.mpr ⟨⟨zi_X7_aloneBehind, rfl, zq_s_callV (n := 1) (index := 213) (by decide +kernel) rfl zw_646 zw_647 zw_648 zw_89 zw_649 (by decide +kernel) (by decide +kernel) ⟨rfl, rfl⟩⟩, fun _ h => absurd h List.not_mem_nil⟩) <|
  zq_cons (zq_s_goto (off := 11) (by decide +kernel) (by decide)) <|
  zq_cons (zq_s_aload_n (n := 0) (by decide +kernel) rfl) <|
  zq_cons (zq_s_getf (index := 63) (by decide +kernel) zf_X8_63) <|
  zq_cons (zq_s_iconst (n := 0) (by decide +kernel) (by decide +kernel)) <|
  zq_cons (List.forall_mem_cons.mpr ⟨⟨zi_X7_emptyHours, rfl, zq_s_callV (n := 1) (index := 194) (by decide +kernel) rfl zw_600 zw_601 zw_602 zw_89 zw_603 (by decide +kernel) (by decide +kernel) ⟨rfl, rfl⟩⟩, fun _ h => absurd h List.not_mem_nil⟩) <|
  zq_cons (⟨zi_J6_bitCount_0f7a4, rfl, zq_s_callS (n := 1) (index := 233) (by decide +kernel) zw_688 zw_632 zw_92 zw_633 (by decide +kernel) (by decide +kernel) ⟨rfl, rfl⟩⟩) <|
  zq_cons (⟨rfl, (by decide +kernel)⟩) <|
  zq_nil
def zc_X8_weeks : List (Nat × zq_It) := zc_X8_weeks_0 ++ (zc_X8_weeks_1)
theorem zk_X8_weeks : zq_oks zi_X8_weeks zc_X8_weeks := zq_app zk_X8_weeks_0 (zk_X8_weeks_1)
def zc_X8_sheet : List (Nat × zq_It) := [(0, .inl (zq_il 1 1)), (1, .inr (.inl (1, .inl zn_X8_isSheet))), (4, .inl (zq_if_eq 7 20)), (7, .inl (zq_il 8 2)), (8, .inr (.inl (1, .inl zn_X8_isForm))), (11, .inl (zq_if_eq 14 20)), (14, .inl (zq_il 15 3)), (15, .inl (zq_push 17 (.int 60))), (17, .inl (zq_ic_le 20 23)), (20, .inl (zq_push 22 (.int (-2)))), (22, .inr (.inr 1)), (23, .inl (zq_il 24 3)), (24, .inl (zq_if_ge 27 33)), (27, .inl (zq_al 28 0)), (28, .inl (zq_push 29 (.int 5))), (29, .inr (.inl (2, .inr [(7, zn_X8_refuse)]))), (32, .inr (.inr 1)), (33, .inl (zq_al 34 0)), (34, .inl (zq_getf 37 [(7, 6)])), (37, .inl (zq_il 38 1)), (38, .inl (zq_aald 39)), (39, .inl (zq_il 40 2)), (40, .inl (zq_il 41 3)), (41, .inr (.inl (3, .inr [(4, zn_X4_become)]))), (44, .inl (zq_il 45 3)), (45, .inr (.inr 1))]
theorem zk_X8_sheet : zq_oks zi_X8_sheet zc_X8_sheet := zq_cons (zq_s_iload_n (n := 1) (by decide +kernel) rfl) <|
  zq_cons (⟨zi_X8_isSheet, rfl, zq_s_callS (n := 1) (index := 156) (by decide +kernel) zw_515 zw_516 zw_80 zw_517 (by decide +kernel) (by decide +kernel) ⟨rfl, rfl⟩⟩) <|
  zq_cons (zq_s_if_eq (off := 16) (by decide +kernel) (by decide)) <|
  zq_cons (zq_s_iload_n (n := 2) (by decide +kernel) rfl) <|
  zq_cons (⟨zi_X8_isForm, rfl, zq_s_callS (n := 1) (index := 270) (by decide +kernel) zw_768 zw_769 zw_80 zw_770 (by decide +kernel) (by decide +kernel) ⟨rfl, rfl⟩⟩) <|
  zq_cons (zq_s_if_eq (off := 9) (by decide +kernel) (by decide)) <|
  zq_cons (zq_s_iload_n (n := 3) (by decide +kernel) rfl) <|
  zq_cons (zq_s_bipush (n := 60) (by decide +kernel) (by decide +kernel)) <|
  zq_cons (zq_s_ic_le (off := 6) (by decide +kernel) (by decide)) <|
  zq_cons (zq_s_bipush (n := (-2)) (by decide +kernel) (by decide +kernel)) <|
  zq_cons (⟨rfl, (by decide +kernel)⟩) <|
  zq_cons (zq_s_iload_n (n := 3) (by decide +kernel) rfl) <|
  zq_cons (zq_s_if_ge (off := 9) (by decide +kernel) (by decide)) <|
  zq_cons (zq_s_aload_n (n := 0) (by decide +kernel) rfl) <|
  zq_cons (zq_s_iconst (n := 5) (by decide +kernel) (by decide +kernel)) <|
  zq_cons (List.forall_mem_cons.mpr ⟨⟨zi_X8_refuse, rfl, zq_s_callV (n := 1) (index := 162) (by decide +kernel) rfl zw_522 zw_524 zw_5 zw_80 zw_525 (by decide +kernel) (by decide +kernel) ⟨rfl, rfl⟩⟩, fun _ h => absurd h List.not_mem_nil⟩) <|
  zq_cons (⟨rfl, (by decide +kernel)⟩) <|
  zq_cons (zq_s_aload_n (n := 0) (by decide +kernel) rfl) <|
  zq_cons (zq_s_getf (index := 49) (by decide +kernel) zf_X8_49) <|
  zq_cons (zq_s_iload_n (n := 1) (by decide +kernel) rfl) <|
  zq_cons (zq_s_aald (by decide +kernel)) <|
  zq_cons (zq_s_iload_n (n := 2) (by decide +kernel) rfl) <|
  zq_cons (zq_s_iload_n (n := 3) (by decide +kernel) rfl) <|
  zq_cons (List.forall_mem_cons.mpr ⟨⟨zi_X4_become, rfl, zq_s_callV (n := 2) (index := 273) (by decide +kernel) rfl zw_771 zw_772 zw_773 zw_88 zw_774 (by decide +kernel) (by decide +kernel) ⟨rfl, rfl⟩⟩, fun _ h => absurd h List.not_mem_nil⟩) <|
  zq_cons (zq_s_iload_n (n := 3) (by decide +kernel) rfl) <|
  zq_cons (⟨rfl, (by decide +kernel)⟩) <|
  zq_nil
def zc_X8_lose : List (Nat × zq_It) := [(0, .inl (zq_il 1 1)), (1, .inr (.inl (1, .inl zn_X8_isSheet))), (4, .inl (zq_if_ne 7 10)), (7, .inl (zq_push 9 (.int (-2)))), (9, .inr (.inr 1)), (10, .inl (zq_al 11 0)), (11, .inl (zq_getf 14 [(7, 6)])), (14, .inl (zq_il 15 1)), (15, .inl (zq_aald 16)), (16, .inl (zq_as 17 2)), (17, .inl (zq_al 18 2)), (18, .inr (.inl (1, .inr [(4, zn_X4_isLost)]))), (21, .inl (zq_if_eq 24 30)), (24, .inl (zq_al 25 0)), (25, .inl (zq_push 26 (.int 1))), (26, .inr (.inl (2, .inr [(7, zn_X8_refuse)]))), (29, .inr (.inr 1)), (30, .inl (zq_al 31 2)), (31, .inl (zq_getf 34 [(4, 2)])), (34, .inl (zq_is 35 3)), (35, .inl (zq_al 36 2)), (36, .inl (zq_push 37 (.int (-1)))), (37, .inl (zq_puti 40 false [(4, 2)])), (40, .inl (zq_il 41 3)), (41, .inr (.inr 1))]
theorem zk_X8_lose : zq_oks zi_X8_lose zc_X8_lose := zq_cons (zq_s_iload_n (n := 1) (by decide +kernel) rfl) <|
  zq_cons (⟨zi_X8_isSheet, rfl, zq_s_callS (n := 1) (index := 156) (by decide +kernel) zw_515 zw_516 zw_80 zw_517 (by decide +kernel) (by decide +kernel) ⟨rfl, rfl⟩⟩) <|
  zq_cons (zq_s_if_ne (off := 6) (by decide +kernel) (by decide)) <|
  zq_cons (zq_s_bipush (n := (-2)) (by decide +kernel) (by decide +kernel)) <|
  zq_cons (⟨rfl, (by decide +kernel)⟩) <|
  zq_cons (zq_s_aload_n (n := 0) (by decide +kernel) rfl) <|
  zq_cons (zq_s_getf (index := 49) (by decide +kernel) zf_X8_49) <|
  zq_cons (zq_s_iload_n (n := 1) (by decide +kernel) rfl) <|
  zq_cons (zq_s_aald (by decide +kernel)) <|
  zq_cons (zq_s_astore_n (n := 2) (by decide +kernel) rfl (by decide +kernel)) <|
  zq_cons (zq_s_aload_n (n := 2) (by decide +kernel) rfl) <|
  zq_cons (List.forall_mem_cons.mpr ⟨⟨zi_X4_isLost, rfl, zq_s_callV (n := 0) (index := 159) (by decide +kernel) rfl zw_518 zw_519 zw_520 zw_88 zw_521 (by decide +kernel) (by decide +kernel) ⟨rfl, rfl⟩⟩, fun _ h => absurd h List.not_mem_nil⟩) <|
  zq_cons (zq_s_if_eq (off := 9) (by decide +kernel) (by decide)) <|
  zq_cons (zq_s_aload_n (n := 0) (by decide +kernel) rfl) <|
  zq_cons (zq_s_iconst (n := 1) (by decide +kernel) (by decide +kernel)) <|
  zq_cons (List.forall_mem_cons.mpr ⟨⟨zi_X8_refuse, rfl, zq_s_callV (n := 1) (index := 162) (by decide +kernel) rfl zw_522 zw_524 zw_5 zw_80 zw_525 (by decide +kernel) (by decide +kernel) ⟨rfl, rfl⟩⟩, fun _ h => absurd h List.not_mem_nil⟩) <|
  zq_cons (⟨rfl, (by decide +kernel)⟩) <|
  zq_cons (zq_s_aload_n (n := 2) (by decide +kernel) rfl) <|
  zq_cons (zq_s_getf (index := 166) (by decide +kernel) zf_X8_166) <|
  zq_cons (zq_s_istore_n (n := 3) (by decide +kernel) rfl (by decide +kernel)) <|
  zq_cons (zq_s_aload_n (n := 2) (by decide +kernel) rfl) <|
  zq_cons (zq_s_iconst (n := (-1)) (by decide +kernel) (by decide +kernel)) <|
  zq_cons (zq_s_puti (index := 166) (by decide +kernel) zp_X8_166 (fun _ _ => ⟨rfl, rfl⟩)) <|
  zq_cons (zq_s_iload_n (n := 3) (by decide +kernel) rfl) <|
  zq_cons (⟨rfl, (by decide +kernel)⟩) <|
  zq_nil
def zc_X8_put : List (Nat × zq_It) := [(0, .inl (zq_al 1 0)), (1, .inl (zq_il 2 1)), (2, .inl (zq_il 3 2)), (3, .inl (zq_il 4 3)), (4, .inr (.inl (4, .inr [(7, zn_X8_refusalOfItem)]))), (7, .inl (zq_is 9 5)), (9, .inl (zq_il 11 5)), (11, .inl (zq_if_ge 14 17)), (14, .inl (zq_il 16 5)), (16, .inr (.inr 1)), (17, .inl (zq_al 18 0)), (18, .inl (zq_getf 21 [(7, 6)])), (21, .inl (zq_il 22 1)), (22, .inl (zq_aald 23)), (23, .inl (zq_il 24 3)), (24, .inl (zq_il 26 4)), (26, .inr (.inl (3, .inr [(4, zn_X4_lay)]))), (29, .inl (zq_push 30 (.int 1))), (30, .inr (.inr 1))]
theorem zk_X8_put : zq_oks zi_X8_put zc_X8_put := zq_cons (zq_s_aload_n (n := 0) (by decide +kernel) rfl) <|
  zq_cons (zq_s_iload_n (n := 1) (by decide +kernel) rfl) <|
  zq_cons (zq_s_iload_n (n := 2) (by decide +kernel) rfl) <|
  zq_cons (zq_s_iload_n (n := 3) (by decide +kernel) rfl) <|
  zq_cons (List.forall_mem_cons.mpr ⟨⟨zi_X8_refusalOfItem, rfl, zq_s_callV (n := 3) (index := 275) (by decide +kernel) rfl zw_784 zw_786 zw_20 zw_80 zw_787 (by decide +kernel) (by decide +kernel) ⟨rfl, rfl⟩⟩, fun _ h => absurd h List.not_mem_nil⟩) <|
  zq_cons (zq_s_istore (by decide +kernel) (by decide +kernel)) <|
  zq_cons (zq_s_iload (by decide +kernel)) <|
  zq_cons (zq_s_if_ge (off := 6) (by decide +kernel) (by decide)) <|
  zq_cons (zq_s_iload (by decide +kernel)) <|
  zq_cons (⟨rfl, (by decide +kernel)⟩) <|
  zq_cons (zq_s_aload_n (n := 0) (by decide +kernel) rfl) <|
  zq_cons (zq_s_getf (index := 49) (by decide +kernel) zf_X8_49) <|
  zq_cons (zq_s_iload_n (n := 1) (by decide +kernel) rfl) <|
  zq_cons (zq_s_aald (by decide +kernel)) <|
  zq_cons (zq_s_iload_n (n := 3) (by decide +kernel) rfl) <|
  zq_cons (zq_s_iload (by decide +kernel)) <|
  zq_cons (List.forall_mem_cons.mpr ⟨⟨zi_X4_lay, rfl, zq_s_callV (n := 2) (index := 278) (by decide +kernel) rfl zw_792 zw_793 zw_794 zw_88 zw_795 (by decide +kernel) (by decide +kernel) ⟨rfl, rfl⟩⟩, fun _ h => absurd h List.not_mem_nil⟩) <|
  zq_cons (zq_s_iconst (n := 1) (by decide +kernel) (by decide +kernel)) <|
  zq_cons (⟨rfl, (by decide +kernel)⟩) <|
  zq_nil
def zc_X8_get : List (Nat × zq_It) := [(0, .inl (zq_al 1 0)), (1, .inl (zq_il 2 1)), (2, .inl (zq_il 3 2)), (3, .inl (zq_il 4 3)), (4, .inr (.inl (4, .inr [(7, zn_X8_refusalOfItem)]))), (7, .inl (zq_if_ge 10 16)), (10, .inl (zq_push 13 (.int (-2147483648)))), (13, .inl (zq_goto 27)), (16, .inl (zq_al 17 0)), (17, .inl (zq_getf 20 [(7, 6)])), (20, .inl (zq_il 21 1)), (21, .inl (zq_aald 22)), (22, .inl (zq_getf 25 [(4, 0)])), (25, .inl (zq_il 26 3)), (26, .inl (zq_iald 27)), (27, .inr (.inr 1))]
theorem zk_X8_get : zq_oks zi_X8_get zc_X8_get := zq_cons (zq_s_aload_n (n := 0) (by decide +kernel) rfl) <|
  zq_cons (zq_s_iload_n (n := 1) (by decide +kernel) rfl) <|
  zq_cons (zq_s_iload_n (n := 2) (by decide +kernel) rfl) <|
  zq_cons (zq_s_iload_n (n := 3) (by decide +kernel) rfl) <|
  zq_cons (List.forall_mem_cons.mpr ⟨⟨zi_X8_refusalOfItem, rfl, zq_s_callV (n := 3) (index := 275) (by decide +kernel) rfl zw_784 zw_786 zw_20 zw_80 zw_787 (by decide +kernel) (by decide +kernel) ⟨rfl, rfl⟩⟩, fun _ h => absurd h List.not_mem_nil⟩) <|
  zq_cons (zq_s_if_ge (off := 9) (by decide +kernel) (by decide)) <|
  zq_cons (zq_s_ldcw (index := 281) (by decide +kernel) zw_800) <|
  zq_cons (zq_s_goto (off := 14) (by decide +kernel) (by decide)) <|
  zq_cons (zq_s_aload_n (n := 0) (by decide +kernel) rfl) <|
  zq_cons (zq_s_getf (index := 49) (by decide +kernel) zf_X8_49) <|
  zq_cons (zq_s_iload_n (n := 1) (by decide +kernel) rfl) <|
  zq_cons (zq_s_aald (by decide +kernel)) <|
  zq_cons (zq_s_getf (index := 167) (by decide +kernel) zf_X8_167) <|
  zq_cons (zq_s_iload_n (n := 3) (by decide +kernel) rfl) <|
  zq_cons (zq_s_iald (by decide +kernel)) <|
  zq_cons (⟨rfl, (by decide +kernel)⟩) <|
  zq_nil
def zc_X8_copy_0 : List (Nat × zq_It) := [(0, .inl (zq_il 1 1)), (1, .inr (.inl (1, .inl zn_X8_isSheet))), (4, .inl (zq_if_eq 7 14)), (7, .inl (zq_il 8 3)), (8, .inr (.inl (1, .inl zn_X8_isSheet))), (11, .inl (zq_if_ne 14 17)), (14, .inl (zq_push 16 (.int (-2)))), (16, .inr (.inr 1)), (17, .inl (zq_al 18 0)), (18, .inl (zq_getf 21 [(7, 6)])), (21, .inl (zq_il 22 1)), (22, .inl (zq_aald 23)), (23, .inl (zq_as 25 6)), (25, .inl (zq_al 26 0)), (26, .inl (zq_getf 29 [(7, 6)])), (29, .inl (zq_il 30 3)), (30, .inl (zq_aald 31)), (31, .inl (zq_as 33 7)), (33, .inl (zq_al 35 6)), (35, .inr (.inl (1, .inr [(4, zn_X4_isLost)]))), (38, .inl (zq_if_ne 41 49)), (41, .inl (zq_al 43 7)), (43, .inr (.inl (1, .inr [(4, zn_X4_isLost)]))), (46, .inl (zq_if_eq 49 55)), (49, .inl (zq_al 50 0)), (50, .inl (zq_push 51 (.int 1))), (51, .inr (.inl (2, .inr [(7, zn_X8_refuse)]))), (54, .inr (.inr 1)), (55, .inl (zq_al 57 6)), (57, .inl (zq_getf 60 [(4, 1)])), (60, .inl (zq_al 62 7)), (62, .inl (zq_getf 65 [(4, 1)])), (65, .inl (zq_ic_eq 68 74)), (68, .inl (zq_al 69 0)), (69, .inl (zq_push 70 (.int 4))), (70, .inr (.inl (2, .inr [(7, zn_X8_refuse)]))), (73, .inr (.inr 1)), (74, .inl (zq_al 76 6)), (76, .inl (zq_il 77 2)), (77, .inl (zq_il 79 5))]
theorem zk_X8_copy_0 : zq_oks zi_X8_copy zc_X8_copy_0 := zq_cons (zq_s_iload_n (n := 1) (by decide +kernel) rfl) <|
  zq_cons (⟨zi_X8_isSheet, rfl, zq_s_callS (n := 1) (index := 156) (by decide +kernel) zw_515 zw_516 zw_80 zw_517 (by decide +kernel) (by decide +kernel) ⟨rfl, rfl⟩⟩) <|
  zq_cons (zq_s_if_eq (off := 10) (by decide +kernel) (by decide)) <|
  zq_cons (zq_s_iload_n (n := 3) (by decide +kernel) rfl) <|
  zq_cons (⟨zi_X8_isSheet, rfl, zq_s_callS (n := 1) (index := 156) (by decide +kernel) zw_515 zw_516 zw_80 zw_517 (by decide +kernel) (by decide +kernel) ⟨rfl, rfl⟩⟩) <|
  zq_cons (zq_s_if_ne (off := 6) (by decide +kernel) (by decide)) <|
  zq_cons (zq_s_bipush (n := (-2)) (by decide +kernel) (by decide +kernel)) <|
  zq_cons (⟨rfl, (by decide +kernel)⟩) <|
  zq_cons (zq_s_aload_n (n := 0) (by decide +kernel) rfl) <|
  zq_cons (zq_s_getf (index := 49) (by decide +kernel) zf_X8_49) <|
  zq_cons (zq_s_iload_n (n := 1) (by decide +kernel) rfl) <|
  zq_cons (zq_s_aald (by decide +kernel)) <|
  zq_cons (zq_s_astore (by decide +kernel) (by decide +kernel)) <|
  zq_cons (zq_s_aload_n (n := 0) (by decide +kernel) rfl) <|
  zq_cons (zq_s_getf (index := 49) (by decide +kernel) zf_X8_49) <|
  zq_cons (zq_s_iload_n (n := 3) (by decide +kernel) rfl) <|
  zq_cons (zq_s_aald (by decide +kernel)) <|
  zq_cons (zq_s_astore (by decide +kernel) (by decide +kernel)) <|
  zq_cons (zq_s_aload (by decide +kernel)) <|
  zq_cons (List.forall_mem_cons.mpr ⟨⟨zi_X4_isLost, rfl, zq_s_callV (n := 0) (index := 159) (by decide +kernel) rfl zw_518 zw_519 zw_520 zw_88 zw_521 (by decide +kernel) (by decide +kernel) ⟨rfl, rfl⟩⟩, fun _ h => absurd h List.not_mem_nil⟩) <|
  zq_cons (zq_s_if_ne (off := 11) (by decide +kernel) (by decide)) <|
  zq_cons (zq_s_aload (by decide +kernel)) <|
  zq_cons (List.forall_mem_cons.mpr ⟨⟨zi_X4_isLost, rfl, zq_s_callV (n := 0) (index := 159) (by decide +kernel) rfl zw_518 zw_519 zw_520 zw_88 zw_521 (by decide +kernel) (by decide +kernel) ⟨rfl, rfl⟩⟩, fun _ h => absurd h List.not_mem_nil⟩) <|
  zq_cons (zq_s_if_eq (off := 9) (by decide +kernel) (by decide)) <|
  zq_cons (zq_s_aload_n (n := 0) (by decide +kernel) rfl) <|
  zq_cons (zq_s_iconst (n := 1) (by decide +kernel) (by decide +kernel)) <|
  zq_cons (List.forall_mem_cons.mpr ⟨⟨zi_X8_refuse, rfl, zq_s_callV (n := 1) (index := 162) (by decide +kernel) rfl zw_522 zw_524 zw_5 zw_80 zw_525 (by decide +kernel) (by decide +kernel) ⟨rfl, rfl⟩⟩, fun _ h => absurd h List.not_mem_nil⟩) <|
  zq_cons (⟨rfl, (by decide +kernel)⟩) <|
  zq_cons (zq_s_aload (by decide +kernel)) <|
  zq_cons (zq_s_getf (index := 282) (by decide +kernel) zf_X8_282) <|
  zq_cons (zq_s_aload (by decide +kernel)) <|
  zq_cons (zq_s_getf (index := 282) (by decide +kernel) zf_X8_282) <|
  zq_cons (zq_s_ic_eq (off := 9) (by decide +kernel) (by decide)) <|
  zq_cons (zq_s_aload_n (n := 0) (by decide +kernel) rfl) <|
  zq_cons (zq_s_iconst (n := 4) (by decide +kernel) (by decide +kernel)) <|
  zq_cons (List.forall_mem_cons.mpr ⟨⟨zi_X8_refuse, rfl, zq_s_callV (n := 1) (index := 162) (by decide +kernel) rfl zw_522 zw_524 zw_5 zw_80 zw_525 (by decide +kernel) (by decide +kernel) ⟨rfl, rfl⟩⟩, fun _ h => absurd h List.not_mem_nil⟩) <|
  zq_cons (⟨rfl, (by decide +kernel)⟩) <|
  zq_cons (zq_s_aload (by decide +kernel)) <|
  zq_cons (zq_s_iload_n (n := 2) (by decide +kernel) rfl) <|
  zq_cons (zq_s_iload (by decide +kernel)) <|
  zq_nil
def zc_X8_copy_1 : List (Nat × zq_It) := [(79, .inr (.inl (3, .inr [(4, zn_X4_holds)]))), (82, .inl (zq_if_eq 85 97)), (85, .inl (zq_al 87 7)), (87, .inl (zq_il 89 4)), (89, .inl (zq_il 91 5)), (91, .inr (.inl (3, .inr [(4, zn_X4_holds)]))), (94, .inl (zq_if_ne 97 103)), (97, .inl (zq_al 98 0)), (98, .inl (zq_push 99 (.int 2))), (99, .inr (.inl (2, .inr [(7, zn_X8_refuse)]))), (102, .inr (.inr 1)), (103, .inl (zq_al 105 6)), (105, .inl (zq_getf 108 [(4, 0)])), (108, .inl (zq_il 109 2)), (109, .inl (zq_al 111 7)), (111, .inl (zq_getf 114 [(4, 0)])), (114, .inl (zq_il 116 4)), (116, .inl (zq_il 118 5)), (118, .inl (zq_copy 121)), (121, .inl (zq_push 122 (.int 1))), (122, .inr (.inr 1))]
theorem zk_X8_copy_1 : zq_oks zi_X8_copy zc_X8_copy_1 := zq_cons (List.forall_mem_cons.mpr ⟨⟨zi_X4_holds, rfl, zq_s_callV (n := 2) (index := 285) (by decide +kernel) rfl zw_788 zw_789 zw_790 zw_88 zw_791 (by decide +kernel) (by decide +kernel) ⟨rfl, rfl⟩⟩, fun _ h => absurd h List.not_mem_nil⟩) <|
  zq_cons (zq_s_if_eq (off := 15) (by decide +kernel) (by decide)) <|
  zq_cons (zq_s_aload (by decide +kernel)) <|
  zq_cons (zq_s_iload (by decide +kernel)) <|
  zq_cons (zq_s_iload (by decide +kernel)) <|
  zq_cons (List.forall_mem_cons.mpr ⟨⟨zi_X4_holds, rfl, zq_s_callV (n := 2) (index := 285) (by decide +kernel) rfl zw_788 zw_789 zw_790 zw_88 zw_791 (by decide +kernel) (by decide +kernel) ⟨rfl, rfl⟩⟩, fun _ h => absurd h List.not_mem_nil⟩) <|
  zq_cons (zq_s_if_ne (off := 9) (by decide +kernel) (by decide)) <|
  zq_cons (zq_s_aload_n (n := 0) (by decide +kernel) rfl) <|
  zq_cons (zq_s_iconst (n := 2) (by decide +kernel) (by decide +kernel)) <|
  zq_cons (List.forall_mem_cons.mpr ⟨⟨zi_X8_refuse, rfl, zq_s_callV (n := 1) (index := 162) (by decide +kernel) rfl zw_522 zw_524 zw_5 zw_80 zw_525 (by decide +kernel) (by decide +kernel) ⟨rfl, rfl⟩⟩, fun _ h => absurd h List.not_mem_nil⟩) <|
  zq_cons (⟨rfl, (by decide +kernel)⟩) <|
  zq_cons (zq_s_aload (by decide +kernel)) <|
  zq_cons (zq_s_getf (index := 167) (by decide +kernel) zf_X8_167) <|
  zq_cons (zq_s_iload_n (n := 2) (by decide +kernel) rfl) <|
  zq_cons (zq_s_aload (by decide +kernel)) <|
  zq_cons (zq_s_getf (index := 167) (by decide +kernel) zf_X8_167) <|
  zq_cons (zq_s_iload (by decide +kernel)) <|
  zq_cons (zq_s_iload (by decide +kernel)) <|
  zq_cons (zq_s_copy (index := 289) (by decide +kernel) zw_805 zw_807 zw_806 zw_93 (by decide) (by decide +kernel)) <|
  zq_cons (zq_s_iconst (n := 1) (by decide +kernel) (by decide +kernel)) <|
  zq_cons (⟨rfl, (by decide +kernel)⟩) <|
  zq_nil
def zc_X8_copy : List (Nat × zq_It) := zc_X8_copy_0 ++ (zc_X8_copy_1)
theorem zk_X8_copy : zq_oks zi_X8_copy zc_X8_copy := zq_app zk_X8_copy_0 (zk_X8_copy_1)
def zc_X8_write_0 : List (Nat × zq_It) := [(0, .inl (zq_al 1 0)), (1, .inl (zq_il 2 1)), (2, .inr (.inl (2, .inr [(7, zn_X8_isPerson)]))), (5, .inl (zq_if_eq 8 15)), (8, .inl (zq_il 9 2)), (9, .inr (.inl (1, .inl zn_X8_isSheet))), (12, .inl (zq_if_ne 15 18)), (15, .inl (zq_push 17 (.int (-2)))), (17, .inr (.inr 1)), (18, .inl (zq_al 19 0)), (19, .inl (zq_getf 22 [(7, 6)])), (22, .inl (zq_il 23 2)), (23, .inl (zq_aald 24)), (24, .inl (zq_as 25 3)), (25, .inl (zq_al 26 3)), (26, .inr (.inl (1, .inr [(4, zn_X4_isLost)]))), (29, .inl (zq_if_eq 32 38)), (32, .inl (zq_al 33 0)), (33, .inl (zq_push 34 (.int 1))), (34, .inr (.inl (2, .inr [(7, zn_X8_refuse)]))), (37, .inr (.inr 1)), (38, .inl (zq_al 39 0)), (39, .inr (.inl (1, .inr [(7, zn_X8_weekAsTold)]))), (42, .inl (zq_as 44 4)), (44, .inl (zq_al 45 3)), (45, .inl (zq_getf 48 [(4, 2)])), (48, .inl (zq_push 50 (.int 24))), (50, .inl (zq_mm 53 (fun x y => if y < x then y else x))), (53, .inl (zq_is 55 5)), (55, .inl (zq_push 56 (.int 0))), (56, .inl (zq_is 58 6)), (58, .inl (zq_il 60 6)), (60, .inl (zq_il 62 5)), (62, .inl (zq_ic_ge 65 85)), (65, .inl (zq_al 66 3)), (66, .inl (zq_il 68 6)), (68, .inl (zq_al 70 4)), (70, .inl (zq_il 72 6)), (72, .inl (zq_il 73 1)), (73, .inr (.inl (3, .inr [(6, zn_X7_roomOf)])))]
theorem zk_X8_write_0 : zq_oks zi_X8_write zc_X8_write_0 := zq_cons (zq_s_aload_n (n := 0) (by decide +kernel) rfl) <|
  zq_cons (zq_s_iload_n (n := 1) (by decide +kernel) rfl) <|
  zq_cons (List.forall_mem_cons.mpr ⟨⟨zi_X8_isPerson, rfl, zq_s_callV (n := 1) (index := 133) (by decide +kernel) rfl zw_485 zw_487 zw_4 zw_80 zw_488 (by decide +kernel) (by decide +kernel) ⟨rfl, rfl⟩⟩, fun _ h => absurd h List.not_mem_nil⟩) <|
  zq_cons (zq_s_if_eq (off := 10) (by decide +kernel) (by decide)) <|
  zq_cons (zq_s_iload_n (n := 2) (by decide +kernel) rfl) <|
  zq_cons (⟨zi_X8_isSheet, rfl, zq_s_callS (n := 1) (index := 156) (by decide +kernel) zw_515 zw_516 zw_80 zw_517 (by decide +kernel) (by decide +kernel) ⟨rfl, rfl⟩⟩) <|
  zq_cons (zq_s_if_ne (off := 6) (by decide +kernel) (by decide)) <|
  zq_cons (zq_s_bipush (n := (-2)) (by decide +kernel) (by decide +kernel)) <|
  zq_cons (⟨rfl, (by decide +kernel)⟩) <|
  zq_cons (zq_s_aload_n (n := 0) (by decide +kernel) rfl) <|
  zq_cons (zq_s_getf (index := 49) (by decide +kernel) zf_X8_49) <|
  zq_cons (zq_s_iload_n (n := 2) (by decide +kernel) rfl) <|
  zq_cons (zq_s_aald (by decide +kernel)) <|
  zq_cons (zq_s_astore_n (n := 3) (by decide +kernel) rfl (by decide +kernel)) <|
  zq_cons (zq_s_aload_n (n := 3) (by decide +kernel) rfl) <|
  zq_cons (List.forall_mem_cons.mpr ⟨⟨zi_X4_isLost, rfl, zq_s_callV (n := 0) (index := 159) (by decide +kernel) rfl zw_518 zw_519 zw_520 zw_88 zw_521 (by decide +kernel) (by decide +kernel) ⟨rfl, rfl⟩⟩, fun _ h => absurd h List.not_mem_nil⟩) <|
  zq_cons (zq_s_if_eq (off := 9) (by decide +kernel) (by decide)) <|
  zq_cons (zq_s_aload_n (n := 0) (by decide +kernel) rfl) <|
  zq_cons (zq_s_iconst (n := 1) (by decide +kernel) (by decide +kernel)) <|
  zq_cons (List.forall_mem_cons.mpr ⟨⟨zi_X8_refuse, rfl, zq_s_callV (n := 1) (index := 162) (by decide +kernel) rfl zw_522 zw_524 zw_5 zw_80 zw_525 (by decide +kernel) (by decide +kernel) ⟨rfl, rfl⟩⟩, fun _ h => absurd h List.not_mem_nil⟩) <|
  zq_cons (⟨rfl, (by decide +kernel)⟩) <|
  zq_cons (zq_s_aload_n (n := 0) (by decide +kernel) rfl) <|
  zq_cons (List.forall_mem_cons.mpr ⟨⟨zi_X8_weekAsTold, rfl, zq_s_callV (n := 0) (index := 177) (by decide +kernel) rfl zw_531 zw_533 zw_6 zw_80 zw_534 (by decide +kernel) (by decide +kernel) ⟨rfl, rfl⟩⟩, fun _ h => absurd h List.not_mem_nil⟩) <|
  zq_cons (zq_s_astore (by decide +kernel) (by decide +kernel)) <|
  zq_cons (zq_s_aload_n (n := 3) (by decide +kernel) rfl) <|
  zq_cons (zq_s_getf (index := 166) (by decide +kernel) zf_X8_166) <|
  zq_cons (zq_s_bipush (n := 24) (by decide +kernel) (by decide +kernel)) <|
  zq_cons (zq_s_mmin (index := 295) (by decide +kernel) zw_812 zw_112 zw_83 zw_113 (by decide) (by decide)) <|
  zq_cons (zq_s_istore (by decide +kernel) (by decide +kernel)) <|
  zq_cons (zq_s_iconst (n := 0) (by decide +kernel) (by decide +kernel)) <|
  zq_cons (zq_s_istore (by decide +kernel) (by decide +kernel)) <|
  zq_cons (zq_s_iload (by decide +kernel)) <|
  zq_cons (zq_s_iload (by decide +kernel)) <|
  zq_cons (zq_s_ic_ge (off := 23) (by decide +kernel) (by decide)) <|
  zq_cons (zq_s_aload_n (n := 3) (by decide +kernel) rfl) <|
  zq_cons (zq_s_iload (by decide +kernel)) <|
  zq_cons (zq_s_aload (by decide +kernel)) <|
  zq_cons (zq_s_iload (by decide +kernel)) <|
  zq_cons (zq_s_iload_n (n := 1) (by decide +kernel) rfl) <|
  zq_cons (List.forall_mem_cons.mpr ⟨⟨zi_X7_roomOf, rfl, zq_s_callV (n := 2) (index := 181) (by decide +kernel) rfl zw_572 zw_569 zw_570 zw_89 zw_571 (by decide +kernel) (by decide +kernel) ⟨rfl, rfl⟩⟩, fun _ h => absurd h List.not_mem_nil⟩) <|
  zq_nil
def zc_X8_write_1 : List (Nat × zq_It) := [(76, .inr (.inl (3, .inr [(4, zn_X4_lay)]))), (79, .inl (zq_inc 82 6 1)), (82, .inl (zq_goto 58)), (85, .inl (zq_il 87 5)), (87, .inr (.inr 1))]
theorem zk_X8_write_1 : zq_oks zi_X8_write zc_X8_write_1 := zq_cons (List.forall_mem_cons.mpr ⟨⟨zi_X4_lay, rfl, zq_s_callV (n := 2) (index := 278) (by decide +kernel) rfl zw_792 zw_793 zw_794 zw_88 zw_795 (by decide +kernel) (by decide +kernel) ⟨rfl, rfl⟩⟩, fun _ h => absurd h List.not_mem_nil⟩) <|
  zq_cons (zq_s_iinc (n := 1) (by decide +kernel) (by decide +kernel) (by decide +kernel)) <|
  zq_cons (zq_s_goto (off := (-24)) (by decide +kernel) (by decide)) <|
  zq_cons (zq_s_iload (by decide +kernel)) <|
  zq_cons (⟨rfl, (by decide +kernel)⟩) <|
  zq_nil
def zc_X8_write : List (Nat × zq_It) := zc_X8_write_0 ++ (zc_X8_write_1)
theorem zk_X8_write : zq_oks zi_X8_write zc_X8_write := zq_app zk_X8_write_0 (zk_X8_write_1)
def zc_X8_count : List (Nat × zq_It) := [(0, .inl (zq_il 1 1)), (1, .inl (zq_tsw 0 8 118 [52, 60, 68, 76, 84, 92, 100, 105, 113])), (52, .inl (zq_al 53 0)), (53, .inl (zq_getf 56 [(7, 0)])), (56, .inl (zq_getf 59 [(0, 5)])), (59, .inr (.inr 1)), (60, .inl (zq_al 61 0)), (61, .inl (zq_getf 64 [(7, 1)])), (64, .inl (zq_getf 67 [(3, 5)])), (67, .inr (.inr 1)), (68, .inl (zq_al 69 0)), (69, .inl (zq_getf 72 [(7, 0)])), (72, .inl (zq_getf 75 [(0, 3)])), (75, .inr (.inr 1)), (76, .inl (zq_al 77 0)), (77, .inl (zq_getf 80 [(7, 1)])), (80, .inl (zq_getf 83 [(3, 3)])), (83, .inr (.inr 1)), (84, .inl (zq_al 85 0)), (85, .inl (zq_getf 88 [(7, 2)])), (88, .inl (zq_getf 91 [(1, 3)])), (91, .inr (.inr 1)), (92, .inl (zq_al 93 0)), (93, .inr (.inl (1, .inr [(7, zn_X8_alone)]))), (96, .inr (.inl (1, .inl zn_J6_bitCount_0f7a4))), (99, .inr (.inr 1)), (100, .inl (zq_al 101 0)), (101, .inr (.inl (1, .inr [(7, zn_X8_emptyHoursOfAll)]))), (104, .inr (.inr 1)), (105, .inl (zq_al 106 0)), (106, .inl (zq_getf 109 [(7, 5)])), (109, .inl (zq_getf 112 [(5, 3)])), (112, .inr (.inr 1)), (113, .inl (zq_al 114 0)), (114, .inl (zq_getf 117 [(7, 13)])), (117, .inr (.inr 1)), (118, .inl (zq_push 120 (.int (-2)))), (120, .inr (.inr 1))]
theorem zk_X8_count : zq_oks zi_X8_count zc_X8_count := zq_cons (zq_s_iload_n (n := 1) (by decide +kernel) rfl) <|
  zq_cons (zq_s_tsw (dflt := 117) (offs := #[51, 59, 67, 75, 83, 91, 99, 104, 112]) (len := 51) (by decide +kernel) (by decide) (by decide) (zq_tb (by decide +kernel))) <|
  zq_cons (zq_s_aload_n (n := 0) (by decide +kernel) rfl) <|
  zq_cons (zq_s_getf (index := 10) (by decide +kernel) zf_X8_10) <|
  zq_cons (zq_s_getf (index := 124) (by decide +kernel) zf_X8_124) <|
  zq_cons (⟨rfl, (by decide +kernel)⟩) <|
  zq_cons (zq_s_aload_n (n := 0) (by decide +kernel) rfl) <|
  zq_cons (zq_s_getf (index := 19) (by decide +kernel) zf_X8_19) <|
  zq_cons (zq_s_getf (index := 300) (by decide +kernel) zf_X8_300) <|
  zq_cons (⟨rfl, (by decide +kernel)⟩) <|
  zq_cons (zq_s_aload_n (n := 0) (by decide +kernel) rfl) <|
  zq_cons (zq_s_getf (index := 10) (by decide +kernel) zf_X8_10) <|
  zq_cons (zq_s_getf (index := 301) (by decide +kernel) zf_X8_301) <|
  zq_cons (⟨rfl, (by decide +kernel)⟩) <|
  zq_cons (zq_s_aload_n (n := 0) (by decide +kernel) rfl) <|
  zq_cons (zq_s_getf (index := 19) (by decide +kernel) zf_X8_19) <|
  zq_cons (zq_s_getf (index := 302) (by decide +kernel) zf_X8_302) <|
  zq_cons (⟨rfl, (by decide +kernel)⟩) <|
  zq_cons (zq_s_aload_n (n := 0) (by decide +kernel) rfl) <|
  zq_cons (zq_s_getf (index := 26) (by decide +kernel) zf_X8_26) <|
  zq_cons (zq_s_getf (index := 152) (by decide +kernel) zf_X8_152) <|
  zq_cons (⟨rfl, (by decide +kernel)⟩) <|
  zq_cons (zq_s_aload_n (n := 0) (by decide +kernel) rfl) <|
  zq_cons (List.forall_mem_cons.mpr ⟨⟨zi_X8_alone, rfl, zq_s_callV (n := 0) (index := 303) (by decide +kernel) rfl zw_817 zw_643 zw_644 zw_80 zw_645 (by decide +kernel) (by decide +kernel) ⟨rfl, rfl⟩⟩, fun _ h => absurd h List.not_mem_nil⟩) <|
  zq_cons (⟨zi_J6_bitCount_0f7a4, rfl, zq_s_callS (n := 1) (index := 233) (by decide +kernel) zw_688 zw_632 zw_92 zw_633 (by decide +kernel) (by decide +kernel) ⟨rfl, rfl⟩⟩) <|
  zq_cons (⟨rfl, (by decide +kernel)⟩) <|
  zq_cons (zq_s_aload_n (n := 0) (by decide +kernel) rfl) <|
  zq_cons (List.forall_mem_cons.mpr ⟨⟨zi_X8_emptyHoursOfAll, rfl, zq_s_callV (n := 0) (index := 306) (by decide +kernel) rfl zw_818 zw_820 zw_21 zw_80 zw_821 (by decide +kernel) (by decide +kernel) ⟨rfl, rfl⟩⟩, fun _ h => absurd h List.not_mem_nil⟩) <|
  zq_cons (⟨rfl, (by decide +kernel)⟩) <|
  zq_cons (zq_s_aload_n (n := 0) (by decide +kernel) rfl) <|
  zq_cons (zq_s_getf (index := 43) (by decide +kernel) zf_X8_43) <|
  zq_cons (zq_s_getf (index := 241) (by decide +kernel) zf_X8_241) <|
  zq_cons (⟨rfl, (by decide +kernel)⟩) <|
  zq_cons (zq_s_aload_n (n := 0) (by decide +kernel) rfl) <|
  zq_cons (zq_s_getf (index := 81) (by decide +kernel) zf_X8_81) <|
  zq_cons (⟨rfl, (by decide +kernel)⟩) <|
  zq_cons (zq_s_bipush (n := (-2)) (by decide +kernel) (by decide +kernel)) <|
  zq_cons (⟨rfl, (by decide +kernel)⟩) <|
  zq_nil
def zc_X8_digest_0 : List (Nat × zq_It) := [(0, .inl (zq_push 3 (.long 17))), (3, .inl (zq_lst 4 1)), (4, .inl (zq_push 5 (.int 0))), (5, .inl (zq_is 6 3)), (6, .inl (zq_il 7 3)), (7, .inl (zq_push 9 (.int 7))), (9, .inl (zq_ic_gt 12 29)), (12, .inl (zq_ll 13 1)), (13, .inl (zq_al 14 0)), (14, .inl (zq_il 15 3)), (15, .inr (.inl (2, .inr [(7, zn_X8_count)]))), (18, .inl (zq_i2l 19)), (19, .inr (.inl (2, .inl zn_X8_mix))), (22, .inl (zq_lst 23 1)), (23, .inl (zq_inc 26 3 1)), (26, .inl (zq_goto 6)), (29, .inl (zq_ll 30 1)), (30, .inl (zq_al 31 0)), (31, .inl (zq_push 32 (.int 0))), (32, .inr (.inl (2, .inr [(7, zn_X8_fault)]))), (35, .inl (zq_i2l 36)), (36, .inr (.inl (2, .inl zn_X8_mix))), (39, .inl (zq_al 40 0)), (40, .inl (zq_push 41 (.int 1))), (41, .inr (.inl (2, .inr [(7, zn_X8_fault)]))), (44, .inl (zq_i2l 45)), (45, .inr (.inl (2, .inl zn_X8_mix))), (48, .inl (zq_lst 49 1)), (49, .inl (zq_push 50 (.int 0))), (50, .inl (zq_is 51 3)), (51, .inl (zq_il 52 3)), (52, .inl (zq_al 53 0)), (53, .inl (zq_getf 56 [(7, 0)])), (56, .inl (zq_getf 59 [(0, 5)])), (59, .inl (zq_ic_ge 62 90)), (62, .inl (zq_ll 63 1)), (63, .inl (zq_al 64 0)), (64, .inl (zq_il 65 3)), (65, .inl (zq_push 66 (.int 0))), (66, .inr (.inl (3, .inr [(7, zn_X8_door)])))]
theorem zk_X8_digest_0 : zq_oks zi_X8_digest zc_X8_digest_0 := zq_cons (zq_s_ldc2 (index := 309) (by decide +kernel) zw_826) <|
  zq_cons (zq_s_lstore_n (n := 1) (by decide +kernel) rfl (by decide +kernel)) <|
  zq_cons (zq_s_iconst (n := 0) (by decide +kernel) (by decide +kernel)) <|
  zq_cons (zq_s_istore_n (n := 3) (by decide +kernel) rfl (by decide +kernel)) <|
  zq_cons (zq_s_iload_n (n := 3) (by decide +kernel) rfl) <|
  zq_cons (zq_s_bipush (n := 7) (by decide +kernel) (by decide +kernel)) <|
  zq_cons (zq_s_ic_gt (off := 20) (by decide +kernel) (by decide)) <|
  zq_cons (zq_s_lload_n (n := 1) (by decide +kernel) rfl) <|
  zq_cons (zq_s_aload_n (n := 0) (by decide +kernel) rfl) <|
  zq_cons (zq_s_iload_n (n := 3) (by decide +kernel) rfl) <|
  zq_cons (List.forall_mem_cons.mpr ⟨⟨zi_X8_count, rfl, zq_s_callV (n := 1) (index := 311) (by decide +kernel) rfl zw_827 zw_814 zw_815 zw_80 zw_816 (by decide +kernel) (by decide +kernel) ⟨rfl, rfl⟩⟩, fun _ h => absurd h List.not_mem_nil⟩) <|
  zq_cons (zq_s_i2l (by decide +kernel)) <|
  zq_cons (⟨zi_X8_mix, rfl, zq_s_callS (n := 2) (index := 314) (by decide +kernel) zw_828 zw_829 zw_80 zw_830 (by decide +kernel) (by decide +kernel) ⟨rfl, rfl⟩⟩) <|
  zq_cons (zq_s_lstore_n (n := 1) (by decide +kernel) rfl (by decide +kernel)) <|
  zq_cons (zq_s_iinc (n := 1) (by decide +kernel) (by decide +kernel) (by decide +kernel)) <|
  zq_cons (zq_s_goto (off := (-20)) (by decide +kernel) (by decide)) <|
  zq_cons (zq_s_lload_n (n := 1) (by decide +kernel) rfl) <|
  zq_cons (zq_s_aload_n (n := 0) (by decide +kernel) rfl) <|
  zq_cons (zq_s_iconst (n := 0) (by decide +kernel) (by decide +kernel)) <|
  zq_cons (List.forall_mem_cons.mpr ⟨⟨zi_X8_fault, rfl, zq_s_callV (n := 1) (index := 318) (by decide +kernel) rfl zw_832 zw_474 zw_475 zw_80 zw_476 (by decide +kernel) (by decide +kernel) ⟨rfl, rfl⟩⟩, fun _ h => absurd h List.not_mem_nil⟩) <|
  zq_cons (zq_s_i2l (by decide +kernel)) <|
  zq_cons (⟨zi_X8_mix, rfl, zq_s_callS (n := 2) (index := 314) (by decide +kernel) zw_828 zw_829 zw_80 zw_830 (by decide +kernel) (by decide +kernel) ⟨rfl, rfl⟩⟩) <|
  zq_cons (zq_s_aload_n (n := 0) (by decide +kernel) rfl) <|
  zq_cons (zq_s_iconst (n := 1) (by decide +kernel) (by decide +kernel)) <|
  zq_cons (List.forall_mem_cons.mpr ⟨⟨zi_X8_fault, rfl, zq_s_callV (n := 1) (index := 318) (by decide +kernel) rfl zw_832 zw_474 zw_475 zw_80 zw_476 (by decide +kernel) (by decide +kernel) ⟨rfl, rfl⟩⟩, fun _ h => absurd h List.not_mem_nil⟩) <|
  zq_cons (zq_s_i2l (by decide +kernel)) <|
  zq_cons (⟨zi_X8_mix, rfl, zq_s_callS (n := 2) (index := 314) (by decide +kernel) zw_828 zw_829 zw_80 zw_830 (by decide +kernel) (by decide +kernel) ⟨rfl, rfl⟩⟩) <|
  zq_cons (zq_s_lstore_n (n := 1) (by decide +kernel) rfl (by decide +kernel)) <|
  zq_cons (zq_s_iconst (n := 0) (by decide +kernel) (by decide +kernel)) <|
  zq_cons (zq_s_istore_n (n := 3) (by decide +kernel) rfl (by decide +kernel)) <|
  zq_cons (zq_s_iload_n (n := 3) (by decide +kernel) rfl) <|
  zq_cons (zq_s_aload_n (n := 0) (by decide +kernel) rfl) <|
  zq_cons (zq_s_getf (index := 10) (by decide +kernel) zf_X8_10) <|
  zq_cons (zq_s_getf (index := 124) (by decide +kernel) zf_X8_124) <|
  zq_cons (zq_s_ic_ge (off := 31) (by decide +kernel) (by decide)) <|
  zq_cons (zq_s_lload_n (n := 1) (by decide +kernel) rfl) <|
  zq_cons (zq_s_aload_n (n := 0) (by decide +kernel) rfl) <|
  zq_cons (zq_s_iload_n (n := 3) (by decide +kernel) rfl) <|
  zq_cons (zq_s_iconst (n := 0) (by decide +kernel) (by decide +kernel)) <|
  zq_cons (List.forall_mem_cons.mpr ⟨⟨zi_X8_door, rfl, zq_s_callV (n := 2) (index := 321) (by decide +kernel) rfl zw_833 zw_478 zw_479 zw_80 zw_480 (by decide +kernel) (by decide +kernel) ⟨rfl, rfl⟩⟩, fun _ h => absurd h List.not_mem_nil⟩) <|
  zq_nil
def zc_X8_digest_1 : List (Nat × zq_It) := [(69, .inl (zq_i2l 70)), (70, .inr (.inl (2, .inl zn_X8_mix))), (73, .inl (zq_al 74 0)), (74, .inl (zq_il 75 3)), (75, .inl (zq_push 76 (.int 1))), (76, .inr (.inl (3, .inr [(7, zn_X8_door)]))), (79, .inl (zq_i2l 80)), (80, .inr (.inl (2, .inl zn_X8_mix))), (83, .inl (zq_lst 84 1)), (84, .inl (zq_inc 87 3 1)), (87, .inl (zq_goto 51)), (90, .inl (zq_push 91 (.int 0))), (91, .inl (zq_is 92 3)), (92, .inl (zq_il 93 3)), (93, .inl (zq_push 95 (.int 8))), (95, .inl (zq_ic_ge 98 139)), (98, .inl (zq_ll 99 1)), (99, .inl (zq_al 100 0)), (100, .inl (zq_il 101 3)), (101, .inr (.inl (2, .inr [(7, zn_X8_empty)]))), (104, .inl (zq_i2l 105)), (105, .inr (.inl (2, .inl zn_X8_mix))), (108, .inl (zq_al 109 0)), (109, .inl (zq_push 111 (.int 9))), (111, .inl (zq_il 112 3)), (112, .inl (zq_push 113 (.int 0))), (113, .inr (.inl (4, .inr [(7, zn_X8_far)]))), (116, .inl (zq_i2l 117)), (117, .inr (.inl (2, .inl zn_X8_mix))), (120, .inl (zq_al 121 0)), (121, .inl (zq_push 123 (.int 23))), (123, .inl (zq_il 124 3)), (124, .inl (zq_push 125 (.int 5))), (125, .inr (.inl (4, .inr [(7, zn_X8_far)]))), (128, .inl (zq_i2l 129)), (129, .inr (.inl (2, .inl zn_X8_mix))), (132, .inl (zq_lst 133 1)), (133, .inl (zq_inc 136 3 1)), (136, .inl (zq_goto 92)), (139, .inl (zq_push 140 (.int 0)))]
theorem zk_X8_digest_1 : zq_oks zi_X8_digest zc_X8_digest_1 := zq_cons (zq_s_i2l (by decide +kernel)) <|
  zq_cons (⟨zi_X8_mix, rfl, zq_s_callS (n := 2) (index := 314) (by decide +kernel) zw_828 zw_829 zw_80 zw_830 (by decide +kernel) (by decide +kernel) ⟨rfl, rfl⟩⟩) <|
  zq_cons (zq_s_aload_n (n := 0) (by decide +kernel) rfl) <|
  zq_cons (zq_s_iload_n (n := 3) (by decide +kernel) rfl) <|
  zq_cons (zq_s_iconst (n := 1) (by decide +kernel) (by decide +kernel)) <|
  zq_cons (List.forall_mem_cons.mpr ⟨⟨zi_X8_door, rfl, zq_s_callV (n := 2) (index := 321) (by decide +kernel) rfl zw_833 zw_478 zw_479 zw_80 zw_480 (by decide +kernel) (by decide +kernel) ⟨rfl, rfl⟩⟩, fun _ h => absurd h List.not_mem_nil⟩) <|
  zq_cons (zq_s_i2l (by decide +kernel)) <|
  zq_cons (⟨zi_X8_mix, rfl, zq_s_callS (n := 2) (index := 314) (by decide +kernel) zw_828 zw_829 zw_80 zw_830 (by decide +kernel) (by decide +kernel) ⟨rfl, rfl⟩⟩) <|
  zq_cons (zq_s_lstore_n (n := 1) (by decide +kernel) rfl (by decide +kernel)) <|
  zq_cons (zq_s_iinc (n := 1) (by decide +kernel) (by decide +kernel) (by decide +kernel)) <|
  zq_cons (zq_s_goto (off := (-36)) (by decide +kernel) (by decide)) <|
  zq_cons (zq_s_iconst (n := 0) (by decide +kernel) (by decide +kernel)) <|
  zq_cons (zq_s_istore_n (n := 3) (by decide +kernel) rfl (by decide +kernel)) <|
  zq_cons (zq_s_iload_n (n := 3) (by decide +kernel) rfl) <|
  zq_cons (zq_s_bipush (n := 8) (by decide +kernel) (by decide +kernel)) <|
  zq_cons (zq_s_ic_ge (off := 44) (by decide +kernel) (by decide)) <|
  zq_cons (zq_s_lload_n (n := 1) (by decide +kernel) rfl) <|
  zq_cons (zq_s_aload_n (n := 0) (by decide +kernel) rfl) <|
  zq_cons (zq_s_iload_n (n := 3) (by decide +kernel) rfl) <|
  zq_cons (List.forall_mem_cons.mpr ⟨⟨zi_X8_empty, rfl, zq_s_callV (n := 1) (index := 324) (by decide +kernel) rfl zw_834 zw_597 zw_598 zw_80 zw_599 (by decide +kernel) (by decide +kernel) ⟨rfl, rfl⟩⟩, fun _ h => absurd h List.not_mem_nil⟩) <|
  zq_cons (zq_s_i2l (by decide +kernel)) <|
  zq_cons (⟨zi_X8_mix, rfl, zq_s_callS (n := 2) (index := 314) (by decide +kernel) zw_828 zw_829 zw_80 zw_830 (by decide +kernel) (by decide +kernel) ⟨rfl, rfl⟩⟩) <|
  zq_cons (zq_s_aload_n (n := 0) (by decide +kernel) rfl) <|
  zq_cons (zq_s_bipush (n := 9) (by decide +kernel) (by decide +kernel)) <|
  zq_cons (zq_s_iload_n (n := 3) (by decide +kernel) rfl) <|
  zq_cons (zq_s_iconst (n := 0) (by decide +kernel) (by decide +kernel)) <|
  zq_cons (List.forall_mem_cons.mpr ⟨⟨zi_X8_far, rfl, zq_s_callV (n := 3) (index := 327) (by decide +kernel) rfl zw_835 zw_585 zw_586 zw_80 zw_587 (by decide +kernel) (by decide +kernel) ⟨rfl, rfl⟩⟩, fun _ h => absurd h List.not_mem_nil⟩) <|
  zq_cons (zq_s_i2l (by decide +kernel)) <|
  zq_cons (⟨zi_X8_mix, rfl, zq_s_callS (n := 2) (index := 314) (by decide +kernel) zw_828 zw_829 zw_80 zw_830 (by decide +kernel) (by decide +kernel) ⟨rfl, rfl⟩⟩) <|
  zq_cons (zq_s_aload_n (n := 0) (by decide +kernel) rfl) <|
  zq_cons (zq_s_bipush (n := 23) (by decide +kernel) (by decide +kernel)) <|
  zq_cons (zq_s_iload_n (n := 3) (by decide +kernel) rfl) <|
  zq_cons (zq_s_iconst (n := 5) (by decide +kernel) (by decide +kernel)) <|
  zq_cons (List.forall_mem_cons.mpr ⟨⟨zi_X8_far, rfl, zq_s_callV (n := 3) (index := 327) (by decide +kernel) rfl zw_835 zw_585 zw_586 zw_80 zw_587 (by decide +kernel) (by decide +kernel) ⟨rfl, rfl⟩⟩, fun _ h => absurd h List.not_mem_nil⟩) <|
  zq_cons (zq_s_i2l (by decide +kernel)) <|
  zq_cons (⟨zi_X8_mix, rfl, zq_s_callS (n := 2) (index := 314) (by decide +kernel) zw_828 zw_829 zw_80 zw_830 (by decide +kernel) (by decide +kernel) ⟨rfl, rfl⟩⟩) <|
  zq_cons (zq_s_lstore_n (n := 1) (by decide +kernel) rfl (by decide +kernel)) <|
  zq_cons (zq_s_iinc (n := 1) (by decide +kernel) (by decide +kernel) (by decide +kernel)) <|
  zq_cons (zq_s_goto (off := (-44)) (by decide +kernel) (by decide)) <|
  zq_cons (zq_s_iconst (n := 0) (by decide +kernel) (by decide +kernel)) <|
  zq_nil
def zc_X8_digest_2 : List (Nat × zq_It) := [(140, .inl (zq_is 141 3)), (141, .inl (zq_il 142 3)), (142, .inl (zq_al 143 0)), (143, .inl (zq_getf 146 [(7, 1)])), (146, .inl (zq_getf 149 [(3, 5)])), (149, .inl (zq_ic_ge 152 170)), (152, .inl (zq_al 153 0)), (153, .inl (zq_al 154 0)), (154, .inl (zq_ll 155 1)), (155, .inl (zq_il 156 3)), (156, .inr (.inl (3, .inr [(7, zn_X8_mixStays)]))), (159, .inl (zq_il 160 3)), (160, .inr (.inl (3, .inr [(7, zn_X8_mixGuesses)]))), (163, .inl (zq_lst 164 1)), (164, .inl (zq_inc 167 3 1)), (167, .inl (zq_goto 141)), (170, .inl (zq_push 171 (.int 0))), (171, .inl (zq_is 172 3)), (172, .inl (zq_il 173 3)), (173, .inl (zq_push 174 (.int 2))), (174, .inl (zq_ic_gt 177 194)), (177, .inl (zq_ll 178 1)), (178, .inl (zq_al 179 0)), (179, .inl (zq_il 180 3)), (180, .inr (.inl (2, .inr [(7, zn_X8_found)]))), (183, .inl (zq_i2l 184)), (184, .inr (.inl (2, .inl zn_X8_mix))), (187, .inl (zq_lst 188 1)), (188, .inl (zq_inc 191 3 1)), (191, .inl (zq_goto 172)), (194, .inl (zq_push 195 (.int 0))), (195, .inl (zq_is 196 3)), (196, .inl (zq_il 197 3)), (197, .inl (zq_push 198 (.int 2))), (198, .inl (zq_ic_gt 201 218)), (201, .inl (zq_ll 202 1)), (202, .inl (zq_al 203 0)), (203, .inl (zq_il 204 3)), (204, .inr (.inl (2, .inr [(7, zn_X8_crowd)]))), (207, .inl (zq_i2l 208))]
theorem zk_X8_digest_2 : zq_oks zi_X8_digest zc_X8_digest_2 := zq_cons (zq_s_istore_n (n := 3) (by decide +kernel) rfl (by decide +kernel)) <|
  zq_cons (zq_s_iload_n (n := 3) (by decide +kernel) rfl) <|
  zq_cons (zq_s_aload_n (n := 0) (by decide +kernel) rfl) <|
  zq_cons (zq_s_getf (index := 19) (by decide +kernel) zf_X8_19) <|
  zq_cons (zq_s_getf (index := 300) (by decide +kernel) zf_X8_300) <|
  zq_cons (zq_s_ic_ge (off := 21) (by decide +kernel) (by decide)) <|
  zq_cons (zq_s_aload_n (n := 0) (by decide +kernel) rfl) <|
  zq_cons (zq_s_aload_n (n := 0) (by decide +kernel) rfl) <|
  zq_cons (zq_s_lload_n (n := 1) (by decide +kernel) rfl) <|
  zq_cons (zq_s_iload_n (n := 3) (by decide +kernel) rfl) <|
  zq_cons (List.forall_mem_cons.mpr ⟨⟨zi_X8_mixStays, rfl, zq_s_callV (n := 2) (index := 330) (by decide +kernel) rfl zw_836 zw_838 zw_22 zw_80 zw_839 (by decide +kernel) (by decide +kernel) ⟨rfl, rfl⟩⟩, fun _ h => absurd h List.not_mem_nil⟩) <|
  zq_cons (zq_s_iload_n (n := 3) (by decide +kernel) rfl) <|
  zq_cons (List.forall_mem_cons.mpr ⟨⟨zi_X8_mixGuesses, rfl, zq_s_callV (n := 2) (index := 334) (by decide +kernel) rfl zw_842 zw_844 zw_23 zw_80 zw_845 (by decide +kernel) (by decide +kernel) ⟨rfl, rfl⟩⟩, fun _ h => absurd h List.not_mem_nil⟩) <|
  zq_cons (zq_s_lstore_n (n := 1) (by decide +kernel) rfl (by decide +kernel)) <|
  zq_cons (zq_s_iinc (n := 1) (by decide +kernel) (by decide +kernel) (by decide +kernel)) <|
  zq_cons (zq_s_goto (off := (-26)) (by decide +kernel) (by decide)) <|
  zq_cons (zq_s_iconst (n := 0) (by decide +kernel) (by decide +kernel)) <|
  zq_cons (zq_s_istore_n (n := 3) (by decide +kernel) rfl (by decide +kernel)) <|
  zq_cons (zq_s_iload_n (n := 3) (by decide +kernel) rfl) <|
  zq_cons (zq_s_iconst (n := 2) (by decide +kernel) (by decide +kernel)) <|
  zq_cons (zq_s_ic_gt (off := 20) (by decide +kernel) (by decide)) <|
  zq_cons (zq_s_lload_n (n := 1) (by decide +kernel) rfl) <|
  zq_cons (zq_s_aload_n (n := 0) (by decide +kernel) rfl) <|
  zq_cons (zq_s_iload_n (n := 3) (by decide +kernel) rfl) <|
  zq_cons (List.forall_mem_cons.mpr ⟨⟨zi_X8_found, rfl, zq_s_callV (n := 1) (index := 337) (by decide +kernel) rfl zw_851 zw_606 zw_607 zw_80 zw_608 (by decide +kernel) (by decide +kernel) ⟨rfl, rfl⟩⟩, fun _ h => absurd h List.not_mem_nil⟩) <|
  zq_cons (zq_s_i2l (by decide +kernel)) <|
  zq_cons (⟨zi_X8_mix, rfl, zq_s_callS (n := 2) (index := 314) (by decide +kernel) zw_828 zw_829 zw_80 zw_830 (by decide +kernel) (by decide +kernel) ⟨rfl, rfl⟩⟩) <|
  zq_cons (zq_s_lstore_n (n := 1) (by decide +kernel) rfl (by decide +kernel)) <|
  zq_cons (zq_s_iinc (n := 1) (by decide +kernel) (by decide +kernel) (by decide +kernel)) <|
  zq_cons (zq_s_goto (off := (-19)) (by decide +kernel) (by decide)) <|
  zq_cons (zq_s_iconst (n := 0) (by decide +kernel) (by decide +kernel)) <|
  zq_cons (zq_s_istore_n (n := 3) (by decide +kernel) rfl (by decide +kernel)) <|
  zq_cons (zq_s_iload_n (n := 3) (by decide +kernel) rfl) <|
  zq_cons (zq_s_iconst (n := 2) (by decide +kernel) (by decide +kernel)) <|
  zq_cons (zq_s_ic_gt (off := 20) (by decide +kernel) (by decide)) <|
  zq_cons (zq_s_lload_n (n := 1) (by decide +kernel) rfl) <|
  zq_cons (zq_s_aload_n (n := 0) (by decide +kernel) rfl) <|
  zq_cons (zq_s_iload_n (n := 3) (by decide +kernel) rfl) <|
  zq_cons (List.forall_mem_cons.mpr ⟨⟨zi_X8_crowd, rfl, zq_s_callV (n := 1) (index := 340) (by decide +kernel) rfl zw_852 zw_624 zw_625 zw_80 zw_626 (by decide +kernel) (by decide +kernel) ⟨rfl, rfl⟩⟩, fun _ h => absurd h List.not_mem_nil⟩) <|
  zq_cons (zq_s_i2l (by decide +kernel)) <|
  zq_nil
def zc_X8_digest_3 : List (Nat × zq_It) := [(208, .inr (.inl (2, .inl zn_X8_mix))), (211, .inl (zq_lst 212 1)), (212, .inl (zq_inc 215 3 1)), (215, .inl (zq_goto 196)), (218, .inl (zq_ll 219 1)), (219, .inl (zq_al 220 0)), (220, .inr (.inl (1, .inr [(7, zn_X8_alone)]))), (223, .inl (zq_i2l 224)), (224, .inr (.inl (2, .inl zn_X8_mix))), (227, .inl (zq_lst 228 1)), (228, .inl (zq_ll 229 1)), (229, .inl (zq_al 230 0)), (230, .inl (zq_push 232 (.int 8))), (232, .inl (zq_push 233 (.int 0))), (233, .inr (.inl (3, .inr [(7, zn_X8_nice)]))), (236, .inl (zq_i2l 237)), (237, .inr (.inl (2, .inl zn_X8_mix))), (240, .inl (zq_al 241 0)), (241, .inl (zq_push 243 (.int 8))), (243, .inl (zq_push 244 (.int 1))), (244, .inr (.inl (3, .inr [(7, zn_X8_nice)]))), (247, .inl (zq_i2l 248)), (248, .inr (.inl (2, .inl zn_X8_mix))), (251, .inl (zq_lst 252 1)), (252, .inl (zq_ll 253 1)), (253, .inl (zq_al 254 0)), (254, .inl (zq_push 255 (.int 0))), (255, .inr (.inl (2, .inr [(7, zn_X8_lens)]))), (258, .inl (zq_i2l 259)), (259, .inr (.inl (2, .inl zn_X8_mix))), (262, .inl (zq_al 263 0)), (263, .inl (zq_push 264 (.int 1))), (264, .inr (.inl (2, .inr [(7, zn_X8_lens)]))), (267, .inl (zq_i2l 268)), (268, .inr (.inl (2, .inl zn_X8_mix))), (271, .inl (zq_lst 272 1)), (272, .inl (zq_ll 273 1)), (273, .inl (zq_al 274 0)), (274, .inl (zq_push 275 (.int (-1)))), (275, .inr (.inl (2, .inr [(7, zn_X8_spare)])))]
theorem zk_X8_digest_3 : zq_oks zi_X8_digest zc_X8_digest_3 := zq_cons (⟨zi_X8_mix, rfl, zq_s_callS (n := 2) (index := 314) (by decide +kernel) zw_828 zw_829 zw_80 zw_830 (by decide +kernel) (by decide +kernel) ⟨rfl, rfl⟩⟩) <|
  zq_cons (zq_s_lstore_n (n := 1) (by decide +kernel) rfl (by decide +kernel)) <|
  zq_cons (zq_s_iinc (n := 1) (by decide +kernel) (by decide +kernel) (by decide +kernel)) <|
  zq_cons (zq_s_goto (off := (-19)) (by decide +kernel) (by decide)) <|
  zq_cons (zq_s_lload_n (n := 1) (by decide +kernel) rfl) <|
  zq_cons (zq_s_aload_n (n := 0) (by decide +kernel) rfl) <|
  zq_cons (List.forall_mem_cons.mpr ⟨⟨zi_X8_alone, rfl, zq_s_callV (n := 0) (index := 303) (by decide +kernel) rfl zw_817 zw_643 zw_644 zw_80 zw_645 (by decide +kernel) (by decide +kernel) ⟨rfl, rfl⟩⟩, fun _ h => absurd h List.not_mem_nil⟩) <|
  zq_cons (zq_s_i2l (by decide +kernel)) <|
  zq_cons (⟨zi_X8_mix, rfl, zq_s_callS (n := 2) (index := 314) (by decide +kernel) zw_828 zw_829 zw_80 zw_830 (by decide +kernel) (by decide +kernel) ⟨rfl, rfl⟩⟩) <|
  zq_cons (zq_s_lstore_n (n := 1) (by decide +kernel) rfl (by decide +kernel)) <|
  zq_cons (zq_s_lload_n (n := 1) (by decide +kernel) rfl) <|
  zq_cons (zq_s_aload_n (n := 0) (by decide +kernel) rfl) <|
  zq_cons (zq_s_bipush (n := 8) (by decide +kernel) (by decide +kernel)) <|
  zq_cons (zq_s_iconst (n := 0) (by decide +kernel) (by decide +kernel)) <|
  zq_cons (List.forall_mem_cons.mpr ⟨⟨zi_X8_nice, rfl, zq_s_callV (n := 2) (index := 343) (by decide +kernel) rfl zw_853 zw_664 zw_665 zw_80 zw_666 (by decide +kernel) (by decide +kernel) ⟨rfl, rfl⟩⟩, fun _ h => absurd h List.not_mem_nil⟩) <|
  zq_cons (zq_s_i2l (by decide +kernel)) <|
  zq_cons (⟨zi_X8_mix, rfl, zq_s_callS (n := 2) (index := 314) (by decide +kernel) zw_828 zw_829 zw_80 zw_830 (by decide +kernel) (by decide +kernel) ⟨rfl, rfl⟩⟩) <|
  zq_cons (zq_s_aload_n (n := 0) (by decide +kernel) rfl) <|
  zq_cons (zq_s_bipush (n := 8) (by decide +kernel) (by decide +kernel)) <|
  zq_cons (zq_s_iconst (n := 1) (by decide +kernel) (by decide +kernel)) <|
  zq_cons (List.forall_mem_cons.mpr ⟨⟨zi_X8_nice, rfl, zq_s_callV (n := 2) (index := 343) (by decide +kernel) rfl zw_853 zw_664 zw_665 zw_80 zw_666 (by decide +kernel) (by decide +kernel) ⟨rfl, rfl⟩⟩, fun _ h => absurd h List.not_mem_nil⟩) <|
  zq_cons (zq_s_i2l (by decide +kernel)) <|
  zq_cons (⟨zi_X8_mix, rfl, zq_s_callS (n := 2) (index := 314) (by decide +kernel) zw_828 zw_829 zw_80 zw_830 (by decide +kernel) (by decide +kernel) ⟨rfl, rfl⟩⟩) <|
  zq_cons (zq_s_lstore_n (n := 1) (by decide +kernel) rfl (by decide +kernel)) <|
  zq_cons (zq_s_lload_n (n := 1) (by decide +kernel) rfl) <|
  zq_cons (zq_s_aload_n (n := 0) (by decide +kernel) rfl) <|
  zq_cons (zq_s_iconst (n := 0) (by decide +kernel) (by decide +kernel)) <|
  zq_cons (List.forall_mem_cons.mpr ⟨⟨zi_X8_lens, rfl, zq_s_callV (n := 1) (index := 346) (by decide +kernel) rfl zw_854 zw_673 zw_674 zw_80 zw_675 (by decide +kernel) (by decide +kernel) ⟨rfl, rfl⟩⟩, fun _ h => absurd h List.not_mem_nil⟩) <|
  zq_cons (zq_s_i2l (by decide +kernel)) <|
  zq_cons (⟨zi_X8_mix, rfl, zq_s_callS (n := 2) (index := 314) (by decide +kernel) zw_828 zw_829 zw_80 zw_830 (by decide +kernel) (by decide +kernel) ⟨rfl, rfl⟩⟩) <|
  zq_cons (zq_s_aload_n (n := 0) (by decide +kernel) rfl) <|
  zq_cons (zq_s_iconst (n := 1) (by decide +kernel) (by decide +kernel)) <|
  zq_cons (List.forall_mem_cons.mpr ⟨⟨zi_X8_lens, rfl, zq_s_callV (n := 1) (index := 346) (by decide +kernel) rfl zw_854 zw_673 zw_674 zw_80 zw_675 (by decide +kernel) (by decide +kernel) ⟨rfl, rfl⟩⟩, fun _ h => absurd h List.not_mem_nil⟩) <|
  zq_cons (zq_s_i2l (by decide +kernel)) <|
  zq_cons (⟨zi_X8_mix, rfl, zq_s_callS (n := 2) (index := 314) (by decide +kernel) zw_828 zw_829 zw_80 zw_830 (by decide +kernel) (by decide +kernel) ⟨rfl, rfl⟩⟩) <|
  zq_cons (zq_s_lstore_n (n := 1) (by decide +kernel) rfl (by decide +kernel)) <|
  zq_cons (zq_s_lload_n (n := 1) (by decide +kernel) rfl) <|
  zq_cons (zq_s_aload_n (n := 0) (by decide +kernel) rfl) <|
  zq_cons (zq_s_iconst (n := (-1)) (by decide +kernel) (by decide +kernel)) <|
  zq_cons (List.forall_mem_cons.mpr ⟨⟨zi_X8_spare, rfl, zq_s_callV (n := 1) (index := 349) (by decide +kernel) rfl zw_855 zw_677 zw_678 zw_80 zw_679 (by decide +kernel) (by decide +kernel) ⟨rfl, rfl⟩⟩, fun _ h => absurd h List.not_mem_nil⟩) <|
  zq_nil
def zc_X8_digest_4 : List (Nat × zq_It) := [(278, .inl (zq_i2l 279)), (279, .inr (.inl (2, .inl zn_X8_mix))), (282, .inl (zq_al 283 0)), (283, .inl (zq_push 284 (.int 0))), (284, .inr (.inl (2, .inr [(7, zn_X8_spare)]))), (287, .inl (zq_i2l 288)), (288, .inr (.inl (2, .inl zn_X8_mix))), (291, .inl (zq_lst 292 1)), (292, .inl (zq_ll 293 1)), (293, .inl (zq_al 294 0)), (294, .inr (.inl (1, .inr [(7, zn_X8_never)]))), (297, .inl (zq_i2l 298)), (298, .inr (.inl (2, .inl zn_X8_mix))), (301, .inl (zq_lst 302 1)), (302, .inl (zq_ll 303 1)), (303, .inl (zq_al 304 0)), (304, .inl (zq_push 306 (.int 7))), (306, .inl (zq_push 308 (.int 6))), (308, .inl (zq_push 309 (.int 0))), (309, .inr (.inl (4, .inr [(7, zn_X8_weeks)]))), (312, .inl (zq_i2l 313)), (313, .inr (.inl (2, .inl zn_X8_mix))), (316, .inl (zq_al 317 0)), (317, .inl (zq_push 319 (.int 7))), (319, .inl (zq_push 321 (.int 6))), (321, .inl (zq_push 322 (.int 1))), (322, .inr (.inl (4, .inr [(7, zn_X8_weeks)]))), (325, .inl (zq_i2l 326)), (326, .inr (.inl (2, .inl zn_X8_mix))), (329, .inr (.inr 3))]
theorem zk_X8_digest_4 : zq_oks zi_X8_digest zc_X8_digest_4 := zq_cons (zq_s_i2l (by decide +kernel)) <|
  zq_cons (⟨zi_X8_mix, rfl, zq_s_callS (n := 2) (index := 314) (by decide +kernel) zw_828 zw_829 zw_80 zw_830 (by decide +kernel) (by decide +kernel) ⟨rfl, rfl⟩⟩) <|
  zq_cons (zq_s_aload_n (n := 0) (by decide +kernel) rfl) <|
  zq_cons (zq_s_iconst (n := 0) (by decide +kernel) (by decide +kernel)) <|
  zq_cons (List.forall_mem_cons.mpr ⟨⟨zi_X8_spare, rfl, zq_s_callV (n := 1) (index := 349) (by decide +kernel) rfl zw_855 zw_677 zw_678 zw_80 zw_679 (by decide +kernel) (by decide +kernel) ⟨rfl, rfl⟩⟩, fun _ h => absurd h List.not_mem_nil⟩) <|
  zq_cons (zq_s_i2l (by decide +kernel)) <|
  zq_cons (⟨zi_X8_mix, rfl, zq_s_callS (n := 2) (index := 314) (by decide +kernel) zw_828 zw_829 zw_80 zw_830 (by decide +kernel) (by decide +kernel) ⟨rfl, rfl⟩⟩) <|
  zq_cons (zq_s_lstore_n (n := 1) (by decide +kernel) rfl (by decide +kernel)) <|
  zq_cons (zq_s_lload_n (n := 1) (by decide +kernel) rfl) <|
  zq_cons (zq_s_aload_n (n := 0) (by decide +kernel) rfl) <|
  zq_cons (List.forall_mem_cons.mpr ⟨⟨zi_X8_never, rfl, zq_s_callV (n := 0) (index := 352) (by decide +kernel) rfl zw_856 zw_705 zw_706 zw_80 zw_707 (by decide +kernel) (by decide +kernel) ⟨rfl, rfl⟩⟩, fun _ h => absurd h List.not_mem_nil⟩) <|
  zq_cons (zq_s_i2l (by decide +kernel)) <|
  zq_cons (⟨zi_X8_mix, rfl, zq_s_callS (n := 2) (index := 314) (by decide +kernel) zw_828 zw_829 zw_80 zw_830 (by decide +kernel) (by decide +kernel) ⟨rfl, rfl⟩⟩) <|
  zq_cons (zq_s_lstore_n (n := 1) (by decide +kernel) rfl (by decide +kernel)) <|
  zq_cons (zq_s_lload_n (n := 1) (by decide +kernel) rfl) <|
  zq_cons (zq_s_aload_n (n := 0) (by decide +kernel) rfl) <|
  zq_cons (zq_s_bipush (n := 7) (by decide +kernel) (by decide +kernel)) <|
  zq_cons (zq_s_bipush (n := 6) (by decide +kernel) (by decide +kernel)) <|
  zq_cons (zq_s_iconst (n := 0) (by decide +kernel) (by decide +kernel)) <|
  zq_cons (List.forall_mem_cons.mpr ⟨⟨zi_X8_weeks, rfl, zq_s_callV (n := 3) (index := 355) (by decide +kernel) rfl zw_857 zw_756 zw_757 zw_80 zw_758 (by decide +kernel) (by decide +kernel) ⟨rfl, rfl⟩⟩, fun _ h => absurd h List.not_mem_nil⟩) <|
  zq_cons (zq_s_i2l (by decide +kernel)) <|
  zq_cons (⟨zi_X8_mix, rfl, zq_s_callS (n := 2) (index := 314) (by decide +kernel) zw_828 zw_829 zw_80 zw_830 (by decide +kernel) (by decide +kernel) ⟨rfl, rfl⟩⟩) <|
  zq_cons (zq_s_aload_n (n := 0) (by decide +kernel) rfl) <|
  zq_cons (zq_s_bipush (n := 7) (by decide +kernel) (by decide +kernel)) <|
  zq_cons (zq_s_bipush (n := 6) (by decide +kernel) (by decide +kernel)) <|
  zq_cons (zq_s_iconst (n := 1) (by decide +kernel) (by decide +kernel)) <|
  zq_cons (List.forall_mem_cons.mpr ⟨⟨zi_X8_weeks, rfl, zq_s_callV (n := 3) (index := 355) (by decide +kernel) rfl zw_857 zw_756 zw_757 zw_80 zw_758 (by decide +kernel) (by decide +kernel) ⟨rfl, rfl⟩⟩, fun _ h => absurd h List.not_mem_nil⟩) <|
  zq_cons (zq_s_i2l (by decide +kernel)) <|
  zq_cons (⟨zi_X8_mix, rfl, zq_s_callS (n := 2) (index := 314) (by decide +kernel) zw_828 zw_829 zw_80 zw_830 (by decide +kernel) (by decide +kernel) ⟨rfl, rfl⟩⟩) <|
  zq_cons (⟨rfl, (by decide +kernel)⟩) <|
  zq_nil
def zc_X8_digest : List (Nat × zq_It) := zc_X8_digest_0 ++ (zc_X8_digest_1 ++ (zc_X8_digest_2 ++ (zc_X8_digest_3 ++ (zc_X8_digest_4))))
theorem zk_X8_digest : zq_oks zi_X8_digest zc_X8_digest := zq_app zk_X8_digest_0 (zq_app zk_X8_digest_1 (zq_app zk_X8_digest_2 (zq_app zk_X8_digest_3 (zk_X8_digest_4))))
def zc_X8_mix : List (Nat × zq_It) := [(0, .inl (zq_push 3 (.long 31))), (3, .inl (zq_ll 4 0)), (4, .inl (zq_l2 5 (fun x y => x * y))), (5, .inl (zq_ll 6 2)), (6, .inl (zq_l2 7 (fun x y => x + y))), (7, .inr (.inr 3))]
theorem zk_X8_mix : zq_oks zi_X8_mix zc_X8_mix := zq_cons (zq_s_ldc2 (index := 358) (by decide +kernel) zw_831) <|
  zq_cons (zq_s_lload_n (n := 0) (by decide +kernel) rfl) <|
  zq_cons (zq_s_lmul (by decide +kernel)) <|
  zq_cons (zq_s_lload_n (n := 2) (by decide +kernel) rfl) <|
  zq_cons (zq_s_ladd (by decide +kernel)) <|
  zq_cons (⟨rfl, (by decide +kernel)⟩) <|
  zq_nil
def zc_X8_mixStays_0 : List (Nat × zq_It) := [(0, .inl (zq_ll 1 1)), (1, .inl (zq_lst 3 4)), (3, .inl (zq_push 4 (.int 0))), (4, .inl (zq_is 6 6)), (6, .inl (zq_il 8 6)), (8, .inl (zq_push 9 (.int 2))), (9, .inl (zq_ic_gt 12 33)), (12, .inl (zq_ll 14 4)), (14, .inl (zq_al 15 0)), (15, .inl (zq_il 16 3)), (16, .inl (zq_il 18 6)), (18, .inr (.inl (3, .inr [(7, zn_X8_person)]))), (21, .inl (zq_i2l 22)), (22, .inr (.inl (2, .inl zn_X8_mix))), (25, .inl (zq_lst 27 4)), (27, .inl (zq_inc 30 6 1)), (30, .inl (zq_goto 6)), (33, .inl (zq_ll 35 4)), (35, .inl (zq_al 36 0)), (36, .inl (zq_push 37 (.int 0))), (37, .inl (zq_il 38 3)), (38, .inl (zq_push 39 (.int 0))), (39, .inr (.inl (4, .inr [(7, zn_X8_at)]))), (42, .inl (zq_i2l 43)), (43, .inr (.inl (2, .inl zn_X8_mix))), (46, .inl (zq_al 47 0)), (47, .inl (zq_push 48 (.int 0))), (48, .inl (zq_il 49 3)), (49, .inl (zq_push 50 (.int 1))), (50, .inr (.inl (4, .inr [(7, zn_X8_at)]))), (53, .inl (zq_i2l 54)), (54, .inr (.inl (2, .inl zn_X8_mix))), (57, .inl (zq_lst 59 4)), (59, .inl (zq_ll 61 4)), (61, .inl (zq_al 62 0)), (62, .inl (zq_push 63 (.int 5))), (63, .inl (zq_il 64 3)), (64, .inl (zq_push 65 (.int 0))), (65, .inr (.inl (4, .inr [(7, zn_X8_at)]))), (68, .inl (zq_i2l 69))]
theorem zk_X8_mixStays_0 : zq_oks zi_X8_mixStays zc_X8_mixStays_0 := zq_cons (zq_s_lload_n (n := 1) (by decide +kernel) rfl) <|
  zq_cons (zq_s_lstore (by decide +kernel) (by decide +kernel)) <|
  zq_cons (zq_s_iconst (n := 0) (by decide +kernel) (by decide +kernel)) <|
  zq_cons (zq_s_istore (by decide +kernel) (by decide +kernel)) <|
  zq_cons (zq_s_iload (by decide +kernel)) <|
  zq_cons (zq_s_iconst (n := 2) (by decide +kernel) (by decide +kernel)) <|
  zq_cons (zq_s_ic_gt (off := 24) (by decide +kernel) (by decide)) <|
  zq_cons (zq_s_lload (by decide +kernel)) <|
  zq_cons (zq_s_aload_n (n := 0) (by decide +kernel) rfl) <|
  zq_cons (zq_s_iload_n (n := 3) (by decide +kernel) rfl) <|
  zq_cons (zq_s_iload (by decide +kernel)) <|
  zq_cons (List.forall_mem_cons.mpr ⟨⟨zi_X8_person, rfl, zq_s_callV (n := 2) (index := 360) (by decide +kernel) rfl zw_840 zw_482 zw_483 zw_80 zw_484 (by decide +kernel) (by decide +kernel) ⟨rfl, rfl⟩⟩, fun _ h => absurd h List.not_mem_nil⟩) <|
  zq_cons (zq_s_i2l (by decide +kernel)) <|
  zq_cons (⟨zi_X8_mix, rfl, zq_s_callS (n := 2) (index := 314) (by decide +kernel) zw_828 zw_829 zw_80 zw_830 (by decide +kernel) (by decide +kernel) ⟨rfl, rfl⟩⟩) <|
  zq_cons (zq_s_lstore (by decide +kernel) (by decide +kernel)) <|
  zq_cons (zq_s_iinc (n := 1) (by decide +kernel) (by decide +kernel) (by decide +kernel)) <|
  zq_cons (zq_s_goto (off := (-24)) (by decide +kernel) (by decide)) <|
  zq_cons (zq_s_lload (by decide +kernel)) <|
  zq_cons (zq_s_aload_n (n := 0) (by decide +kernel) rfl) <|
  zq_cons (zq_s_iconst (n := 0) (by decide +kernel) (by decide +kernel)) <|
  zq_cons (zq_s_iload_n (n := 3) (by decide +kernel) rfl) <|
  zq_cons (zq_s_iconst (n := 0) (by decide +kernel) (by decide +kernel)) <|
  zq_cons (List.forall_mem_cons.mpr ⟨⟨zi_X8_at, rfl, zq_s_callV (n := 3) (index := 363) (by decide +kernel) rfl zw_841 zw_528 zw_529 zw_80 zw_530 (by decide +kernel) (by decide +kernel) ⟨rfl, rfl⟩⟩, fun _ h => absurd h List.not_mem_nil⟩) <|
  zq_cons (zq_s_i2l (by decide +kernel)) <|
  zq_cons (⟨zi_X8_mix, rfl, zq_s_callS (n := 2) (index := 314) (by decide +kernel) zw_828 zw_829 zw_80 zw_830 (by decide +kernel) (by decide +kernel) ⟨rfl, rfl⟩⟩) <|
  zq_cons (zq_s_aload_n (n := 0) (by decide +kernel) rfl) <|
  zq_cons (zq_s_iconst (n := 0) (by decide +kernel) (by decide +kernel)) <|
  zq_cons (zq_s_iload_n (n := 3) (by decide +kernel) rfl) <|
  zq_cons (zq_s_iconst (n := 1) (by decide +kernel) (by decide +kernel)) <|
  zq_cons (List.forall_mem_cons.mpr ⟨⟨zi_X8_at, rfl, zq_s_callV (n := 3) (index := 363) (by decide +kernel) rfl zw_841 zw_528 zw_529 zw_80 zw_530 (by decide +kernel) (by decide +kernel) ⟨rfl, rfl⟩⟩, fun _ h => absurd h List.not_mem_nil⟩) <|
  zq_cons (zq_s_i2l (by decide +kernel)) <|
  zq_cons (⟨zi_X8_mix, rfl, zq_s_callS (n := 2) (index := 314) (by decide +kernel) zw_828 zw_829 zw_80 zw_830 (by decide +kernel) (by decide +kernel) ⟨rfl, rfl⟩⟩) <|
  zq_cons (zq_s_lstore (by decide +kernel) (by decide +kernel)) <|
  zq_cons (zq_s_lload (by decide +kernel)) <|
  zq_cons (zq_s_aload_n (n := 0) (by decide +kernel) rfl) <|
  zq_cons (zq_s_iconst (n := 5) (by decide +kernel) (by decide +kernel)) <|
  zq_cons (zq_s_iload_n (n := 3) (by decide +kernel) rfl) <|
  zq_cons (zq_s_iconst (n := 0) (by decide +kernel) (by decide +kernel)) <|
  zq_cons (List.forall_mem_cons.mpr ⟨⟨zi_X8_at, rfl, zq_s_callV (n := 3) (index := 363) (by decide +kernel) rfl zw_841 zw_528 zw_529 zw_80 zw_530 (by decide +kernel) (by decide +kernel) ⟨rfl, rfl⟩⟩, fun _ h => absurd h List.not_mem_nil⟩) <|
  zq_cons (zq_s_i2l (by decide +kernel)) <|
  zq_nil
def zc_X8_mixStays_1 : List (Nat × zq_It) := [(69, .inr (.inl (2, .inl zn_X8_mix))), (72, .inl (zq_al 73 0)), (73, .inl (zq_push 74 (.int 5))), (74, .inl (zq_il 75 3)), (75, .inl (zq_push 76 (.int 1))), (76, .inr (.inl (4, .inr [(7, zn_X8_at)]))), (79, .inl (zq_i2l 80)), (80, .inr (.inl (2, .inl zn_X8_mix))), (83, .inl (zq_lst 85 4)), (85, .inl (zq_ll 87 4)), (87, .inl (zq_al 88 0)), (88, .inl (zq_push 90 (.int 12))), (90, .inl (zq_il 91 3)), (91, .inl (zq_push 92 (.int 0))), (92, .inr (.inl (4, .inr [(7, zn_X8_at)]))), (95, .inl (zq_i2l 96)), (96, .inr (.inl (2, .inl zn_X8_mix))), (99, .inl (zq_al 100 0)), (100, .inl (zq_push 102 (.int 12))), (102, .inl (zq_il 103 3)), (103, .inl (zq_push 104 (.int 1))), (104, .inr (.inl (4, .inr [(7, zn_X8_at)]))), (107, .inl (zq_i2l 108)), (108, .inr (.inl (2, .inl zn_X8_mix))), (111, .inl (zq_lst 113 4)), (113, .inl (zq_ll 115 4)), (115, .inl (zq_al 116 0)), (116, .inl (zq_push 118 (.int 23))), (118, .inl (zq_il 119 3)), (119, .inl (zq_push 120 (.int 0))), (120, .inr (.inl (4, .inr [(7, zn_X8_at)]))), (123, .inl (zq_i2l 124)), (124, .inr (.inl (2, .inl zn_X8_mix))), (127, .inl (zq_al 128 0)), (128, .inl (zq_push 130 (.int 23))), (130, .inl (zq_il 131 3)), (131, .inl (zq_push 132 (.int 1))), (132, .inr (.inl (4, .inr [(7, zn_X8_at)]))), (135, .inl (zq_i2l 136)), (136, .inr (.inl (2, .inl zn_X8_mix)))]
theorem zk_X8_mixStays_1 : zq_oks zi_X8_mixStays zc_X8_mixStays_1 := zq_cons (⟨zi_X8_mix, rfl, zq_s_callS (n := 2) (index := 314) (by decide +kernel) zw_828 zw_829 zw_80 zw_830 (by decide +kernel) (by decide +kernel) ⟨rfl, rfl⟩⟩) <|
  zq_cons (zq_s_aload_n (n := 0) (by decide +kernel) rfl) <|
  zq_cons (zq_s_iconst (n := 5) (by decide +kernel) (by decide +kernel)) <|
  zq_cons (zq_s_iload_n (n := 3) (by decide +kernel) rfl) <|
  zq_cons (zq_s_iconst (n := 1) (by decide +kernel) (by decide +kernel)) <|
  zq_cons (List.forall_mem_cons.mpr ⟨⟨zi_X8_at, rfl, zq_s_callV (n := 3) (index := 363) (by decide +kernel) rfl zw_841 zw_528 zw_529 zw_80 zw_530 (by decide +kernel) (by decide +kernel) ⟨rfl, rfl⟩⟩, fun _ h => absurd h List.not_mem_nil⟩) <|
  zq_cons (zq_s_i2l (by decide +kernel)) <|
  zq_cons (⟨zi_X8_mix, rfl, zq_s_callS (n := 2) (index := 314) (by decide +kernel) zw_828 zw_829 zw_80 zw_830 (by decide +kernel) (by decide +kernel) ⟨rfl, rfl⟩⟩) <|
  zq_cons (zq_s_lstore (by decide +kernel) (by decide +kernel)) <|
  zq_cons (zq_s_lload (by decide +kernel)) <|
  zq_cons (zq_s_aload_n (n := 0) (by decide +kernel) rfl) <|
  zq_cons (zq_s_bipush (n := 12) (by decide +kernel) (by decide +kernel)) <|
  zq_cons (zq_s_iload_n (n := 3) (by decide +kernel) rfl) <|
  zq_cons (zq_s_iconst (n := 0) (by decide +kernel) (by decide +kernel)) <|
  zq_cons (List.forall_mem_cons.mpr ⟨⟨zi_X8_at, rfl, zq_s_callV (n := 3) (index := 363) (by decide +kernel) rfl zw_841 zw_528 zw_529 zw_80 zw_530 (by decide +kernel) (by decide +kernel) ⟨rfl, rfl⟩⟩, fun _ h => absurd h List.not_mem_nil⟩) <|
  zq_cons (zq_s_i2l (by decide +kernel)) <|
  zq_cons (⟨zi_X8_mix, rfl, zq_s_callS (n := 2) (index := 314) (by decide +kernel) zw_828 zw_829 zw_80 zw_830 (by decide +kernel) (by decide +kernel) ⟨rfl, rfl⟩⟩) <|
  zq_cons (zq_s_aload_n (n := 0) (by decide +kernel) rfl) <|
  zq_cons (zq_s_bipush (n := 12) (by decide +kernel) (by decide +kernel)) <|
  zq_cons (zq_s_iload_n (n := 3) (by decide +kernel) rfl) <|
  zq_cons (zq_s_iconst (n := 1) (by decide +kernel) (by decide +kernel)) <|
  zq_cons (List.forall_mem_cons.mpr ⟨⟨zi_X8_at, rfl, zq_s_callV (n := 3) (index := 363) (by decide +kernel) rfl zw_841 zw_528 zw_529 zw_80 zw_530 (by decide +kernel) (by decide +kernel) ⟨rfl, rfl⟩⟩, fun _ h => absurd h List.not_mem_nil⟩) <|
  zq_cons (zq_s_i2l (by decide +kernel)) <|
  zq_cons (⟨zi_X8_mix, rfl, zq_s_callS (n := 2) (index := 314) (by decide +kernel) zw_828 zw_829 zw_80 zw_830 (by decide +kernel) (by decide +kernel) ⟨rfl, rfl⟩⟩) <|
  zq_cons (zq_s_lstore (by decide +kernel) (by decide +kernel)) <|
  zq_cons (zq_s_lload (by decide +kernel)) <|
  zq_cons (zq_s_aload_n (n := 0) (by decide +kernel) rfl) <|
  zq_cons (zq_s_bipush (n := 23) (by decide +kernel) (by decide +kernel)) <|
  zq_cons (zq_s_iload_n (n := 3) (by decide +kernel) rfl) <|
  zq_cons (zq_s_iconst (n := 0) (by decide +kernel) (by decide +kernel)) <|
  zq_cons (List.forall_mem_cons.mpr ⟨⟨zi_X8_at, rfl, zq_s_callV (n := 3) (index := 363) (by decide +kernel) rfl zw_841 zw_528 zw_529 zw_80 zw_530 (by decide +kernel) (by decide +kernel) ⟨rfl, rfl⟩⟩, fun _ h => absurd h List.not_mem_nil⟩) <|
  zq_cons (zq_s_i2l (by decide +kernel)) <|
  zq_cons (⟨zi_X8_mix, rfl, zq_s_callS (n := 2) (index := 314) (by decide +kernel) zw_828 zw_829 zw_80 zw_830 (by decide +kernel) (by decide +kernel) ⟨rfl, rfl⟩⟩) <|
  zq_cons (zq_s_aload_n (n := 0) (by decide +kernel) rfl) <|
  zq_cons (zq_s_bipush (n := 23) (by decide +kernel) (by decide +kernel)) <|
  zq_cons (zq_s_iload_n (n := 3) (by decide +kernel) rfl) <|
  zq_cons (zq_s_iconst (n := 1) (by decide +kernel) (by decide +kernel)) <|
  zq_cons (List.forall_mem_cons.mpr ⟨⟨zi_X8_at, rfl, zq_s_callV (n := 3) (index := 363) (by decide +kernel) rfl zw_841 zw_528 zw_529 zw_80 zw_530 (by decide +kernel) (by decide +kernel) ⟨rfl, rfl⟩⟩, fun _ h => absurd h List.not_mem_nil⟩) <|
  zq_cons (zq_s_i2l (by decide +kernel)) <|
  zq_cons (⟨zi_X8_mix, rfl, zq_s_callS (n := 2) (index := 314) (by decide +kernel) zw_828 zw_829 zw_80 zw_830 (by decide +kernel) (by decide +kernel) ⟨rfl, rfl⟩⟩) <|
  zq_nil
def zc_X8_mixStays_2 : List (Nat × zq_It) := [(139, .inr (.inr 3))]
theorem zk_X8_mixStays_2 : zq_oks zi_X8_mixStays zc_X8_mixStays_2 := zq_cons (⟨rfl, (by decide +kernel)⟩) <|
  zq_nil
def zc_X8_mixStays : List (Nat × zq_It) := zc_X8_mixStays_0 ++ (zc_X8_mixStays_1 ++ (zc_X8_mixStays_2))
theorem zk_X8_mixStays : zq_oks zi_X8_mixStays zc_X8_mixStays := zq_app zk_X8_mixStays_0 (zq_app zk_X8_mixStays_1 (zk_X8_mixStays_2))
def zc_X8_mixGuesses_0 : List (Nat × zq_It) := [(0, .inl (zq_ll 1 1)), (1, .inl (zq_al 2 0)), (2, .inl (zq_il 3 3)), (3, .inl (zq_push 4 (.int 0))), (4, .inr (.inl (3, .inr [(7, zn_X8_sleep)]))), (7, .inl (zq_i2l 8)), (8, .inr (.inl (2, .inl zn_X8_mix))), (11, .inl (zq_al 12 0)), (12, .inl (zq_il 13 3)), (13, .inl (zq_push 14 (.int 1))), (14, .inr (.inl (3, .inr [(7, zn_X8_sleep)]))), (17, .inl (zq_i2l 18)), (18, .inr (.inl (2, .inl zn_X8_mix))), (21, .inl (zq_lst 23 4)), (23, .inl (zq_ll 25 4)), (25, .inl (zq_al 26 0)), (26, .inl (zq_il 27 3)), (27, .inl (zq_push 28 (.int 0))), (28, .inr (.inl (3, .inr [(7, zn_X8_was)]))), (31, .inl (zq_i2l 32)), (32, .inr (.inl (2, .inl zn_X8_mix))), (35, .inl (zq_al 36 0)), (36, .inl (zq_il 37 3)), (37, .inl (zq_push 38 (.int 1))), (38, .inr (.inl (3, .inr [(7, zn_X8_was)]))), (41, .inl (zq_i2l 42)), (42, .inr (.inl (2, .inl zn_X8_mix))), (45, .inl (zq_lst 47 4)), (47, .inl (zq_ll 49 4)), (49, .inl (zq_al 50 0)), (50, .inl (zq_il 51 3)), (51, .inr (.inl (2, .inr [(7, zn_X8_ask)]))), (54, .inl (zq_i2l 55)), (55, .inr (.inl (2, .inl zn_X8_mix))), (58, .inl (zq_lst 60 4)), (60, .inl (zq_ll 62 4)), (62, .inl (zq_al 63 0)), (63, .inl (zq_push 64 (.int 5))), (64, .inl (zq_il 65 3)), (65, .inl (zq_push 67 (.int 14)))]
theorem zk_X8_mixGuesses_0 : zq_oks zi_X8_mixGuesses zc_X8_mixGuesses_0 := zq_cons (zq_s_lload_n (n := 1) (by decide +kernel) rfl) <|
  zq_cons (zq_s_aload_n (n := 0) (by decide +kernel) rfl) <|
  zq_cons (zq_s_iload_n (n := 3) (by decide +kernel) rfl) <|
  zq_cons (zq_s_iconst (n := 0) (by decide +kernel) (by decide +kernel)) <|
  zq_cons (List.forall_mem_cons.mpr ⟨⟨zi_X8_sleep, rfl, zq_s_callV (n := 2) (index := 366) (by decide +kernel) rfl zw_846 zw_651 zw_652 zw_80 zw_653 (by decide +kernel) (by decide +kernel) ⟨rfl, rfl⟩⟩, fun _ h => absurd h List.not_mem_nil⟩) <|
  zq_cons (zq_s_i2l (by decide +kernel)) <|
  zq_cons (⟨zi_X8_mix, rfl, zq_s_callS (n := 2) (index := 314) (by decide +kernel) zw_828 zw_829 zw_80 zw_830 (by decide +kernel) (by decide +kernel) ⟨rfl, rfl⟩⟩) <|
  zq_cons (zq_s_aload_n (n := 0) (by decide +kernel) rfl) <|
  zq_cons (zq_s_iload_n (n := 3) (by decide +kernel) rfl) <|
  zq_cons (zq_s_iconst (n := 1) (by decide +kernel) (by decide +kernel)) <|
  zq_cons (List.forall_mem_cons.mpr ⟨⟨zi_X8_sleep, rfl, zq_s_callV (n := 2) (index := 366) (by decide +kernel) rfl zw_846 zw_651 zw_652 zw_80 zw_653 (by decide +kernel) (by decide +kernel) ⟨rfl, rfl⟩⟩, fun _ h => absurd h List.not_mem_nil⟩) <|
  zq_cons (zq_s_i2l (by decide +kernel)) <|
  zq_cons (⟨zi_X8_mix, rfl, zq_s_callS (n := 2) (index := 314) (by decide +kernel) zw_828 zw_829 zw_80 zw_830 (by decide +kernel) (by decide +kernel) ⟨rfl, rfl⟩⟩) <|
  zq_cons (zq_s_lstore (by decide +kernel) (by decide +kernel)) <|
  zq_cons (zq_s_lload (by decide +kernel)) <|
  zq_cons (zq_s_aload_n (n := 0) (by decide +kernel) rfl) <|
  zq_cons (zq_s_iload_n (n := 3) (by decide +kernel) rfl) <|
  zq_cons (zq_s_iconst (n := 0) (by decide +kernel) (by decide +kernel)) <|
  zq_cons (List.forall_mem_cons.mpr ⟨⟨zi_X8_was, rfl, zq_s_callV (n := 2) (index := 369) (by decide +kernel) rfl zw_847 zw_714 zw_715 zw_80 zw_716 (by decide +kernel) (by decide +kernel) ⟨rfl, rfl⟩⟩, fun _ h => absurd h List.not_mem_nil⟩) <|
  zq_cons (zq_s_i2l (by decide +kernel)) <|
  zq_cons (⟨zi_X8_mix, rfl, zq_s_callS (n := 2) (index := 314) (by decide +kernel) zw_828 zw_829 zw_80 zw_830 (by decide +kernel) (by decide +kernel) ⟨rfl, rfl⟩⟩) <|
  zq_cons (zq_s_aload_n (n := 0) (by decide +kernel) rfl) <|
  zq_cons (zq_s_iload_n (n := 3) (by decide +kernel) rfl) <|
  zq_cons (zq_s_iconst (n := 1) (by decide +kernel) (by decide +kernel)) <|
  zq_cons (List.forall_mem_cons.mpr ⟨⟨zi_X8_was, rfl, zq_s_callV (n := 2) (index := 369) (by decide +kernel) rfl zw_847 zw_714 zw_715 zw_80 zw_716 (by decide +kernel) (by decide +kernel) ⟨rfl, rfl⟩⟩, fun _ h => absurd h List.not_mem_nil⟩) <|
  zq_cons (zq_s_i2l (by decide +kernel)) <|
  zq_cons (⟨zi_X8_mix, rfl, zq_s_callS (n := 2) (index := 314) (by decide +kernel) zw_828 zw_829 zw_80 zw_830 (by decide +kernel) (by decide +kernel) ⟨rfl, rfl⟩⟩) <|
  zq_cons (zq_s_lstore (by decide +kernel) (by decide +kernel)) <|
  zq_cons (zq_s_lload (by decide +kernel)) <|
  zq_cons (zq_s_aload_n (n := 0) (by decide +kernel) rfl) <|
  zq_cons (zq_s_iload_n (n := 3) (by decide +kernel) rfl) <|
  zq_cons (List.forall_mem_cons.mpr ⟨⟨zi_X8_ask, rfl, zq_s_callV (n := 1) (index := 372) (by decide +kernel) rfl zw_848 zw_726 zw_727 zw_80 zw_728 (by decide +kernel) (by decide +kernel) ⟨rfl, rfl⟩⟩, fun _ h => absurd h List.not_mem_nil⟩) <|
  zq_cons (zq_s_i2l (by decide +kernel)) <|
  zq_cons (⟨zi_X8_mix, rfl, zq_s_callS (n := 2) (index := 314) (by decide +kernel) zw_828 zw_829 zw_80 zw_830 (by decide +kernel) (by decide +kernel) ⟨rfl, rfl⟩⟩) <|
  zq_cons (zq_s_lstore (by decide +kernel) (by decide +kernel)) <|
  zq_cons (zq_s_lload (by decide +kernel)) <|
  zq_cons (zq_s_aload_n (n := 0) (by decide +kernel) rfl) <|
  zq_cons (zq_s_iconst (n := 5) (by decide +kernel) (by decide +kernel)) <|
  zq_cons (zq_s_iload_n (n := 3) (by decide +kernel) rfl) <|
  zq_cons (zq_s_bipush (n := 14) (by decide +kernel) (by decide +kernel)) <|
  zq_nil
def zc_X8_mixGuesses_1 : List (Nat × zq_It) := [(67, .inl (zq_push 68 (.int 0))), (68, .inr (.inl (5, .inr [(7, zn_X8_chance)]))), (71, .inr (.inl (2, .inl zn_X8_mix))), (74, .inl (zq_al 75 0)), (75, .inl (zq_push 76 (.int 5))), (76, .inl (zq_il 77 3)), (77, .inl (zq_push 79 (.int 14))), (79, .inl (zq_push 80 (.int 1))), (80, .inr (.inl (5, .inr [(7, zn_X8_chance)]))), (83, .inr (.inl (2, .inl zn_X8_mix))), (86, .inl (zq_lst 88 4)), (88, .inl (zq_ll 90 4)), (90, .inl (zq_il 91 3)), (91, .inl (zq_if_ne 94 98)), (94, .inl (zq_push 95 (.long 0))), (95, .inl (zq_goto 105)), (98, .inl (zq_al 99 0)), (99, .inl (zq_push 100 (.int 0))), (100, .inl (zq_il 101 3)), (101, .inr (.inl (3, .inr [(7, zn_X8_meet)]))), (104, .inl (zq_i2l 105)), (105, .inr (.inl (2, .inl zn_X8_mix))), (108, .inr (.inr 3))]
theorem zk_X8_mixGuesses_1 : zq_oks zi_X8_mixGuesses zc_X8_mixGuesses_1 := zq_cons (zq_s_iconst (n := 0) (by decide +kernel) (by decide +kernel)) <|
  zq_cons (List.forall_mem_cons.mpr ⟨⟨zi_X8_chance, rfl, zq_s_callV (n := 4) (index := 375) (by decide +kernel) rfl zw_849 zw_736 zw_737 zw_80 zw_738 (by decide +kernel) (by decide +kernel) ⟨rfl, rfl⟩⟩, fun _ h => absurd h List.not_mem_nil⟩) <|
  zq_cons (⟨zi_X8_mix, rfl, zq_s_callS (n := 2) (index := 314) (by decide +kernel) zw_828 zw_829 zw_80 zw_830 (by decide +kernel) (by decide +kernel) ⟨rfl, rfl⟩⟩) <|
  zq_cons (zq_s_aload_n (n := 0) (by decide +kernel) rfl) <|
  zq_cons (zq_s_iconst (n := 5) (by decide +kernel) (by decide +kernel)) <|
  zq_cons (zq_s_iload_n (n := 3) (by decide +kernel) rfl) <|
  zq_cons (zq_s_bipush (n := 14) (by decide +kernel) (by decide +kernel)) <|
  zq_cons (zq_s_iconst (n := 1) (by decide +kernel) (by decide +kernel)) <|
  zq_cons (List.forall_mem_cons.mpr ⟨⟨zi_X8_chance, rfl, zq_s_callV (n := 4) (index := 375) (by decide +kernel) rfl zw_849 zw_736 zw_737 zw_80 zw_738 (by decide +kernel) (by decide +kernel) ⟨rfl, rfl⟩⟩, fun _ h => absurd h List.not_mem_nil⟩) <|
  zq_cons (⟨zi_X8_mix, rfl, zq_s_callS (n := 2) (index := 314) (by decide +kernel) zw_828 zw_829 zw_80 zw_830 (by decide +kernel) (by decide +kernel) ⟨rfl, rfl⟩⟩) <|
  zq_cons (zq_s_lstore (by decide +kernel) (by decide +kernel)) <|
  zq_cons (zq_s_lload (by decide +kernel)) <|
  zq_cons (zq_s_iload_n (n := 3) (by decide +kernel) rfl) <|
  zq_cons (zq_s_if_ne (off := 7) (by decide +kernel) (by decide)) <|
  zq_cons (zq_s_lconst (n := 0) (by decide +kernel) (by decide +kernel)) <|
  zq_cons (zq_s_goto (off := 10) (by decide +kernel) (by decide)) <|
  zq_cons (zq_s_aload_n (n := 0) (by decide +kernel) rfl) <|
  zq_cons (zq_s_iconst (n := 0) (by decide +kernel) (by decide +kernel)) <|
  zq_cons (zq_s_iload_n (n := 3) (by decide +kernel) rfl) <|
  zq_cons (List.forall_mem_cons.mpr ⟨⟨zi_X8_meet, rfl, zq_s_callV (n := 2) (index := 379) (by decide +kernel) rfl zw_850 zw_593 zw_594 zw_80 zw_595 (by decide +kernel) (by decide +kernel) ⟨rfl, rfl⟩⟩, fun _ h => absurd h List.not_mem_nil⟩) <|
  zq_cons (zq_s_i2l (by decide +kernel)) <|
  zq_cons (⟨zi_X8_mix, rfl, zq_s_callS (n := 2) (index := 314) (by decide +kernel) zw_828 zw_829 zw_80 zw_830 (by decide +kernel) (by decide +kernel) ⟨rfl, rfl⟩⟩) <|
  zq_cons (⟨rfl, (by decide +kernel)⟩) <|
  zq_nil
def zc_X8_mixGuesses : List (Nat × zq_It) := zc_X8_mixGuesses_0 ++ (zc_X8_mixGuesses_1)
theorem zk_X8_mixGuesses : zq_oks zi_X8_mixGuesses zc_X8_mixGuesses := zq_app zk_X8_mixGuesses_0 (zk_X8_mixGuesses_1)
def zc_X8_within : List (Nat × zq_It) := [(0, .inl (zq_il 1 0)), (1, .inl (zq_il 2 1)), (2, .inl (zq_ic_lt 5 14)), (5, .inl (zq_il 6 0)), (6, .inl (zq_il 7 2)), (7, .inl (zq_ic_gt 10 14)), (10, .inl (zq_push 11 (.int 1))), (11, .inl (zq_goto 15)), (14, .inl (zq_push 15 (.int 0))), (15, .inr (.inr 2))]
theorem zk_X8_within : zq_oks zi_X8_within zc_X8_within := zq_cons (zq_s_iload_n (n := 0) (by decide +kernel) rfl) <|
  zq_cons (zq_s_iload_n (n := 1) (by decide +kernel) rfl) <|
  zq_cons (zq_s_ic_lt (off := 12) (by decide +kernel) (by decide)) <|
  zq_cons (zq_s_iload_n (n := 0) (by decide +kernel) rfl) <|
  zq_cons (zq_s_iload_n (n := 2) (by decide +kernel) rfl) <|
  zq_cons (zq_s_ic_gt (off := 7) (by decide +kernel) (by decide)) <|
  zq_cons (zq_s_iconst (n := 1) (by decide +kernel) (by decide +kernel)) <|
  zq_cons (zq_s_goto (off := 4) (by decide +kernel) (by decide)) <|
  zq_cons (zq_s_iconst (n := 0) (by decide +kernel) (by decide +kernel)) <|
  zq_cons (⟨rfl, (by decide +kernel)⟩) <|
  zq_nil
def zc_X8_isHour : List (Nat × zq_It) := [(0, .inl (zq_il 1 0)), (1, .inl (zq_push 2 (.int 0))), (2, .inl (zq_push 4 (.int 23))), (4, .inr (.inl (3, .inl zn_X8_within))), (7, .inr (.inr 2))]
theorem zk_X8_isHour : zq_oks zi_X8_isHour zc_X8_isHour := zq_cons (zq_s_iload_n (n := 0) (by decide +kernel) rfl) <|
  zq_cons (zq_s_iconst (n := 0) (by decide +kernel) (by decide +kernel)) <|
  zq_cons (zq_s_bipush (n := 23) (by decide +kernel) (by decide +kernel)) <|
  zq_cons (⟨zi_X8_within, rfl, zq_s_callS (n := 3) (index := 98) (by decide +kernel) zw_383 zw_384 zw_80 zw_385 (by decide +kernel) (by decide +kernel) ⟨rfl, rfl⟩⟩) <|
  zq_cons (⟨rfl, (by decide +kernel)⟩) <|
  zq_nil
def zc_X8_isRoom : List (Nat × zq_It) := [(0, .inl (zq_il 1 0)), (1, .inl (zq_push 2 (.int 0))), (2, .inl (zq_push 4 (.int 7))), (4, .inr (.inl (3, .inl zn_X8_within))), (7, .inr (.inr 2))]
theorem zk_X8_isRoom : zq_oks zi_X8_isRoom zc_X8_isRoom := zq_cons (zq_s_iload_n (n := 0) (by decide +kernel) rfl) <|
  zq_cons (zq_s_iconst (n := 0) (by decide +kernel) (by decide +kernel)) <|
  zq_cons (zq_s_bipush (n := 7) (by decide +kernel) (by decide +kernel)) <|
  zq_cons (⟨zi_X8_within, rfl, zq_s_callS (n := 3) (index := 98) (by decide +kernel) zw_383 zw_384 zw_80 zw_385 (by decide +kernel) (by decide +kernel) ⟨rfl, rfl⟩⟩) <|
  zq_cons (⟨rfl, (by decide +kernel)⟩) <|
  zq_nil
def zc_X8_isSheet : List (Nat × zq_It) := [(0, .inl (zq_il 1 0)), (1, .inl (zq_push 2 (.int 0))), (2, .inl (zq_push 3 (.int 3))), (3, .inr (.inl (3, .inl zn_X8_within))), (6, .inr (.inr 2))]
theorem zk_X8_isSheet : zq_oks zi_X8_isSheet zc_X8_isSheet := zq_cons (zq_s_iload_n (n := 0) (by decide +kernel) rfl) <|
  zq_cons (zq_s_iconst (n := 0) (by decide +kernel) (by decide +kernel)) <|
  zq_cons (zq_s_iconst (n := 3) (by decide +kernel) (by decide +kernel)) <|
  zq_cons (⟨zi_X8_within, rfl, zq_s_callS (n := 3) (index := 98) (by decide +kernel) zw_383 zw_384 zw_80 zw_385 (by decide +kernel) (by decide +kernel) ⟨rfl, rfl⟩⟩) <|
  zq_cons (⟨rfl, (by decide +kernel)⟩) <|
  zq_nil
def zc_X8_isForm : List (Nat × zq_It) := [(0, .inl (zq_il 1 0)), (1, .inl (zq_push 2 (.int 0))), (2, .inl (zq_push 3 (.int 2))), (3, .inr (.inl (3, .inl zn_X8_within))), (6, .inr (.inr 2))]
theorem zk_X8_isForm : zq_oks zi_X8_isForm zc_X8_isForm := zq_cons (zq_s_iload_n (n := 0) (by decide +kernel) rfl) <|
  zq_cons (zq_s_iconst (n := 0) (by decide +kernel) (by decide +kernel)) <|
  zq_cons (zq_s_iconst (n := 2) (by decide +kernel) (by decide +kernel)) <|
  zq_cons (⟨zi_X8_within, rfl, zq_s_callS (n := 3) (index := 98) (by decide +kernel) zw_383 zw_384 zw_80 zw_385 (by decide +kernel) (by decide +kernel) ⟨rfl, rfl⟩⟩) <|
  zq_cons (⟨rfl, (by decide +kernel)⟩) <|
  zq_nil
def zc_X8_isEvent : List (Nat × zq_It) := [(0, .inl (zq_il 1 0)), (1, .inl (zq_if_ne 4 9)), (4, .inl (zq_push 6 (.int 7))), (6, .inl (zq_goto 11)), (9, .inl (zq_push 11 (.int 11))), (11, .inl (zq_is 12 3)), (12, .inl (zq_il 13 0)), (13, .inl (zq_push 14 (.int 0))), (14, .inl (zq_push 15 (.int 1))), (15, .inr (.inl (3, .inl zn_X8_within))), (18, .inl (zq_if_eq 21 41)), (21, .inl (zq_il 22 1)), (22, .inr (.inl (1, .inl zn_X8_isHour))), (25, .inl (zq_if_eq 28 41)), (28, .inl (zq_il 29 2)), (29, .inl (zq_push 30 (.int 0))), (30, .inl (zq_il 31 3)), (31, .inr (.inl (3, .inl zn_X8_within))), (34, .inl (zq_if_eq 37 41)), (37, .inl (zq_push 38 (.int 1))), (38, .inl (zq_goto 42)), (41, .inl (zq_push 42 (.int 0))), (42, .inr (.inr 2))]
theorem zk_X8_isEvent : zq_oks zi_X8_isEvent zc_X8_isEvent := zq_cons (zq_s_iload_n (n := 0) (by decide +kernel) rfl) <|
  zq_cons (zq_s_if_ne (off := 8) (by decide +kernel) (by decide)) <|
  zq_cons (zq_s_bipush (n := 7) (by decide +kernel) (by decide +kernel)) <|
  zq_cons (zq_s_goto (off := 5) (by decide +kernel) (by decide)) <|
  zq_cons (zq_s_bipush (n := 11) (by decide +kernel) (by decide +kernel)) <|
  zq_cons (zq_s_istore_n (n := 3) (by decide +kernel) rfl (by decide +kernel)) <|
  zq_cons (zq_s_iload_n (n := 0) (by decide +kernel) rfl) <|
  zq_cons (zq_s_iconst (n := 0) (by decide +kernel) (by decide +kernel)) <|
  zq_cons (zq_s_iconst (n := 1) (by decide +kernel) (by decide +kernel)) <|
  zq_cons (⟨zi_X8_within, rfl, zq_s_callS (n := 3) (index := 98) (by decide +kernel) zw_383 zw_384 zw_80 zw_385 (by decide +kernel) (by decide +kernel) ⟨rfl, rfl⟩⟩) <|
  zq_cons (zq_s_if_eq (off := 23) (by decide +kernel) (by decide)) <|
  zq_cons (zq_s_iload_n (n := 1) (by decide +kernel) rfl) <|
  zq_cons (⟨zi_X8_isHour, rfl, zq_s_callS (n := 1) (index := 174) (by decide +kernel) zw_500 zw_501 zw_80 zw_502 (by decide +kernel) (by decide +kernel) ⟨rfl, rfl⟩⟩) <|
  zq_cons (zq_s_if_eq (off := 16) (by decide +kernel) (by decide)) <|
  zq_cons (zq_s_iload_n (n := 2) (by decide +kernel) rfl) <|
  zq_cons (zq_s_iconst (n := 0) (by decide +kernel) (by decide +kernel)) <|
  zq_cons (zq_s_iload_n (n := 3) (by decide +kernel) rfl) <|
  zq_cons (⟨zi_X8_within, rfl, zq_s_callS (n := 3) (index := 98) (by decide +kernel) zw_383 zw_384 zw_80 zw_385 (by decide +kernel) (by decide +kernel) ⟨rfl, rfl⟩⟩) <|
  zq_cons (zq_s_if_eq (off := 7) (by decide +kernel) (by decide)) <|
  zq_cons (zq_s_iconst (n := 1) (by decide +kernel) (by decide +kernel)) <|
  zq_cons (zq_s_goto (off := 4) (by decide +kernel) (by decide)) <|
  zq_cons (zq_s_iconst (n := 0) (by decide +kernel) (by decide +kernel)) <|
  zq_cons (⟨rfl, (by decide +kernel)⟩) <|
  zq_nil
def zc_X8_isPerson : List (Nat × zq_It) := [(0, .inl (zq_il 1 1)), (1, .inl (zq_push 2 (.int 0))), (2, .inl (zq_al 3 0)), (3, .inl (zq_getf 6 [(7, 1)])), (6, .inl (zq_getf 9 [(3, 5)])), (9, .inl (zq_push 10 (.int 1))), (10, .inl (zq_i2 11 (fun x y => x - y))), (11, .inr (.inl (3, .inl zn_X8_within))), (14, .inr (.inr 2))]
theorem zk_X8_isPerson : zq_oks zi_X8_isPerson zc_X8_isPerson := zq_cons (zq_s_iload_n (n := 1) (by decide +kernel) rfl) <|
  zq_cons (zq_s_iconst (n := 0) (by decide +kernel) (by decide +kernel)) <|
  zq_cons (zq_s_aload_n (n := 0) (by decide +kernel) rfl) <|
  zq_cons (zq_s_getf (index := 19) (by decide +kernel) zf_X8_19) <|
  zq_cons (zq_s_getf (index := 300) (by decide +kernel) zf_X8_300) <|
  zq_cons (zq_s_iconst (n := 1) (by decide +kernel) (by decide +kernel)) <|
  zq_cons (zq_s_isub (by decide +kernel)) <|
  zq_cons (⟨zi_X8_within, rfl, zq_s_callS (n := 3) (index := 98) (by decide +kernel) zw_383 zw_384 zw_80 zw_385 (by decide +kernel) (by decide +kernel) ⟨rfl, rfl⟩⟩) <|
  zq_cons (⟨rfl, (by decide +kernel)⟩) <|
  zq_nil
def zc_X8_textOf : List (Nat × zq_It) := [(0, .inl (zq_il 1 1)), (1, .inl (zq_if_ne 4 9)), (4, .inl (zq_al 5 0)), (5, .inl (zq_getf 8 [(7, 0)])), (8, .inr (.inr 4)), (9, .inl (zq_il 10 1)), (10, .inl (zq_push 11 (.int 1))), (11, .inl (zq_ic_ne 14 21)), (14, .inl (zq_al 15 0)), (15, .inl (zq_getf 18 [(7, 1)])), (18, .inl (zq_goto 22)), (21, .inl (zq_push 22 .null)), (22, .inr (.inr 4))]
theorem zk_X8_textOf : zq_oks zi_X8_textOf zc_X8_textOf := zq_cons (zq_s_iload_n (n := 1) (by decide +kernel) rfl) <|
  zq_cons (zq_s_if_ne (off := 8) (by decide +kernel) (by decide)) <|
  zq_cons (zq_s_aload_n (n := 0) (by decide +kernel) rfl) <|
  zq_cons (zq_s_getf (index := 10) (by decide +kernel) zf_X8_10) <|
  zq_cons (⟨⟨_, rfl⟩, (by decide +kernel)⟩) <|
  zq_cons (zq_s_iload_n (n := 1) (by decide +kernel) rfl) <|
  zq_cons (zq_s_iconst (n := 1) (by decide +kernel) (by decide +kernel)) <|
  zq_cons (zq_s_ic_ne (off := 10) (by decide +kernel) (by decide)) <|
  zq_cons (zq_s_aload_n (n := 0) (by decide +kernel) rfl) <|
  zq_cons (zq_s_getf (index := 19) (by decide +kernel) zf_X8_19) <|
  zq_cons (zq_s_goto (off := 4) (by decide +kernel) (by decide)) <|
  zq_cons (zq_s_null (by decide +kernel)) <|
  zq_cons (⟨⟨_, rfl⟩, (by decide +kernel)⟩) <|
  zq_nil
