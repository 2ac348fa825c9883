def zc_X8_textChanged : List (Nat × zq_It) := [(0, .inl (zq_al 1 0)), (1, .inl (zq_getf 4 [(7, 7)])), (4, .inr (.inl (1, .inr [(6, zn_X7_forgetSteps)]))), (7, .inl (zq_al 8 0)), (8, .inl (zq_getf 11 [(7, 8)])), (11, .inr (.inl (1, .inr [(6, zn_X7_forgetSteps)]))), (14, .inl (zq_al 15 0)), (15, .inr (.inl (1, .inr [(7, zn_X8_changed)]))), (18, .inr (.inr 0))]
theorem zk_X8_textChanged : zq_oks zi_X8_textChanged zc_X8_textChanged := zq_cons (zq_s_aload_n (n := 0) (by decide +kernel) rfl) <|
  zq_cons (zq_s_getf (index := 59) (by decide +kernel) zf_X8_59) <|
  zq_cons (List.forall_mem_cons.mpr ⟨⟨zi_X7_forgetSteps, rfl, zq_s_callV (n := 0) (index := 382) (by decide +kernel) rfl zw_451 zw_452 zw_453 zw_89 zw_454 (by decide +kernel) (by decide +kernel) ⟨rfl, rfl⟩⟩, fun _ h => absurd h List.not_mem_nil⟩) <|
  zq_cons (zq_s_aload_n (n := 0) (by decide +kernel) rfl) <|
  zq_cons (zq_s_getf (index := 63) (by decide +kernel) zf_X8_63) <|
  zq_cons (List.forall_mem_cons.mpr ⟨⟨zi_X7_forgetSteps, rfl, zq_s_callV (n := 0) (index := 382) (by decide +kernel) rfl zw_451 zw_452 zw_453 zw_89 zw_454 (by decide +kernel) (by decide +kernel) ⟨rfl, rfl⟩⟩, fun _ h => absurd h List.not_mem_nil⟩) <|
  zq_cons (zq_s_aload_n (n := 0) (by decide +kernel) rfl) <|
  zq_cons (List.forall_mem_cons.mpr ⟨⟨zi_X8_changed, rfl, zq_s_callV (n := 0) (index := 146) (by decide +kernel) rfl zw_455 zw_457 zw_3 zw_80 zw_458 (by decide +kernel) (by decide +kernel) ⟨rfl, rfl⟩⟩, fun _ h => absurd h List.not_mem_nil⟩) <|
  zq_cons (⟨rfl, (by decide +kernel)⟩) <|
  zq_nil
def zc_X8_changed : List (Nat × zq_It) := [(0, .inl (zq_al 1 0)), (1, .inl (zq_push 2 (.int 0))), (2, .inl (zq_puti 5 true [(7, 14)])), (5, .inl (zq_al 6 0)), (6, .inl (zq_push 7 (.int (-1)))), (7, .inl (zq_puti 10 false [(7, 16)])), (10, .inr (.inr 0))]
theorem zk_X8_changed : zq_oks zi_X8_changed zc_X8_changed := zq_cons (zq_s_aload_n (n := 0) (by decide +kernel) rfl) <|
  zq_cons (zq_s_iconst (n := 0) (by decide +kernel) (by decide +kernel)) <|
  zq_cons (zq_s_puti (index := 84) (by decide +kernel) zp_X8_84 zq_bz) <|
  zq_cons (zq_s_aload_n (n := 0) (by decide +kernel) rfl) <|
  zq_cons (zq_s_iconst (n := (-1)) (by decide +kernel) (by decide +kernel)) <|
  zq_cons (zq_s_puti (index := 91) (by decide +kernel) zp_X8_91 (fun _ _ => ⟨rfl, rfl⟩)) <|
  zq_cons (⟨rfl, (by decide +kernel)⟩) <|
  zq_nil
def zc_X8_weekAsTold : List (Nat × zq_It) := [(0, .inl (zq_al 1 0)), (1, .inl (zq_getf 4 [(7, 14)])), (4, .inl (zq_if_ne 7 28)), (7, .inl (zq_al 8 0)), (8, .inl (zq_getf 11 [(7, 7)])), (11, .inl (zq_al 12 0)), (12, .inl (zq_getf 15 [(7, 2)])), (15, .inl (zq_push 16 (.int 0))), (16, .inl (zq_al 17 0)), (17, .inl (zq_getf 20 [(7, 12)])), (20, .inr (.inl (4, .inr [(6, zn_X7_runWith)]))), (23, .inl (zq_al 24 0)), (24, .inl (zq_push 25 (.int 1))), (25, .inl (zq_puti 28 true [(7, 14)])), (28, .inl (zq_al 29 0)), (29, .inl (zq_getf 32 [(7, 7)])), (32, .inr (.inr 4))]
theorem zk_X8_weekAsTold : zq_oks zi_X8_weekAsTold zc_X8_weekAsTold := zq_cons (zq_s_aload_n (n := 0) (by decide +kernel) rfl) <|
  zq_cons (zq_s_getf (index := 84) (by decide +kernel) zf_X8_84) <|
  zq_cons (zq_s_if_ne (off := 24) (by decide +kernel) (by decide)) <|
  zq_cons (zq_s_aload_n (n := 0) (by decide +kernel) rfl) <|
  zq_cons (zq_s_getf (index := 59) (by decide +kernel) zf_X8_59) <|
  zq_cons (zq_s_aload_n (n := 0) (by decide +kernel) rfl) <|
  zq_cons (zq_s_getf (index := 26) (by decide +kernel) zf_X8_26) <|
  zq_cons (zq_s_iconst (n := 0) (by decide +kernel) (by decide +kernel)) <|
  zq_cons (zq_s_aload_n (n := 0) (by decide +kernel) rfl) <|
  zq_cons (zq_s_getf (index := 77) (by decide +kernel) zf_X8_77) <|
  zq_cons (List.forall_mem_cons.mpr ⟨⟨zi_X7_runWith, rfl, zq_s_callV (n := 3) (index := 219) (by decide +kernel) rfl zw_535 zw_536 zw_537 zw_89 zw_538 (by decide +kernel) (by decide +kernel) ⟨rfl, rfl⟩⟩, fun _ h => absurd h List.not_mem_nil⟩) <|
  zq_cons (zq_s_aload_n (n := 0) (by decide +kernel) rfl) <|
  zq_cons (zq_s_iconst (n := 1) (by decide +kernel) (by decide +kernel)) <|
  zq_cons (zq_s_puti (index := 84) (by decide +kernel) zp_X8_84 zq_bz) <|
  zq_cons (zq_s_aload_n (n := 0) (by decide +kernel) rfl) <|
  zq_cons (zq_s_getf (index := 59) (by decide +kernel) zf_X8_59) <|
  zq_cons (⟨⟨_, rfl⟩, (by decide +kernel)⟩) <|
  zq_nil
def zc_X8_emptyHoursOfAll : List (Nat × zq_It) := [(0, .inl (zq_al 1 0)), (1, .inr (.inl (1, .inr [(7, zn_X8_weekAsTold)]))), (4, .inl (zq_as 5 1)), (5, .inl (zq_push 6 (.int 0))), (6, .inl (zq_is 7 2)), (7, .inl (zq_push 8 (.int 0))), (8, .inl (zq_is 9 3)), (9, .inl (zq_il 10 3)), (10, .inl (zq_push 12 (.int 8))), (12, .inl (zq_ic_ge 15 32)), (15, .inl (zq_il 16 2)), (16, .inl (zq_al 17 1)), (17, .inl (zq_il 18 3)), (18, .inr (.inl (2, .inr [(6, zn_X7_emptyHours)]))), (21, .inr (.inl (1, .inl zn_J6_bitCount_0f7a4))), (24, .inl (zq_i2 25 (fun x y => x + y))), (25, .inl (zq_is 26 2)), (26, .inl (zq_inc 29 3 1)), (29, .inl (zq_goto 9)), (32, .inl (zq_il 33 2)), (33, .inr (.inr 1))]
theorem zk_X8_emptyHoursOfAll : zq_oks zi_X8_emptyHoursOfAll zc_X8_emptyHoursOfAll := zq_cons (zq_s_aload_n (n := 0) (by decide +kernel) rfl) <|
  zq_cons (List.forall_mem_cons.mpr ⟨⟨zi_X8_weekAsTold, rfl, zq_s_callV (n := 0) (index := 177) (by decide +kernel) rfl zw_531 zw_533 zw_6 zw_80 zw_534 (by decide +kernel) (by decide +kernel) ⟨rfl, rfl⟩⟩, fun _ h => absurd h List.not_mem_nil⟩) <|
  zq_cons (zq_s_astore_n (n := 1) (by decide +kernel) rfl (by decide +kernel)) <|
  zq_cons (zq_s_iconst (n := 0) (by decide +kernel) (by decide +kernel)) <|
  zq_cons (zq_s_istore_n (n := 2) (by decide +kernel) rfl (by decide +kernel)) <|
  zq_cons (zq_s_iconst (n := 0) (by decide +kernel) (by decide +kernel)) <|
  zq_cons (zq_s_istore_n (n := 3) (by decide +kernel) rfl (by decide +kernel)) <|
  zq_cons (zq_s_iload_n (n := 3) (by decide +kernel) rfl) <|
  zq_cons (zq_s_bipush (n := 8) (by decide +kernel) (by decide +kernel)) <|
  zq_cons (zq_s_ic_ge (off := 20) (by decide +kernel) (by decide)) <|
  zq_cons (zq_s_iload_n (n := 2) (by decide +kernel) rfl) <|
  zq_cons (zq_s_aload_n (n := 1) (by decide +kernel) rfl) <|
  zq_cons (zq_s_iload_n (n := 3) (by decide +kernel) rfl) <|
  zq_cons (List.forall_mem_cons.mpr ⟨⟨zi_X7_emptyHours, rfl, zq_s_callV (n := 1) (index := 194) (by decide +kernel) rfl zw_600 zw_601 zw_602 zw_89 zw_603 (by decide +kernel) (by decide +kernel) ⟨rfl, rfl⟩⟩, fun _ h => absurd h List.not_mem_nil⟩) <|
  zq_cons (⟨zi_J6_bitCount_0f7a4, rfl, zq_s_callS (n := 1) (index := 233) (by decide +kernel) zw_688 zw_632 zw_92 zw_633 (by decide +kernel) (by decide +kernel) ⟨rfl, rfl⟩⟩) <|
  zq_cons (zq_s_iadd (by decide +kernel)) <|
  zq_cons (zq_s_istore_n (n := 2) (by decide +kernel) rfl (by decide +kernel)) <|
  zq_cons (zq_s_iinc (n := 1) (by decide +kernel) (by decide +kernel) (by decide +kernel)) <|
  zq_cons (zq_s_goto (off := (-20)) (by decide +kernel) (by decide)) <|
  zq_cons (zq_s_iload_n (n := 2) (by decide +kernel) rfl) <|
  zq_cons (⟨rfl, (by decide +kernel)⟩) <|
  zq_nil
def zc_X8_sparedRow_0 : List (Nat × zq_It) := [(0, .inl (zq_al 1 0)), (1, .inl (zq_push 2 (.int 0))), (2, .inr (.inl (2, .inr [(7, zn_X8_nobodyAloneWithout)]))), (5, .inl (zq_if_eq 8 10)), (8, .inl (zq_push 9 (.int 0))), (9, .inr (.inr 1)), (10, .inl (zq_push 11 (.int 0))), (11, .inl (zq_is 12 1)), (12, .inl (zq_il 13 1)), (13, .inl (zq_al 14 0)), (14, .inl (zq_getf 17 [(7, 2)])), (17, .inl (zq_getf 20 [(1, 3)])), (20, .inl (zq_ic_ge 23 43)), (23, .inl (zq_al 24 0)), (24, .inl (zq_push 25 (.int 1))), (25, .inl (zq_il 26 1)), (26, .inl (zq_i2 27 (fun x y => x <<< (y &&& 31)))), (27, .inr (.inl (2, .inr [(7, zn_X8_nobodyAloneWithout)]))), (30, .inl (zq_if_eq 33 37)), (33, .inl (zq_push 34 (.int 1))), (34, .inl (zq_il 35 1)), (35, .inl (zq_i2 36 (fun x y => x <<< (y &&& 31)))), (36, .inr (.inr 1)), (37, .inl (zq_inc 40 1 1)), (40, .inl (zq_goto 12)), (43, .inl (zq_push 44 (.int 0))), (44, .inl (zq_is 45 1)), (45, .inl (zq_il 46 1)), (46, .inl (zq_al 47 0)), (47, .inl (zq_getf 50 [(7, 2)])), (50, .inl (zq_getf 53 [(1, 3)])), (53, .inl (zq_ic_ge 56 105)), (56, .inl (zq_il 57 1)), (57, .inl (zq_push 58 (.int 1))), (58, .inl (zq_i2 59 (fun x y => x + y))), (59, .inl (zq_is 60 2)), (60, .inl (zq_il 61 2)), (61, .inl (zq_al 62 0)), (62, .inl (zq_getf 65 [(7, 2)])), (65, .inl (zq_getf 68 [(1, 3)]))]
theorem zk_X8_sparedRow_0 : zq_oks zi_X8_sparedRow zc_X8_sparedRow_0 := zq_cons (zq_s_aload_n (n := 0) (by decide +kernel) rfl) <|
  zq_cons (zq_s_iconst (n := 0) (by decide +kernel) (by decide +kernel)) <|
  zq_cons (List.forall_mem_cons.mpr ⟨⟨zi_X8_nobodyAloneWithout, rfl, zq_s_callV (n := 1) (index := 385) (by decide +kernel) rfl zw_684 zw_686 zw_13 zw_80 zw_687 (by decide +kernel) (by decide +kernel) ⟨rfl, rfl⟩⟩, fun _ h => absurd h List.not_mem_nil⟩) <|
  zq_cons (zq_s_if_eq (off := 5) (by decide +kernel) (by decide)) <|
  zq_cons (zq_s_iconst (n := 0) (by decide +kernel) (by decide +kernel)) <|
  zq_cons (⟨rfl, (by decide +kernel)⟩) <|
  zq_cons (zq_s_iconst (n := 0) (by decide +kernel) (by decide +kernel)) <|
  zq_cons (zq_s_istore_n (n := 1) (by decide +kernel) rfl (by decide +kernel)) <|
  zq_cons (zq_s_iload_n (n := 1) (by decide +kernel) rfl) <|
  zq_cons (zq_s_aload_n (n := 0) (by decide +kernel) rfl) <|
  zq_cons (zq_s_getf (index := 26) (by decide +kernel) zf_X8_26) <|
  zq_cons (zq_s_getf (index := 152) (by decide +kernel) zf_X8_152) <|
  zq_cons (zq_s_ic_ge (off := 23) (by decide +kernel) (by decide)) <|
  zq_cons (zq_s_aload_n (n := 0) (by decide +kernel) rfl) <|
  zq_cons (zq_s_iconst (n := 1) (by decide +kernel) (by decide +kernel)) <|
  zq_cons (zq_s_iload_n (n := 1) (by decide +kernel) rfl) <|
  zq_cons (zq_s_ishl (by decide +kernel)) <|
  zq_cons (List.forall_mem_cons.mpr ⟨⟨zi_X8_nobodyAloneWithout, rfl, zq_s_callV (n := 1) (index := 385) (by decide +kernel) rfl zw_684 zw_686 zw_13 zw_80 zw_687 (by decide +kernel) (by decide +kernel) ⟨rfl, rfl⟩⟩, fun _ h => absurd h List.not_mem_nil⟩) <|
  zq_cons (zq_s_if_eq (off := 7) (by decide +kernel) (by decide)) <|
  zq_cons (zq_s_iconst (n := 1) (by decide +kernel) (by decide +kernel)) <|
  zq_cons (zq_s_iload_n (n := 1) (by decide +kernel) rfl) <|
  zq_cons (zq_s_ishl (by decide +kernel)) <|
  zq_cons (⟨rfl, (by decide +kernel)⟩) <|
  zq_cons (zq_s_iinc (n := 1) (by decide +kernel) (by decide +kernel) (by decide +kernel)) <|
  zq_cons (zq_s_goto (off := (-28)) (by decide +kernel) (by decide)) <|
  zq_cons (zq_s_iconst (n := 0) (by decide +kernel) (by decide +kernel)) <|
  zq_cons (zq_s_istore_n (n := 1) (by decide +kernel) rfl (by decide +kernel)) <|
  zq_cons (zq_s_iload_n (n := 1) (by decide +kernel) rfl) <|
  zq_cons (zq_s_aload_n (n := 0) (by decide +kernel) rfl) <|
  zq_cons (zq_s_getf (index := 26) (by decide +kernel) zf_X8_26) <|
  zq_cons (zq_s_getf (index := 152) (by decide +kernel) zf_X8_152) <|
  zq_cons (zq_s_ic_ge (off := 52) (by decide +kernel) (by decide)) <|
  zq_cons (zq_s_iload_n (n := 1) (by decide +kernel) rfl) <|
  zq_cons (zq_s_iconst (n := 1) (by decide +kernel) (by decide +kernel)) <|
  zq_cons (zq_s_iadd (by decide +kernel)) <|
  zq_cons (zq_s_istore_n (n := 2) (by decide +kernel) rfl (by decide +kernel)) <|
  zq_cons (zq_s_iload_n (n := 2) (by decide +kernel) rfl) <|
  zq_cons (zq_s_aload_n (n := 0) (by decide +kernel) rfl) <|
  zq_cons (zq_s_getf (index := 26) (by decide +kernel) zf_X8_26) <|
  zq_cons (zq_s_getf (index := 152) (by decide +kernel) zf_X8_152) <|
  zq_nil
def zc_X8_sparedRow_1 : List (Nat × zq_It) := [(68, .inl (zq_ic_ge 71 99)), (71, .inl (zq_al 72 0)), (72, .inl (zq_push 73 (.int 1))), (73, .inl (zq_il 74 1)), (74, .inl (zq_i2 75 (fun x y => x <<< (y &&& 31)))), (75, .inl (zq_push 76 (.int 1))), (76, .inl (zq_il 77 2)), (77, .inl (zq_i2 78 (fun x y => x <<< (y &&& 31)))), (78, .inl (zq_i2 79 (fun x y => x ||| y))), (79, .inr (.inl (2, .inr [(7, zn_X8_nobodyAloneWithout)]))), (82, .inl (zq_if_eq 85 93)), (85, .inl (zq_push 86 (.int 1))), (86, .inl (zq_il 87 1)), (87, .inl (zq_i2 88 (fun x y => x <<< (y &&& 31)))), (88, .inl (zq_push 89 (.int 1))), (89, .inl (zq_il 90 2)), (90, .inl (zq_i2 91 (fun x y => x <<< (y &&& 31)))), (91, .inl (zq_i2 92 (fun x y => x ||| y))), (92, .inr (.inr 1)), (93, .inl (zq_inc 96 2 1)), (96, .inl (zq_goto 60)), (99, .inl (zq_inc 102 1 1)), (102, .inl (zq_goto 45)), (105, .inl (zq_push 106 (.int (-1)))), (106, .inr (.inr 1))]
theorem zk_X8_sparedRow_1 : zq_oks zi_X8_sparedRow zc_X8_sparedRow_1 := zq_cons (zq_s_ic_ge (off := 31) (by decide +kernel) (by decide)) <|
  zq_cons (zq_s_aload_n (n := 0) (by decide +kernel) rfl) <|
  zq_cons (zq_s_iconst (n := 1) (by decide +kernel) (by decide +kernel)) <|
  zq_cons (zq_s_iload_n (n := 1) (by decide +kernel) rfl) <|
  zq_cons (zq_s_ishl (by decide +kernel)) <|
  zq_cons (zq_s_iconst (n := 1) (by decide +kernel) (by decide +kernel)) <|
  zq_cons (zq_s_iload_n (n := 2) (by decide +kernel) rfl) <|
  zq_cons (zq_s_ishl (by decide +kernel)) <|
  zq_cons (zq_s_ior (by decide +kernel)) <|
  zq_cons (List.forall_mem_cons.mpr ⟨⟨zi_X8_nobodyAloneWithout, rfl, zq_s_callV (n := 1) (index := 385) (by decide +kernel) rfl zw_684 zw_686 zw_13 zw_80 zw_687 (by decide +kernel) (by decide +kernel) ⟨rfl, rfl⟩⟩, fun _ h => absurd h List.not_mem_nil⟩) <|
  zq_cons (zq_s_if_eq (off := 11) (by decide +kernel) (by decide)) <|
  zq_cons (zq_s_iconst (n := 1) (by decide +kernel) (by decide +kernel)) <|
  zq_cons (zq_s_iload_n (n := 1) (by decide +kernel) rfl) <|
  zq_cons (zq_s_ishl (by decide +kernel)) <|
  zq_cons (zq_s_iconst (n := 1) (by decide +kernel) (by decide +kernel)) <|
  zq_cons (zq_s_iload_n (n := 2) (by decide +kernel) rfl) <|
  zq_cons (zq_s_ishl (by decide +kernel)) <|
  zq_cons (zq_s_ior (by decide +kernel)) <|
  zq_cons (⟨rfl, (by decide +kernel)⟩) <|
  zq_cons (zq_s_iinc (n := 1) (by decide +kernel) (by decide +kernel) (by decide +kernel)) <|
  zq_cons (zq_s_goto (off := (-36)) (by decide +kernel) (by decide)) <|
  zq_cons (zq_s_iinc (n := 1) (by decide +kernel) (by decide +kernel) (by decide +kernel)) <|
  zq_cons (zq_s_goto (off := (-57)) (by decide +kernel) (by decide)) <|
  zq_cons (zq_s_iconst (n := (-1)) (by decide +kernel) (by decide +kernel)) <|
  zq_cons (⟨rfl, (by decide +kernel)⟩) <|
  zq_nil
def zc_X8_sparedRow : List (Nat × zq_It) := zc_X8_sparedRow_0 ++ (zc_X8_sparedRow_1)
theorem zk_X8_sparedRow : zq_oks zi_X8_sparedRow zc_X8_sparedRow := zq_app zk_X8_sparedRow_0 (zk_X8_sparedRow_1)
def zc_X8_nobodyAloneWithout : List (Nat × zq_It) := [(0, .inl (zq_al 1 0)), (1, .inl (zq_getf 4 [(7, 8)])), (4, .inl (zq_al 5 0)), (5, .inl (zq_getf 8 [(7, 2)])), (8, .inl (zq_il 9 1)), (9, .inl (zq_al 10 0)), (10, .inl (zq_getf 13 [(7, 12)])), (13, .inr (.inl (4, .inr [(6, zn_X7_runWith)]))), (16, .inl (zq_al 17 0)), (17, .inl (zq_getf 20 [(7, 8)])), (20, .inl (zq_push 22 (.int 23))), (22, .inr (.inl (2, .inr [(6, zn_X7_aloneBehind)]))), (25, .inl (zq_if_ne 28 32)), (28, .inl (zq_push 29 (.int 1))), (29, .inl (zq_goto 33)), (32, .inl (zq_push 33 (.int 0))), (33, .inr (.inr 2))]
theorem zk_X8_nobodyAloneWithout : zq_oks zi_X8_nobodyAloneWithout zc_X8_nobodyAloneWithout := zq_cons (zq_s_aload_n (n := 0) (by decide +kernel) rfl) <|
  zq_cons (zq_s_getf (index := 63) (by decide +kernel) zf_X8_63) <|
  zq_cons (zq_s_aload_n (n := 0) (by decide +kernel) rfl) <|
  zq_cons (zq_s_getf (index := 26) (by decide +kernel) zf_X8_26) <|
  zq_cons (zq_s_iload_n (n := 1) (by decide +kernel) rfl) <|
  zq_cons (zq_s_aload_n (n := 0) (by decide +kernel) rfl) <|
  zq_cons (zq_s_getf (index := 77) (by decide +kernel) zf_X8_77) <|
  zq_cons (List.forall_mem_cons.mpr ⟨⟨zi_X7_runWith, rfl, zq_s_callV (n := 3) (index := 219) (by decide +kernel) rfl zw_535 zw_536 zw_537 zw_89 zw_538 (by decide +kernel) (by decide +kernel) ⟨rfl, rfl⟩⟩, fun _ h => absurd h List.not_mem_nil⟩) <|
  zq_cons (zq_s_aload_n (n := 0) (by decide +kernel) rfl) <|
  zq_cons (zq_s_getf (index := 63) (by decide +kernel) zf_X8_63) <|
  zq_cons (zq_s_bipush (n := 23) (by decide +kernel) (by decide +kernel)) <|
  zq_cons (List.forall_mem_cons.mpr ⟨⟨zi_X7_aloneBehind, rfl, zq_s_callV (n := 1) (index := 213) (by decide +kernel) rfl zw_646 zw_647 zw_648 zw_89 zw_649 (by decide +kernel) (by decide +kernel) ⟨rfl, rfl⟩⟩, fun _ h => absurd h List.not_mem_nil⟩) <|
  zq_cons (zq_s_if_ne (off := 7) (by decide +kernel) (by decide)) <|
  zq_cons (zq_s_iconst (n := 1) (by decide +kernel) (by decide +kernel)) <|
  zq_cons (zq_s_goto (off := 4) (by decide +kernel) (by decide)) <|
  zq_cons (zq_s_iconst (n := 0) (by decide +kernel) (by decide +kernel)) <|
  zq_cons (⟨rfl, (by decide +kernel)⟩) <|
  zq_nil
def zc_X8_placeOfBit : List (Nat × zq_It) := [(0, .inl (zq_il 1 1)), (1, .inl (zq_is 2 2)), (2, .inl (zq_push 3 (.int 0))), (3, .inl (zq_is 4 3)), (4, .inl (zq_il 5 3)), (5, .inl (zq_push 7 (.int 8))), (7, .inl (zq_ic_ge 10 33)), (10, .inl (zq_il 11 0)), (11, .inl (zq_il 12 3)), (12, .inl (zq_i2 13 (fun x y => x >>> (y &&& 31)))), (13, .inl (zq_push 14 (.int 1))), (14, .inl (zq_i2 15 (fun x y => x &&& y))), (15, .inl (zq_if_eq 18 27)), (18, .inl (zq_il 19 2)), (19, .inl (zq_inc 22 2 (-1))), (22, .inl (zq_if_ne 25 27)), (25, .inl (zq_il 26 3)), (26, .inr (.inr 1)), (27, .inl (zq_inc 30 3 1)), (30, .inl (zq_goto 4)), (33, .inl (zq_push 34 (.int (-1)))), (34, .inr (.inr 1))]
theorem zk_X8_placeOfBit : zq_oks zi_X8_placeOfBit zc_X8_placeOfBit := zq_cons (zq_s_iload_n (n := 1) (by decide +kernel) rfl) <|
  zq_cons (zq_s_istore_n (n := 2) (by decide +kernel) rfl (by decide +kernel)) <|
  zq_cons (zq_s_iconst (n := 0) (by decide +kernel) (by decide +kernel)) <|
  zq_cons (zq_s_istore_n (n := 3) (by decide +kernel) rfl (by decide +kernel)) <|
  zq_cons (zq_s_iload_n (n := 3) (by decide +kernel) rfl) <|
  zq_cons (zq_s_bipush (n := 8) (by decide +kernel) (by decide +kernel)) <|
  zq_cons (zq_s_ic_ge (off := 26) (by decide +kernel) (by decide)) <|
  zq_cons (zq_s_iload_n (n := 0) (by decide +kernel) rfl) <|
  zq_cons (zq_s_iload_n (n := 3) (by decide +kernel) rfl) <|
  zq_cons (zq_s_ishr (by decide +kernel)) <|
  zq_cons (zq_s_iconst (n := 1) (by decide +kernel) (by decide +kernel)) <|
  zq_cons (zq_s_iand (by decide +kernel)) <|
  zq_cons (zq_s_if_eq (off := 12) (by decide +kernel) (by decide)) <|
  zq_cons (zq_s_iload_n (n := 2) (by decide +kernel) rfl) <|
  zq_cons (zq_s_iinc (n := (-1)) (by decide +kernel) (by decide +kernel) (by decide +kernel)) <|
  zq_cons (zq_s_if_ne (off := 5) (by decide +kernel) (by decide)) <|
  zq_cons (zq_s_iload_n (n := 3) (by decide +kernel) rfl) <|
  zq_cons (⟨rfl, (by decide +kernel)⟩) <|
  zq_cons (zq_s_iinc (n := 1) (by decide +kernel) (by decide +kernel) (by decide +kernel)) <|
  zq_cons (zq_s_goto (off := (-26)) (by decide +kernel) (by decide)) <|
  zq_cons (zq_s_iconst (n := (-1)) (by decide +kernel) (by decide +kernel)) <|
  zq_cons (⟨rfl, (by decide +kernel)⟩) <|
  zq_nil
def zc_X8_sortsThatFit_0 : List (Nat × zq_It) := [(0, .inl (zq_push 1 (.int 0))), (1, .inl (zq_is 2 2)), (2, .inl (zq_push 3 (.int 0))), (3, .inl (zq_is 4 3)), (4, .inl (zq_il 5 3)), (5, .inl (zq_push 6 (.int 3))), (6, .inl (zq_ic_ge 9 61)), (9, .inl (zq_al 10 0)), (10, .inl (zq_getf 13 [(7, 8)])), (13, .inl (zq_il 14 1)), (14, .inl (zq_il 15 3)), (15, .inl (zq_push 16 (.int (-1)))), (16, .inr (.inl (4, .inr [(6, zn_X7_suppose)]))), (19, .inl (zq_al 20 0)), (20, .inl (zq_getf 23 [(7, 8)])), (23, .inl (zq_al 24 0)), (24, .inl (zq_getf 27 [(7, 2)])), (27, .inl (zq_push 28 (.int 0))), (28, .inl (zq_al 29 0)), (29, .inl (zq_getf 32 [(7, 12)])), (32, .inr (.inl (4, .inr [(6, zn_X7_runWith)]))), (35, .inl (zq_al 36 0)), (36, .inl (zq_getf 39 [(7, 5)])), (39, .inl (zq_al 40 0)), (40, .inl (zq_getf 43 [(7, 8)])), (43, .inr (.inl (2, .inr [(5, zn_X5_allIn)]))), (46, .inl (zq_if_eq 49 55)), (49, .inl (zq_il 50 2)), (50, .inl (zq_push 51 (.int 1))), (51, .inl (zq_il 52 3)), (52, .inl (zq_i2 53 (fun x y => x <<< (y &&& 31)))), (53, .inl (zq_i2 54 (fun x y => x ||| y))), (54, .inl (zq_is 55 2)), (55, .inl (zq_inc 58 3 1)), (58, .inl (zq_goto 4)), (61, .inl (zq_al 62 0)), (62, .inl (zq_getf 65 [(7, 8)])), (65, .inl (zq_push 66 (.int (-1)))), (66, .inl (zq_push 67 (.int (-1)))), (67, .inl (zq_push 68 (.int (-1))))]
theorem zk_X8_sortsThatFit_0 : zq_oks zi_X8_sortsThatFit zc_X8_sortsThatFit_0 := zq_cons (zq_s_iconst (n := 0) (by decide +kernel) (by decide +kernel)) <|
  zq_cons (zq_s_istore_n (n := 2) (by decide +kernel) rfl (by decide +kernel)) <|
  zq_cons (zq_s_iconst (n := 0) (by decide +kernel) (by decide +kernel)) <|
  zq_cons (zq_s_istore_n (n := 3) (by decide +kernel) rfl (by decide +kernel)) <|
  zq_cons (zq_s_iload_n (n := 3) (by decide +kernel) rfl) <|
  zq_cons (zq_s_iconst (n := 3) (by decide +kernel) (by decide +kernel)) <|
  zq_cons (zq_s_ic_ge (off := 55) (by decide +kernel) (by decide)) <|
  zq_cons (zq_s_aload_n (n := 0) (by decide +kernel) rfl) <|
  zq_cons (zq_s_getf (index := 63) (by decide +kernel) zf_X8_63) <|
  zq_cons (zq_s_iload_n (n := 1) (by decide +kernel) rfl) <|
  zq_cons (zq_s_iload_n (n := 3) (by decide +kernel) rfl) <|
  zq_cons (zq_s_iconst (n := (-1)) (by decide +kernel) (by decide +kernel)) <|
  zq_cons (List.forall_mem_cons.mpr ⟨⟨zi_X7_suppose, rfl, zq_s_callV (n := 3) (index := 216) (by decide +kernel) rfl zw_654 zw_655 zw_656 zw_89 zw_657 (by decide +kernel) (by decide +kernel) ⟨rfl, rfl⟩⟩, fun _ h => absurd h List.not_mem_nil⟩) <|
  zq_cons (zq_s_aload_n (n := 0) (by decide +kernel) rfl) <|
  zq_cons (zq_s_getf (index := 63) (by decide +kernel) zf_X8_63) <|
  zq_cons (zq_s_aload_n (n := 0) (by decide +kernel) rfl) <|
  zq_cons (zq_s_getf (index := 26) (by decide +kernel) zf_X8_26) <|
  zq_cons (zq_s_iconst (n := 0) (by decide +kernel) (by decide +kernel)) <|
  zq_cons (zq_s_aload_n (n := 0) (by decide +kernel) rfl) <|
  zq_cons (zq_s_getf (index := 77) (by decide +kernel) zf_X8_77) <|
  zq_cons (List.forall_mem_cons.mpr ⟨⟨zi_X7_runWith, rfl, zq_s_callV (n := 3) (index := 219) (by decide +kernel) rfl zw_535 zw_536 zw_537 zw_89 zw_538 (by decide +kernel) (by decide +kernel) ⟨rfl, rfl⟩⟩, fun _ h => absurd h List.not_mem_nil⟩) <|
  zq_cons (zq_s_aload_n (n := 0) (by decide +kernel) rfl) <|
  zq_cons (zq_s_getf (index := 43) (by decide +kernel) zf_X8_43) <|
  zq_cons (zq_s_aload_n (n := 0) (by decide +kernel) rfl) <|
  zq_cons (zq_s_getf (index := 63) (by decide +kernel) zf_X8_63) <|
  zq_cons (List.forall_mem_cons.mpr ⟨⟨zi_X5_allIn, rfl, zq_s_callV (n := 1) (index := 243) (by decide +kernel) rfl zw_708 zw_709 zw_710 zw_87 zw_711 (by decide +kernel) (by decide +kernel) ⟨rfl, rfl⟩⟩, fun _ h => absurd h List.not_mem_nil⟩) <|
  zq_cons (zq_s_if_eq (off := 9) (by decide +kernel) (by decide)) <|
  zq_cons (zq_s_iload_n (n := 2) (by decide +kernel) rfl) <|
  zq_cons (zq_s_iconst (n := 1) (by decide +kernel) (by decide +kernel)) <|
  zq_cons (zq_s_iload_n (n := 3) (by decide +kernel) rfl) <|
  zq_cons (zq_s_ishl (by decide +kernel)) <|
  zq_cons (zq_s_ior (by decide +kernel)) <|
  zq_cons (zq_s_istore_n (n := 2) (by decide +kernel) rfl (by decide +kernel)) <|
  zq_cons (zq_s_iinc (n := 1) (by decide +kernel) (by decide +kernel) (by decide +kernel)) <|
  zq_cons (zq_s_goto (off := (-54)) (by decide +kernel) (by decide)) <|
  zq_cons (zq_s_aload_n (n := 0) (by decide +kernel) rfl) <|
  zq_cons (zq_s_getf (index := 63) (by decide +kernel) zf_X8_63) <|
  zq_cons (zq_s_iconst (n := (-1)) (by decide +kernel) (by decide +kernel)) <|
  zq_cons (zq_s_iconst (n := (-1)) (by decide +kernel) (by decide +kernel)) <|
  zq_cons (zq_s_iconst (n := (-1)) (by decide +kernel) (by decide +kernel)) <|
  zq_nil
def zc_X8_sortsThatFit_1 : List (Nat × zq_It) := [(68, .inr (.inl (4, .inr [(6, zn_X7_suppose)]))), (71, .inl (zq_il 72 2)), (72, .inr (.inr 1))]
theorem zk_X8_sortsThatFit_1 : zq_oks zi_X8_sortsThatFit zc_X8_sortsThatFit_1 := zq_cons (List.forall_mem_cons.mpr ⟨⟨zi_X7_suppose, rfl, zq_s_callV (n := 3) (index := 216) (by decide +kernel) rfl zw_654 zw_655 zw_656 zw_89 zw_657 (by decide +kernel) (by decide +kernel) ⟨rfl, rfl⟩⟩, fun _ h => absurd h List.not_mem_nil⟩) <|
  zq_cons (zq_s_iload_n (n := 2) (by decide +kernel) rfl) <|
  zq_cons (⟨rfl, (by decide +kernel)⟩) <|
  zq_nil
def zc_X8_sortsThatFit : List (Nat × zq_It) := zc_X8_sortsThatFit_0 ++ (zc_X8_sortsThatFit_1)
theorem zk_X8_sortsThatFit : zq_oks zi_X8_sortsThatFit zc_X8_sortsThatFit := zq_app zk_X8_sortsThatFit_0 (zk_X8_sortsThatFit_1)
def zc_X8_bedsThatFit_0 : List (Nat × zq_It) := [(0, .inl (zq_push 1 (.int 0))), (1, .inl (zq_is 2 2)), (2, .inl (zq_push 3 (.int 0))), (3, .inl (zq_is 4 3)), (4, .inl (zq_il 5 3)), (5, .inl (zq_push 7 (.int 8))), (7, .inl (zq_ic_ge 10 100)), (10, .inl (zq_al 11 0)), (11, .inl (zq_getf 14 [(7, 8)])), (14, .inl (zq_il 15 1)), (15, .inl (zq_push 16 (.int (-1)))), (16, .inl (zq_il 17 3)), (17, .inr (.inl (4, .inr [(6, zn_X7_suppose)]))), (20, .inl (zq_al 21 0)), (21, .inl (zq_getf 24 [(7, 8)])), (24, .inl (zq_al 25 0)), (25, .inl (zq_getf 28 [(7, 2)])), (28, .inl (zq_push 29 (.int 0))), (29, .inl (zq_al 30 0)), (30, .inl (zq_getf 33 [(7, 12)])), (33, .inr (.inl (4, .inr [(6, zn_X7_runWith)]))), (36, .inl (zq_al 37 0)), (37, .inl (zq_getf 40 [(7, 5)])), (40, .inl (zq_al 41 0)), (41, .inl (zq_getf 44 [(7, 8)])), (44, .inr (.inl (2, .inr [(5, zn_X5_allIn)]))), (47, .inl (zq_if_eq 50 56)), (50, .inl (zq_il 51 2)), (51, .inl (zq_push 52 (.int 1))), (52, .inl (zq_il 53 3)), (53, .inl (zq_i2 54 (fun x y => x <<< (y &&& 31)))), (54, .inl (zq_i2 55 (fun x y => x ||| y))), (55, .inl (zq_is 56 2)), (56, .inl (zq_push 57 (.int 0))), (57, .inl (zq_is 59 4)), (59, .inl (zq_il 61 4)), (61, .inl (zq_push 63 (.int 24))), (63, .inl (zq_ic_ge 66 94)), (66, .inl (zq_al 67 0)), (67, .inl (zq_getf 70 [(7, 9)]))]
theorem zk_X8_bedsThatFit_0 : zq_oks zi_X8_bedsThatFit zc_X8_bedsThatFit_0 := zq_cons (zq_s_iconst (n := 0) (by decide +kernel) (by decide +kernel)) <|
  zq_cons (zq_s_istore_n (n := 2) (by decide +kernel) rfl (by decide +kernel)) <|
  zq_cons (zq_s_iconst (n := 0) (by decide +kernel) (by decide +kernel)) <|
  zq_cons (zq_s_istore_n (n := 3) (by decide +kernel) rfl (by decide +kernel)) <|
  zq_cons (zq_s_iload_n (n := 3) (by decide +kernel) rfl) <|
  zq_cons (zq_s_bipush (n := 8) (by decide +kernel) (by decide +kernel)) <|
  zq_cons (zq_s_ic_ge (off := 93) (by decide +kernel) (by decide)) <|
  zq_cons (zq_s_aload_n (n := 0) (by decide +kernel) rfl) <|
  zq_cons (zq_s_getf (index := 63) (by decide +kernel) zf_X8_63) <|
  zq_cons (zq_s_iload_n (n := 1) (by decide +kernel) rfl) <|
  zq_cons (zq_s_iconst (n := (-1)) (by decide +kernel) (by decide +kernel)) <|
  zq_cons (zq_s_iload_n (n := 3) (by decide +kernel) rfl) <|
  zq_cons (List.forall_mem_cons.mpr ⟨⟨zi_X7_suppose, rfl, zq_s_callV (n := 3) (index := 216) (by decide +kernel) rfl zw_654 zw_655 zw_656 zw_89 zw_657 (by decide +kernel) (by decide +kernel) ⟨rfl, rfl⟩⟩, fun _ h => absurd h List.not_mem_nil⟩) <|
  zq_cons (zq_s_aload_n (n := 0) (by decide +kernel) rfl) <|
  zq_cons (zq_s_getf (index := 63) (by decide +kernel) zf_X8_63) <|
  zq_cons (zq_s_aload_n (n := 0) (by decide +kernel) rfl) <|
  zq_cons (zq_s_getf (index := 26) (by decide +kernel) zf_X8_26) <|
  zq_cons (zq_s_iconst (n := 0) (by decide +kernel) (by decide +kernel)) <|
  zq_cons (zq_s_aload_n (n := 0) (by decide +kernel) rfl) <|
  zq_cons (zq_s_getf (index := 77) (by decide +kernel) zf_X8_77) <|
  zq_cons (List.forall_mem_cons.mpr ⟨⟨zi_X7_runWith, rfl, zq_s_callV (n := 3) (index := 219) (by decide +kernel) rfl zw_535 zw_536 zw_537 zw_89 zw_538 (by decide +kernel) (by decide +kernel) ⟨rfl, rfl⟩⟩, fun _ h => absurd h List.not_mem_nil⟩) <|
  zq_cons (zq_s_aload_n (n := 0) (by decide +kernel) rfl) <|
  zq_cons (zq_s_getf (index := 43) (by decide +kernel) zf_X8_43) <|
  zq_cons (zq_s_aload_n (n := 0) (by decide +kernel) rfl) <|
  zq_cons (zq_s_getf (index := 63) (by decide +kernel) zf_X8_63) <|
  zq_cons (List.forall_mem_cons.mpr ⟨⟨zi_X5_allIn, rfl, zq_s_callV (n := 1) (index := 243) (by decide +kernel) rfl zw_708 zw_709 zw_710 zw_87 zw_711 (by decide +kernel) (by decide +kernel) ⟨rfl, rfl⟩⟩, fun _ h => absurd h List.not_mem_nil⟩) <|
  zq_cons (zq_s_if_eq (off := 9) (by decide +kernel) (by decide)) <|
  zq_cons (zq_s_iload_n (n := 2) (by decide +kernel) rfl) <|
  zq_cons (zq_s_iconst (n := 1) (by decide +kernel) (by decide +kernel)) <|
  zq_cons (zq_s_iload_n (n := 3) (by decide +kernel) rfl) <|
  zq_cons (zq_s_ishl (by decide +kernel)) <|
  zq_cons (zq_s_ior (by decide +kernel)) <|
  zq_cons (zq_s_istore_n (n := 2) (by decide +kernel) rfl (by decide +kernel)) <|
  zq_cons (zq_s_iconst (n := 0) (by decide +kernel) (by decide +kernel)) <|
  zq_cons (zq_s_istore (by decide +kernel) (by decide +kernel)) <|
  zq_cons (zq_s_iload (by decide +kernel)) <|
  zq_cons (zq_s_bipush (n := 24) (by decide +kernel) (by decide +kernel)) <|
  zq_cons (zq_s_ic_ge (off := 31) (by decide +kernel) (by decide)) <|
  zq_cons (zq_s_aload_n (n := 0) (by decide +kernel) rfl) <|
  zq_cons (zq_s_getf (index := 66) (by decide +kernel) zf_X8_66) <|
  zq_nil
def zc_X8_bedsThatFit_1 : List (Nat × zq_It) := [(70, .inl (zq_il 71 3)), (71, .inl (zq_push 73 (.int 24))), (73, .inl (zq_i2 74 (fun x y => x * y))), (74, .inl (zq_il 76 4)), (76, .inl (zq_i2 77 (fun x y => x + y))), (77, .inl (zq_al 78 0)), (78, .inl (zq_getf 81 [(7, 8)])), (81, .inl (zq_il 83 4)), (83, .inl (zq_il 84 1)), (84, .inr (.inl (3, .inr [(6, zn_X7_roomOf)]))), (87, .inl (zq_iast 88)), (88, .inl (zq_inc 91 4 1)), (91, .inl (zq_goto 59)), (94, .inl (zq_inc 97 3 1)), (97, .inl (zq_goto 4)), (100, .inl (zq_al 101 0)), (101, .inl (zq_getf 104 [(7, 8)])), (104, .inl (zq_push 105 (.int (-1)))), (105, .inl (zq_push 106 (.int (-1)))), (106, .inl (zq_push 107 (.int (-1)))), (107, .inr (.inl (4, .inr [(6, zn_X7_suppose)]))), (110, .inl (zq_il 111 2)), (111, .inr (.inr 1))]
theorem zk_X8_bedsThatFit_1 : zq_oks zi_X8_bedsThatFit zc_X8_bedsThatFit_1 := zq_cons (zq_s_iload_n (n := 3) (by decide +kernel) rfl) <|
  zq_cons (zq_s_bipush (n := 24) (by decide +kernel) (by decide +kernel)) <|
  zq_cons (zq_s_imul (by decide +kernel)) <|
  zq_cons (zq_s_iload (by decide +kernel)) <|
  zq_cons (zq_s_iadd (by decide +kernel)) <|
  zq_cons (zq_s_aload_n (n := 0) (by decide +kernel) rfl) <|
  zq_cons (zq_s_getf (index := 63) (by decide +kernel) zf_X8_63) <|
  zq_cons (zq_s_iload (by decide +kernel)) <|
  zq_cons (zq_s_iload_n (n := 1) (by decide +kernel) rfl) <|
  zq_cons (List.forall_mem_cons.mpr ⟨⟨zi_X7_roomOf, rfl, zq_s_callV (n := 2) (index := 181) (by decide +kernel) rfl zw_572 zw_569 zw_570 zw_89 zw_571 (by decide +kernel) (by decide +kernel) ⟨rfl, rfl⟩⟩, fun _ h => absurd h List.not_mem_nil⟩) <|
  zq_cons (zq_s_iast (by decide +kernel)) <|
  zq_cons (zq_s_iinc (n := 1) (by decide +kernel) (by decide +kernel) (by decide +kernel)) <|
  zq_cons (zq_s_goto (off := (-32)) (by decide +kernel) (by decide)) <|
  zq_cons (zq_s_iinc (n := 1) (by decide +kernel) (by decide +kernel) (by decide +kernel)) <|
  zq_cons (zq_s_goto (off := (-93)) (by decide +kernel) (by decide)) <|
  zq_cons (zq_s_aload_n (n := 0) (by decide +kernel) rfl) <|
  zq_cons (zq_s_getf (index := 63) (by decide +kernel) zf_X8_63) <|
  zq_cons (zq_s_iconst (n := (-1)) (by decide +kernel) (by decide +kernel)) <|
  zq_cons (zq_s_iconst (n := (-1)) (by decide +kernel) (by decide +kernel)) <|
  zq_cons (zq_s_iconst (n := (-1)) (by decide +kernel) (by decide +kernel)) <|
  zq_cons (List.forall_mem_cons.mpr ⟨⟨zi_X7_suppose, rfl, zq_s_callV (n := 3) (index := 216) (by decide +kernel) rfl zw_654 zw_655 zw_656 zw_89 zw_657 (by decide +kernel) (by decide +kernel) ⟨rfl, rfl⟩⟩, fun _ h => absurd h List.not_mem_nil⟩) <|
  zq_cons (zq_s_iload_n (n := 2) (by decide +kernel) rfl) <|
  zq_cons (⟨rfl, (by decide +kernel)⟩) <|
  zq_nil
def zc_X8_bedsThatFit : List (Nat × zq_It) := zc_X8_bedsThatFit_0 ++ (zc_X8_bedsThatFit_1)
theorem zk_X8_bedsThatFit : zq_oks zi_X8_bedsThatFit zc_X8_bedsThatFit := zq_app zk_X8_bedsThatFit_0 (zk_X8_bedsThatFit_1)
def zc_X8_mostBedsInOneRoom_0 : List (Nat × zq_It) := [(0, .inl (zq_al 1 0)), (1, .inl (zq_getf 4 [(7, 10)])), (4, .inl (zq_push 5 (.int 0))), (5, .inr (.inl (2, .inl zn_J7_fill_53178))), (8, .inl (zq_push 9 (.int 0))), (9, .inl (zq_is 10 3)), (10, .inl (zq_push 11 (.int 0))), (11, .inl (zq_is 13 4)), (13, .inl (zq_il 15 4)), (15, .inl (zq_push 17 (.int 8))), (17, .inl (zq_ic_ge 20 72)), (20, .inl (zq_il 21 2)), (21, .inl (zq_il 23 4)), (23, .inl (zq_i2 24 (fun x y => x >>> (y &&& 31)))), (24, .inl (zq_push 25 (.int 1))), (25, .inl (zq_i2 26 (fun x y => x &&& y))), (26, .inl (zq_if_eq 29 66)), (29, .inl (zq_al 30 0)), (30, .inl (zq_getf 33 [(7, 9)])), (33, .inl (zq_il 35 4)), (35, .inl (zq_push 37 (.int 24))), (37, .inl (zq_i2 38 (fun x y => x * y))), (38, .inl (zq_il 39 1)), (39, .inl (zq_i2 40 (fun x y => x + y))), (40, .inl (zq_iald 41)), (41, .inl (zq_is 43 5)), (43, .inl (zq_al 44 0)), (44, .inl (zq_getf 47 [(7, 10)])), (47, .inl (zq_il 49 5)), (49, .inl (zq_dup2 50)), (50, .inl (zq_iald 51)), (51, .inl (zq_push 52 (.int 1))), (52, .inl (zq_i2 53 (fun x y => x + y))), (53, .inl (zq_iast 54)), (54, .inl (zq_il 55 3)), (55, .inl (zq_al 56 0)), (56, .inl (zq_getf 59 [(7, 10)])), (59, .inl (zq_il 61 5)), (61, .inl (zq_iald 62)), (62, .inl (zq_mm 65 (fun x y => if x < y then y else x)))]
theorem zk_X8_mostBedsInOneRoom_0 : zq_oks zi_X8_mostBedsInOneRoom zc_X8_mostBedsInOneRoom_0 := zq_cons (zq_s_aload_n (n := 0) (by decide +kernel) rfl) <|
  zq_cons (zq_s_getf (index := 70) (by decide +kernel) zf_X8_70) <|
  zq_cons (zq_s_iconst (n := 0) (by decide +kernel) (by decide +kernel)) <|
  zq_cons (⟨zi_J7_fill_53178, rfl, zq_s_callS (n := 2) (index := 388) (by decide +kernel) zw_733 zw_276 zw_90 zw_277 (by decide +kernel) (by decide +kernel) ⟨rfl, rfl⟩⟩) <|
  zq_cons (zq_s_iconst (n := 0) (by decide +kernel) (by decide +kernel)) <|
  zq_cons (zq_s_istore_n (n := 3) (by decide +kernel) rfl (by decide +kernel)) <|
  zq_cons (zq_s_iconst (n := 0) (by decide +kernel) (by decide +kernel)) <|
  zq_cons (zq_s_istore (by decide +kernel) (by decide +kernel)) <|
  zq_cons (zq_s_iload (by decide +kernel)) <|
  zq_cons (zq_s_bipush (n := 8) (by decide +kernel) (by decide +kernel)) <|
  zq_cons (zq_s_ic_ge (off := 55) (by decide +kernel) (by decide)) <|
  zq_cons (zq_s_iload_n (n := 2) (by decide +kernel) rfl) <|
  zq_cons (zq_s_iload (by decide +kernel)) <|
  zq_cons (zq_s_ishr (by decide +kernel)) <|
  zq_cons (zq_s_iconst (n := 1) (by decide +kernel) (by decide +kernel)) <|
  zq_cons (zq_s_iand (by decide +kernel)) <|
  zq_cons (zq_s_if_eq (off := 40) (by decide +kernel) (by decide)) <|
  zq_cons (zq_s_aload_n (n := 0) (by decide +kernel) rfl) <|
  zq_cons (zq_s_getf (index := 66) (by decide +kernel) zf_X8_66) <|
  zq_cons (zq_s_iload (by decide +kernel)) <|
  zq_cons (zq_s_bipush (n := 24) (by decide +kernel) (by decide +kernel)) <|
  zq_cons (zq_s_imul (by decide +kernel)) <|
  zq_cons (zq_s_iload_n (n := 1) (by decide +kernel) rfl) <|
  zq_cons (zq_s_iadd (by decide +kernel)) <|
  zq_cons (zq_s_iald (by decide +kernel)) <|
  zq_cons (zq_s_istore (by decide +kernel) (by decide +kernel)) <|
  zq_cons (zq_s_aload_n (n := 0) (by decide +kernel) rfl) <|
  zq_cons (zq_s_getf (index := 70) (by decide +kernel) zf_X8_70) <|
  zq_cons (zq_s_iload (by decide +kernel)) <|
  zq_cons (zq_s_dup2 (by decide +kernel)) <|
  zq_cons (zq_s_iald (by decide +kernel)) <|
  zq_cons (zq_s_iconst (n := 1) (by decide +kernel) (by decide +kernel)) <|
  zq_cons (zq_s_iadd (by decide +kernel)) <|
  zq_cons (zq_s_iast (by decide +kernel)) <|
  zq_cons (zq_s_iload_n (n := 3) (by decide +kernel) rfl) <|
  zq_cons (zq_s_aload_n (n := 0) (by decide +kernel) rfl) <|
  zq_cons (zq_s_getf (index := 70) (by decide +kernel) zf_X8_70) <|
  zq_cons (zq_s_iload (by decide +kernel)) <|
  zq_cons (zq_s_iald (by decide +kernel)) <|
  zq_cons (zq_s_mmax (index := 394) (by decide +kernel) zw_734 zw_115 zw_83 zw_116 (by decide) (by decide)) <|
  zq_nil
def zc_X8_mostBedsInOneRoom_1 : List (Nat × zq_It) := [(65, .inl (zq_is 66 3)), (66, .inl (zq_inc 69 4 1)), (69, .inl (zq_goto 13)), (72, .inl (zq_il 73 3)), (73, .inr (.inr 1))]
theorem zk_X8_mostBedsInOneRoom_1 : zq_oks zi_X8_mostBedsInOneRoom zc_X8_mostBedsInOneRoom_1 := zq_cons (zq_s_istore_n (n := 3) (by decide +kernel) rfl (by decide +kernel)) <|
  zq_cons (zq_s_iinc (n := 1) (by decide +kernel) (by decide +kernel) (by decide +kernel)) <|
  zq_cons (zq_s_goto (off := (-56)) (by decide +kernel) (by decide)) <|
  zq_cons (zq_s_iload_n (n := 3) (by decide +kernel) rfl) <|
  zq_cons (⟨rfl, (by decide +kernel)⟩) <|
  zq_nil
def zc_X8_mostBedsInOneRoom : List (Nat × zq_It) := zc_X8_mostBedsInOneRoom_0 ++ (zc_X8_mostBedsInOneRoom_1)
theorem zk_X8_mostBedsInOneRoom : zq_oks zi_X8_mostBedsInOneRoom zc_X8_mostBedsInOneRoom := zq_app zk_X8_mostBedsInOneRoom_0 (zk_X8_mostBedsInOneRoom_1)
def zc_X8_weighOdds_0 : List (Nat × zq_It) := [(0, .inl (zq_al 1 0)), (1, .inl (zq_getf 4 [(7, 15)])), (4, .inl (zq_il 5 1)), (5, .inl (zq_ic_ne 8 17)), (8, .inl (zq_al 9 0)), (9, .inl (zq_getf 12 [(7, 16)])), (12, .inl (zq_il 13 2)), (13, .inl (zq_ic_ne 16 17)), (16, .inr (.inr 0)), (17, .inl (zq_al 18 0)), (18, .inl (zq_getf 21 [(7, 11)])), (21, .inl (zq_push 22 (.long 0))), (22, .inr (.inl (2, .inl zn_J7_fill_d0a16))), (25, .inl (zq_push 26 (.int 0))), (26, .inl (zq_is 27 3)), (27, .inl (zq_il 28 3)), (28, .inl (zq_push 29 (.int 1))), (29, .inl (zq_al 30 0)), (30, .inl (zq_getf 33 [(7, 2)])), (33, .inl (zq_getf 36 [(1, 3)])), (36, .inl (zq_i2 37 (fun x y => x <<< (y &&& 31)))), (37, .inl (zq_ic_ge 40 91)), (40, .inl (zq_al 41 0)), (41, .inl (zq_il 42 1)), (42, .inl (zq_il 43 3)), (43, .inr (.inl (3, .inr [(7, zn_X8_weightOf)]))), (46, .inl (zq_lst 48 4)), (48, .inl (zq_ll 50 4)), (50, .inl (zq_push 51 (.long 0))), (51, .inl (zq_lcmp 52)), (52, .inl (zq_if_eq 55 85)), (55, .inl (zq_al 56 0)), (56, .inl (zq_getf 59 [(7, 8)])), (59, .inl (zq_al 60 0)), (60, .inl (zq_getf 63 [(7, 2)])), (63, .inl (zq_il 64 3)), (64, .inl (zq_al 65 0)), (65, .inl (zq_getf 68 [(7, 12)])), (68, .inr (.inl (4, .inr [(6, zn_X7_runWith)]))), (71, .inl (zq_al 72 0))]
theorem zk_X8_weighOdds_0 : zq_oks zi_X8_weighOdds zc_X8_weighOdds_0 := zq_cons (zq_s_aload_n (n := 0) (by decide +kernel) rfl) <|
  zq_cons (zq_s_getf (index := 88) (by decide +kernel) zf_X8_88) <|
  zq_cons (zq_s_iload_n (n := 1) (by decide +kernel) rfl) <|
  zq_cons (zq_s_ic_ne (off := 12) (by decide +kernel) (by decide)) <|
  zq_cons (zq_s_aload_n (n := 0) (by decide +kernel) rfl) <|
  zq_cons (zq_s_getf (index := 91) (by decide +kernel) zf_X8_91) <|
  zq_cons (zq_s_iload_n (n := 2) (by decide +kernel) rfl) <|
  zq_cons (zq_s_ic_ne (off := 4) (by decide +kernel) (by decide)) <|
  zq_cons (⟨rfl, (by decide +kernel)⟩) <|
  zq_cons (zq_s_aload_n (n := 0) (by decide +kernel) rfl) <|
  zq_cons (zq_s_getf (index := 73) (by decide +kernel) zf_X8_73) <|
  zq_cons (zq_s_lconst (n := 0) (by decide +kernel) (by decide +kernel)) <|
  zq_cons (⟨zi_J7_fill_d0a16, rfl, zq_s_callS (n := 2) (index := 397) (by decide +kernel) zw_744 zw_745 zw_90 zw_746 (by decide +kernel) (by decide +kernel) ⟨rfl, rfl⟩⟩) <|
  zq_cons (zq_s_iconst (n := 0) (by decide +kernel) (by decide +kernel)) <|
  zq_cons (zq_s_istore_n (n := 3) (by decide +kernel) rfl (by decide +kernel)) <|
  zq_cons (zq_s_iload_n (n := 3) (by decide +kernel) rfl) <|
  zq_cons (zq_s_iconst (n := 1) (by decide +kernel) (by decide +kernel)) <|
  zq_cons (zq_s_aload_n (n := 0) (by decide +kernel) rfl) <|
  zq_cons (zq_s_getf (index := 26) (by decide +kernel) zf_X8_26) <|
  zq_cons (zq_s_getf (index := 152) (by decide +kernel) zf_X8_152) <|
  zq_cons (zq_s_ishl (by decide +kernel)) <|
  zq_cons (zq_s_ic_ge (off := 54) (by decide +kernel) (by decide)) <|
  zq_cons (zq_s_aload_n (n := 0) (by decide +kernel) rfl) <|
  zq_cons (zq_s_iload_n (n := 1) (by decide +kernel) rfl) <|
  zq_cons (zq_s_iload_n (n := 3) (by decide +kernel) rfl) <|
  zq_cons (List.forall_mem_cons.mpr ⟨⟨zi_X8_weightOf, rfl, zq_s_callV (n := 2) (index := 400) (by decide +kernel) rfl zw_747 zw_749 zw_18 zw_80 zw_750 (by decide +kernel) (by decide +kernel) ⟨rfl, rfl⟩⟩, fun _ h => absurd h List.not_mem_nil⟩) <|
  zq_cons (zq_s_lstore (by decide +kernel) (by decide +kernel)) <|
  zq_cons (zq_s_lload (by decide +kernel)) <|
  zq_cons (zq_s_lconst (n := 0) (by decide +kernel) (by decide +kernel)) <|
  zq_cons (zq_s_lcmp (by decide +kernel)) <|
  zq_cons (zq_s_if_eq (off := 33) (by decide +kernel) (by decide)) <|
  zq_cons (zq_s_aload_n (n := 0) (by decide +kernel) rfl) <|
  zq_cons (zq_s_getf (index := 63) (by decide +kernel) zf_X8_63) <|
  zq_cons (zq_s_aload_n (n := 0) (by decide +kernel) rfl) <|
  zq_cons (zq_s_getf (index := 26) (by decide +kernel) zf_X8_26) <|
  zq_cons (zq_s_iload_n (n := 3) (by decide +kernel) rfl) <|
  zq_cons (zq_s_aload_n (n := 0) (by decide +kernel) rfl) <|
  zq_cons (zq_s_getf (index := 77) (by decide +kernel) zf_X8_77) <|
  zq_cons (List.forall_mem_cons.mpr ⟨⟨zi_X7_runWith, rfl, zq_s_callV (n := 3) (index := 219) (by decide +kernel) rfl zw_535 zw_536 zw_537 zw_89 zw_538 (by decide +kernel) (by decide +kernel) ⟨rfl, rfl⟩⟩, fun _ h => absurd h List.not_mem_nil⟩) <|
  zq_cons (zq_s_aload_n (n := 0) (by decide +kernel) rfl) <|
  zq_nil
def zc_X8_weighOdds_1 : List (Nat × zq_It) := [(72, .inl (zq_al 73 0)), (73, .inl (zq_getf 76 [(7, 8)])), (76, .inl (zq_il 77 2)), (77, .inr (.inl (2, .inr [(6, zn_X7_aloneBehind)]))), (80, .inl (zq_ll 82 4)), (82, .inr (.inl (3, .inr [(7, zn_X8_addOdds)]))), (85, .inl (zq_inc 88 3 1)), (88, .inl (zq_goto 27)), (91, .inl (zq_al 92 0)), (92, .inl (zq_il 93 1)), (93, .inl (zq_puti 96 false [(7, 15)])), (96, .inl (zq_al 97 0)), (97, .inl (zq_il 98 2)), (98, .inl (zq_puti 101 false [(7, 16)])), (101, .inr (.inr 0))]
theorem zk_X8_weighOdds_1 : zq_oks zi_X8_weighOdds zc_X8_weighOdds_1 := zq_cons (zq_s_aload_n (n := 0) (by decide +kernel) rfl) <|
  zq_cons (zq_s_getf (index := 63) (by decide +kernel) zf_X8_63) <|
  zq_cons (zq_s_iload_n (n := 2) (by decide +kernel) rfl) <|
  zq_cons (List.forall_mem_cons.mpr ⟨⟨zi_X7_aloneBehind, rfl, zq_s_callV (n := 1) (index := 213) (by decide +kernel) rfl zw_646 zw_647 zw_648 zw_89 zw_649 (by decide +kernel) (by decide +kernel) ⟨rfl, rfl⟩⟩, fun _ h => absurd h List.not_mem_nil⟩) <|
  zq_cons (zq_s_lload (by decide +kernel)) <|
  zq_cons (List.forall_mem_cons.mpr ⟨⟨zi_X8_addOdds, rfl, zq_s_callV (n := 2) (index := 404) (by decide +kernel) rfl zw_751 zw_753 zw_19 zw_80 zw_754 (by decide +kernel) (by decide +kernel) ⟨rfl, rfl⟩⟩, fun _ h => absurd h List.not_mem_nil⟩) <|
  zq_cons (zq_s_iinc (n := 1) (by decide +kernel) (by decide +kernel) (by decide +kernel)) <|
  zq_cons (zq_s_goto (off := (-61)) (by decide +kernel) (by decide)) <|
  zq_cons (zq_s_aload_n (n := 0) (by decide +kernel) rfl) <|
  zq_cons (zq_s_iload_n (n := 1) (by decide +kernel) rfl) <|
  zq_cons (zq_s_puti (index := 88) (by decide +kernel) zp_X8_88 (fun _ _ => ⟨rfl, rfl⟩)) <|
  zq_cons (zq_s_aload_n (n := 0) (by decide +kernel) rfl) <|
  zq_cons (zq_s_iload_n (n := 2) (by decide +kernel) rfl) <|
  zq_cons (zq_s_puti (index := 91) (by decide +kernel) zp_X8_91 (fun _ _ => ⟨rfl, rfl⟩)) <|
  zq_cons (⟨rfl, (by decide +kernel)⟩) <|
  zq_nil
def zc_X8_weighOdds : List (Nat × zq_It) := zc_X8_weighOdds_0 ++ (zc_X8_weighOdds_1)
theorem zk_X8_weighOdds : zq_oks zi_X8_weighOdds zc_X8_weighOdds := zq_app zk_X8_weighOdds_0 (zk_X8_weighOdds_1)
def zc_X8_weightOf : List (Nat × zq_It) := [(0, .inl (zq_push 1 (.long 1))), (1, .inl (zq_lst 2 3)), (2, .inl (zq_push 3 (.int 0))), (3, .inl (zq_is 5 5)), (5, .inl (zq_il 7 5)), (7, .inl (zq_al 8 0)), (8, .inl (zq_getf 11 [(7, 2)])), (11, .inl (zq_getf 14 [(1, 3)])), (14, .inl (zq_ic_ge 17 45)), (17, .inl (zq_ll 18 3)), (18, .inl (zq_il 19 2)), (19, .inl (zq_il 21 5)), (21, .inl (zq_i2 22 (fun x y => x >>> (y &&& 31)))), (22, .inl (zq_push 23 (.int 1))), (23, .inl (zq_i2 24 (fun x y => x &&& y))), (24, .inl (zq_if_ne 27 32)), (27, .inl (zq_il 28 1)), (28, .inl (zq_i2l 29)), (29, .inl (zq_goto 37)), (32, .inl (zq_push 34 (.int 16))), (34, .inl (zq_il 35 1)), (35, .inl (zq_i2 36 (fun x y => x - y))), (36, .inl (zq_i2l 37)), (37, .inl (zq_l2 38 (fun x y => x * y))), (38, .inl (zq_lst 39 3)), (39, .inl (zq_inc 42 5 1)), (42, .inl (zq_goto 5)), (45, .inl (zq_ll 46 3)), (46, .inr (.inr 3))]
theorem zk_X8_weightOf : zq_oks zi_X8_weightOf zc_X8_weightOf := zq_cons (zq_s_lconst (n := 1) (by decide +kernel) (by decide +kernel)) <|
  zq_cons (zq_s_lstore_n (n := 3) (by decide +kernel) rfl (by decide +kernel)) <|
  zq_cons (zq_s_iconst (n := 0) (by decide +kernel) (by decide +kernel)) <|
  zq_cons (zq_s_istore (by decide +kernel) (by decide +kernel)) <|
  zq_cons (zq_s_iload (by decide +kernel)) <|
  zq_cons (zq_s_aload_n (n := 0) (by decide +kernel) rfl) <|
  zq_cons (zq_s_getf (index := 26) (by decide +kernel) zf_X8_26) <|
  zq_cons (zq_s_getf (index := 152) (by decide +kernel) zf_X8_152) <|
  zq_cons (zq_s_ic_ge (off := 31) (by decide +kernel) (by decide)) <|
  zq_cons (zq_s_lload_n (n := 3) (by decide +kernel) rfl) <|
  zq_cons (zq_s_iload_n (n := 2) (by decide +kernel) rfl) <|
  zq_cons (zq_s_iload (by decide +kernel)) <|
  zq_cons (zq_s_ishr (by decide +kernel)) <|
  zq_cons (zq_s_iconst (n := 1) (by decide +kernel) (by decide +kernel)) <|
  zq_cons (zq_s_iand (by decide +kernel)) <|
  zq_cons (zq_s_if_ne (off := 8) (by decide +kernel) (by decide)) <|
  zq_cons (zq_s_iload_n (n := 1) (by decide +kernel) rfl) <|
  zq_cons (zq_s_i2l (by decide +kernel)) <|
  zq_cons (zq_s_goto (off := 8) (by decide +kernel) (by decide)) <|
  zq_cons (zq_s_bipush (n := 16) (by decide +kernel) (by decide +kernel)) <|
  zq_cons (zq_s_iload_n (n := 1) (by decide +kernel) rfl) <|
  zq_cons (zq_s_isub (by decide +kernel)) <|
  zq_cons (zq_s_i2l (by decide +kernel)) <|
  zq_cons (zq_s_lmul (by decide +kernel)) <|
  zq_cons (zq_s_lstore_n (n := 3) (by decide +kernel) rfl (by decide +kernel)) <|
  zq_cons (zq_s_iinc (n := 1) (by decide +kernel) (by decide +kernel) (by decide +kernel)) <|
  zq_cons (zq_s_goto (off := (-37)) (by decide +kernel) (by decide)) <|
  zq_cons (zq_s_lload_n (n := 3) (by decide +kernel) rfl) <|
  zq_cons (⟨rfl, (by decide +kernel)⟩) <|
  zq_nil
def zc_X8_addOdds : List (Nat × zq_It) := [(0, .inl (zq_push 1 (.int 0))), (1, .inl (zq_is 3 4)), (3, .inl (zq_il 5 4)), (5, .inl (zq_push 7 (.int 8))), (7, .inl (zq_ic_ge 10 36)), (10, .inl (zq_il 11 1)), (11, .inl (zq_il 13 4)), (13, .inl (zq_i2 14 (fun x y => x >>> (y &&& 31)))), (14, .inl (zq_push 15 (.int 1))), (15, .inl (zq_i2 16 (fun x y => x &&& y))), (16, .inl (zq_if_eq 19 30)), (19, .inl (zq_al 20 0)), (20, .inl (zq_getf 23 [(7, 11)])), (23, .inl (zq_il 25 4)), (25, .inl (zq_dup2 26)), (26, .inl (zq_lald 27)), (27, .inl (zq_ll 28 2)), (28, .inl (zq_l2 29 (fun x y => x + y))), (29, .inl (zq_last 30)), (30, .inl (zq_inc 33 4 1)), (33, .inl (zq_goto 3)), (36, .inr (.inr 0))]
theorem zk_X8_addOdds : zq_oks zi_X8_addOdds zc_X8_addOdds := zq_cons (zq_s_iconst (n := 0) (by decide +kernel) (by decide +kernel)) <|
  zq_cons (zq_s_istore (by decide +kernel) (by decide +kernel)) <|
  zq_cons (zq_s_iload (by decide +kernel)) <|
  zq_cons (zq_s_bipush (n := 8) (by decide +kernel) (by decide +kernel)) <|
  zq_cons (zq_s_ic_ge (off := 29) (by decide +kernel) (by decide)) <|
  zq_cons (zq_s_iload_n (n := 1) (by decide +kernel) rfl) <|
  zq_cons (zq_s_iload (by decide +kernel)) <|
  zq_cons (zq_s_ishr (by decide +kernel)) <|
  zq_cons (zq_s_iconst (n := 1) (by decide +kernel) (by decide +kernel)) <|
  zq_cons (zq_s_iand (by decide +kernel)) <|
  zq_cons (zq_s_if_eq (off := 14) (by decide +kernel) (by decide)) <|
  zq_cons (zq_s_aload_n (n := 0) (by decide +kernel) rfl) <|
  zq_cons (zq_s_getf (index := 73) (by decide +kernel) zf_X8_73) <|
  zq_cons (zq_s_iload (by decide +kernel)) <|
  zq_cons (zq_s_dup2 (by decide +kernel)) <|
  zq_cons (zq_s_lald (by decide +kernel)) <|
  zq_cons (zq_s_lload_n (n := 2) (by decide +kernel) rfl) <|
  zq_cons (zq_s_ladd (by decide +kernel)) <|
  zq_cons (zq_s_last (by decide +kernel)) <|
  zq_cons (zq_s_iinc (n := 1) (by decide +kernel) (by decide +kernel) (by decide +kernel)) <|
  zq_cons (zq_s_goto (off := (-30)) (by decide +kernel) (by decide)) <|
  zq_cons (⟨rfl, (by decide +kernel)⟩) <|
  zq_nil
def zc_X8_refuse : List (Nat × zq_It) := [(0, .inl (zq_al 1 0)), (1, .inl (zq_il 2 1)), (2, .inl (zq_puti 5 false [(7, 13)])), (5, .inl (zq_push 7 (.int (-10)))), (7, .inl (zq_il 8 1)), (8, .inl (zq_i2 9 (fun x y => x - y))), (9, .inr (.inr 1))]
theorem zk_X8_refuse : zq_oks zi_X8_refuse zc_X8_refuse := zq_cons (zq_s_aload_n (n := 0) (by decide +kernel) rfl) <|
  zq_cons (zq_s_iload_n (n := 1) (by decide +kernel) rfl) <|
  zq_cons (zq_s_puti (index := 81) (by decide +kernel) zp_X8_81 (fun _ _ => ⟨rfl, rfl⟩)) <|
  zq_cons (zq_s_bipush (n := (-10)) (by decide +kernel) (by decide +kernel)) <|
  zq_cons (zq_s_iload_n (n := 1) (by decide +kernel) rfl) <|
  zq_cons (zq_s_isub (by decide +kernel)) <|
  zq_cons (⟨rfl, (by decide +kernel)⟩) <|
  zq_nil
def zc_X8_refusalOfItem : List (Nat × zq_It) := [(0, .inl (zq_il 1 1)), (1, .inr (.inl (1, .inl zn_X8_isSheet))), (4, .inl (zq_if_eq 7 14)), (7, .inl (zq_il 8 2)), (8, .inr (.inl (1, .inl zn_X8_isForm))), (11, .inl (zq_if_ne 14 17)), (14, .inl (zq_push 16 (.int (-2)))), (16, .inr (.inr 1)), (17, .inl (zq_al 18 0)), (18, .inl (zq_getf 21 [(7, 6)])), (21, .inl (zq_il 22 1)), (22, .inl (zq_aald 23)), (23, .inl (zq_as 25 4)), (25, .inl (zq_al 27 4)), (27, .inr (.inl (1, .inr [(4, zn_X4_isLost)]))), (30, .inl (zq_if_eq 33 39)), (33, .inl (zq_al 34 0)), (34, .inl (zq_push 35 (.int 1))), (35, .inr (.inl (2, .inr [(7, zn_X8_refuse)]))), (38, .inr (.inr 1)), (39, .inl (zq_al 41 4)), (41, .inl (zq_getf 44 [(4, 1)])), (44, .inl (zq_il 45 2)), (45, .inl (zq_ic_eq 48 54)), (48, .inl (zq_al 49 0)), (49, .inl (zq_push 50 (.int 3))), (50, .inr (.inl (2, .inr [(7, zn_X8_refuse)]))), (53, .inr (.inr 1)), (54, .inl (zq_al 56 4)), (56, .inl (zq_il 57 3)), (57, .inl (zq_push 58 (.int 1))), (58, .inr (.inl (3, .inr [(4, zn_X4_holds)]))), (61, .inl (zq_if_eq 64 68)), (64, .inl (zq_push 65 (.int 0))), (65, .inl (zq_goto 73)), (68, .inl (zq_al 69 0)), (69, .inl (zq_push 70 (.int 2))), (70, .inr (.inl (2, .inr [(7, zn_X8_refuse)]))), (73, .inr (.inr 1))]
theorem zk_X8_refusalOfItem : zq_oks zi_X8_refusalOfItem zc_X8_refusalOfItem := zq_cons (zq_s_iload_n (n := 1) (by decide +kernel) rfl) <|
  zq_cons (⟨zi_X8_isSheet, rfl, zq_s_callS (n := 1) (index := 156) (by decide +kernel) zw_515 zw_516 zw_80 zw_517 (by decide +kernel) (by decide +kernel) ⟨rfl, rfl⟩⟩) <|
  zq_cons (zq_s_if_eq (off := 10) (by decide +kernel) (by decide)) <|
  zq_cons (zq_s_iload_n (n := 2) (by decide +kernel) rfl) <|
  zq_cons (⟨zi_X8_isForm, rfl, zq_s_callS (n := 1) (index := 270) (by decide +kernel) zw_768 zw_769 zw_80 zw_770 (by decide +kernel) (by decide +kernel) ⟨rfl, rfl⟩⟩) <|
  zq_cons (zq_s_if_ne (off := 6) (by decide +kernel) (by decide)) <|
  zq_cons (zq_s_bipush (n := (-2)) (by decide +kernel) (by decide +kernel)) <|
  zq_cons (⟨rfl, (by decide +kernel)⟩) <|
  zq_cons (zq_s_aload_n (n := 0) (by decide +kernel) rfl) <|
  zq_cons (zq_s_getf (index := 49) (by decide +kernel) zf_X8_49) <|
  zq_cons (zq_s_iload_n (n := 1) (by decide +kernel) rfl) <|
  zq_cons (zq_s_aald (by decide +kernel)) <|
  zq_cons (zq_s_astore (by decide +kernel) (by decide +kernel)) <|
  zq_cons (zq_s_aload (by decide +kernel)) <|
  zq_cons (List.forall_mem_cons.mpr ⟨⟨zi_X4_isLost, rfl, zq_s_callV (n := 0) (index := 159) (by decide +kernel) rfl zw_518 zw_519 zw_520 zw_88 zw_521 (by decide +kernel) (by decide +kernel) ⟨rfl, rfl⟩⟩, fun _ h => absurd h List.not_mem_nil⟩) <|
  zq_cons (zq_s_if_eq (off := 9) (by decide +kernel) (by decide)) <|
  zq_cons (zq_s_aload_n (n := 0) (by decide +kernel) rfl) <|
  zq_cons (zq_s_iconst (n := 1) (by decide +kernel) (by decide +kernel)) <|
  zq_cons (List.forall_mem_cons.mpr ⟨⟨zi_X8_refuse, rfl, zq_s_callV (n := 1) (index := 162) (by decide +kernel) rfl zw_522 zw_524 zw_5 zw_80 zw_525 (by decide +kernel) (by decide +kernel) ⟨rfl, rfl⟩⟩, fun _ h => absurd h List.not_mem_nil⟩) <|
  zq_cons (⟨rfl, (by decide +kernel)⟩) <|
  zq_cons (zq_s_aload (by decide +kernel)) <|
  zq_cons (zq_s_getf (index := 282) (by decide +kernel) zf_X8_282) <|
  zq_cons (zq_s_iload_n (n := 2) (by decide +kernel) rfl) <|
  zq_cons (zq_s_ic_eq (off := 9) (by decide +kernel) (by decide)) <|
  zq_cons (zq_s_aload_n (n := 0) (by decide +kernel) rfl) <|
  zq_cons (zq_s_iconst (n := 3) (by decide +kernel) (by decide +kernel)) <|
  zq_cons (List.forall_mem_cons.mpr ⟨⟨zi_X8_refuse, rfl, zq_s_callV (n := 1) (index := 162) (by decide +kernel) rfl zw_522 zw_524 zw_5 zw_80 zw_525 (by decide +kernel) (by decide +kernel) ⟨rfl, rfl⟩⟩, fun _ h => absurd h List.not_mem_nil⟩) <|
  zq_cons (⟨rfl, (by decide +kernel)⟩) <|
  zq_cons (zq_s_aload (by decide +kernel)) <|
  zq_cons (zq_s_iload_n (n := 3) (by decide +kernel) rfl) <|
  zq_cons (zq_s_iconst (n := 1) (by decide +kernel) (by decide +kernel)) <|
  zq_cons (List.forall_mem_cons.mpr ⟨⟨zi_X4_holds, rfl, zq_s_callV (n := 2) (index := 285) (by decide +kernel) rfl zw_788 zw_789 zw_790 zw_88 zw_791 (by decide +kernel) (by decide +kernel) ⟨rfl, rfl⟩⟩, fun _ h => absurd h List.not_mem_nil⟩) <|
  zq_cons (zq_s_if_eq (off := 7) (by decide +kernel) (by decide)) <|
  zq_cons (zq_s_iconst (n := 0) (by decide +kernel) (by decide +kernel)) <|
  zq_cons (zq_s_goto (off := 8) (by decide +kernel) (by decide)) <|
  zq_cons (zq_s_aload_n (n := 0) (by decide +kernel) rfl) <|
  zq_cons (zq_s_iconst (n := 2) (by decide +kernel) (by decide +kernel)) <|
  zq_cons (List.forall_mem_cons.mpr ⟨⟨zi_X8_refuse, rfl, zq_s_callV (n := 1) (index := 162) (by decide +kernel) rfl zw_522 zw_524 zw_5 zw_80 zw_525 (by decide +kernel) (by decide +kernel) ⟨rfl, rfl⟩⟩, fun _ h => absurd h List.not_mem_nil⟩) <|
  zq_cons (⟨rfl, (by decide +kernel)⟩) <|
  zq_nil
def zc_X9_in : List (Nat × zq_It) := [(0, .inl (zq_il 1 0)), (1, .inl (zq_il 2 1)), (2, .inl (zq_ic_lt 5 14)), (5, .inl (zq_il 6 0)), (6, .inl (zq_il 7 2)), (7, .inl (zq_ic_gt 10 14)), (10, .inl (zq_push 11 (.int 1))), (11, .inl (zq_goto 15)), (14, .inl (zq_push 15 (.int 0))), (15, .inr (.inr 2))]
theorem zk_X9_in : zq_oks zi_X9_in zc_X9_in := zq_cons (zq_s_iload_n (n := 0) (by decide +kernel) rfl) <|
  zq_cons (zq_s_iload_n (n := 1) (by decide +kernel) rfl) <|
  zq_cons (zq_s_ic_lt (off := 12) (by decide +kernel) (by decide)) <|
  zq_cons (zq_s_iload_n (n := 0) (by decide +kernel) rfl) <|
  zq_cons (zq_s_iload_n (n := 2) (by decide +kernel) rfl) <|
  zq_cons (zq_s_ic_gt (off := 7) (by decide +kernel) (by decide)) <|
  zq_cons (zq_s_iconst (n := 1) (by decide +kernel) (by decide +kernel)) <|
  zq_cons (zq_s_goto (off := 4) (by decide +kernel) (by decide)) <|
  zq_cons (zq_s_iconst (n := 0) (by decide +kernel) (by decide +kernel)) <|
  zq_cons (⟨rfl, (by decide +kernel)⟩) <|
  zq_nil
def zc_X9_isIn : List (Nat × zq_It) := [(0, .inl (zq_il 1 0)), (1, .inl (zq_il 2 1)), (2, .inl (zq_i2 3 (fun x y => x >>> (y &&& 31)))), (3, .inl (zq_push 4 (.int 1))), (4, .inl (zq_i2 5 (fun x y => x &&& y))), (5, .inl (zq_push 6 (.int 1))), (6, .inl (zq_ic_ne 9 13)), (9, .inl (zq_push 10 (.int 1))), (10, .inl (zq_goto 14)), (13, .inl (zq_push 14 (.int 0))), (14, .inr (.inr 2))]
theorem zk_X9_isIn : zq_oks zi_X9_isIn zc_X9_isIn := zq_cons (zq_s_iload_n (n := 0) (by decide +kernel) rfl) <|
  zq_cons (zq_s_iload_n (n := 1) (by decide +kernel) rfl) <|
  zq_cons (zq_s_ishr (by decide +kernel)) <|
  zq_cons (zq_s_iconst (n := 1) (by decide +kernel) (by decide +kernel)) <|
  zq_cons (zq_s_iand (by decide +kernel)) <|
  zq_cons (zq_s_iconst (n := 1) (by decide +kernel) (by decide +kernel)) <|
  zq_cons (zq_s_ic_ne (off := 7) (by decide +kernel) (by decide)) <|
  zq_cons (zq_s_iconst (n := 1) (by decide +kernel) (by decide +kernel)) <|
  zq_cons (zq_s_goto (off := 4) (by decide +kernel) (by decide)) <|
  zq_cons (zq_s_iconst (n := 0) (by decide +kernel) (by decide +kernel)) <|
  zq_cons (⟨rfl, (by decide +kernel)⟩) <|
  zq_nil
def zc_X9_no : List (Nat × zq_It) := [(0, .inl (zq_push 3 (.long (-9223372036854775808)))), (3, .inl (zq_il 4 0)), (4, .inl (zq_i2l 5)), (5, .inl (zq_l2 6 (fun x y => x - y))), (6, .inr (.inr 3))]
theorem zk_X9_no : zq_oks zi_X9_no zc_X9_no := zq_cons (zq_s_ldc2 (index := 93) (by decide +kernel) zw_1316) <|
  zq_cons (zq_s_iload_n (n := 0) (by decide +kernel) rfl) <|
  zq_cons (zq_s_i2l (by decide +kernel)) <|
  zq_cons (zq_s_lsub (by decide +kernel)) <|
  zq_cons (⟨rfl, (by decide +kernel)⟩) <|
  zq_nil
def zc_X9_lowest : List (Nat × zq_It) := [(0, .inl (zq_ll 1 0)), (1, .inl (zq_lst 3 5)), (3, .inl (zq_ll 4 2)), (4, .inl (zq_lst 6 7)), (6, .inl (zq_ll 8 7)), (8, .inl (zq_push 9 (.long 0))), (9, .inl (zq_lcmp 10)), (10, .inl (zq_if_eq 13 31)), (13, .inl (zq_ll 15 5)), (15, .inl (zq_ll 17 7)), (17, .inl (zq_l2c 18 (fun x y => x - x / y * y))), (18, .inl (zq_lst 20 9)), (20, .inl (zq_ll 22 7)), (22, .inl (zq_lst 24 5)), (24, .inl (zq_ll 26 9)), (26, .inl (zq_lst 28 7)), (28, .inl (zq_goto 6)), (31, .inl (zq_il 33 4)), (33, .inl (zq_if_ne 36 43)), (36, .inl (zq_ll 37 0)), (37, .inl (zq_ll 39 5)), (39, .inl (zq_l2c 40 (fun x y => x / y))), (40, .inl (zq_goto 47)), (43, .inl (zq_ll 44 2)), (44, .inl (zq_ll 46 5)), (46, .inl (zq_l2c 47 (fun x y => x / y))), (47, .inr (.inr 3))]
theorem zk_X9_lowest : zq_oks zi_X9_lowest zc_X9_lowest := zq_cons (zq_s_lload_n (n := 0) (by decide +kernel) rfl) <|
  zq_cons (zq_s_lstore (by decide +kernel) (by decide +kernel)) <|
  zq_cons (zq_s_lload_n (n := 2) (by decide +kernel) rfl) <|
  zq_cons (zq_s_lstore (by decide +kernel) (by decide +kernel)) <|
  zq_cons (zq_s_lload (by decide +kernel)) <|
  zq_cons (zq_s_lconst (n := 0) (by decide +kernel) (by decide +kernel)) <|
  zq_cons (zq_s_lcmp (by decide +kernel)) <|
  zq_cons (zq_s_if_eq (off := 21) (by decide +kernel) (by decide)) <|
  zq_cons (zq_s_lload (by decide +kernel)) <|
  zq_cons (zq_s_lload (by decide +kernel)) <|
  zq_cons (zq_s_lrem (by decide +kernel)) <|
  zq_cons (zq_s_lstore (by decide +kernel) (by decide +kernel)) <|
  zq_cons (zq_s_lload (by decide +kernel)) <|
  zq_cons (zq_s_lstore (by decide +kernel) (by decide +kernel)) <|
  zq_cons (zq_s_lload (by decide +kernel)) <|
  zq_cons (zq_s_lstore (by decide +kernel) (by decide +kernel)) <|
  zq_cons (zq_s_goto (off := (-22)) (by decide +kernel) (by decide)) <|
  zq_cons (zq_s_iload (by decide +kernel)) <|
  zq_cons (zq_s_if_ne (off := 10) (by decide +kernel) (by decide)) <|
  zq_cons (zq_s_lload_n (n := 0) (by decide +kernel) rfl) <|
  zq_cons (zq_s_lload (by decide +kernel)) <|
  zq_cons (zq_s_ldiv (by decide +kernel)) <|
  zq_cons (zq_s_goto (off := 7) (by decide +kernel) (by decide)) <|
  zq_cons (zq_s_lload_n (n := 2) (by decide +kernel) rfl) <|
  zq_cons (zq_s_lload (by decide +kernel)) <|
  zq_cons (zq_s_ldiv (by decide +kernel)) <|
  zq_cons (⟨rfl, (by decide +kernel)⟩) <|
  zq_nil
def zc_X9_isText : List (Nat × zq_It) := [(0, .inl (zq_il 1 0)), (1, .inl (zq_push 2 (.int 0))), (2, .inl (zq_push 3 (.int 1))), (3, .inr (.inl (3, .inl zn_X9_in))), (6, .inr (.inr 2))]
theorem zk_X9_isText : zq_oks zi_X9_isText zc_X9_isText := zq_cons (zq_s_iload_n (n := 0) (by decide +kernel) rfl) <|
  zq_cons (zq_s_iconst (n := 0) (by decide +kernel) (by decide +kernel)) <|
  zq_cons (zq_s_iconst (n := 1) (by decide +kernel) (by decide +kernel)) <|
  zq_cons (⟨zi_X9_in, rfl, zq_s_callS (n := 3) (index := 95) (by decide +kernel) zw_984 zw_985 zw_91 zw_986 (by decide +kernel) (by decide +kernel) ⟨rfl, rfl⟩⟩) <|
  zq_cons (⟨rfl, (by decide +kernel)⟩) <|
  zq_nil
def zc_X9_isHour : List (Nat × zq_It) := [(0, .inl (zq_il 1 0)), (1, .inl (zq_push 2 (.int 0))), (2, .inl (zq_push 4 (.int 23))), (4, .inr (.inl (3, .inl zn_X9_in))), (7, .inr (.inr 2))]
theorem zk_X9_isHour : zq_oks zi_X9_isHour zc_X9_isHour := zq_cons (zq_s_iload_n (n := 0) (by decide +kernel) rfl) <|
  zq_cons (zq_s_iconst (n := 0) (by decide +kernel) (by decide +kernel)) <|
  zq_cons (zq_s_bipush (n := 23) (by decide +kernel) (by decide +kernel)) <|
  zq_cons (⟨zi_X9_in, rfl, zq_s_callS (n := 3) (index := 95) (by decide +kernel) zw_984 zw_985 zw_91 zw_986 (by decide +kernel) (by decide +kernel) ⟨rfl, rfl⟩⟩) <|
  zq_cons (⟨rfl, (by decide +kernel)⟩) <|
  zq_nil
def zc_X9_isTwo : List (Nat × zq_It) := [(0, .inl (zq_il 1 0)), (1, .inl (zq_push 2 (.int 0))), (2, .inl (zq_push 3 (.int 1))), (3, .inr (.inl (3, .inl zn_X9_in))), (6, .inr (.inr 2))]
theorem zk_X9_isTwo : zq_oks zi_X9_isTwo zc_X9_isTwo := zq_cons (zq_s_iload_n (n := 0) (by decide +kernel) rfl) <|
  zq_cons (zq_s_iconst (n := 0) (by decide +kernel) (by decide +kernel)) <|
  zq_cons (zq_s_iconst (n := 1) (by decide +kernel) (by decide +kernel)) <|
  zq_cons (⟨zi_X9_in, rfl, zq_s_callS (n := 3) (index := 95) (by decide +kernel) zw_984 zw_985 zw_91 zw_986 (by decide +kernel) (by decide +kernel) ⟨rfl, rfl⟩⟩) <|
  zq_cons (⟨rfl, (by decide +kernel)⟩) <|
  zq_nil
def zc_X9_isThree : List (Nat × zq_It) := [(0, .inl (zq_il 1 0)), (1, .inl (zq_push 2 (.int 0))), (2, .inl (zq_push 3 (.int 2))), (3, .inr (.inl (3, .inl zn_X9_in))), (6, .inr (.inr 2))]
theorem zk_X9_isThree : zq_oks zi_X9_isThree zc_X9_isThree := zq_cons (zq_s_iload_n (n := 0) (by decide +kernel) rfl) <|
  zq_cons (zq_s_iconst (n := 0) (by decide +kernel) (by decide +kernel)) <|
  zq_cons (zq_s_iconst (n := 2) (by decide +kernel) (by decide +kernel)) <|
  zq_cons (⟨zi_X9_in, rfl, zq_s_callS (n := 3) (index := 95) (by decide +kernel) zw_984 zw_985 zw_91 zw_986 (by decide +kernel) (by decide +kernel) ⟨rfl, rfl⟩⟩) <|
  zq_cons (⟨rfl, (by decide +kernel)⟩) <|
  zq_nil
def zc_X9_isEight : List (Nat × zq_It) := [(0, .inl (zq_il 1 0)), (1, .inl (zq_push 2 (.int 0))), (2, .inl (zq_push 4 (.int 7))), (4, .inr (.inl (3, .inl zn_X9_in))), (7, .inr (.inr 2))]
theorem zk_X9_isEight : zq_oks zi_X9_isEight zc_X9_isEight := zq_cons (zq_s_iload_n (n := 0) (by decide +kernel) rfl) <|
  zq_cons (zq_s_iconst (n := 0) (by decide +kernel) (by decide +kernel)) <|
  zq_cons (zq_s_bipush (n := 7) (by decide +kernel) (by decide +kernel)) <|
  zq_cons (⟨zi_X9_in, rfl, zq_s_callS (n := 3) (index := 95) (by decide +kernel) zw_984 zw_985 zw_91 zw_986 (by decide +kernel) (by decide +kernel) ⟨rfl, rfl⟩⟩) <|
  zq_cons (⟨rfl, (by decide +kernel)⟩) <|
  zq_nil
def zc_X9_type_0 : List (Nat × zq_It) := [(0, .inl (zq_il 1 1)), (1, .inr (.inl (1, .inl zn_X9_isText))), (4, .inl (zq_if_eq 7 18)), (7, .inl (zq_il 8 2)), (8, .inl (zq_push 9 (.int 0))), (9, .inl (zq_push 12 (.int 255))), (12, .inr (.inl (3, .inl zn_X9_in))), (15, .inl (zq_if_ne 18 21)), (18, .inl (zq_push 20 (.int (-2)))), (20, .inr (.inr 1)), (21, .inl (zq_al 22 0)), (22, .inl (zq_getf 25 [(8, 0)])), (25, .inl (zq_il 26 1)), (26, .inl (zq_iald 27)), (27, .inl (zq_il 28 1)), (28, .inl (zq_if_ne 31 36)), (31, .inl (zq_push 33 (.int 35))), (33, .inl (zq_goto 38)), (36, .inl (zq_push 38 (.int 31))), (38, .inl (zq_ic_ne 41 44)), (41, .inl (zq_push 43 (.int (-4)))), (43, .inr (.inr 1)), (44, .inl (zq_al 45 0)), (45, .inl (zq_getf 48 [(8, 1)])), (48, .inl (zq_push 50 (.int 35))), (50, .inl (zq_il 51 1)), (51, .inl (zq_i2 52 (fun x y => x * y))), (52, .inl (zq_al 53 0)), (53, .inl (zq_getf 56 [(8, 0)])), (56, .inl (zq_il 57 1)), (57, .inl (zq_iald 58)), (58, .inl (zq_i2 59 (fun x y => x + y))), (59, .inl (zq_il 60 2)), (60, .inl (zq_iast 61)), (61, .inl (zq_al 62 0)), (62, .inl (zq_getf 65 [(8, 0)])), (65, .inl (zq_il 66 1)), (66, .inl (zq_dup2 67)), (67, .inl (zq_iald 68)), (68, .inl (zq_push 69 (.int 1)))]
theorem zk_X9_type_0 : zq_oks zi_X9_type zc_X9_type_0 := zq_cons (zq_s_iload_n (n := 1) (by decide +kernel) rfl) <|
  zq_cons (⟨zi_X9_isText, rfl, zq_s_callS (n := 1) (index := 99) (by decide +kernel) zw_981 zw_982 zw_91 zw_983 (by decide +kernel) (by decide +kernel) ⟨rfl, rfl⟩⟩) <|
  zq_cons (zq_s_if_eq (off := 14) (by decide +kernel) (by decide)) <|
  zq_cons (zq_s_iload_n (n := 2) (by decide +kernel) rfl) <|
  zq_cons (zq_s_iconst (n := 0) (by decide +kernel) (by decide +kernel)) <|
  zq_cons (zq_s_sipush (n := 255) (by decide +kernel) (by decide +kernel)) <|
  zq_cons (⟨zi_X9_in, rfl, zq_s_callS (n := 3) (index := 95) (by decide +kernel) zw_984 zw_985 zw_91 zw_986 (by decide +kernel) (by decide +kernel) ⟨rfl, rfl⟩⟩) <|
  zq_cons (zq_s_if_ne (off := 6) (by decide +kernel) (by decide)) <|
  zq_cons (zq_s_bipush (n := (-2)) (by decide +kernel) (by decide +kernel)) <|
  zq_cons (⟨rfl, (by decide +kernel)⟩) <|
  zq_cons (zq_s_aload_n (n := 0) (by decide +kernel) rfl) <|
  zq_cons (zq_s_getf (index := 7) (by decide +kernel) zf_X9_7) <|
  zq_cons (zq_s_iload_n (n := 1) (by decide +kernel) rfl) <|
  zq_cons (zq_s_iald (by decide +kernel)) <|
  zq_cons (zq_s_iload_n (n := 1) (by decide +kernel) rfl) <|
  zq_cons (zq_s_if_ne (off := 8) (by decide +kernel) (by decide)) <|
  zq_cons (zq_s_bipush (n := 35) (by decide +kernel) (by decide +kernel)) <|
  zq_cons (zq_s_goto (off := 5) (by decide +kernel) (by decide)) <|
  zq_cons (zq_s_bipush (n := 31) (by decide +kernel) (by decide +kernel)) <|
  zq_cons (zq_s_ic_ne (off := 6) (by decide +kernel) (by decide)) <|
  zq_cons (zq_s_bipush (n := (-4)) (by decide +kernel) (by decide +kernel)) <|
  zq_cons (⟨rfl, (by decide +kernel)⟩) <|
  zq_cons (zq_s_aload_n (n := 0) (by decide +kernel) rfl) <|
  zq_cons (zq_s_getf (index := 13) (by decide +kernel) zf_X9_13) <|
  zq_cons (zq_s_bipush (n := 35) (by decide +kernel) (by decide +kernel)) <|
  zq_cons (zq_s_iload_n (n := 1) (by decide +kernel) rfl) <|
  zq_cons (zq_s_imul (by decide +kernel)) <|
  zq_cons (zq_s_aload_n (n := 0) (by decide +kernel) rfl) <|
  zq_cons (zq_s_getf (index := 7) (by decide +kernel) zf_X9_7) <|
  zq_cons (zq_s_iload_n (n := 1) (by decide +kernel) rfl) <|
  zq_cons (zq_s_iald (by decide +kernel)) <|
  zq_cons (zq_s_iadd (by decide +kernel)) <|
  zq_cons (zq_s_iload_n (n := 2) (by decide +kernel) rfl) <|
  zq_cons (zq_s_iast (by decide +kernel)) <|
  zq_cons (zq_s_aload_n (n := 0) (by decide +kernel) rfl) <|
  zq_cons (zq_s_getf (index := 7) (by decide +kernel) zf_X9_7) <|
  zq_cons (zq_s_iload_n (n := 1) (by decide +kernel) rfl) <|
  zq_cons (zq_s_dup2 (by decide +kernel)) <|
  zq_cons (zq_s_iald (by decide +kernel)) <|
  zq_cons (zq_s_iconst (n := 1) (by decide +kernel) (by decide +kernel)) <|
  zq_nil
def zc_X9_type_1 : List (Nat × zq_It) := [(69, .inl (zq_i2 70 (fun x y => x + y))), (70, .inl (zq_iast 71)), (71, .inl (zq_al 72 0)), (72, .inl (zq_getf 75 [(8, 0)])), (75, .inl (zq_il 76 1)), (76, .inl (zq_iald 77)), (77, .inr (.inr 1))]
theorem zk_X9_type_1 : zq_oks zi_X9_type zc_X9_type_1 := zq_cons (zq_s_iadd (by decide +kernel)) <|
  zq_cons (zq_s_iast (by decide +kernel)) <|
  zq_cons (zq_s_aload_n (n := 0) (by decide +kernel) rfl) <|
  zq_cons (zq_s_getf (index := 7) (by decide +kernel) zf_X9_7) <|
  zq_cons (zq_s_iload_n (n := 1) (by decide +kernel) rfl) <|
  zq_cons (zq_s_iald (by decide +kernel)) <|
  zq_cons (⟨rfl, (by decide +kernel)⟩) <|
  zq_nil
def zc_X9_type : List (Nat × zq_It) := zc_X9_type_0 ++ (zc_X9_type_1)
theorem zk_X9_type : zq_oks zi_X9_type zc_X9_type := zq_app zk_X9_type_0 (zk_X9_type_1)
def zc_X9_wipe : List (Nat × zq_It) := [(0, .inl (zq_il 1 1)), (1, .inr (.inl (1, .inl zn_X9_isText))), (4, .inl (zq_if_ne 7 10)), (7, .inl (zq_push 9 (.int (-2)))), (9, .inr (.inr 1)), (10, .inl (zq_al 11 0)), (11, .inl (zq_getf 14 [(8, 0)])), (14, .inl (zq_il 15 1)), (15, .inl (zq_iald 16)), (16, .inl (zq_is 17 2)), (17, .inl (zq_al 18 0)), (18, .inl (zq_getf 21 [(8, 0)])), (21, .inl (zq_il 22 1)), (22, .inl (zq_push 23 (.int 0))), (23, .inl (zq_iast 24)), (24, .inl (zq_il 25 2)), (25, .inr (.inr 1))]
theorem zk_X9_wipe : zq_oks zi_X9_wipe zc_X9_wipe := zq_cons (zq_s_iload_n (n := 1) (by decide +kernel) rfl) <|
  zq_cons (⟨zi_X9_isText, rfl, zq_s_callS (n := 1) (index := 99) (by decide +kernel) zw_981 zw_982 zw_91 zw_983 (by decide +kernel) (by decide +kernel) ⟨rfl, rfl⟩⟩) <|
  zq_cons (zq_s_if_ne (off := 6) (by decide +kernel) (by decide)) <|
  zq_cons (zq_s_bipush (n := (-2)) (by decide +kernel) (by decide +kernel)) <|
  zq_cons (⟨rfl, (by decide +kernel)⟩) <|
  zq_cons (zq_s_aload_n (n := 0) (by decide +kernel) rfl) <|
  zq_cons (zq_s_getf (index := 7) (by decide +kernel) zf_X9_7) <|
  zq_cons (zq_s_iload_n (n := 1) (by decide +kernel) rfl) <|
  zq_cons (zq_s_iald (by decide +kernel)) <|
  zq_cons (zq_s_istore_n (n := 2) (by decide +kernel) rfl (by decide +kernel)) <|
  zq_cons (zq_s_aload_n (n := 0) (by decide +kernel) rfl) <|
  zq_cons (zq_s_getf (index := 7) (by decide +kernel) zf_X9_7) <|
  zq_cons (zq_s_iload_n (n := 1) (by decide +kernel) rfl) <|
  zq_cons (zq_s_iconst (n := 0) (by decide +kernel) (by decide +kernel)) <|
  zq_cons (zq_s_iast (by decide +kernel)) <|
  zq_cons (zq_s_iload_n (n := 2) (by decide +kernel) rfl) <|
  zq_cons (⟨rfl, (by decide +kernel)⟩) <|
  zq_nil
def zc_X9_undo : List (Nat × zq_It) := [(0, .inl (zq_il 1 1)), (1, .inr (.inl (1, .inl zn_X9_isText))), (4, .inl (zq_if_ne 7 10)), (7, .inl (zq_push 9 (.int (-2)))), (9, .inr (.inr 1)), (10, .inl (zq_al 11 0)), (11, .inl (zq_getf 14 [(8, 0)])), (14, .inl (zq_il 15 1)), (15, .inl (zq_iald 16)), (16, .inl (zq_if_ne 19 22)), (19, .inl (zq_push 21 (.int (-3)))), (21, .inr (.inr 1)), (22, .inl (zq_al 23 0)), (23, .inl (zq_getf 26 [(8, 0)])), (26, .inl (zq_il 27 1)), (27, .inl (zq_dup2 28)), (28, .inl (zq_iald 29)), (29, .inl (zq_push 30 (.int 1))), (30, .inl (zq_i2 31 (fun x y => x - y))), (31, .inl (zq_iast 32)), (32, .inl (zq_al 33 0)), (33, .inl (zq_getf 36 [(8, 0)])), (36, .inl (zq_il 37 1)), (37, .inl (zq_iald 38)), (38, .inr (.inr 1))]
theorem zk_X9_undo : zq_oks zi_X9_undo zc_X9_undo := zq_cons (zq_s_iload_n (n := 1) (by decide +kernel) rfl) <|
  zq_cons (⟨zi_X9_isText, rfl, zq_s_callS (n := 1) (index := 99) (by decide +kernel) zw_981 zw_982 zw_91 zw_983 (by decide +kernel) (by decide +kernel) ⟨rfl, rfl⟩⟩) <|
  zq_cons (zq_s_if_ne (off := 6) (by decide +kernel) (by decide)) <|
  zq_cons (zq_s_bipush (n := (-2)) (by decide +kernel) (by decide +kernel)) <|
  zq_cons (⟨rfl, (by decide +kernel)⟩) <|
  zq_cons (zq_s_aload_n (n := 0) (by decide +kernel) rfl) <|
  zq_cons (zq_s_getf (index := 7) (by decide +kernel) zf_X9_7) <|
  zq_cons (zq_s_iload_n (n := 1) (by decide +kernel) rfl) <|
  zq_cons (zq_s_iald (by decide +kernel)) <|
  zq_cons (zq_s_if_ne (off := 6) (by decide +kernel) (by decide)) <|
  zq_cons (zq_s_bipush (n := (-3)) (by decide +kernel) (by decide +kernel)) <|
  zq_cons (⟨rfl, (by decide +kernel)⟩) <|
  zq_cons (zq_s_aload_n (n := 0) (by decide +kernel) rfl) <|
  zq_cons (zq_s_getf (index := 7) (by decide +kernel) zf_X9_7) <|
  zq_cons (zq_s_iload_n (n := 1) (by decide +kernel) rfl) <|
  zq_cons (zq_s_dup2 (by decide +kernel)) <|
  zq_cons (zq_s_iald (by decide +kernel)) <|
  zq_cons (zq_s_iconst (n := 1) (by decide +kernel) (by decide +kernel)) <|
  zq_cons (zq_s_isub (by decide +kernel)) <|
  zq_cons (zq_s_iast (by decide +kernel)) <|
  zq_cons (zq_s_aload_n (n := 0) (by decide +kernel) rfl) <|
  zq_cons (zq_s_getf (index := 7) (by decide +kernel) zf_X9_7) <|
  zq_cons (zq_s_iload_n (n := 1) (by decide +kernel) rfl) <|
  zq_cons (zq_s_iald (by decide +kernel)) <|
  zq_cons (⟨rfl, (by decide +kernel)⟩) <|
  zq_nil
def zc_X9_byteAt : List (Nat × zq_It) := [(0, .inl (zq_il 1 2)), (1, .inl (zq_al 2 0)), (2, .inl (zq_getf 5 [(8, 0)])), (5, .inl (zq_il 6 1)), (6, .inl (zq_iald 7)), (7, .inl (zq_ic_ge 10 24)), (10, .inl (zq_al 11 0)), (11, .inl (zq_getf 14 [(8, 1)])), (14, .inl (zq_push 16 (.int 35))), (16, .inl (zq_il 17 1)), (17, .inl (zq_i2 18 (fun x y => x * y))), (18, .inl (zq_il 19 2)), (19, .inl (zq_i2 20 (fun x y => x + y))), (20, .inl (zq_iald 21)), (21, .inl (zq_goto 25)), (24, .inl (zq_push 25 (.int (-1)))), (25, .inr (.inr 1))]
theorem zk_X9_byteAt : zq_oks zi_X9_byteAt zc_X9_byteAt := zq_cons (zq_s_iload_n (n := 2) (by decide +kernel) rfl) <|
  zq_cons (zq_s_aload_n (n := 0) (by decide +kernel) rfl) <|
  zq_cons (zq_s_getf (index := 7) (by decide +kernel) zf_X9_7) <|
  zq_cons (zq_s_iload_n (n := 1) (by decide +kernel) rfl) <|
  zq_cons (zq_s_iald (by decide +kernel)) <|
  zq_cons (zq_s_ic_ge (off := 17) (by decide +kernel) (by decide)) <|
  zq_cons (zq_s_aload_n (n := 0) (by decide +kernel) rfl) <|
  zq_cons (zq_s_getf (index := 13) (by decide +kernel) zf_X9_13) <|
  zq_cons (zq_s_bipush (n := 35) (by decide +kernel) (by decide +kernel)) <|
  zq_cons (zq_s_iload_n (n := 1) (by decide +kernel) rfl) <|
  zq_cons (zq_s_imul (by decide +kernel)) <|
  zq_cons (zq_s_iload_n (n := 2) (by decide +kernel) rfl) <|
  zq_cons (zq_s_iadd (by decide +kernel)) <|
  zq_cons (zq_s_iald (by decide +kernel)) <|
  zq_cons (zq_s_goto (off := 4) (by decide +kernel) (by decide)) <|
  zq_cons (zq_s_iconst (n := (-1)) (by decide +kernel) (by decide +kernel)) <|
  zq_cons (⟨rfl, (by decide +kernel)⟩) <|
  zq_nil
def zc_X9_readsDoor_0 : List (Nat × zq_It) := [(0, .inl (zq_al 1 0)), (1, .inl (zq_push 2 (.int 0))), (2, .inl (zq_il 3 2)), (3, .inr (.inl (3, .inr [(8, zn_X9_byteAt)]))), (6, .inl (zq_push 8 (.int 48))), (8, .inl (zq_i2 9 (fun x y => x - y))), (9, .inl (zq_is 10 3)), (10, .inl (zq_al 11 0)), (11, .inl (zq_push 12 (.int 0))), (12, .inl (zq_il 13 2)), (13, .inl (zq_push 14 (.int 1))), (14, .inl (zq_i2 15 (fun x y => x + y))), (15, .inr (.inl (3, .inr [(8, zn_X9_byteAt)]))), (18, .inl (zq_push 20 (.int 48))), (20, .inl (zq_i2 21 (fun x y => x - y))), (21, .inl (zq_is 23 4)), (23, .inl (zq_il 24 1)), (24, .inl (zq_push 26 (.int 12))), (26, .inl (zq_ic_eq 29 36)), (29, .inl (zq_il 30 3)), (30, .inr (.inl (1, .inl zn_X9_isEight))), (33, .inl (zq_if_ne 36 38)), (36, .inl (zq_push 37 (.int 0))), (37, .inr (.inr 1)), (38, .inl (zq_il 40 4)), (40, .inr (.inl (1, .inl zn_X9_isEight))), (43, .inl (zq_if_eq 46 52)), (46, .inl (zq_il 48 4)), (48, .inl (zq_il 49 3)), (49, .inl (zq_ic_ne 52 54)), (52, .inl (zq_push 53 (.int 1))), (53, .inr (.inr 1)), (54, .inl (zq_al 55 0)), (55, .inl (zq_getf 58 [(8, 3)])), (58, .inl (zq_il 59 1)), (59, .inl (zq_il 60 3)), (60, .inl (zq_iast 61)), (61, .inl (zq_al 62 0)), (62, .inl (zq_getf 65 [(8, 4)])), (65, .inl (zq_il 66 1))]
theorem zk_X9_readsDoor_0 : zq_oks zi_X9_readsDoor zc_X9_readsDoor_0 := zq_cons (zq_s_aload_n (n := 0) (by decide +kernel) rfl) <|
  zq_cons (zq_s_iconst (n := 0) (by decide +kernel) (by decide +kernel)) <|
  zq_cons (zq_s_iload_n (n := 2) (by decide +kernel) rfl) <|
  zq_cons (List.forall_mem_cons.mpr ⟨⟨zi_X9_byteAt, rfl, zq_s_callV (n := 2) (index := 103) (by decide +kernel) rfl zw_1011 zw_1013 zw_27 zw_91 zw_1014 (by decide +kernel) (by decide +kernel) ⟨rfl, rfl⟩⟩, fun _ h => absurd h List.not_mem_nil⟩) <|
  zq_cons (zq_s_bipush (n := 48) (by decide +kernel) (by decide +kernel)) <|
  zq_cons (zq_s_isub (by decide +kernel)) <|
  zq_cons (zq_s_istore_n (n := 3) (by decide +kernel) rfl (by decide +kernel)) <|
  zq_cons (zq_s_aload_n (n := 0) (by decide +kernel) rfl) <|
  zq_cons (zq_s_iconst (n := 0) (by decide +kernel) (by decide +kernel)) <|
  zq_cons (zq_s_iload_n (n := 2) (by decide +kernel) rfl) <|
  zq_cons (zq_s_iconst (n := 1) (by decide +kernel) (by decide +kernel)) <|
  zq_cons (zq_s_iadd (by decide +kernel)) <|
  zq_cons (List.forall_mem_cons.mpr ⟨⟨zi_X9_byteAt, rfl, zq_s_callV (n := 2) (index := 103) (by decide +kernel) rfl zw_1011 zw_1013 zw_27 zw_91 zw_1014 (by decide +kernel) (by decide +kernel) ⟨rfl, rfl⟩⟩, fun _ h => absurd h List.not_mem_nil⟩) <|
  zq_cons (zq_s_bipush (n := 48) (by decide +kernel) (by decide +kernel)) <|
  zq_cons (zq_s_isub (by decide +kernel)) <|
  zq_cons (zq_s_istore (by decide +kernel) (by decide +kernel)) <|
  zq_cons (zq_s_iload_n (n := 1) (by decide +kernel) rfl) <|
  zq_cons (zq_s_bipush (n := 12) (by decide +kernel) (by decide +kernel)) <|
  zq_cons (zq_s_ic_eq (off := 10) (by decide +kernel) (by decide)) <|
  zq_cons (zq_s_iload_n (n := 3) (by decide +kernel) rfl) <|
  zq_cons (⟨zi_X9_isEight, rfl, zq_s_callS (n := 1) (index := 107) (by decide +kernel) zw_1015 zw_1016 zw_91 zw_1017 (by decide +kernel) (by decide +kernel) ⟨rfl, rfl⟩⟩) <|
  zq_cons (zq_s_if_ne (off := 5) (by decide +kernel) (by decide)) <|
  zq_cons (zq_s_iconst (n := 0) (by decide +kernel) (by decide +kernel)) <|
  zq_cons (⟨rfl, (by decide +kernel)⟩) <|
  zq_cons (zq_s_iload (by decide +kernel)) <|
  zq_cons (⟨zi_X9_isEight, rfl, zq_s_callS (n := 1) (index := 107) (by decide +kernel) zw_1015 zw_1016 zw_91 zw_1017 (by decide +kernel) (by decide +kernel) ⟨rfl, rfl⟩⟩) <|
  zq_cons (zq_s_if_eq (off := 9) (by decide +kernel) (by decide)) <|
  zq_cons (zq_s_iload (by decide +kernel)) <|
  zq_cons (zq_s_iload_n (n := 3) (by decide +kernel) rfl) <|
  zq_cons (zq_s_ic_ne (off := 5) (by decide +kernel) (by decide)) <|
  zq_cons (zq_s_iconst (n := 1) (by decide +kernel) (by decide +kernel)) <|
  zq_cons (⟨rfl, (by decide +kernel)⟩) <|
  zq_cons (zq_s_aload_n (n := 0) (by decide +kernel) rfl) <|
  zq_cons (zq_s_getf (index := 16) (by decide +kernel) zf_X9_16) <|
  zq_cons (zq_s_iload_n (n := 1) (by decide +kernel) rfl) <|
  zq_cons (zq_s_iload_n (n := 3) (by decide +kernel) rfl) <|
  zq_cons (zq_s_iast (by decide +kernel)) <|
  zq_cons (zq_s_aload_n (n := 0) (by decide +kernel) rfl) <|
  zq_cons (zq_s_getf (index := 19) (by decide +kernel) zf_X9_19) <|
  zq_cons (zq_s_iload_n (n := 1) (by decide +kernel) rfl) <|
  zq_nil
def zc_X9_readsDoor_1 : List (Nat × zq_It) := [(66, .inl (zq_il 68 4)), (68, .inl (zq_iast 69)), (69, .inl (zq_push 70 (.int 2))), (70, .inr (.inr 1))]
theorem zk_X9_readsDoor_1 : zq_oks zi_X9_readsDoor zc_X9_readsDoor_1 := zq_cons (zq_s_iload (by decide +kernel)) <|
  zq_cons (zq_s_iast (by decide +kernel)) <|
  zq_cons (zq_s_iconst (n := 2) (by decide +kernel) (by decide +kernel)) <|
  zq_cons (⟨rfl, (by decide +kernel)⟩) <|
  zq_nil
def zc_X9_readsDoor : List (Nat × zq_It) := zc_X9_readsDoor_0 ++ (zc_X9_readsDoor_1)
theorem zk_X9_readsDoor : zq_oks zi_X9_readsDoor zc_X9_readsDoor := zq_app zk_X9_readsDoor_0 (zk_X9_readsDoor_1)
def zc_X9_readsPerson_0 : List (Nat × zq_It) := [(0, .inl (zq_al 1 0)), (1, .inl (zq_push 2 (.int 1))), (2, .inl (zq_il 3 2)), (3, .inr (.inl (3, .inr [(8, zn_X9_byteAt)]))), (6, .inl (zq_is 7 3)), (7, .inl (zq_il 8 3)), (8, .inl (zq_push 10 (.int 103))), (10, .inl (zq_ic_ne 13 17)), (13, .inl (zq_push 14 (.int 0))), (14, .inl (zq_goto 38)), (17, .inl (zq_il 18 3)), (18, .inl (zq_push 20 (.int 99))), (20, .inl (zq_ic_ne 23 27)), (23, .inl (zq_push 24 (.int 1))), (24, .inl (zq_goto 38)), (27, .inl (zq_il 28 3)), (28, .inl (zq_push 30 (.int 104))), (30, .inl (zq_ic_ne 33 37)), (33, .inl (zq_push 34 (.int 2))), (34, .inl (zq_goto 38)), (37, .inl (zq_push 38 (.int (-1)))), (38, .inl (zq_is 40 4)), (40, .inl (zq_al 41 0)), (41, .inl (zq_push 42 (.int 1))), (42, .inl (zq_il 43 2)), (43, .inl (zq_push 44 (.int 1))), (44, .inl (zq_i2 45 (fun x y => x + y))), (45, .inr (.inl (3, .inr [(8, zn_X9_byteAt)]))), (48, .inl (zq_push 50 (.int 48))), (50, .inl (zq_i2 51 (fun x y => x - y))), (51, .inl (zq_is 53 5)), (53, .inl (zq_al 54 0)), (54, .inl (zq_push 55 (.int 1))), (55, .inl (zq_il 56 2)), (56, .inl (zq_push 57 (.int 2))), (57, .inl (zq_i2 58 (fun x y => x + y))), (58, .inr (.inl (3, .inr [(8, zn_X9_byteAt)]))), (61, .inl (zq_push 63 (.int 48))), (63, .inl (zq_i2 64 (fun x y => x - y))), (64, .inl (zq_is 66 6))]
theorem zk_X9_readsPerson_0 : zq_oks zi_X9_readsPerson zc_X9_readsPerson_0 := zq_cons (zq_s_aload_n (n := 0) (by decide +kernel) rfl) <|
  zq_cons (zq_s_iconst (n := 1) (by decide +kernel) (by decide +kernel)) <|
  zq_cons (zq_s_iload_n (n := 2) (by decide +kernel) rfl) <|
  zq_cons (List.forall_mem_cons.mpr ⟨⟨zi_X9_byteAt, rfl, zq_s_callV (n := 2) (index := 103) (by decide +kernel) rfl zw_1011 zw_1013 zw_27 zw_91 zw_1014 (by decide +kernel) (by decide +kernel) ⟨rfl, rfl⟩⟩, fun _ h => absurd h List.not_mem_nil⟩) <|
  zq_cons (zq_s_istore_n (n := 3) (by decide +kernel) rfl (by decide +kernel)) <|
  zq_cons (zq_s_iload_n (n := 3) (by decide +kernel) rfl) <|
  zq_cons (zq_s_bipush (n := 103) (by decide +kernel) (by decide +kernel)) <|
  zq_cons (zq_s_ic_ne (off := 7) (by decide +kernel) (by decide)) <|
  zq_cons (zq_s_iconst (n := 0) (by decide +kernel) (by decide +kernel)) <|
  zq_cons (zq_s_goto (off := 24) (by decide +kernel) (by decide)) <|
  zq_cons (zq_s_iload_n (n := 3) (by decide +kernel) rfl) <|
  zq_cons (zq_s_bipush (n := 99) (by decide +kernel) (by decide +kernel)) <|
  zq_cons (zq_s_ic_ne (off := 7) (by decide +kernel) (by decide)) <|
  zq_cons (zq_s_iconst (n := 1) (by decide +kernel) (by decide +kernel)) <|
  zq_cons (zq_s_goto (off := 14) (by decide +kernel) (by decide)) <|
  zq_cons (zq_s_iload_n (n := 3) (by decide +kernel) rfl) <|
  zq_cons (zq_s_bipush (n := 104) (by decide +kernel) (by decide +kernel)) <|
  zq_cons (zq_s_ic_ne (off := 7) (by decide +kernel) (by decide)) <|
  zq_cons (zq_s_iconst (n := 2) (by decide +kernel) (by decide +kernel)) <|
  zq_cons (zq_s_goto (off := 4) (by decide +kernel) (by decide)) <|
  zq_cons (zq_s_iconst (n := (-1)) (by decide +kernel) (by decide +kernel)) <|
  zq_cons (zq_s_istore (by decide +kernel) (by decide +kernel)) <|
  zq_cons (zq_s_aload_n (n := 0) (by decide +kernel) rfl) <|
  zq_cons (zq_s_iconst (n := 1) (by decide +kernel) (by decide +kernel)) <|
  zq_cons (zq_s_iload_n (n := 2) (by decide +kernel) rfl) <|
  zq_cons (zq_s_iconst (n := 1) (by decide +kernel) (by decide +kernel)) <|
  zq_cons (zq_s_iadd (by decide +kernel)) <|
  zq_cons (List.forall_mem_cons.mpr ⟨⟨zi_X9_byteAt, rfl, zq_s_callV (n := 2) (index := 103) (by decide +kernel) rfl zw_1011 zw_1013 zw_27 zw_91 zw_1014 (by decide +kernel) (by decide +kernel) ⟨rfl, rfl⟩⟩, fun _ h => absurd h List.not_mem_nil⟩) <|
  zq_cons (zq_s_bipush (n := 48) (by decide +kernel) (by decide +kernel)) <|
  zq_cons (zq_s_isub (by decide +kernel)) <|
  zq_cons (zq_s_istore (by decide +kernel) (by decide +kernel)) <|
  zq_cons (zq_s_aload_n (n := 0) (by decide +kernel) rfl) <|
  zq_cons (zq_s_iconst (n := 1) (by decide +kernel) (by decide +kernel)) <|
  zq_cons (zq_s_iload_n (n := 2) (by decide +kernel) rfl) <|
  zq_cons (zq_s_iconst (n := 2) (by decide +kernel) (by decide +kernel)) <|
  zq_cons (zq_s_iadd (by decide +kernel)) <|
  zq_cons (List.forall_mem_cons.mpr ⟨⟨zi_X9_byteAt, rfl, zq_s_callV (n := 2) (index := 103) (by decide +kernel) rfl zw_1011 zw_1013 zw_27 zw_91 zw_1014 (by decide +kernel) (by decide +kernel) ⟨rfl, rfl⟩⟩, fun _ h => absurd h List.not_mem_nil⟩) <|
  zq_cons (zq_s_bipush (n := 48) (by decide +kernel) (by decide +kernel)) <|
  zq_cons (zq_s_isub (by decide +kernel)) <|
  zq_cons (zq_s_istore (by decide +kernel) (by decide +kernel)) <|
  zq_nil
def zc_X9_readsPerson_1 : List (Nat × zq_It) := [(66, .inl (zq_il 67 1)), (67, .inl (zq_push 69 (.int 8))), (69, .inl (zq_ic_eq 72 78)), (72, .inl (zq_il 74 4)), (74, .inl (zq_push 75 (.int (-1)))), (75, .inl (zq_ic_ne 78 80)), (78, .inl (zq_push 79 (.int 0))), (79, .inr (.inr 1)), (80, .inl (zq_il 82 5)), (82, .inr (.inl (1, .inl zn_X9_isEight))), (85, .inl (zq_if_ne 88 90)), (88, .inl (zq_push 89 (.int 1))), (89, .inr (.inr 1)), (90, .inl (zq_il 92 6)), (92, .inr (.inl (1, .inl zn_X9_isEight))), (95, .inl (zq_if_ne 98 100)), (98, .inl (zq_push 99 (.int 2))), (99, .inr (.inr 1)), (100, .inl (zq_al 101 0)), (101, .inl (zq_getf 104 [(8, 6)])), (104, .inl (zq_il 105 1)), (105, .inl (zq_il 107 4)), (107, .inl (zq_iast 108)), (108, .inl (zq_al 109 0)), (109, .inl (zq_getf 112 [(8, 7)])), (112, .inl (zq_il 113 1)), (113, .inl (zq_il 115 5)), (115, .inl (zq_iast 116)), (116, .inl (zq_al 117 0)), (117, .inl (zq_getf 120 [(8, 8)])), (120, .inl (zq_il 121 1)), (121, .inl (zq_il 123 6)), (123, .inl (zq_iast 124)), (124, .inl (zq_push 125 (.int 3))), (125, .inr (.inr 1))]
theorem zk_X9_readsPerson_1 : zq_oks zi_X9_readsPerson zc_X9_readsPerson_1 := zq_cons (zq_s_iload_n (n := 1) (by decide +kernel) rfl) <|
  zq_cons (zq_s_bipush (n := 8) (by decide +kernel) (by decide +kernel)) <|
  zq_cons (zq_s_ic_eq (off := 9) (by decide +kernel) (by decide)) <|
  zq_cons (zq_s_iload (by decide +kernel)) <|
  zq_cons (zq_s_iconst (n := (-1)) (by decide +kernel) (by decide +kernel)) <|
  zq_cons (zq_s_ic_ne (off := 5) (by decide +kernel) (by decide)) <|
  zq_cons (zq_s_iconst (n := 0) (by decide +kernel) (by decide +kernel)) <|
  zq_cons (⟨rfl, (by decide +kernel)⟩) <|
  zq_cons (zq_s_iload (by decide +kernel)) <|
  zq_cons (⟨zi_X9_isEight, rfl, zq_s_callS (n := 1) (index := 107) (by decide +kernel) zw_1015 zw_1016 zw_91 zw_1017 (by decide +kernel) (by decide +kernel) ⟨rfl, rfl⟩⟩) <|
  zq_cons (zq_s_if_ne (off := 5) (by decide +kernel) (by decide)) <|
  zq_cons (zq_s_iconst (n := 1) (by decide +kernel) (by decide +kernel)) <|
  zq_cons (⟨rfl, (by decide +kernel)⟩) <|
  zq_cons (zq_s_iload (by decide +kernel)) <|
  zq_cons (⟨zi_X9_isEight, rfl, zq_s_callS (n := 1) (index := 107) (by decide +kernel) zw_1015 zw_1016 zw_91 zw_1017 (by decide +kernel) (by decide +kernel) ⟨rfl, rfl⟩⟩) <|
  zq_cons (zq_s_if_ne (off := 5) (by decide +kernel) (by decide)) <|
  zq_cons (zq_s_iconst (n := 2) (by decide +kernel) (by decide +kernel)) <|
  zq_cons (⟨rfl, (by decide +kernel)⟩) <|
  zq_cons (zq_s_aload_n (n := 0) (by decide +kernel) rfl) <|
  zq_cons (zq_s_getf (index := 22) (by decide +kernel) zf_X9_22) <|
  zq_cons (zq_s_iload_n (n := 1) (by decide +kernel) rfl) <|
  zq_cons (zq_s_iload (by decide +kernel)) <|
  zq_cons (zq_s_iast (by decide +kernel)) <|
  zq_cons (zq_s_aload_n (n := 0) (by decide +kernel) rfl) <|
  zq_cons (zq_s_getf (index := 25) (by decide +kernel) zf_X9_25) <|
  zq_cons (zq_s_iload_n (n := 1) (by decide +kernel) rfl) <|
  zq_cons (zq_s_iload (by decide +kernel)) <|
  zq_cons (zq_s_iast (by decide +kernel)) <|
  zq_cons (zq_s_aload_n (n := 0) (by decide +kernel) rfl) <|
  zq_cons (zq_s_getf (index := 28) (by decide +kernel) zf_X9_28) <|
  zq_cons (zq_s_iload_n (n := 1) (by decide +kernel) rfl) <|
  zq_cons (zq_s_iload (by decide +kernel)) <|
  zq_cons (zq_s_iast (by decide +kernel)) <|
  zq_cons (zq_s_iconst (n := 3) (by decide +kernel) (by decide +kernel)) <|
  zq_cons (⟨rfl, (by decide +kernel)⟩) <|
  zq_nil
def zc_X9_readsPerson : List (Nat × zq_It) := zc_X9_readsPerson_0 ++ (zc_X9_readsPerson_1)
theorem zk_X9_readsPerson : zq_oks zi_X9_readsPerson zc_X9_readsPerson := zq_app zk_X9_readsPerson_0 (zk_X9_readsPerson_1)
def zc_X9_readsParts_0 : List (Nat × zq_It) := [(0, .inl (zq_il 1 1)), (1, .inl (zq_if_ne 4 8)), (4, .inl (zq_push 5 (.int 2))), (5, .inl (zq_goto 9)), (8, .inl (zq_push 9 (.int 3))), (9, .inl (zq_is 10 2)), (10, .inl (zq_push 11 (.int 0))), (11, .inl (zq_is 12 3)), (12, .inl (zq_push 13 (.int 0))), (13, .inl (zq_is 15 4)), (15, .inl (zq_al 16 0)), (16, .inl (zq_il 17 1)), (17, .inl (zq_if_ne 20 24)), (20, .inl (zq_push 21 (.int 0))), (21, .inl (zq_goto 28)), (24, .inl (zq_al 25 0)), (25, .inl (zq_getf 28 [(8, 2)])), (28, .inl (zq_puti 31 false [(8, 2)])), (31, .inl (zq_al 32 0)), (32, .inl (zq_il 33 1)), (33, .inl (zq_push 34 (.int 1))), (34, .inl (zq_ic_ne 37 41)), (37, .inl (zq_push 38 (.int 0))), (38, .inl (zq_goto 45)), (41, .inl (zq_al 42 0)), (42, .inl (zq_getf 45 [(8, 5)])), (45, .inl (zq_puti 48 false [(8, 5)])), (48, .inl (zq_il 50 4)), (50, .inl (zq_al 51 0)), (51, .inl (zq_getf 54 [(8, 0)])), (54, .inl (zq_il 55 1)), (55, .inl (zq_iald 56)), (56, .inl (zq_ic_lt 59 64)), (59, .inl (zq_il 61 4)), (61, .inl (zq_if_le 64 175)), (64, .inl (zq_il 65 1)), (65, .inl (zq_if_ne 68 78)), (68, .inl (zq_al 69 0)), (69, .inl (zq_il 70 3)), (70, .inl (zq_il 72 4))]
theorem zk_X9_readsParts_0 : zq_oks zi_X9_readsParts zc_X9_readsParts_0 := zq_cons (zq_s_iload_n (n := 1) (by decide +kernel) rfl) <|
  zq_cons (zq_s_if_ne (off := 7) (by decide +kernel) (by decide)) <|
  zq_cons (zq_s_iconst (n := 2) (by decide +kernel) (by decide +kernel)) <|
  zq_cons (zq_s_goto (off := 4) (by decide +kernel) (by decide)) <|
  zq_cons (zq_s_iconst (n := 3) (by decide +kernel) (by decide +kernel)) <|
  zq_cons (zq_s_istore_n (n := 2) (by decide +kernel) rfl (by decide +kernel)) <|
  zq_cons (zq_s_iconst (n := 0) (by decide +kernel) (by decide +kernel)) <|
  zq_cons (zq_s_istore_n (n := 3) (by decide +kernel) rfl (by decide +kernel)) <|
  zq_cons (zq_s_iconst (n := 0) (by decide +kernel) (by decide +kernel)) <|
  zq_cons (zq_s_istore (by decide +kernel) (by decide +kernel)) <|
  zq_cons (zq_s_aload_n (n := 0) (by decide +kernel) rfl) <|
  zq_cons (zq_s_iload_n (n := 1) (by decide +kernel) rfl) <|
  zq_cons (zq_s_if_ne (off := 7) (by decide +kernel) (by decide)) <|
  zq_cons (zq_s_iconst (n := 0) (by decide +kernel) (by decide +kernel)) <|
  zq_cons (zq_s_goto (off := 7) (by decide +kernel) (by decide)) <|
  zq_cons (zq_s_aload_n (n := 0) (by decide +kernel) rfl) <|
  zq_cons (zq_s_getf (index := 110) (by decide +kernel) zf_X9_110) <|
  zq_cons (zq_s_puti (index := 110) (by decide +kernel) zp_X9_110 (fun _ _ => ⟨rfl, rfl⟩)) <|
  zq_cons (zq_s_aload_n (n := 0) (by decide +kernel) rfl) <|
  zq_cons (zq_s_iload_n (n := 1) (by decide +kernel) rfl) <|
  zq_cons (zq_s_iconst (n := 1) (by decide +kernel) (by decide +kernel)) <|
  zq_cons (zq_s_ic_ne (off := 7) (by decide +kernel) (by decide)) <|
  zq_cons (zq_s_iconst (n := 0) (by decide +kernel) (by decide +kernel)) <|
  zq_cons (zq_s_goto (off := 7) (by decide +kernel) (by decide)) <|
  zq_cons (zq_s_aload_n (n := 0) (by decide +kernel) rfl) <|
  zq_cons (zq_s_getf (index := 113) (by decide +kernel) zf_X9_113) <|
  zq_cons (zq_s_puti (index := 113) (by decide +kernel) zp_X9_113 (fun _ _ => ⟨rfl, rfl⟩)) <|
  zq_cons (zq_s_iload (by decide +kernel)) <|
  zq_cons (zq_s_aload_n (n := 0) (by decide +kernel) rfl) <|
  zq_cons (zq_s_getf (index := 7) (by decide +kernel) zf_X9_7) <|
  zq_cons (zq_s_iload_n (n := 1) (by decide +kernel) rfl) <|
  zq_cons (zq_s_iald (by decide +kernel)) <|
  zq_cons (zq_s_ic_lt (off := 8) (by decide +kernel) (by decide)) <|
  zq_cons (zq_s_iload (by decide +kernel)) <|
  zq_cons (zq_s_if_le (off := 114) (by decide +kernel) (by decide)) <|
  zq_cons (zq_s_iload_n (n := 1) (by decide +kernel) rfl) <|
  zq_cons (zq_s_if_ne (off := 13) (by decide +kernel) (by decide)) <|
  zq_cons (zq_s_aload_n (n := 0) (by decide +kernel) rfl) <|
  zq_cons (zq_s_iload_n (n := 3) (by decide +kernel) rfl) <|
  zq_cons (zq_s_iload (by decide +kernel)) <|
  zq_nil
def zc_X9_readsParts_1 : List (Nat × zq_It) := [(72, .inr (.inl (3, .inr [(8, zn_X9_readsDoor)]))), (75, .inl (zq_goto 85)), (78, .inl (zq_al 79 0)), (79, .inl (zq_il 80 3)), (80, .inl (zq_il 82 4)), (82, .inr (.inl (3, .inr [(8, zn_X9_readsPerson)]))), (85, .inl (zq_is 87 5)), (87, .inl (zq_il 89 5)), (89, .inl (zq_il 90 2)), (90, .inl (zq_ic_ge 93 99)), (93, .inl (zq_il 95 4)), (95, .inl (zq_il 97 5)), (97, .inl (zq_i2 98 (fun x y => x + y))), (98, .inr (.inr 1)), (99, .inl (zq_inc 102 3 1)), (102, .inl (zq_il 104 4)), (104, .inl (zq_il 105 2)), (105, .inl (zq_i2 106 (fun x y => x + y))), (106, .inl (zq_is 108 4)), (108, .inl (zq_il 110 4)), (110, .inl (zq_al 111 0)), (111, .inl (zq_getf 114 [(8, 0)])), (114, .inl (zq_il 115 1)), (115, .inl (zq_iald 116)), (116, .inl (zq_ic_ne 119 154)), (119, .inl (zq_al 120 0)), (120, .inl (zq_il 121 1)), (121, .inl (zq_if_ne 124 128)), (124, .inl (zq_il 125 3)), (125, .inl (zq_goto 132)), (128, .inl (zq_al 129 0)), (129, .inl (zq_getf 132 [(8, 2)])), (132, .inl (zq_puti 135 false [(8, 2)])), (135, .inl (zq_al 136 0)), (136, .inl (zq_il 137 1)), (137, .inl (zq_push 138 (.int 1))), (138, .inl (zq_ic_ne 141 145)), (141, .inl (zq_il 142 3)), (142, .inl (zq_goto 149)), (145, .inl (zq_al 146 0))]
theorem zk_X9_readsParts_1 : zq_oks zi_X9_readsParts zc_X9_readsParts_1 := zq_cons (List.forall_mem_cons.mpr ⟨⟨zi_X9_readsDoor, rfl, zq_s_callV (n := 2) (index := 116) (by decide +kernel) rfl zw_1007 zw_1009 zw_26 zw_91 zw_1010 (by decide +kernel) (by decide +kernel) ⟨rfl, rfl⟩⟩, fun _ h => absurd h List.not_mem_nil⟩) <|
  zq_cons (zq_s_goto (off := 10) (by decide +kernel) (by decide)) <|
  zq_cons (zq_s_aload_n (n := 0) (by decide +kernel) rfl) <|
  zq_cons (zq_s_iload_n (n := 3) (by decide +kernel) rfl) <|
  zq_cons (zq_s_iload (by decide +kernel)) <|
  zq_cons (List.forall_mem_cons.mpr ⟨⟨zi_X9_readsPerson, rfl, zq_s_callV (n := 2) (index := 119) (by decide +kernel) rfl zw_1018 zw_1020 zw_28 zw_91 zw_1021 (by decide +kernel) (by decide +kernel) ⟨rfl, rfl⟩⟩, fun _ h => absurd h List.not_mem_nil⟩) <|
  zq_cons (zq_s_istore (by decide +kernel) (by decide +kernel)) <|
  zq_cons (zq_s_iload (by decide +kernel)) <|
  zq_cons (zq_s_iload_n (n := 2) (by decide +kernel) rfl) <|
  zq_cons (zq_s_ic_ge (off := 9) (by decide +kernel) (by decide)) <|
  zq_cons (zq_s_iload (by decide +kernel)) <|
  zq_cons (zq_s_iload (by decide +kernel)) <|
  zq_cons (zq_s_iadd (by decide +kernel)) <|
  zq_cons (⟨rfl, (by decide +kernel)⟩) <|
  zq_cons (zq_s_iinc (n := 1) (by decide +kernel) (by decide +kernel) (by decide +kernel)) <|
  zq_cons (zq_s_iload (by decide +kernel)) <|
  zq_cons (zq_s_iload_n (n := 2) (by decide +kernel) rfl) <|
  zq_cons (zq_s_iadd (by decide +kernel)) <|
  zq_cons (zq_s_istore (by decide +kernel) (by decide +kernel)) <|
  zq_cons (zq_s_iload (by decide +kernel)) <|
  zq_cons (zq_s_aload_n (n := 0) (by decide +kernel) rfl) <|
  zq_cons (zq_s_getf (index := 7) (by decide +kernel) zf_X9_7) <|
  zq_cons (zq_s_iload_n (n := 1) (by decide +kernel) rfl) <|
  zq_cons (zq_s_iald (by decide +kernel)) <|
  zq_cons (zq_s_ic_ne (off := 38) (by decide +kernel) (by decide)) <|
  zq_cons (zq_s_aload_n (n := 0) (by decide +kernel) rfl) <|
  zq_cons (zq_s_iload_n (n := 1) (by decide +kernel) rfl) <|
  zq_cons (zq_s_if_ne (off := 7) (by decide +kernel) (by decide)) <|
  zq_cons (zq_s_iload_n (n := 3) (by decide +kernel) rfl) <|
  zq_cons (zq_s_goto (off := 7) (by decide +kernel) (by decide)) <|
  zq_cons (zq_s_aload_n (n := 0) (by decide +kernel) rfl) <|
  zq_cons (zq_s_getf (index := 110) (by decide +kernel) zf_X9_110) <|
  zq_cons (zq_s_puti (index := 110) (by decide +kernel) zp_X9_110 (fun _ _ => ⟨rfl, rfl⟩)) <|
  zq_cons (zq_s_aload_n (n := 0) (by decide +kernel) rfl) <|
  zq_cons (zq_s_iload_n (n := 1) (by decide +kernel) rfl) <|
  zq_cons (zq_s_iconst (n := 1) (by decide +kernel) (by decide +kernel)) <|
  zq_cons (zq_s_ic_ne (off := 7) (by decide +kernel) (by decide)) <|
  zq_cons (zq_s_iload_n (n := 3) (by decide +kernel) rfl) <|
  zq_cons (zq_s_goto (off := 7) (by decide +kernel) (by decide)) <|
  zq_cons (zq_s_aload_n (n := 0) (by decide +kernel) rfl) <|
  zq_nil
def zc_X9_readsParts_2 : List (Nat × zq_It) := [(146, .inl (zq_getf 149 [(8, 5)])), (149, .inl (zq_puti 152 false [(8, 5)])), (152, .inl (zq_push 153 (.int (-1)))), (153, .inr (.inr 1)), (154, .inl (zq_al 155 0)), (155, .inl (zq_il 156 1)), (156, .inl (zq_il 158 4)), (158, .inr (.inl (3, .inr [(8, zn_X9_byteAt)]))), (161, .inl (zq_push 163 (.int 59))), (163, .inl (zq_ic_eq 166 169)), (166, .inl (zq_il 168 4)), (168, .inr (.inr 1)), (169, .inl (zq_inc 172 4 1)), (172, .inl (zq_goto 48)), (175, .inl (zq_push 176 (.int (-1)))), (176, .inr (.inr 1))]
theorem zk_X9_readsParts_2 : zq_oks zi_X9_readsParts zc_X9_readsParts_2 := zq_cons (zq_s_getf (index := 113) (by decide +kernel) zf_X9_113) <|
  zq_cons (zq_s_puti (index := 113) (by decide +kernel) zp_X9_113 (fun _ _ => ⟨rfl, rfl⟩)) <|
  zq_cons (zq_s_iconst (n := (-1)) (by decide +kernel) (by decide +kernel)) <|
  zq_cons (⟨rfl, (by decide +kernel)⟩) <|
  zq_cons (zq_s_aload_n (n := 0) (by decide +kernel) rfl) <|
  zq_cons (zq_s_iload_n (n := 1) (by decide +kernel) rfl) <|
  zq_cons (zq_s_iload (by decide +kernel)) <|
  zq_cons (List.forall_mem_cons.mpr ⟨⟨zi_X9_byteAt, rfl, zq_s_callV (n := 2) (index := 103) (by decide +kernel) rfl zw_1011 zw_1013 zw_27 zw_91 zw_1014 (by decide +kernel) (by decide +kernel) ⟨rfl, rfl⟩⟩, fun _ h => absurd h List.not_mem_nil⟩) <|
  zq_cons (zq_s_bipush (n := 59) (by decide +kernel) (by decide +kernel)) <|
  zq_cons (zq_s_ic_eq (off := 6) (by decide +kernel) (by decide)) <|
  zq_cons (zq_s_iload (by decide +kernel)) <|
  zq_cons (⟨rfl, (by decide +kernel)⟩) <|
  zq_cons (zq_s_iinc (n := 1) (by decide +kernel) (by decide +kernel) (by decide +kernel)) <|
  zq_cons (zq_s_goto (off := (-124)) (by decide +kernel) (by decide)) <|
  zq_cons (zq_s_iconst (n := (-1)) (by decide +kernel) (by decide +kernel)) <|
  zq_cons (⟨rfl, (by decide +kernel)⟩) <|
  zq_nil
def zc_X9_readsParts : List (Nat × zq_It) := zc_X9_readsParts_0 ++ (zc_X9_readsParts_1 ++ (zc_X9_readsParts_2))
theorem zk_X9_readsParts : zq_oks zi_X9_readsParts zc_X9_readsParts := zq_app zk_X9_readsParts_0 (zq_app zk_X9_readsParts_1 (zk_X9_readsParts_2))
def zc_X9_faultOf : List (Nat × zq_It) := [(0, .inl (zq_al 1 0)), (1, .inl (zq_push 2 (.int 0))), (2, .inr (.inl (2, .inr [(8, zn_X9_readsParts)]))), (5, .inl (zq_is 6 2)), (6, .inl (zq_al 7 0)), (7, .inl (zq_push 8 (.int 1))), (8, .inr (.inl (2, .inr [(8, zn_X9_readsParts)]))), (11, .inl (zq_is 12 3)), (12, .inl (zq_il 13 1)), (13, .inl (zq_if_ne 16 20)), (16, .inl (zq_il 17 2)), (17, .inl (zq_goto 21)), (20, .inl (zq_il 21 3)), (21, .inr (.inr 1))]
theorem zk_X9_faultOf : zq_oks zi_X9_faultOf zc_X9_faultOf := zq_cons (zq_s_aload_n (n := 0) (by decide +kernel) rfl) <|
  zq_cons (zq_s_iconst (n := 0) (by decide +kernel) (by decide +kernel)) <|
  zq_cons (List.forall_mem_cons.mpr ⟨⟨zi_X9_readsParts, rfl, zq_s_callV (n := 1) (index := 122) (by decide +kernel) rfl zw_1003 zw_1005 zw_25 zw_91 zw_1006 (by decide +kernel) (by decide +kernel) ⟨rfl, rfl⟩⟩, fun _ h => absurd h List.not_mem_nil⟩) <|
  zq_cons (zq_s_istore_n (n := 2) (by decide +kernel) rfl (by decide +kernel)) <|
  zq_cons (zq_s_aload_n (n := 0) (by decide +kernel) rfl) <|
  zq_cons (zq_s_iconst (n := 1) (by decide +kernel) (by decide +kernel)) <|
  zq_cons (List.forall_mem_cons.mpr ⟨⟨zi_X9_readsParts, rfl, zq_s_callV (n := 1) (index := 122) (by decide +kernel) rfl zw_1003 zw_1005 zw_25 zw_91 zw_1006 (by decide +kernel) (by decide +kernel) ⟨rfl, rfl⟩⟩, fun _ h => absurd h List.not_mem_nil⟩) <|
  zq_cons (zq_s_istore_n (n := 3) (by decide +kernel) rfl (by decide +kernel)) <|
  zq_cons (zq_s_iload_n (n := 1) (by decide +kernel) rfl) <|
  zq_cons (zq_s_if_ne (off := 7) (by decide +kernel) (by decide)) <|
  zq_cons (zq_s_iload_n (n := 2) (by decide +kernel) rfl) <|
  zq_cons (zq_s_goto (off := 4) (by decide +kernel) (by decide)) <|
  zq_cons (zq_s_iload_n (n := 3) (by decide +kernel) rfl) <|
  zq_cons (⟨rfl, (by decide +kernel)⟩) <|
  zq_nil
def zc_X9_reads : List (Nat × zq_It) := [(0, .inl (zq_al 1 0)), (1, .inl (zq_push 2 (.int 0))), (2, .inr (.inl (2, .inr [(8, zn_X9_faultOf)]))), (5, .inl (zq_is 6 1)), (6, .inr (.inr 0))]
theorem zk_X9_reads : zq_oks zi_X9_reads zc_X9_reads := zq_cons (zq_s_aload_n (n := 0) (by decide +kernel) rfl) <|
  zq_cons (zq_s_iconst (n := 0) (by decide +kernel) (by decide +kernel)) <|
  zq_cons (List.forall_mem_cons.mpr ⟨⟨zi_X9_faultOf, rfl, zq_s_callV (n := 1) (index := 126) (by decide +kernel) rfl zw_999 zw_1001 zw_24 zw_91 zw_1002 (by decide +kernel) (by decide +kernel) ⟨rfl, rfl⟩⟩, fun _ h => absurd h List.not_mem_nil⟩) <|
  zq_cons (zq_s_istore_n (n := 1) (by decide +kernel) rfl (by decide +kernel)) <|
  zq_cons (⟨rfl, (by decide +kernel)⟩) <|
  zq_nil
def zc_X9_fault : List (Nat × zq_It) := [(0, .inl (zq_il 1 1)), (1, .inr (.inl (1, .inl zn_X9_isText))), (4, .inl (zq_if_eq 7 15)), (7, .inl (zq_al 8 0)), (8, .inl (zq_il 9 1)), (9, .inr (.inl (2, .inr [(8, zn_X9_faultOf)]))), (12, .inl (zq_goto 17)), (15, .inl (zq_push 17 (.int (-2)))), (17, .inr (.inr 1))]
theorem zk_X9_fault : zq_oks zi_X9_fault zc_X9_fault := zq_cons (zq_s_iload_n (n := 1) (by decide +kernel) rfl) <|
  zq_cons (⟨zi_X9_isText, rfl, zq_s_callS (n := 1) (index := 99) (by decide +kernel) zw_981 zw_982 zw_91 zw_983 (by decide +kernel) (by decide +kernel) ⟨rfl, rfl⟩⟩) <|
  zq_cons (zq_s_if_eq (off := 11) (by decide +kernel) (by decide)) <|
  zq_cons (zq_s_aload_n (n := 0) (by decide +kernel) rfl) <|
  zq_cons (zq_s_iload_n (n := 1) (by decide +kernel) rfl) <|
  zq_cons (List.forall_mem_cons.mpr ⟨⟨zi_X9_faultOf, rfl, zq_s_callV (n := 1) (index := 126) (by decide +kernel) rfl zw_999 zw_1001 zw_24 zw_91 zw_1002 (by decide +kernel) (by decide +kernel) ⟨rfl, rfl⟩⟩, fun _ h => absurd h List.not_mem_nil⟩) <|
  zq_cons (zq_s_goto (off := 5) (by decide +kernel) (by decide)) <|
  zq_cons (zq_s_bipush (n := (-2)) (by decide +kernel) (by decide +kernel)) <|
  zq_cons (⟨rfl, (by decide +kernel)⟩) <|
  zq_nil
def zc_X9_isDoor : List (Nat × zq_It) := [(0, .inl (zq_al 1 0)), (1, .inr (.inl (1, .inr [(8, zn_X9_reads)]))), (4, .inl (zq_il 5 1)), (5, .inl (zq_push 6 (.int 0))), (6, .inl (zq_al 7 0)), (7, .inl (zq_getf 10 [(8, 2)])), (10, .inl (zq_push 11 (.int 1))), (11, .inl (zq_i2 12 (fun x y => x - y))), (12, .inr (.inl (3, .inl zn_X9_in))), (15, .inr (.inr 2))]
theorem zk_X9_isDoor : zq_oks zi_X9_isDoor zc_X9_isDoor := zq_cons (zq_s_aload_n (n := 0) (by decide +kernel) rfl) <|
  zq_cons (List.forall_mem_cons.mpr ⟨⟨zi_X9_reads, rfl, zq_s_callV (n := 0) (index := 129) (by decide +kernel) rfl zw_1030 zw_1032 zw_30 zw_91 zw_1033 (by decide +kernel) (by decide +kernel) ⟨rfl, rfl⟩⟩, fun _ h => absurd h List.not_mem_nil⟩) <|
  zq_cons (zq_s_iload_n (n := 1) (by decide +kernel) rfl) <|
  zq_cons (zq_s_iconst (n := 0) (by decide +kernel) (by decide +kernel)) <|
  zq_cons (zq_s_aload_n (n := 0) (by decide +kernel) rfl) <|
  zq_cons (zq_s_getf (index := 110) (by decide +kernel) zf_X9_110) <|
  zq_cons (zq_s_iconst (n := 1) (by decide +kernel) (by decide +kernel)) <|
  zq_cons (zq_s_isub (by decide +kernel)) <|
  zq_cons (⟨zi_X9_in, rfl, zq_s_callS (n := 3) (index := 95) (by decide +kernel) zw_984 zw_985 zw_91 zw_986 (by decide +kernel) (by decide +kernel) ⟨rfl, rfl⟩⟩) <|
  zq_cons (⟨rfl, (by decide +kernel)⟩) <|
  zq_nil
def zc_X9_isPerson : List (Nat × zq_It) := [(0, .inl (zq_al 1 0)), (1, .inr (.inl (1, .inr [(8, zn_X9_reads)]))), (4, .inl (zq_il 5 1)), (5, .inl (zq_push 6 (.int 0))), (6, .inl (zq_al 7 0)), (7, .inl (zq_getf 10 [(8, 5)])), (10, .inl (zq_push 11 (.int 1))), (11, .inl (zq_i2 12 (fun x y => x - y))), (12, .inr (.inl (3, .inl zn_X9_in))), (15, .inr (.inr 2))]
theorem zk_X9_isPerson : zq_oks zi_X9_isPerson zc_X9_isPerson := zq_cons (zq_s_aload_n (n := 0) (by decide +kernel) rfl) <|
  zq_cons (List.forall_mem_cons.mpr ⟨⟨zi_X9_reads, rfl, zq_s_callV (n := 0) (index := 129) (by decide +kernel) rfl zw_1030 zw_1032 zw_30 zw_91 zw_1033 (by decide +kernel) (by decide +kernel) ⟨rfl, rfl⟩⟩, fun _ h => absurd h List.not_mem_nil⟩) <|
  zq_cons (zq_s_iload_n (n := 1) (by decide +kernel) rfl) <|
  zq_cons (zq_s_iconst (n := 0) (by decide +kernel) (by decide +kernel)) <|
  zq_cons (zq_s_aload_n (n := 0) (by decide +kernel) rfl) <|
  zq_cons (zq_s_getf (index := 113) (by decide +kernel) zf_X9_113) <|
  zq_cons (zq_s_iconst (n := 1) (by decide +kernel) (by decide +kernel)) <|
  zq_cons (zq_s_isub (by decide +kernel)) <|
  zq_cons (⟨zi_X9_in, rfl, zq_s_callS (n := 3) (index := 95) (by decide +kernel) zw_984 zw_985 zw_91 zw_986 (by decide +kernel) (by decide +kernel) ⟨rfl, rfl⟩⟩) <|
  zq_cons (⟨rfl, (by decide +kernel)⟩) <|
  zq_nil
def zc_X9_doorOf : List (Nat × zq_It) := [(0, .inl (zq_il 1 2)), (1, .inl (zq_if_ne 4 13)), (4, .inl (zq_al 5 0)), (5, .inl (zq_getf 8 [(8, 3)])), (8, .inl (zq_il 9 1)), (9, .inl (zq_iald 10)), (10, .inl (zq_goto 19)), (13, .inl (zq_al 14 0)), (14, .inl (zq_getf 17 [(8, 4)])), (17, .inl (zq_il 18 1)), (18, .inl (zq_iald 19)), (19, .inr (.inr 1))]
theorem zk_X9_doorOf : zq_oks zi_X9_doorOf zc_X9_doorOf := zq_cons (zq_s_iload_n (n := 2) (by decide +kernel) rfl) <|
  zq_cons (zq_s_if_ne (off := 12) (by decide +kernel) (by decide)) <|
  zq_cons (zq_s_aload_n (n := 0) (by decide +kernel) rfl) <|
  zq_cons (zq_s_getf (index := 16) (by decide +kernel) zf_X9_16) <|
  zq_cons (zq_s_iload_n (n := 1) (by decide +kernel) rfl) <|
  zq_cons (zq_s_iald (by decide +kernel)) <|
  zq_cons (zq_s_goto (off := 9) (by decide +kernel) (by decide)) <|
  zq_cons (zq_s_aload_n (n := 0) (by decide +kernel) rfl) <|
  zq_cons (zq_s_getf (index := 19) (by decide +kernel) zf_X9_19) <|
  zq_cons (zq_s_iload_n (n := 1) (by decide +kernel) rfl) <|
  zq_cons (zq_s_iald (by decide +kernel)) <|
  zq_cons (⟨rfl, (by decide +kernel)⟩) <|
  zq_nil
def zc_X9_door : List (Nat × zq_It) := [(0, .inl (zq_al 1 0)), (1, .inl (zq_il 2 1)), (2, .inr (.inl (2, .inr [(8, zn_X9_isDoor)]))), (5, .inl (zq_if_eq 8 24)), (8, .inl (zq_il 9 2)), (9, .inr (.inl (1, .inl zn_X9_isTwo))), (12, .inl (zq_if_eq 15 24)), (15, .inl (zq_al 16 0)), (16, .inl (zq_il 17 1)), (17, .inl (zq_il 18 2)), (18, .inr (.inl (3, .inr [(8, zn_X9_doorOf)]))), (21, .inl (zq_goto 26)), (24, .inl (zq_push 26 (.int (-2)))), (26, .inr (.inr 1))]
theorem zk_X9_door : zq_oks zi_X9_door zc_X9_door := zq_cons (zq_s_aload_n (n := 0) (by decide +kernel) rfl) <|
  zq_cons (zq_s_iload_n (n := 1) (by decide +kernel) rfl) <|
  zq_cons (List.forall_mem_cons.mpr ⟨⟨zi_X9_isDoor, rfl, zq_s_callV (n := 1) (index := 132) (by decide +kernel) rfl zw_1026 zw_1028 zw_29 zw_91 zw_1029 (by decide +kernel) (by decide +kernel) ⟨rfl, rfl⟩⟩, fun _ h => absurd h List.not_mem_nil⟩) <|
  zq_cons (zq_s_if_eq (off := 19) (by decide +kernel) (by decide)) <|
  zq_cons (zq_s_iload_n (n := 2) (by decide +kernel) rfl) <|
  zq_cons (⟨zi_X9_isTwo, rfl, zq_s_callS (n := 1) (index := 135) (by decide +kernel) zw_1034 zw_1035 zw_91 zw_1036 (by decide +kernel) (by decide +kernel) ⟨rfl, rfl⟩⟩) <|
  zq_cons (zq_s_if_eq (off := 12) (by decide +kernel) (by decide)) <|
  zq_cons (zq_s_aload_n (n := 0) (by decide +kernel) rfl) <|
  zq_cons (zq_s_iload_n (n := 1) (by decide +kernel) rfl) <|
  zq_cons (zq_s_iload_n (n := 2) (by decide +kernel) rfl) <|
  zq_cons (List.forall_mem_cons.mpr ⟨⟨zi_X9_doorOf, rfl, zq_s_callV (n := 2) (index := 138) (by decide +kernel) rfl zw_1037 zw_1039 zw_31 zw_91 zw_1040 (by decide +kernel) (by decide +kernel) ⟨rfl, rfl⟩⟩, fun _ h => absurd h List.not_mem_nil⟩) <|
  zq_cons (zq_s_goto (off := 5) (by decide +kernel) (by decide)) <|
  zq_cons (zq_s_bipush (n := (-2)) (by decide +kernel) (by decide +kernel)) <|
  zq_cons (⟨rfl, (by decide +kernel)⟩) <|
  zq_nil
def zc_X9_personOf : List (Nat × zq_It) := [(0, .inl (zq_il 1 2)), (1, .inl (zq_if_ne 4 13)), (4, .inl (zq_al 5 0)), (5, .inl (zq_getf 8 [(8, 6)])), (8, .inl (zq_il 9 1)), (9, .inl (zq_iald 10)), (10, .inl (zq_goto 33)), (13, .inl (zq_il 14 2)), (14, .inl (zq_push 15 (.int 1))), (15, .inl (zq_ic_ne 18 27)), (18, .inl (zq_al 19 0)), (19, .inl (zq_getf 22 [(8, 7)])), (22, .inl (zq_il 23 1)), (23, .inl (zq_iald 24)), (24, .inl (zq_goto 33)), (27, .inl (zq_al 28 0)), (28, .inl (zq_getf 31 [(8, 8)])), (31, .inl (zq_il 32 1)), (32, .inl (zq_iald 33)), (33, .inr (.inr 1))]
theorem zk_X9_personOf : zq_oks zi_X9_personOf zc_X9_personOf := zq_cons (zq_s_iload_n (n := 2) (by decide +kernel) rfl) <|
  zq_cons (zq_s_if_ne (off := 12) (by decide +kernel) (by decide)) <|
  zq_cons (zq_s_aload_n (n := 0) (by decide +kernel) rfl) <|
  zq_cons (zq_s_getf (index := 22) (by decide +kernel) zf_X9_22) <|
  zq_cons (zq_s_iload_n (n := 1) (by decide +kernel) rfl) <|
  zq_cons (zq_s_iald (by decide +kernel)) <|
  zq_cons (zq_s_goto (off := 23) (by decide +kernel) (by decide)) <|
  zq_cons (zq_s_iload_n (n := 2) (by decide +kernel) rfl) <|
  zq_cons (zq_s_iconst (n := 1) (by decide +kernel) (by decide +kernel)) <|
  zq_cons (zq_s_ic_ne (off := 12) (by decide +kernel) (by decide)) <|
  zq_cons (zq_s_aload_n (n := 0) (by decide +kernel) rfl) <|
  zq_cons (zq_s_getf (index := 25) (by decide +kernel) zf_X9_25) <|
  zq_cons (zq_s_iload_n (n := 1) (by decide +kernel) rfl) <|
  zq_cons (zq_s_iald (by decide +kernel)) <|
  zq_cons (zq_s_goto (off := 9) (by decide +kernel) (by decide)) <|
  zq_cons (zq_s_aload_n (n := 0) (by decide +kernel) rfl) <|
  zq_cons (zq_s_getf (index := 28) (by decide +kernel) zf_X9_28) <|
  zq_cons (zq_s_iload_n (n := 1) (by decide +kernel) rfl) <|
  zq_cons (zq_s_iald (by decide +kernel)) <|
  zq_cons (⟨rfl, (by decide +kernel)⟩) <|
  zq_nil
def zc_X9_person : List (Nat × zq_It) := [(0, .inl (zq_al 1 0)), (1, .inl (zq_il 2 1)), (2, .inr (.inl (2, .inr [(8, zn_X9_isPerson)]))), (5, .inl (zq_if_eq 8 24)), (8, .inl (zq_il 9 2)), (9, .inr (.inl (1, .inl zn_X9_isThree))), (12, .inl (zq_if_eq 15 24)), (15, .inl (zq_al 16 0)), (16, .inl (zq_il 17 1)), (17, .inl (zq_il 18 2)), (18, .inr (.inl (3, .inr [(8, zn_X9_personOf)]))), (21, .inl (zq_goto 26)), (24, .inl (zq_push 26 (.int (-2)))), (26, .inr (.inr 1))]
theorem zk_X9_person : zq_oks zi_X9_person zc_X9_person := zq_cons (zq_s_aload_n (n := 0) (by decide +kernel) rfl) <|
  zq_cons (zq_s_iload_n (n := 1) (by decide +kernel) rfl) <|
  zq_cons (List.forall_mem_cons.mpr ⟨⟨zi_X9_isPerson, rfl, zq_s_callV (n := 1) (index := 141) (by decide +kernel) rfl zw_1045 zw_1047 zw_32 zw_91 zw_1048 (by decide +kernel) (by decide +kernel) ⟨rfl, rfl⟩⟩, fun _ h => absurd h List.not_mem_nil⟩) <|
  zq_cons (zq_s_if_eq (off := 19) (by decide +kernel) (by decide)) <|
  zq_cons (zq_s_iload_n (n := 2) (by decide +kernel) rfl) <|
  zq_cons (⟨zi_X9_isThree, rfl, zq_s_callS (n := 1) (index := 144) (by decide +kernel) zw_1049 zw_1050 zw_91 zw_1051 (by decide +kernel) (by decide +kernel) ⟨rfl, rfl⟩⟩) <|
  zq_cons (zq_s_if_eq (off := 12) (by decide +kernel) (by decide)) <|
  zq_cons (zq_s_aload_n (n := 0) (by decide +kernel) rfl) <|
  zq_cons (zq_s_iload_n (n := 1) (by decide +kernel) rfl) <|
  zq_cons (zq_s_iload_n (n := 2) (by decide +kernel) rfl) <|
  zq_cons (List.forall_mem_cons.mpr ⟨⟨zi_X9_personOf, rfl, zq_s_callV (n := 2) (index := 147) (by decide +kernel) rfl zw_1052 zw_1054 zw_33 zw_91 zw_1055 (by decide +kernel) (by decide +kernel) ⟨rfl, rfl⟩⟩, fun _ h => absurd h List.not_mem_nil⟩) <|
  zq_cons (zq_s_goto (off := 5) (by decide +kernel) (by decide)) <|
  zq_cons (zq_s_bipush (n := (-2)) (by decide +kernel) (by decide +kernel)) <|
  zq_cons (⟨rfl, (by decide +kernel)⟩) <|
  zq_nil
def zc_X9_ahead : List (Nat × zq_It) := [(0, .inl (zq_il 1 1)), (1, .inl (zq_push 2 (.int 1))), (2, .inl (zq_push 4 (.int 9))), (4, .inr (.inl (3, .inl zn_X9_in))), (7, .inl (zq_if_ne 10 13)), (10, .inl (zq_push 12 (.int (-2)))), (12, .inr (.inr 1)), (13, .inl (zq_al 14 0)), (14, .inl (zq_getf 17 [(8, 9)])), (17, .inl (zq_is 18 2)), (18, .inl (zq_al 19 0)), (19, .inl (zq_il 20 1)), (20, .inl (zq_puti 23 false [(8, 9)])), (23, .inl (zq_il 24 2)), (24, .inr (.inr 1))]
theorem zk_X9_ahead : zq_oks zi_X9_ahead zc_X9_ahead := zq_cons (zq_s_iload_n (n := 1) (by decide +kernel) rfl) <|
  zq_cons (zq_s_iconst (n := 1) (by decide +kernel) (by decide +kernel)) <|
  zq_cons (zq_s_bipush (n := 9) (by decide +kernel) (by decide +kernel)) <|
  zq_cons (⟨zi_X9_in, rfl, zq_s_callS (n := 3) (index := 95) (by decide +kernel) zw_984 zw_985 zw_91 zw_986 (by decide +kernel) (by decide +kernel) ⟨rfl, rfl⟩⟩) <|
  zq_cons (zq_s_if_ne (off := 6) (by decide +kernel) (by decide)) <|
  zq_cons (zq_s_bipush (n := (-2)) (by decide +kernel) (by decide +kernel)) <|
  zq_cons (⟨rfl, (by decide +kernel)⟩) <|
  zq_cons (zq_s_aload_n (n := 0) (by decide +kernel) rfl) <|
  zq_cons (zq_s_getf (index := 89) (by decide +kernel) zf_X9_89) <|
  zq_cons (zq_s_istore_n (n := 2) (by decide +kernel) rfl (by decide +kernel)) <|
  zq_cons (zq_s_aload_n (n := 0) (by decide +kernel) rfl) <|
  zq_cons (zq_s_iload_n (n := 1) (by decide +kernel) rfl) <|
  zq_cons (zq_s_puti (index := 89) (by decide +kernel) zp_X9_89 (fun _ _ => ⟨rfl, rfl⟩)) <|
  zq_cons (zq_s_iload_n (n := 2) (by decide +kernel) rfl) <|
  zq_cons (⟨rfl, (by decide +kernel)⟩) <|
  zq_nil
def zc_X9_event_0 : List (Nat × zq_It) := [(0, .inl (zq_il 1 1)), (1, .inr (.inl (1, .inl zn_X9_isTwo))), (4, .inl (zq_if_eq 7 33)), (7, .inl (zq_il 8 2)), (8, .inr (.inl (1, .inl zn_X9_isHour))), (11, .inl (zq_if_eq 14 33)), (14, .inl (zq_il 15 3)), (15, .inl (zq_push 16 (.int 0))), (16, .inl (zq_il 17 1)), (17, .inl (zq_if_ne 20 25)), (20, .inl (zq_push 22 (.int 7))), (22, .inl (zq_goto 27)), (25, .inl (zq_push 27 (.int 11))), (27, .inr (.inl (3, .inl zn_X9_in))), (30, .inl (zq_if_ne 33 36)), (33, .inl (zq_push 35 (.int (-2)))), (35, .inr (.inr 1)), (36, .inl (zq_al 37 0)), (37, .inl (zq_getf 40 [(8, 10)])), (40, .inl (zq_push 42 (.int 8))), (42, .inl (zq_ic_ne 45 48)), (45, .inl (zq_push 47 (.int (-4)))), (47, .inr (.inr 1)), (48, .inl (zq_al 49 0)), (49, .inl (zq_getf 52 [(8, 11)])), (52, .inl (zq_al 53 0)), (53, .inl (zq_getf 56 [(8, 10)])), (56, .inl (zq_il 57 1)), (57, .inl (zq_iast 58)), (58, .inl (zq_al 59 0)), (59, .inl (zq_getf 62 [(8, 12)])), (62, .inl (zq_al 63 0)), (63, .inl (zq_getf 66 [(8, 10)])), (66, .inl (zq_il 67 2)), (67, .inl (zq_iast 68)), (68, .inl (zq_al 69 0)), (69, .inl (zq_getf 72 [(8, 13)])), (72, .inl (zq_al 73 0)), (73, .inl (zq_getf 76 [(8, 10)])), (76, .inl (zq_il 77 3))]
theorem zk_X9_event_0 : zq_oks zi_X9_event zc_X9_event_0 := zq_cons (zq_s_iload_n (n := 1) (by decide +kernel) rfl) <|
  zq_cons (⟨zi_X9_isTwo, rfl, zq_s_callS (n := 1) (index := 135) (by decide +kernel) zw_1034 zw_1035 zw_91 zw_1036 (by decide +kernel) (by decide +kernel) ⟨rfl, rfl⟩⟩) <|
  zq_cons (zq_s_if_eq (off := 29) (by decide +kernel) (by decide)) <|
  zq_cons (zq_s_iload_n (n := 2) (by decide +kernel) rfl) <|
  zq_cons (⟨zi_X9_isHour, rfl, zq_s_callS (n := 1) (index := 150) (by decide +kernel) zw_1064 zw_1065 zw_91 zw_1066 (by decide +kernel) (by decide +kernel) ⟨rfl, rfl⟩⟩) <|
  zq_cons (zq_s_if_eq (off := 22) (by decide +kernel) (by decide)) <|
  zq_cons (zq_s_iload_n (n := 3) (by decide +kernel) rfl) <|
  zq_cons (zq_s_iconst (n := 0) (by decide +kernel) (by decide +kernel)) <|
  zq_cons (zq_s_iload_n (n := 1) (by decide +kernel) rfl) <|
  zq_cons (zq_s_if_ne (off := 8) (by decide +kernel) (by decide)) <|
  zq_cons (zq_s_bipush (n := 7) (by decide +kernel) (by decide +kernel)) <|
  zq_cons (zq_s_goto (off := 5) (by decide +kernel) (by decide)) <|
  zq_cons (zq_s_bipush (n := 11) (by decide +kernel) (by decide +kernel)) <|
  zq_cons (⟨zi_X9_in, rfl, zq_s_callS (n := 3) (index := 95) (by decide +kernel) zw_984 zw_985 zw_91 zw_986 (by decide +kernel) (by decide +kernel) ⟨rfl, rfl⟩⟩) <|
  zq_cons (zq_s_if_ne (off := 6) (by decide +kernel) (by decide)) <|
  zq_cons (zq_s_bipush (n := (-2)) (by decide +kernel) (by decide +kernel)) <|
  zq_cons (⟨rfl, (by decide +kernel)⟩) <|
  zq_cons (zq_s_aload_n (n := 0) (by decide +kernel) rfl) <|
  zq_cons (zq_s_getf (index := 153) (by decide +kernel) zf_X9_153) <|
  zq_cons (zq_s_bipush (n := 8) (by decide +kernel) (by decide +kernel)) <|
  zq_cons (zq_s_ic_ne (off := 6) (by decide +kernel) (by decide)) <|
  zq_cons (zq_s_bipush (n := (-4)) (by decide +kernel) (by decide +kernel)) <|
  zq_cons (⟨rfl, (by decide +kernel)⟩) <|
  zq_cons (zq_s_aload_n (n := 0) (by decide +kernel) rfl) <|
  zq_cons (zq_s_getf (index := 31) (by decide +kernel) zf_X9_31) <|
  zq_cons (zq_s_aload_n (n := 0) (by decide +kernel) rfl) <|
  zq_cons (zq_s_getf (index := 153) (by decide +kernel) zf_X9_153) <|
  zq_cons (zq_s_iload_n (n := 1) (by decide +kernel) rfl) <|
  zq_cons (zq_s_iast (by decide +kernel)) <|
  zq_cons (zq_s_aload_n (n := 0) (by decide +kernel) rfl) <|
  zq_cons (zq_s_getf (index := 34) (by decide +kernel) zf_X9_34) <|
  zq_cons (zq_s_aload_n (n := 0) (by decide +kernel) rfl) <|
  zq_cons (zq_s_getf (index := 153) (by decide +kernel) zf_X9_153) <|
  zq_cons (zq_s_iload_n (n := 2) (by decide +kernel) rfl) <|
  zq_cons (zq_s_iast (by decide +kernel)) <|
  zq_cons (zq_s_aload_n (n := 0) (by decide +kernel) rfl) <|
  zq_cons (zq_s_getf (index := 37) (by decide +kernel) zf_X9_37) <|
  zq_cons (zq_s_aload_n (n := 0) (by decide +kernel) rfl) <|
  zq_cons (zq_s_getf (index := 153) (by decide +kernel) zf_X9_153) <|
  zq_cons (zq_s_iload_n (n := 3) (by decide +kernel) rfl) <|
  zq_nil
def zc_X9_event_1 : List (Nat × zq_It) := [(77, .inl (zq_iast 78)), (78, .inl (zq_al 79 0)), (79, .inl (zq_dup 80)), (80, .inl (zq_getf 83 [(8, 10)])), (83, .inl (zq_push 84 (.int 1))), (84, .inl (zq_i2 85 (fun x y => x + y))), (85, .inl (zq_puti 88 false [(8, 10)])), (88, .inl (zq_al 89 0)), (89, .inl (zq_getf 92 [(8, 10)])), (92, .inr (.inr 1))]
theorem zk_X9_event_1 : zq_oks zi_X9_event zc_X9_event_1 := zq_cons (zq_s_iast (by decide +kernel)) <|
  zq_cons (zq_s_aload_n (n := 0) (by decide +kernel) rfl) <|
  zq_cons (zq_s_dup (by decide +kernel)) <|
  zq_cons (zq_s_getf (index := 153) (by decide +kernel) zf_X9_153) <|
  zq_cons (zq_s_iconst (n := 1) (by decide +kernel) (by decide +kernel)) <|
  zq_cons (zq_s_iadd (by decide +kernel)) <|
  zq_cons (zq_s_puti (index := 153) (by decide +kernel) zp_X9_153 (fun _ _ => ⟨rfl, rfl⟩)) <|
  zq_cons (zq_s_aload_n (n := 0) (by decide +kernel) rfl) <|
  zq_cons (zq_s_getf (index := 153) (by decide +kernel) zf_X9_153) <|
  zq_cons (⟨rfl, (by decide +kernel)⟩) <|
  zq_nil
def zc_X9_event : List (Nat × zq_It) := zc_X9_event_0 ++ (zc_X9_event_1)
theorem zk_X9_event : zq_oks zi_X9_event zc_X9_event := zq_app zk_X9_event_0 (zk_X9_event_1)
def zc_X9_back : List (Nat × zq_It) := [(0, .inl (zq_al 1 0)), (1, .inl (zq_getf 4 [(8, 10)])), (4, .inl (zq_if_ne 7 10)), (7, .inl (zq_push 9 (.int (-3)))), (9, .inr (.inr 1)), (10, .inl (zq_al 11 0)), (11, .inl (zq_dup 12)), (12, .inl (zq_getf 15 [(8, 10)])), (15, .inl (zq_push 16 (.int 1))), (16, .inl (zq_i2 17 (fun x y => x - y))), (17, .inl (zq_puti 20 false [(8, 10)])), (20, .inl (zq_al 21 0)), (21, .inl (zq_getf 24 [(8, 10)])), (24, .inr (.inr 1))]
theorem zk_X9_back : zq_oks zi_X9_back zc_X9_back := zq_cons (zq_s_aload_n (n := 0) (by decide +kernel) rfl) <|
  zq_cons (zq_s_getf (index := 153) (by decide +kernel) zf_X9_153) <|
  zq_cons (zq_s_if_ne (off := 6) (by decide +kernel) (by decide)) <|
  zq_cons (zq_s_bipush (n := (-3)) (by decide +kernel) (by decide +kernel)) <|
  zq_cons (⟨rfl, (by decide +kernel)⟩) <|
  zq_cons (zq_s_aload_n (n := 0) (by decide +kernel) rfl) <|
  zq_cons (zq_s_dup (by decide +kernel)) <|
  zq_cons (zq_s_getf (index := 153) (by decide +kernel) zf_X9_153) <|
  zq_cons (zq_s_iconst (n := 1) (by decide +kernel) (by decide +kernel)) <|
  zq_cons (zq_s_isub (by decide +kernel)) <|
  zq_cons (zq_s_puti (index := 153) (by decide +kernel) zp_X9_153 (fun _ _ => ⟨rfl, rfl⟩)) <|
  zq_cons (zq_s_aload_n (n := 0) (by decide +kernel) rfl) <|
  zq_cons (zq_s_getf (index := 153) (by decide +kernel) zf_X9_153) <|
  zq_cons (⟨rfl, (by decide +kernel)⟩) <|
  zq_nil
def zc_X9_read_0 : List (Nat × zq_It) := [(0, .inl (zq_il 1 1)), (1, .inr (.inl (1, .inl zn_X9_isSheet))), (4, .inl (zq_if_ne 7 10)), (7, .inl (zq_push 9 (.int (-2)))), (9, .inr (.inr 1)), (10, .inl (zq_al 11 0)), (11, .inl (zq_getf 14 [(8, 31)])), (14, .inl (zq_il 15 1)), (15, .inl (zq_zald 16)), (16, .inl (zq_if_ne 19 25)), (19, .inl (zq_al 20 0)), (20, .inl (zq_push 21 (.int 1))), (21, .inr (.inl (2, .inr [(8, zn_X9_meets)]))), (24, .inr (.inr 1)), (25, .inl (zq_push 26 (.int 0))), (26, .inl (zq_is 27 2)), (27, .inl (zq_push 29 (.int 60))), (29, .inl (zq_il 30 1)), (30, .inl (zq_i2 31 (fun x y => x * y))), (31, .inl (zq_is 32 3)), (32, .inl (zq_push 33 (.int 3))), (33, .inl (zq_il 34 2)), (34, .inl (zq_i2 35 (fun x y => x * y))), (35, .inl (zq_push 36 (.int 2))), (36, .inl (zq_i2 37 (fun x y => x + y))), (37, .inl (zq_al 38 0)), (38, .inl (zq_getf 41 [(8, 33)])), (41, .inl (zq_il 42 1)), (42, .inl (zq_iald 43)), (43, .inl (zq_ic_ge 46 93)), (46, .inl (zq_al 47 0)), (47, .inl (zq_al 48 0)), (48, .inl (zq_getf 51 [(8, 34)])), (51, .inl (zq_il 52 3)), (52, .inl (zq_push 53 (.int 3))), (53, .inl (zq_il 54 2)), (54, .inl (zq_i2 55 (fun x y => x * y))), (55, .inl (zq_i2 56 (fun x y => x + y))), (56, .inl (zq_iald 57)), (57, .inl (zq_al 58 0))]
theorem zk_X9_read_0 : zq_oks zi_X9_read zc_X9_read_0 := zq_cons (zq_s_iload_n (n := 1) (by decide +kernel) rfl) <|
  zq_cons (⟨zi_X9_isSheet, rfl, zq_s_callS (n := 1) (index := 156) (by decide +kernel) zw_1075 zw_1076 zw_91 zw_1077 (by decide +kernel) (by decide +kernel) ⟨rfl, rfl⟩⟩) <|
  zq_cons (zq_s_if_ne (off := 6) (by decide +kernel) (by decide)) <|
  zq_cons (zq_s_bipush (n := (-2)) (by decide +kernel) (by decide +kernel)) <|
  zq_cons (⟨rfl, (by decide +kernel)⟩) <|
  zq_cons (zq_s_aload_n (n := 0) (by decide +kernel) rfl) <|
  zq_cons (zq_s_getf (index := 73) (by decide +kernel) zf_X9_73) <|
  zq_cons (zq_s_iload_n (n := 1) (by decide +kernel) rfl) <|
  zq_cons (zq_s_zald (by decide +kernel)) <|
  zq_cons (zq_s_if_ne (off := 9) (by decide +kernel) (by decide)) <|
  zq_cons (zq_s_aload_n (n := 0) (by decide +kernel) rfl) <|
  zq_cons (zq_s_iconst (n := 1) (by decide +kernel) (by decide +kernel)) <|
  zq_cons (List.forall_mem_cons.mpr ⟨⟨zi_X9_meets, rfl, zq_s_callV (n := 1) (index := 159) (by decide +kernel) rfl zw_1078 zw_1080 zw_34 zw_91 zw_1081 (by decide +kernel) (by decide +kernel) ⟨rfl, rfl⟩⟩, fun _ h => absurd h List.not_mem_nil⟩) <|
  zq_cons (⟨rfl, (by decide +kernel)⟩) <|
  zq_cons (zq_s_iconst (n := 0) (by decide +kernel) (by decide +kernel)) <|
  zq_cons (zq_s_istore_n (n := 2) (by decide +kernel) rfl (by decide +kernel)) <|
  zq_cons (zq_s_bipush (n := 60) (by decide +kernel) (by decide +kernel)) <|
  zq_cons (zq_s_iload_n (n := 1) (by decide +kernel) rfl) <|
  zq_cons (zq_s_imul (by decide +kernel)) <|
  zq_cons (zq_s_istore_n (n := 3) (by decide +kernel) rfl (by decide +kernel)) <|
  zq_cons (zq_s_iconst (n := 3) (by decide +kernel) (by decide +kernel)) <|
  zq_cons (zq_s_iload_n (n := 2) (by decide +kernel) rfl) <|
  zq_cons (zq_s_imul (by decide +kernel)) <|
  zq_cons (zq_s_iconst (n := 2) (by decide +kernel) (by decide +kernel)) <|
  zq_cons (zq_s_iadd (by decide +kernel)) <|
  zq_cons (zq_s_aload_n (n := 0) (by decide +kernel) rfl) <|
  zq_cons (zq_s_getf (index := 80) (by decide +kernel) zf_X9_80) <|
  zq_cons (zq_s_iload_n (n := 1) (by decide +kernel) rfl) <|
  zq_cons (zq_s_iald (by decide +kernel)) <|
  zq_cons (zq_s_ic_ge (off := 50) (by decide +kernel) (by decide)) <|
  zq_cons (zq_s_aload_n (n := 0) (by decide +kernel) rfl) <|
  zq_cons (zq_s_aload_n (n := 0) (by decide +kernel) rfl) <|
  zq_cons (zq_s_getf (index := 83) (by decide +kernel) zf_X9_83) <|
  zq_cons (zq_s_iload_n (n := 3) (by decide +kernel) rfl) <|
  zq_cons (zq_s_iconst (n := 3) (by decide +kernel) (by decide +kernel)) <|
  zq_cons (zq_s_iload_n (n := 2) (by decide +kernel) rfl) <|
  zq_cons (zq_s_imul (by decide +kernel)) <|
  zq_cons (zq_s_iadd (by decide +kernel)) <|
  zq_cons (zq_s_iald (by decide +kernel)) <|
  zq_cons (zq_s_aload_n (n := 0) (by decide +kernel) rfl) <|
  zq_nil
def zc_X9_read_1 : List (Nat × zq_It) := [(58, .inl (zq_getf 61 [(8, 34)])), (61, .inl (zq_il 62 3)), (62, .inl (zq_push 63 (.int 3))), (63, .inl (zq_il 64 2)), (64, .inl (zq_i2 65 (fun x y => x * y))), (65, .inl (zq_i2 66 (fun x y => x + y))), (66, .inl (zq_push 67 (.int 1))), (67, .inl (zq_i2 68 (fun x y => x + y))), (68, .inl (zq_iald 69)), (69, .inl (zq_al 70 0)), (70, .inl (zq_getf 73 [(8, 34)])), (73, .inl (zq_il 74 3)), (74, .inl (zq_push 75 (.int 3))), (75, .inl (zq_il 76 2)), (76, .inl (zq_i2 77 (fun x y => x * y))), (77, .inl (zq_i2 78 (fun x y => x + y))), (78, .inl (zq_push 79 (.int 2))), (79, .inl (zq_i2 80 (fun x y => x + y))), (80, .inl (zq_iald 81)), (81, .inr (.inl (4, .inr [(8, zn_X9_event)]))), (84, .inl (zq_if_le 87 93)), (87, .inl (zq_inc 90 2 1)), (90, .inl (zq_goto 32)), (93, .inl (zq_il 94 2)), (94, .inr (.inr 1))]
theorem zk_X9_read_1 : zq_oks zi_X9_read zc_X9_read_1 := zq_cons (zq_s_getf (index := 83) (by decide +kernel) zf_X9_83) <|
  zq_cons (zq_s_iload_n (n := 3) (by decide +kernel) rfl) <|
  zq_cons (zq_s_iconst (n := 3) (by decide +kernel) (by decide +kernel)) <|
  zq_cons (zq_s_iload_n (n := 2) (by decide +kernel) rfl) <|
  zq_cons (zq_s_imul (by decide +kernel)) <|
  zq_cons (zq_s_iadd (by decide +kernel)) <|
  zq_cons (zq_s_iconst (n := 1) (by decide +kernel) (by decide +kernel)) <|
  zq_cons (zq_s_iadd (by decide +kernel)) <|
  zq_cons (zq_s_iald (by decide +kernel)) <|
  zq_cons (zq_s_aload_n (n := 0) (by decide +kernel) rfl) <|
  zq_cons (zq_s_getf (index := 83) (by decide +kernel) zf_X9_83) <|
  zq_cons (zq_s_iload_n (n := 3) (by decide +kernel) rfl) <|
  zq_cons (zq_s_iconst (n := 3) (by decide +kernel) (by decide +kernel)) <|
  zq_cons (zq_s_iload_n (n := 2) (by decide +kernel) rfl) <|
  zq_cons (zq_s_imul (by decide +kernel)) <|
  zq_cons (zq_s_iadd (by decide +kernel)) <|
  zq_cons (zq_s_iconst (n := 2) (by decide +kernel) (by decide +kernel)) <|
  zq_cons (zq_s_iadd (by decide +kernel)) <|
  zq_cons (zq_s_iald (by decide +kernel)) <|
  zq_cons (List.forall_mem_cons.mpr ⟨⟨zi_X9_event, rfl, zq_s_callV (n := 3) (index := 162) (by decide +kernel) rfl zw_1082 zw_1061 zw_1062 zw_91 zw_1063 (by decide +kernel) (by decide +kernel) ⟨rfl, rfl⟩⟩, fun _ h => absurd h List.not_mem_nil⟩) <|
  zq_cons (zq_s_if_le (off := 9) (by decide +kernel) (by decide)) <|
  zq_cons (zq_s_iinc (n := 1) (by decide +kernel) (by decide +kernel) (by decide +kernel)) <|
  zq_cons (zq_s_goto (off := (-58)) (by decide +kernel) (by decide)) <|
  zq_cons (zq_s_iload_n (n := 2) (by decide +kernel) rfl) <|
  zq_cons (⟨rfl, (by decide +kernel)⟩) <|
  zq_nil
def zc_X9_read : List (Nat × zq_It) := zc_X9_read_0 ++ (zc_X9_read_1)
theorem zk_X9_read : zq_oks zi_X9_read zc_X9_read := zq_app zk_X9_read_0 (zk_X9_read_1)
def zc_X9_asTold_0 : List (Nat × zq_It) := [(0, .inl (zq_al 1 0)), (1, .inr (.inl (1, .inr [(8, zn_X9_reads)]))), (4, .inl (zq_al 5 0)), (5, .inl (zq_al 6 0)), (6, .inl (zq_getf 9 [(8, 9)])), (9, .inl (zq_puti 12 false [(8, 14)])), (12, .inl (zq_al 13 0)), (13, .inl (zq_al 14 0)), (14, .inl (zq_getf 17 [(8, 10)])), (17, .inl (zq_puti 20 false [(8, 15)])), (20, .inl (zq_push 21 (.int 0))), (21, .inl (zq_is 22 1)), (22, .inl (zq_il 23 1)), (23, .inl (zq_al 24 0)), (24, .inl (zq_getf 27 [(8, 10)])), (27, .inl (zq_ic_ge 30 72)), (30, .inl (zq_al 31 0)), (31, .inl (zq_getf 34 [(8, 16)])), (34, .inl (zq_il 35 1)), (35, .inl (zq_al 36 0)), (36, .inl (zq_getf 39 [(8, 11)])), (39, .inl (zq_il 40 1)), (40, .inl (zq_iald 41)), (41, .inl (zq_iast 42)), (42, .inl (zq_al 43 0)), (43, .inl (zq_getf 46 [(8, 17)])), (46, .inl (zq_il 47 1)), (47, .inl (zq_al 48 0)), (48, .inl (zq_getf 51 [(8, 12)])), (51, .inl (zq_il 52 1)), (52, .inl (zq_iald 53)), (53, .inl (zq_iast 54)), (54, .inl (zq_al 55 0)), (55, .inl (zq_getf 58 [(8, 18)])), (58, .inl (zq_il 59 1)), (59, .inl (zq_al 60 0)), (60, .inl (zq_getf 63 [(8, 13)])), (63, .inl (zq_il 64 1)), (64, .inl (zq_iald 65)), (65, .inl (zq_iast 66))]
theorem zk_X9_asTold_0 : zq_oks zi_X9_asTold zc_X9_asTold_0 := zq_cons (zq_s_aload_n (n := 0) (by decide +kernel) rfl) <|
  zq_cons (List.forall_mem_cons.mpr ⟨⟨zi_X9_reads, rfl, zq_s_callV (n := 0) (index := 129) (by decide +kernel) rfl zw_1030 zw_1032 zw_30 zw_91 zw_1033 (by decide +kernel) (by decide +kernel) ⟨rfl, rfl⟩⟩, fun _ h => absurd h List.not_mem_nil⟩) <|
  zq_cons (zq_s_aload_n (n := 0) (by decide +kernel) rfl) <|
  zq_cons (zq_s_aload_n (n := 0) (by decide +kernel) rfl) <|
  zq_cons (zq_s_getf (index := 89) (by decide +kernel) zf_X9_89) <|
  zq_cons (zq_s_puti (index := 166) (by decide +kernel) zp_X9_166 (fun _ _ => ⟨rfl, rfl⟩)) <|
  zq_cons (zq_s_aload_n (n := 0) (by decide +kernel) rfl) <|
  zq_cons (zq_s_aload_n (n := 0) (by decide +kernel) rfl) <|
  zq_cons (zq_s_getf (index := 153) (by decide +kernel) zf_X9_153) <|
  zq_cons (zq_s_puti (index := 169) (by decide +kernel) zp_X9_169 (fun _ _ => ⟨rfl, rfl⟩)) <|
  zq_cons (zq_s_iconst (n := 0) (by decide +kernel) (by decide +kernel)) <|
  zq_cons (zq_s_istore_n (n := 1) (by decide +kernel) rfl (by decide +kernel)) <|
  zq_cons (zq_s_iload_n (n := 1) (by decide +kernel) rfl) <|
  zq_cons (zq_s_aload_n (n := 0) (by decide +kernel) rfl) <|
  zq_cons (zq_s_getf (index := 153) (by decide +kernel) zf_X9_153) <|
  zq_cons (zq_s_ic_ge (off := 45) (by decide +kernel) (by decide)) <|
  zq_cons (zq_s_aload_n (n := 0) (by decide +kernel) rfl) <|
  zq_cons (zq_s_getf (index := 40) (by decide +kernel) zf_X9_40) <|
  zq_cons (zq_s_iload_n (n := 1) (by decide +kernel) rfl) <|
  zq_cons (zq_s_aload_n (n := 0) (by decide +kernel) rfl) <|
  zq_cons (zq_s_getf (index := 31) (by decide +kernel) zf_X9_31) <|
  zq_cons (zq_s_iload_n (n := 1) (by decide +kernel) rfl) <|
  zq_cons (zq_s_iald (by decide +kernel)) <|
  zq_cons (zq_s_iast (by decide +kernel)) <|
  zq_cons (zq_s_aload_n (n := 0) (by decide +kernel) rfl) <|
  zq_cons (zq_s_getf (index := 43) (by decide +kernel) zf_X9_43) <|
  zq_cons (zq_s_iload_n (n := 1) (by decide +kernel) rfl) <|
  zq_cons (zq_s_aload_n (n := 0) (by decide +kernel) rfl) <|
  zq_cons (zq_s_getf (index := 34) (by decide +kernel) zf_X9_34) <|
  zq_cons (zq_s_iload_n (n := 1) (by decide +kernel) rfl) <|
  zq_cons (zq_s_iald (by decide +kernel)) <|
  zq_cons (zq_s_iast (by decide +kernel)) <|
  zq_cons (zq_s_aload_n (n := 0) (by decide +kernel) rfl) <|
  zq_cons (zq_s_getf (index := 46) (by decide +kernel) zf_X9_46) <|
  zq_cons (zq_s_iload_n (n := 1) (by decide +kernel) rfl) <|
  zq_cons (zq_s_aload_n (n := 0) (by decide +kernel) rfl) <|
  zq_cons (zq_s_getf (index := 37) (by decide +kernel) zf_X9_37) <|
  zq_cons (zq_s_iload_n (n := 1) (by decide +kernel) rfl) <|
  zq_cons (zq_s_iald (by decide +kernel)) <|
  zq_cons (zq_s_iast (by decide +kernel)) <|
  zq_nil
def zc_X9_asTold_1 : List (Nat × zq_It) := [(66, .inl (zq_inc 69 1 1)), (69, .inl (zq_goto 22)), (72, .inl (zq_al 73 0)), (73, .inl (zq_push 74 (.int 0))), (74, .inl (zq_puti 77 false [(8, 19)])), (77, .inr (.inr 0))]
theorem zk_X9_asTold_1 : zq_oks zi_X9_asTold zc_X9_asTold_1 := zq_cons (zq_s_iinc (n := 1) (by decide +kernel) (by decide +kernel) (by decide +kernel)) <|
  zq_cons (zq_s_goto (off := (-47)) (by decide +kernel) (by decide)) <|
  zq_cons (zq_s_aload_n (n := 0) (by decide +kernel) rfl) <|
  zq_cons (zq_s_iconst (n := 0) (by decide +kernel) (by decide +kernel)) <|
  zq_cons (zq_s_puti (index := 172) (by decide +kernel) zp_X9_172 (fun _ _ => ⟨rfl, rfl⟩)) <|
  zq_cons (⟨rfl, (by decide +kernel)⟩) <|
  zq_nil
def zc_X9_asTold : List (Nat × zq_It) := zc_X9_asTold_0 ++ (zc_X9_asTold_1)
theorem zk_X9_asTold : zq_oks zi_X9_asTold zc_X9_asTold := zq_app zk_X9_asTold_0 (zk_X9_asTold_1)
def zc_X9_befalls_0 : List (Nat × zq_It) := [(0, .inl (zq_push 1 (.int 0))), (1, .inl (zq_is 2 2)), (2, .inl (zq_il 3 2)), (3, .inl (zq_al 4 0)), (4, .inl (zq_getf 7 [(8, 15)])), (7, .inl (zq_ic_ge 10 94)), (10, .inl (zq_al 11 0)), (11, .inl (zq_getf 14 [(8, 17)])), (14, .inl (zq_il 15 2)), (15, .inl (zq_iald 16)), (16, .inl (zq_il 17 1)), (17, .inl (zq_ic_ne 20 88)), (20, .inl (zq_al 21 0)), (21, .inl (zq_getf 24 [(8, 19)])), (24, .inl (zq_il 25 2)), (25, .inr (.inl (2, .inl zn_X9_isIn))), (28, .inl (zq_if_ne 31 88)), (31, .inl (zq_al 32 0)), (32, .inl (zq_al 33 0)), (33, .inl (zq_getf 36 [(8, 16)])), (36, .inl (zq_il 37 2)), (37, .inl (zq_iald 38)), (38, .inl (zq_if_ne 41 50)), (41, .inl (zq_al 42 0)), (42, .inl (zq_getf 45 [(8, 18)])), (45, .inl (zq_il 46 2)), (46, .inl (zq_iald 47)), (47, .inl (zq_goto 54)), (50, .inl (zq_al 51 0)), (51, .inl (zq_getf 54 [(8, 20)])), (54, .inl (zq_puti 57 false [(8, 20)])), (57, .inl (zq_al 58 0)), (58, .inl (zq_dup 59)), (59, .inl (zq_getf 62 [(8, 21)])), (62, .inl (zq_al 63 0)), (63, .inl (zq_getf 66 [(8, 16)])), (66, .inl (zq_il 67 2)), (67, .inl (zq_iald 68)), (68, .inl (zq_push 69 (.int 1))), (69, .inl (zq_ic_ne 72 83))]
theorem zk_X9_befalls_0 : zq_oks zi_X9_befalls zc_X9_befalls_0 := zq_cons (zq_s_iconst (n := 0) (by decide +kernel) (by decide +kernel)) <|
  zq_cons (zq_s_istore_n (n := 2) (by decide +kernel) rfl (by decide +kernel)) <|
  zq_cons (zq_s_iload_n (n := 2) (by decide +kernel) rfl) <|
  zq_cons (zq_s_aload_n (n := 0) (by decide +kernel) rfl) <|
  zq_cons (zq_s_getf (index := 169) (by decide +kernel) zf_X9_169) <|
  zq_cons (zq_s_ic_ge (off := 87) (by decide +kernel) (by decide)) <|
  zq_cons (zq_s_aload_n (n := 0) (by decide +kernel) rfl) <|
  zq_cons (zq_s_getf (index := 43) (by decide +kernel) zf_X9_43) <|
  zq_cons (zq_s_iload_n (n := 2) (by decide +kernel) rfl) <|
  zq_cons (zq_s_iald (by decide +kernel)) <|
  zq_cons (zq_s_iload_n (n := 1) (by decide +kernel) rfl) <|
  zq_cons (zq_s_ic_ne (off := 71) (by decide +kernel) (by decide)) <|
  zq_cons (zq_s_aload_n (n := 0) (by decide +kernel) rfl) <|
  zq_cons (zq_s_getf (index := 172) (by decide +kernel) zf_X9_172) <|
  zq_cons (zq_s_iload_n (n := 2) (by decide +kernel) rfl) <|
  zq_cons (⟨zi_X9_isIn, rfl, zq_s_callS (n := 2) (index := 175) (by decide +kernel) zw_1107 zw_1108 zw_91 zw_1109 (by decide +kernel) (by decide +kernel) ⟨rfl, rfl⟩⟩) <|
  zq_cons (zq_s_if_ne (off := 60) (by decide +kernel) (by decide)) <|
  zq_cons (zq_s_aload_n (n := 0) (by decide +kernel) rfl) <|
  zq_cons (zq_s_aload_n (n := 0) (by decide +kernel) rfl) <|
  zq_cons (zq_s_getf (index := 40) (by decide +kernel) zf_X9_40) <|
  zq_cons (zq_s_iload_n (n := 2) (by decide +kernel) rfl) <|
  zq_cons (zq_s_iald (by decide +kernel)) <|
  zq_cons (zq_s_if_ne (off := 12) (by decide +kernel) (by decide)) <|
  zq_cons (zq_s_aload_n (n := 0) (by decide +kernel) rfl) <|
  zq_cons (zq_s_getf (index := 46) (by decide +kernel) zf_X9_46) <|
  zq_cons (zq_s_iload_n (n := 2) (by decide +kernel) rfl) <|
  zq_cons (zq_s_iald (by decide +kernel)) <|
  zq_cons (zq_s_goto (off := 7) (by decide +kernel) (by decide)) <|
  zq_cons (zq_s_aload_n (n := 0) (by decide +kernel) rfl) <|
  zq_cons (zq_s_getf (index := 179) (by decide +kernel) zf_X9_179) <|
  zq_cons (zq_s_puti (index := 179) (by decide +kernel) zp_X9_179 (fun _ _ => ⟨rfl, rfl⟩)) <|
  zq_cons (zq_s_aload_n (n := 0) (by decide +kernel) rfl) <|
  zq_cons (zq_s_dup (by decide +kernel)) <|
  zq_cons (zq_s_getf (index := 182) (by decide +kernel) zf_X9_182) <|
  zq_cons (zq_s_aload_n (n := 0) (by decide +kernel) rfl) <|
  zq_cons (zq_s_getf (index := 40) (by decide +kernel) zf_X9_40) <|
  zq_cons (zq_s_iload_n (n := 2) (by decide +kernel) rfl) <|
  zq_cons (zq_s_iald (by decide +kernel)) <|
  zq_cons (zq_s_iconst (n := 1) (by decide +kernel) (by decide +kernel)) <|
  zq_cons (zq_s_ic_ne (off := 14) (by decide +kernel) (by decide)) <|
  zq_nil
def zc_X9_befalls_1 : List (Nat × zq_It) := [(72, .inl (zq_push 73 (.int 1))), (73, .inl (zq_al 74 0)), (74, .inl (zq_getf 77 [(8, 18)])), (77, .inl (zq_il 78 2)), (78, .inl (zq_iald 79)), (79, .inl (zq_i2 80 (fun x y => x <<< (y &&& 31)))), (80, .inl (zq_goto 84)), (83, .inl (zq_push 84 (.int 0))), (84, .inl (zq_i2 85 (fun x y => x ||| y))), (85, .inl (zq_puti 88 false [(8, 21)])), (88, .inl (zq_inc 91 2 1)), (91, .inl (zq_goto 2)), (94, .inl (zq_al 95 0)), (95, .inl (zq_getf 98 [(8, 22)])), (98, .inl (zq_il 99 1)), (99, .inl (zq_al 100 0)), (100, .inl (zq_getf 103 [(8, 20)])), (103, .inl (zq_iast 104)), (104, .inr (.inr 0))]
theorem zk_X9_befalls_1 : zq_oks zi_X9_befalls zc_X9_befalls_1 := zq_cons (zq_s_iconst (n := 1) (by decide +kernel) (by decide +kernel)) <|
  zq_cons (zq_s_aload_n (n := 0) (by decide +kernel) rfl) <|
  zq_cons (zq_s_getf (index := 46) (by decide +kernel) zf_X9_46) <|
  zq_cons (zq_s_iload_n (n := 2) (by decide +kernel) rfl) <|
  zq_cons (zq_s_iald (by decide +kernel)) <|
  zq_cons (zq_s_ishl (by decide +kernel)) <|
  zq_cons (zq_s_goto (off := 4) (by decide +kernel) (by decide)) <|
  zq_cons (zq_s_iconst (n := 0) (by decide +kernel) (by decide +kernel)) <|
  zq_cons (zq_s_ior (by decide +kernel)) <|
  zq_cons (zq_s_puti (index := 182) (by decide +kernel) zp_X9_182 (fun _ _ => ⟨rfl, rfl⟩)) <|
  zq_cons (zq_s_iinc (n := 1) (by decide +kernel) (by decide +kernel) (by decide +kernel)) <|
  zq_cons (zq_s_goto (off := (-89)) (by decide +kernel) (by decide)) <|
  zq_cons (zq_s_aload_n (n := 0) (by decide +kernel) rfl) <|
  zq_cons (zq_s_getf (index := 49) (by decide +kernel) zf_X9_49) <|
  zq_cons (zq_s_iload_n (n := 1) (by decide +kernel) rfl) <|
  zq_cons (zq_s_aload_n (n := 0) (by decide +kernel) rfl) <|
  zq_cons (zq_s_getf (index := 179) (by decide +kernel) zf_X9_179) <|
  zq_cons (zq_s_iast (by decide +kernel)) <|
  zq_cons (⟨rfl, (by decide +kernel)⟩) <|
  zq_nil
def zc_X9_befalls : List (Nat × zq_It) := zc_X9_befalls_0 ++ (zc_X9_befalls_1)
theorem zk_X9_befalls : zq_oks zi_X9_befalls zc_X9_befalls := zq_app zk_X9_befalls_0 (zk_X9_befalls_1)
def zc_X9_nears_0 : List (Nat × zq_It) := [(0, .inl (zq_al 1 0)), (1, .inl (zq_getf 4 [(8, 23)])), (4, .inl (zq_il 5 1)), (5, .inl (zq_push 7 (.int 8))), (7, .inl (zq_il 8 2)), (8, .inl (zq_i2 9 (fun x y => x * y))), (9, .inl (zq_i2 10 (fun x y => x + y))), (10, .inl (zq_il 12 4)), (12, .inl (zq_i2 13 (fun x y => x + y))), (13, .inl (zq_iald 14)), (14, .inl (zq_is 16 5)), (16, .inl (zq_al 17 0)), (17, .inl (zq_getf 20 [(8, 23)])), (20, .inl (zq_il 21 1)), (21, .inl (zq_push 23 (.int 8))), (23, .inl (zq_il 24 3)), (24, .inl (zq_i2 25 (fun x y => x * y))), (25, .inl (zq_i2 26 (fun x y => x + y))), (26, .inl (zq_il 28 4)), (28, .inl (zq_i2 29 (fun x y => x + y))), (29, .inl (zq_il 31 5)), (31, .inl (zq_push 32 (.int 1))), (32, .inl (zq_i2 33 (fun x y => x + y))), (33, .inl (zq_al 34 0)), (34, .inl (zq_getf 37 [(8, 23)])), (37, .inl (zq_il 38 1)), (38, .inl (zq_push 40 (.int 8))), (40, .inl (zq_il 41 3)), (41, .inl (zq_i2 42 (fun x y => x * y))), (42, .inl (zq_i2 43 (fun x y => x + y))), (43, .inl (zq_il 45 4)), (45, .inl (zq_i2 46 (fun x y => x + y))), (46, .inl (zq_iald 47)), (47, .inl (zq_ic_ge 50 57)), (50, .inl (zq_il 52 5)), (52, .inl (zq_push 53 (.int 1))), (53, .inl (zq_i2 54 (fun x y => x + y))), (54, .inl (zq_goto 71)), (57, .inl (zq_al 58 0)), (58, .inl (zq_getf 61 [(8, 23)]))]
theorem zk_X9_nears_0 : zq_oks zi_X9_nears zc_X9_nears_0 := zq_cons (zq_s_aload_n (n := 0) (by decide +kernel) rfl) <|
  zq_cons (zq_s_getf (index := 52) (by decide +kernel) zf_X9_52) <|
  zq_cons (zq_s_iload_n (n := 1) (by decide +kernel) rfl) <|
  zq_cons (zq_s_bipush (n := 8) (by decide +kernel) (by decide +kernel)) <|
  zq_cons (zq_s_iload_n (n := 2) (by decide +kernel) rfl) <|
  zq_cons (zq_s_imul (by decide +kernel)) <|
  zq_cons (zq_s_iadd (by decide +kernel)) <|
  zq_cons (zq_s_iload (by decide +kernel)) <|
  zq_cons (zq_s_iadd (by decide +kernel)) <|
  zq_cons (zq_s_iald (by decide +kernel)) <|
  zq_cons (zq_s_istore (by decide +kernel) (by decide +kernel)) <|
  zq_cons (zq_s_aload_n (n := 0) (by decide +kernel) rfl) <|
  zq_cons (zq_s_getf (index := 52) (by decide +kernel) zf_X9_52) <|
  zq_cons (zq_s_iload_n (n := 1) (by decide +kernel) rfl) <|
  zq_cons (zq_s_bipush (n := 8) (by decide +kernel) (by decide +kernel)) <|
  zq_cons (zq_s_iload_n (n := 3) (by decide +kernel) rfl) <|
  zq_cons (zq_s_imul (by decide +kernel)) <|
  zq_cons (zq_s_iadd (by decide +kernel)) <|
  zq_cons (zq_s_iload (by decide +kernel)) <|
  zq_cons (zq_s_iadd (by decide +kernel)) <|
  zq_cons (zq_s_iload (by decide +kernel)) <|
  zq_cons (zq_s_iconst (n := 1) (by decide +kernel) (by decide +kernel)) <|
  zq_cons (zq_s_iadd (by decide +kernel)) <|
  zq_cons (zq_s_aload_n (n := 0) (by decide +kernel) rfl) <|
  zq_cons (zq_s_getf (index := 52) (by decide +kernel) zf_X9_52) <|
  zq_cons (zq_s_iload_n (n := 1) (by decide +kernel) rfl) <|
  zq_cons (zq_s_bipush (n := 8) (by decide +kernel) (by decide +kernel)) <|
  zq_cons (zq_s_iload_n (n := 3) (by decide +kernel) rfl) <|
  zq_cons (zq_s_imul (by decide +kernel)) <|
  zq_cons (zq_s_iadd (by decide +kernel)) <|
  zq_cons (zq_s_iload (by decide +kernel)) <|
  zq_cons (zq_s_iadd (by decide +kernel)) <|
  zq_cons (zq_s_iald (by decide +kernel)) <|
  zq_cons (zq_s_ic_ge (off := 10) (by decide +kernel) (by decide)) <|
  zq_cons (zq_s_iload (by decide +kernel)) <|
  zq_cons (zq_s_iconst (n := 1) (by decide +kernel) (by decide +kernel)) <|
  zq_cons (zq_s_iadd (by decide +kernel)) <|
  zq_cons (zq_s_goto (off := 17) (by decide +kernel) (by decide)) <|
  zq_cons (zq_s_aload_n (n := 0) (by decide +kernel) rfl) <|
  zq_cons (zq_s_getf (index := 52) (by decide +kernel) zf_X9_52) <|
  zq_nil
def zc_X9_nears_1 : List (Nat × zq_It) := [(61, .inl (zq_il 62 1)), (62, .inl (zq_push 64 (.int 8))), (64, .inl (zq_il 65 3)), (65, .inl (zq_i2 66 (fun x y => x * y))), (66, .inl (zq_i2 67 (fun x y => x + y))), (67, .inl (zq_il 69 4)), (69, .inl (zq_i2 70 (fun x y => x + y))), (70, .inl (zq_iald 71)), (71, .inl (zq_iast 72)), (72, .inr (.inr 0))]
theorem zk_X9_nears_1 : zq_oks zi_X9_nears zc_X9_nears_1 := zq_cons (zq_s_iload_n (n := 1) (by decide +kernel) rfl) <|
  zq_cons (zq_s_bipush (n := 8) (by decide +kernel) (by decide +kernel)) <|
  zq_cons (zq_s_iload_n (n := 3) (by decide +kernel) rfl) <|
  zq_cons (zq_s_imul (by decide +kernel)) <|
  zq_cons (zq_s_iadd (by decide +kernel)) <|
  zq_cons (zq_s_iload (by decide +kernel)) <|
  zq_cons (zq_s_iadd (by decide +kernel)) <|
  zq_cons (zq_s_iald (by decide +kernel)) <|
  zq_cons (zq_s_iast (by decide +kernel)) <|
  zq_cons (⟨rfl, (by decide +kernel)⟩) <|
  zq_nil
def zc_X9_nears : List (Nat × zq_It) := zc_X9_nears_0 ++ (zc_X9_nears_1)
theorem zk_X9_nears : zq_oks zi_X9_nears zc_X9_nears := zq_app zk_X9_nears_0 (zk_X9_nears_1)
def zc_X9_measures_0 : List (Nat × zq_It) := [(0, .inl (zq_push 2 (.int 64))), (2, .inl (zq_il 3 1)), (3, .inl (zq_i2 4 (fun x y => x * y))), (4, .inl (zq_is 5 2)), (5, .inl (zq_push 6 (.int 0))), (6, .inl (zq_is 7 3)), (7, .inl (zq_il 8 3)), (8, .inl (zq_push 10 (.int 64))), (10, .inl (zq_ic_ge 13 44)), (13, .inl (zq_al 14 0)), (14, .inl (zq_getf 17 [(8, 23)])), (17, .inl (zq_il 18 2)), (18, .inl (zq_il 19 3)), (19, .inl (zq_i2 20 (fun x y => x + y))), (20, .inl (zq_il 21 3)), (21, .inl (zq_push 23 (.int 8))), (23, .inl (zq_i2c 24 (fun x y => x / y))), (24, .inl (zq_il 25 3)), (25, .inl (zq_push 27 (.int 8))), (27, .inl (zq_i2c 28 (fun x y => x - x / y * y))), (28, .inl (zq_ic_ne 31 35)), (31, .inl (zq_push 32 (.int 0))), (32, .inl (zq_goto 37)), (35, .inl (zq_push 37 (.int 99))), (37, .inl (zq_iast 38)), (38, .inl (zq_inc 41 3 1)), (41, .inl (zq_goto 7)), (44, .inl (zq_push 45 (.int 0))), (45, .inl (zq_is 46 3)), (46, .inl (zq_il 47 3)), (47, .inl (zq_push 49 (.int 8))), (49, .inl (zq_ic_ge 52 146)), (52, .inl (zq_push 53 (.int 0))), (53, .inl (zq_is 55 4)), (55, .inl (zq_il 57 4)), (57, .inl (zq_al 58 0)), (58, .inl (zq_getf 61 [(8, 2)])), (61, .inl (zq_ic_ge 64 140)), (64, .inl (zq_push 65 (.int 0))), (65, .inl (zq_is 67 5))]
theorem zk_X9_measures_0 : zq_oks zi_X9_measures zc_X9_measures_0 := zq_cons (zq_s_bipush (n := 64) (by decide +kernel) (by decide +kernel)) <|
  zq_cons (zq_s_iload_n (n := 1) (by decide +kernel) rfl) <|
  zq_cons (zq_s_imul (by decide +kernel)) <|
  zq_cons (zq_s_istore_n (n := 2) (by decide +kernel) rfl (by decide +kernel)) <|
  zq_cons (zq_s_iconst (n := 0) (by decide +kernel) (by decide +kernel)) <|
  zq_cons (zq_s_istore_n (n := 3) (by decide +kernel) rfl (by decide +kernel)) <|
  zq_cons (zq_s_iload_n (n := 3) (by decide +kernel) rfl) <|
  zq_cons (zq_s_bipush (n := 64) (by decide +kernel) (by decide +kernel)) <|
  zq_cons (zq_s_ic_ge (off := 34) (by decide +kernel) (by decide)) <|
  zq_cons (zq_s_aload_n (n := 0) (by decide +kernel) rfl) <|
  zq_cons (zq_s_getf (index := 52) (by decide +kernel) zf_X9_52) <|
  zq_cons (zq_s_iload_n (n := 2) (by decide +kernel) rfl) <|
  zq_cons (zq_s_iload_n (n := 3) (by decide +kernel) rfl) <|
  zq_cons (zq_s_iadd (by decide +kernel)) <|
  zq_cons (zq_s_iload_n (n := 3) (by decide +kernel) rfl) <|
  zq_cons (zq_s_bipush (n := 8) (by decide +kernel) (by decide +kernel)) <|
  zq_cons (zq_s_idiv (by decide +kernel)) <|
  zq_cons (zq_s_iload_n (n := 3) (by decide +kernel) rfl) <|
  zq_cons (zq_s_bipush (n := 8) (by decide +kernel) (by decide +kernel)) <|
  zq_cons (zq_s_irem (by decide +kernel)) <|
  zq_cons (zq_s_ic_ne (off := 7) (by decide +kernel) (by decide)) <|
  zq_cons (zq_s_iconst (n := 0) (by decide +kernel) (by decide +kernel)) <|
  zq_cons (zq_s_goto (off := 5) (by decide +kernel) (by decide)) <|
  zq_cons (zq_s_bipush (n := 99) (by decide +kernel) (by decide +kernel)) <|
  zq_cons (zq_s_iast (by decide +kernel)) <|
  zq_cons (zq_s_iinc (n := 1) (by decide +kernel) (by decide +kernel) (by decide +kernel)) <|
  zq_cons (zq_s_goto (off := (-34)) (by decide +kernel) (by decide)) <|
  zq_cons (zq_s_iconst (n := 0) (by decide +kernel) (by decide +kernel)) <|
  zq_cons (zq_s_istore_n (n := 3) (by decide +kernel) rfl (by decide +kernel)) <|
  zq_cons (zq_s_iload_n (n := 3) (by decide +kernel) rfl) <|
  zq_cons (zq_s_bipush (n := 8) (by decide +kernel) (by decide +kernel)) <|
  zq_cons (zq_s_ic_ge (off := 97) (by decide +kernel) (by decide)) <|
  zq_cons (zq_s_iconst (n := 0) (by decide +kernel) (by decide +kernel)) <|
  zq_cons (zq_s_istore (by decide +kernel) (by decide +kernel)) <|
  zq_cons (zq_s_iload (by decide +kernel)) <|
  zq_cons (zq_s_aload_n (n := 0) (by decide +kernel) rfl) <|
  zq_cons (zq_s_getf (index := 110) (by decide +kernel) zf_X9_110) <|
  zq_cons (zq_s_ic_ge (off := 79) (by decide +kernel) (by decide)) <|
  zq_cons (zq_s_iconst (n := 0) (by decide +kernel) (by decide +kernel)) <|
  zq_cons (zq_s_istore (by decide +kernel) (by decide +kernel)) <|
  zq_nil
def zc_X9_measures_1 : List (Nat × zq_It) := [(67, .inl (zq_il 69 5)), (69, .inl (zq_push 71 (.int 8))), (71, .inl (zq_ic_ge 74 134)), (74, .inl (zq_al 75 0)), (75, .inl (zq_getf 78 [(8, 21)])), (78, .inl (zq_il 80 4)), (80, .inr (.inl (2, .inl zn_X9_isIn))), (83, .inl (zq_if_ne 86 134)), (86, .inl (zq_al 87 0)), (87, .inl (zq_il 88 2)), (88, .inl (zq_al 89 0)), (89, .inl (zq_getf 92 [(8, 3)])), (92, .inl (zq_il 94 4)), (94, .inl (zq_iald 95)), (95, .inl (zq_al 96 0)), (96, .inl (zq_getf 99 [(8, 4)])), (99, .inl (zq_il 101 4)), (101, .inl (zq_iald 102)), (102, .inl (zq_il 104 5)), (104, .inr (.inl (5, .inr [(8, zn_X9_nears)]))), (107, .inl (zq_al 108 0)), (108, .inl (zq_il 109 2)), (109, .inl (zq_al 110 0)), (110, .inl (zq_getf 113 [(8, 4)])), (113, .inl (zq_il 115 4)), (115, .inl (zq_iald 116)), (116, .inl (zq_al 117 0)), (117, .inl (zq_getf 120 [(8, 3)])), (120, .inl (zq_il 122 4)), (122, .inl (zq_iald 123)), (123, .inl (zq_il 125 5)), (125, .inr (.inl (5, .inr [(8, zn_X9_nears)]))), (128, .inl (zq_inc 131 5 1)), (131, .inl (zq_goto 67)), (134, .inl (zq_inc 137 4 1)), (137, .inl (zq_goto 55)), (140, .inl (zq_inc 143 3 1)), (143, .inl (zq_goto 46)), (146, .inr (.inr 0))]
theorem zk_X9_measures_1 : zq_oks zi_X9_measures zc_X9_measures_1 := zq_cons (zq_s_iload (by decide +kernel)) <|
  zq_cons (zq_s_bipush (n := 8) (by decide +kernel) (by decide +kernel)) <|
  zq_cons (zq_s_ic_ge (off := 63) (by decide +kernel) (by decide)) <|
  zq_cons (zq_s_aload_n (n := 0) (by decide +kernel) rfl) <|
  zq_cons (zq_s_getf (index := 182) (by decide +kernel) zf_X9_182) <|
  zq_cons (zq_s_iload (by decide +kernel)) <|
  zq_cons (⟨zi_X9_isIn, rfl, zq_s_callS (n := 2) (index := 175) (by decide +kernel) zw_1107 zw_1108 zw_91 zw_1109 (by decide +kernel) (by decide +kernel) ⟨rfl, rfl⟩⟩) <|
  zq_cons (zq_s_if_ne (off := 51) (by decide +kernel) (by decide)) <|
  zq_cons (zq_s_aload_n (n := 0) (by decide +kernel) rfl) <|
  zq_cons (zq_s_iload_n (n := 2) (by decide +kernel) rfl) <|
  zq_cons (zq_s_aload_n (n := 0) (by decide +kernel) rfl) <|
  zq_cons (zq_s_getf (index := 16) (by decide +kernel) zf_X9_16) <|
  zq_cons (zq_s_iload (by decide +kernel)) <|
  zq_cons (zq_s_iald (by decide +kernel)) <|
  zq_cons (zq_s_aload_n (n := 0) (by decide +kernel) rfl) <|
  zq_cons (zq_s_getf (index := 19) (by decide +kernel) zf_X9_19) <|
  zq_cons (zq_s_iload (by decide +kernel)) <|
  zq_cons (zq_s_iald (by decide +kernel)) <|
  zq_cons (zq_s_iload (by decide +kernel)) <|
  zq_cons (List.forall_mem_cons.mpr ⟨⟨zi_X9_nears, rfl, zq_s_callV (n := 4) (index := 185) (by decide +kernel) rfl zw_1114 zw_1116 zw_41 zw_91 zw_1117 (by decide +kernel) (by decide +kernel) ⟨rfl, rfl⟩⟩, fun _ h => absurd h List.not_mem_nil⟩) <|
  zq_cons (zq_s_aload_n (n := 0) (by decide +kernel) rfl) <|
  zq_cons (zq_s_iload_n (n := 2) (by decide +kernel) rfl) <|
  zq_cons (zq_s_aload_n (n := 0) (by decide +kernel) rfl) <|
  zq_cons (zq_s_getf (index := 19) (by decide +kernel) zf_X9_19) <|
  zq_cons (zq_s_iload (by decide +kernel)) <|
  zq_cons (zq_s_iald (by decide +kernel)) <|
  zq_cons (zq_s_aload_n (n := 0) (by decide +kernel) rfl) <|
  zq_cons (zq_s_getf (index := 16) (by decide +kernel) zf_X9_16) <|
  zq_cons (zq_s_iload (by decide +kernel)) <|
  zq_cons (zq_s_iald (by decide +kernel)) <|
  zq_cons (zq_s_iload (by decide +kernel)) <|
  zq_cons (List.forall_mem_cons.mpr ⟨⟨zi_X9_nears, rfl, zq_s_callV (n := 4) (index := 185) (by decide +kernel) rfl zw_1114 zw_1116 zw_41 zw_91 zw_1117 (by decide +kernel) (by decide +kernel) ⟨rfl, rfl⟩⟩, fun _ h => absurd h List.not_mem_nil⟩) <|
  zq_cons (zq_s_iinc (n := 1) (by decide +kernel) (by decide +kernel) (by decide +kernel)) <|
  zq_cons (zq_s_goto (off := (-64)) (by decide +kernel) (by decide)) <|
  zq_cons (zq_s_iinc (n := 1) (by decide +kernel) (by decide +kernel) (by decide +kernel)) <|
  zq_cons (zq_s_goto (off := (-82)) (by decide +kernel) (by decide)) <|
  zq_cons (zq_s_iinc (n := 1) (by decide +kernel) (by decide +kernel) (by decide +kernel)) <|
  zq_cons (zq_s_goto (off := (-97)) (by decide +kernel) (by decide)) <|
  zq_cons (⟨rfl, (by decide +kernel)⟩) <|
  zq_nil
def zc_X9_measures : List (Nat × zq_It) := zc_X9_measures_0 ++ (zc_X9_measures_1)
theorem zk_X9_measures : zq_oks zi_X9_measures zc_X9_measures := zq_app zk_X9_measures_0 (zk_X9_measures_1)
def zc_X9_isBeside : List (Nat × zq_It) := [(0, .inl (zq_al 1 0)), (1, .inl (zq_getf 4 [(8, 23)])), (4, .inl (zq_push 6 (.int 64))), (6, .inl (zq_il 7 1)), (7, .inl (zq_i2 8 (fun x y => x * y))), (8, .inl (zq_push 10 (.int 8))), (10, .inl (zq_il 11 2)), (11, .inl (zq_i2 12 (fun x y => x * y))), (12, .inl (zq_i2 13 (fun x y => x + y))), (13, .inl (zq_il 14 3)), (14, .inl (zq_i2 15 (fun x y => x + y))), (15, .inl (zq_iald 16)), (16, .inl (zq_push 17 (.int 1))), (17, .inl (zq_ic_ne 20 24)), (20, .inl (zq_push 21 (.int 1))), (21, .inl (zq_goto 25)), (24, .inl (zq_push 25 (.int 0))), (25, .inr (.inr 2))]
theorem zk_X9_isBeside : zq_oks zi_X9_isBeside zc_X9_isBeside := zq_cons (zq_s_aload_n (n := 0) (by decide +kernel) rfl) <|
  zq_cons (zq_s_getf (index := 52) (by decide +kernel) zf_X9_52) <|
  zq_cons (zq_s_bipush (n := 64) (by decide +kernel) (by decide +kernel)) <|
  zq_cons (zq_s_iload_n (n := 1) (by decide +kernel) rfl) <|
  zq_cons (zq_s_imul (by decide +kernel)) <|
  zq_cons (zq_s_bipush (n := 8) (by decide +kernel) (by decide +kernel)) <|
  zq_cons (zq_s_iload_n (n := 2) (by decide +kernel) rfl) <|
  zq_cons (zq_s_imul (by decide +kernel)) <|
  zq_cons (zq_s_iadd (by decide +kernel)) <|
  zq_cons (zq_s_iload_n (n := 3) (by decide +kernel) rfl) <|
  zq_cons (zq_s_iadd (by decide +kernel)) <|
  zq_cons (zq_s_iald (by decide +kernel)) <|
  zq_cons (zq_s_iconst (n := 1) (by decide +kernel) (by decide +kernel)) <|
  zq_cons (zq_s_ic_ne (off := 7) (by decide +kernel) (by decide)) <|
  zq_cons (zq_s_iconst (n := 1) (by decide +kernel) (by decide +kernel)) <|
  zq_cons (zq_s_goto (off := 4) (by decide +kernel) (by decide)) <|
  zq_cons (zq_s_iconst (n := 0) (by decide +kernel) (by decide +kernel)) <|
  zq_cons (⟨rfl, (by decide +kernel)⟩) <|
  zq_nil
