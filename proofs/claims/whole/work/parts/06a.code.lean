def zc_X0_fits : List (Nat × zq_It) := [(0, .inl (zq_al 1 0)), (1, .inl (zq_il 2 1)), (2, .inr (.inl (2, .inr [(0, zn_X6_isFigure)]))), (5, .inl (zq_if_eq 8 33)), (8, .inl (zq_il 9 2)), (9, .inl (zq_if_eq 12 29)), (12, .inl (zq_al 13 0)), (13, .inl (zq_getf 16 [(0, 0)])), (16, .inl (zq_il 17 1)), (17, .inl (zq_iald 18)), (18, .inl (zq_al 19 0)), (19, .inl (zq_getf 22 [(0, 0)])), (22, .inl (zq_il 23 1)), (23, .inl (zq_push 24 (.int 1))), (24, .inl (zq_i2 25 (fun x y => x - y))), (25, .inl (zq_iald 26)), (26, .inl (zq_ic_eq 29 33)), (29, .inl (zq_push 30 (.int 1))), (30, .inl (zq_goto 34)), (33, .inl (zq_push 34 (.int 0))), (34, .inr (.inr 2))]
theorem zk_X0_fits : zq_oks zi_X0_fits zc_X0_fits := zq_cons (zq_s_aload_n (n := 0) (by decide +kernel) rfl) <|
  zq_cons (zq_s_iload_n (n := 1) (by decide +kernel) rfl) <|
  zq_cons (List.forall_mem_cons.mpr ⟨⟨zi_X6_isFigure, rfl, zq_s_callU (owner := "DollsAhead$Text") (x := ⟨"DollsAhead$Doors", "isFigure", "(I)Z"⟩) (n := 1) (index := 21) (by decide +kernel) rfl zw_413 zw_414 zw_416 zw_417 zw_81 zw_418 (Or.inl rfl) (by decide +kernel) (by decide +kernel) ⟨rfl, rfl⟩⟩, fun _ h => absurd h List.not_mem_nil⟩) <|
  zq_cons (zq_s_if_eq (off := 28) (by decide +kernel) (by decide)) <|
  zq_cons (zq_s_iload_n (n := 2) (by decide +kernel) rfl) <|
  zq_cons (zq_s_if_eq (off := 20) (by decide +kernel) (by decide)) <|
  zq_cons (zq_s_aload_n (n := 0) (by decide +kernel) rfl) <|
  zq_cons (zq_s_getf (index := 25) (by decide +kernel) zf_X0_25) <|
  zq_cons (zq_s_iload_n (n := 1) (by decide +kernel) rfl) <|
  zq_cons (zq_s_iald (by decide +kernel)) <|
  zq_cons (zq_s_aload_n (n := 0) (by decide +kernel) rfl) <|
  zq_cons (zq_s_getf (index := 25) (by decide +kernel) zf_X0_25) <|
  zq_cons (zq_s_iload_n (n := 1) (by decide +kernel) rfl) <|
  zq_cons (zq_s_iconst (n := 1) (by decide +kernel) (by decide +kernel)) <|
  zq_cons (zq_s_isub (by decide +kernel)) <|
  zq_cons (zq_s_iald (by decide +kernel)) <|
  zq_cons (zq_s_ic_eq (off := 7) (by decide +kernel) (by decide)) <|
  zq_cons (zq_s_iconst (n := 1) (by decide +kernel) (by decide +kernel)) <|
  zq_cons (zq_s_goto (off := 4) (by decide +kernel) (by decide)) <|
  zq_cons (zq_s_iconst (n := 0) (by decide +kernel) (by decide +kernel)) <|
  zq_cons (⟨rfl, (by decide +kernel)⟩) <|
  zq_nil
def zc_X0_readThings : List (Nat × zq_It) := [(0, .inl (zq_push 1 (.int 0))), (1, .inl (zq_is 2 1)), (2, .inl (zq_il 3 1)), (3, .inl (zq_al 4 0)), (4, .inl (zq_getf 7 [(0, 5)])), (7, .inl (zq_ic_ge 10 44)), (10, .inl (zq_al 11 0)), (11, .inl (zq_getf 14 [(0, 6)])), (14, .inl (zq_il 15 1)), (15, .inl (zq_al 16 0)), (16, .inl (zq_il 17 1)), (17, .inl (zq_push 18 (.int 3))), (18, .inl (zq_i2 19 (fun x y => x * y))), (19, .inr (.inl (2, .inr [(0, zn_X6_figure)]))), (22, .inl (zq_iast 23)), (23, .inl (zq_al 24 0)), (24, .inl (zq_getf 27 [(0, 7)])), (27, .inl (zq_il 28 1)), (28, .inl (zq_al 29 0)), (29, .inl (zq_il 30 1)), (30, .inl (zq_push 31 (.int 3))), (31, .inl (zq_i2 32 (fun x y => x * y))), (32, .inl (zq_push 33 (.int 1))), (33, .inl (zq_i2 34 (fun x y => x + y))), (34, .inr (.inl (2, .inr [(0, zn_X6_figure)]))), (37, .inl (zq_iast 38)), (38, .inl (zq_inc 41 1 1)), (41, .inl (zq_goto 2)), (44, .inr (.inr 0))]
theorem zk_X0_readThings : zq_oks zi_X0_readThings zc_X0_readThings := zq_cons (zq_s_iconst (n := 0) (by decide +kernel) (by decide +kernel)) <|
  zq_cons (zq_s_istore_n (n := 1) (by decide +kernel) rfl (by decide +kernel)) <|
  zq_cons (zq_s_iload_n (n := 1) (by decide +kernel) rfl) <|
  zq_cons (zq_s_aload_n (n := 0) (by decide +kernel) rfl) <|
  zq_cons (zq_s_getf (index := 28) (by decide +kernel) zf_X0_28) <|
  zq_cons (zq_s_ic_ge (off := 37) (by decide +kernel) (by decide)) <|
  zq_cons (zq_s_aload_n (n := 0) (by decide +kernel) rfl) <|
  zq_cons (zq_s_getf (index := 11) (by decide +kernel) zf_X0_11) <|
  zq_cons (zq_s_iload_n (n := 1) (by decide +kernel) rfl) <|
  zq_cons (zq_s_aload_n (n := 0) (by decide +kernel) rfl) <|
  zq_cons (zq_s_iload_n (n := 1) (by decide +kernel) rfl) <|
  zq_cons (zq_s_iconst (n := 3) (by decide +kernel) (by decide +kernel)) <|
  zq_cons (zq_s_imul (by decide +kernel)) <|
  zq_cons (List.forall_mem_cons.mpr ⟨⟨zi_X6_figure, rfl, zq_s_callU (owner := "DollsAhead$Text") (x := ⟨"DollsAhead$Doors", "figure", "(I)I"⟩) (n := 1) (index := 32) (by decide +kernel) rfl zw_435 zw_436 zw_438 zw_439 zw_81 zw_440 (Or.inl rfl) (by decide +kernel) (by decide +kernel) ⟨rfl, rfl⟩⟩, fun _ h => absurd h List.not_mem_nil⟩) <|
  zq_cons (zq_s_iast (by decide +kernel)) <|
  zq_cons (zq_s_aload_n (n := 0) (by decide +kernel) rfl) <|
  zq_cons (zq_s_getf (index := 15) (by decide +kernel) zf_X0_15) <|
  zq_cons (zq_s_iload_n (n := 1) (by decide +kernel) rfl) <|
  zq_cons (zq_s_aload_n (n := 0) (by decide +kernel) rfl) <|
  zq_cons (zq_s_iload_n (n := 1) (by decide +kernel) rfl) <|
  zq_cons (zq_s_iconst (n := 3) (by decide +kernel) (by decide +kernel)) <|
  zq_cons (zq_s_imul (by decide +kernel)) <|
  zq_cons (zq_s_iconst (n := 1) (by decide +kernel) (by decide +kernel)) <|
  zq_cons (zq_s_iadd (by decide +kernel)) <|
  zq_cons (List.forall_mem_cons.mpr ⟨⟨zi_X6_figure, rfl, zq_s_callU (owner := "DollsAhead$Text") (x := ⟨"DollsAhead$Doors", "figure", "(I)I"⟩) (n := 1) (index := 32) (by decide +kernel) rfl zw_435 zw_436 zw_438 zw_439 zw_81 zw_440 (Or.inl rfl) (by decide +kernel) (by decide +kernel) ⟨rfl, rfl⟩⟩, fun _ h => absurd h List.not_mem_nil⟩) <|
  zq_cons (zq_s_iast (by decide +kernel)) <|
  zq_cons (zq_s_iinc (n := 1) (by decide +kernel) (by decide +kernel) (by decide +kernel)) <|
  zq_cons (zq_s_goto (off := (-39)) (by decide +kernel) (by decide)) <|
  zq_cons (⟨rfl, (by decide +kernel)⟩) <|
  zq_nil
def zc_X0_openAllBut_0 : List (Nat × zq_It) := [(0, .inl (zq_push 1 (.int 0))), (1, .inl (zq_is 2 2)), (2, .inl (zq_il 3 2)), (3, .inl (zq_push 5 (.int 8))), (5, .inl (zq_ic_ge 8 21)), (8, .inl (zq_al 9 0)), (9, .inl (zq_getf 12 [(0, 8)])), (12, .inl (zq_il 13 2)), (13, .inl (zq_push 14 (.int 0))), (14, .inl (zq_iast 15)), (15, .inl (zq_inc 18 2 1)), (18, .inl (zq_goto 2)), (21, .inl (zq_push 22 (.int 0))), (22, .inl (zq_is 23 2)), (23, .inl (zq_il 24 2)), (24, .inl (zq_al 25 0)), (25, .inl (zq_getf 28 [(0, 5)])), (28, .inl (zq_ic_ge 31 89)), (31, .inl (zq_il 32 1)), (32, .inl (zq_il 33 2)), (33, .inl (zq_i2 34 (fun x y => x >>> (y &&& 31)))), (34, .inl (zq_push 35 (.int 1))), (35, .inl (zq_i2 36 (fun x y => x &&& y))), (36, .inl (zq_if_ne 39 83)), (39, .inl (zq_al 40 0)), (40, .inl (zq_getf 43 [(0, 8)])), (43, .inl (zq_al 44 0)), (44, .inl (zq_getf 47 [(0, 6)])), (47, .inl (zq_il 48 2)), (48, .inl (zq_iald 49)), (49, .inl (zq_dup2 50)), (50, .inl (zq_iald 51)), (51, .inl (zq_push 52 (.int 1))), (52, .inl (zq_al 53 0)), (53, .inl (zq_getf 56 [(0, 7)])), (56, .inl (zq_il 57 2)), (57, .inl (zq_iald 58)), (58, .inl (zq_i2 59 (fun x y => x <<< (y &&& 31)))), (59, .inl (zq_i2 60 (fun x y => x ||| y))), (60, .inl (zq_iast 61))]
theorem zk_X0_openAllBut_0 : zq_oks zi_X0_openAllBut zc_X0_openAllBut_0 := zq_cons (zq_s_iconst (n := 0) (by decide +kernel) (by decide +kernel)) <|
  zq_cons (zq_s_istore_n (n := 2) (by decide +kernel) rfl (by decide +kernel)) <|
  zq_cons (zq_s_iload_n (n := 2) (by decide +kernel) rfl) <|
  zq_cons (zq_s_bipush (n := 8) (by decide +kernel) (by decide +kernel)) <|
  zq_cons (zq_s_ic_ge (off := 16) (by decide +kernel) (by decide)) <|
  zq_cons (zq_s_aload_n (n := 0) (by decide +kernel) rfl) <|
  zq_cons (zq_s_getf (index := 18) (by decide +kernel) zf_X0_18) <|
  zq_cons (zq_s_iload_n (n := 2) (by decide +kernel) rfl) <|
  zq_cons (zq_s_iconst (n := 0) (by decide +kernel) (by decide +kernel)) <|
  zq_cons (zq_s_iast (by decide +kernel)) <|
  zq_cons (zq_s_iinc (n := 1) (by decide +kernel) (by decide +kernel) (by decide +kernel)) <|
  zq_cons (zq_s_goto (off := (-16)) (by decide +kernel) (by decide)) <|
  zq_cons (zq_s_iconst (n := 0) (by decide +kernel) (by decide +kernel)) <|
  zq_cons (zq_s_istore_n (n := 2) (by decide +kernel) rfl (by decide +kernel)) <|
  zq_cons (zq_s_iload_n (n := 2) (by decide +kernel) rfl) <|
  zq_cons (zq_s_aload_n (n := 0) (by decide +kernel) rfl) <|
  zq_cons (zq_s_getf (index := 28) (by decide +kernel) zf_X0_28) <|
  zq_cons (zq_s_ic_ge (off := 61) (by decide +kernel) (by decide)) <|
  zq_cons (zq_s_iload_n (n := 1) (by decide +kernel) rfl) <|
  zq_cons (zq_s_iload_n (n := 2) (by decide +kernel) rfl) <|
  zq_cons (zq_s_ishr (by decide +kernel)) <|
  zq_cons (zq_s_iconst (n := 1) (by decide +kernel) (by decide +kernel)) <|
  zq_cons (zq_s_iand (by decide +kernel)) <|
  zq_cons (zq_s_if_ne (off := 47) (by decide +kernel) (by decide)) <|
  zq_cons (zq_s_aload_n (n := 0) (by decide +kernel) rfl) <|
  zq_cons (zq_s_getf (index := 18) (by decide +kernel) zf_X0_18) <|
  zq_cons (zq_s_aload_n (n := 0) (by decide +kernel) rfl) <|
  zq_cons (zq_s_getf (index := 11) (by decide +kernel) zf_X0_11) <|
  zq_cons (zq_s_iload_n (n := 2) (by decide +kernel) rfl) <|
  zq_cons (zq_s_iald (by decide +kernel)) <|
  zq_cons (zq_s_dup2 (by decide +kernel)) <|
  zq_cons (zq_s_iald (by decide +kernel)) <|
  zq_cons (zq_s_iconst (n := 1) (by decide +kernel) (by decide +kernel)) <|
  zq_cons (zq_s_aload_n (n := 0) (by decide +kernel) rfl) <|
  zq_cons (zq_s_getf (index := 15) (by decide +kernel) zf_X0_15) <|
  zq_cons (zq_s_iload_n (n := 2) (by decide +kernel) rfl) <|
  zq_cons (zq_s_iald (by decide +kernel)) <|
  zq_cons (zq_s_ishl (by decide +kernel)) <|
  zq_cons (zq_s_ior (by decide +kernel)) <|
  zq_cons (zq_s_iast (by decide +kernel)) <|
  zq_nil
def zc_X0_openAllBut_1 : List (Nat × zq_It) := [(61, .inl (zq_al 62 0)), (62, .inl (zq_getf 65 [(0, 8)])), (65, .inl (zq_al 66 0)), (66, .inl (zq_getf 69 [(0, 7)])), (69, .inl (zq_il 70 2)), (70, .inl (zq_iald 71)), (71, .inl (zq_dup2 72)), (72, .inl (zq_iald 73)), (73, .inl (zq_push 74 (.int 1))), (74, .inl (zq_al 75 0)), (75, .inl (zq_getf 78 [(0, 6)])), (78, .inl (zq_il 79 2)), (79, .inl (zq_iald 80)), (80, .inl (zq_i2 81 (fun x y => x <<< (y &&& 31)))), (81, .inl (zq_i2 82 (fun x y => x ||| y))), (82, .inl (zq_iast 83)), (83, .inl (zq_inc 86 2 1)), (86, .inl (zq_goto 23)), (89, .inr (.inr 0))]
theorem zk_X0_openAllBut_1 : zq_oks zi_X0_openAllBut zc_X0_openAllBut_1 := zq_cons (zq_s_aload_n (n := 0) (by decide +kernel) rfl) <|
  zq_cons (zq_s_getf (index := 18) (by decide +kernel) zf_X0_18) <|
  zq_cons (zq_s_aload_n (n := 0) (by decide +kernel) rfl) <|
  zq_cons (zq_s_getf (index := 15) (by decide +kernel) zf_X0_15) <|
  zq_cons (zq_s_iload_n (n := 2) (by decide +kernel) rfl) <|
  zq_cons (zq_s_iald (by decide +kernel)) <|
  zq_cons (zq_s_dup2 (by decide +kernel)) <|
  zq_cons (zq_s_iald (by decide +kernel)) <|
  zq_cons (zq_s_iconst (n := 1) (by decide +kernel) (by decide +kernel)) <|
  zq_cons (zq_s_aload_n (n := 0) (by decide +kernel) rfl) <|
  zq_cons (zq_s_getf (index := 11) (by decide +kernel) zf_X0_11) <|
  zq_cons (zq_s_iload_n (n := 2) (by decide +kernel) rfl) <|
  zq_cons (zq_s_iald (by decide +kernel)) <|
  zq_cons (zq_s_ishl (by decide +kernel)) <|
  zq_cons (zq_s_ior (by decide +kernel)) <|
  zq_cons (zq_s_iast (by decide +kernel)) <|
  zq_cons (zq_s_iinc (n := 1) (by decide +kernel) (by decide +kernel) (by decide +kernel)) <|
  zq_cons (zq_s_goto (off := (-63)) (by decide +kernel) (by decide)) <|
  zq_cons (⟨rfl, (by decide +kernel)⟩) <|
  zq_nil
def zc_X0_openAllBut : List (Nat × zq_It) := zc_X0_openAllBut_0 ++ (zc_X0_openAllBut_1)
theorem zk_X0_openAllBut : zq_oks zi_X0_openAllBut zc_X0_openAllBut := zq_app zk_X0_openAllBut_0 (zk_X0_openAllBut_1)
def zc_X0_fillStepsTo_0 : List (Nat × zq_It) := [(0, .inl (zq_push 1 (.int 0))), (1, .inl (zq_is 3 4)), (3, .inl (zq_il 5 4)), (5, .inl (zq_push 7 (.int 8))), (7, .inl (zq_ic_ge 10 29)), (10, .inl (zq_al 11 2)), (11, .inl (zq_il 12 3)), (12, .inl (zq_il 14 4)), (14, .inl (zq_push 16 (.int 8))), (16, .inl (zq_i2 17 (fun x y => x * y))), (17, .inl (zq_i2 18 (fun x y => x + y))), (18, .inl (zq_il 19 1)), (19, .inl (zq_i2 20 (fun x y => x + y))), (20, .inl (zq_il 22 4)), (22, .inl (zq_iast 23)), (23, .inl (zq_inc 26 4 1)), (26, .inl (zq_goto 3)), (29, .inl (zq_push 30 (.int 1))), (30, .inl (zq_il 31 1)), (31, .inl (zq_i2 32 (fun x y => x <<< (y &&& 31)))), (32, .inl (zq_is 34 4)), (34, .inl (zq_il 36 4)), (36, .inl (zq_is 38 5)), (38, .inl (zq_push 39 (.int 1))), (39, .inl (zq_is 41 6)), (41, .inl (zq_il 43 6)), (43, .inl (zq_push 45 (.int 8))), (45, .inl (zq_ic_ge 48 171)), (48, .inl (zq_il 50 5)), (50, .inl (zq_if_eq 53 171)), (53, .inl (zq_push 54 (.int 0))), (54, .inl (zq_is 56 7)), (56, .inl (zq_push 57 (.int 0))), (57, .inl (zq_is 59 8)), (59, .inl (zq_il 61 8)), (61, .inl (zq_push 63 (.int 8))), (63, .inl (zq_ic_ge 66 154)), (66, .inl (zq_il 68 5)), (68, .inl (zq_il 70 8)), (70, .inl (zq_i2 71 (fun x y => x >>> (y &&& 31))))]
theorem zk_X0_fillStepsTo_0 : zq_oks zi_X0_fillStepsTo zc_X0_fillStepsTo_0 := zq_cons (zq_s_iconst (n := 0) (by decide +kernel) (by decide +kernel)) <|
  zq_cons (zq_s_istore (by decide +kernel) (by decide +kernel)) <|
  zq_cons (zq_s_iload (by decide +kernel)) <|
  zq_cons (zq_s_bipush (n := 8) (by decide +kernel) (by decide +kernel)) <|
  zq_cons (zq_s_ic_ge (off := 22) (by decide +kernel) (by decide)) <|
  zq_cons (zq_s_aload_n (n := 2) (by decide +kernel) rfl) <|
  zq_cons (zq_s_iload_n (n := 3) (by decide +kernel) rfl) <|
  zq_cons (zq_s_iload (by decide +kernel)) <|
  zq_cons (zq_s_bipush (n := 8) (by decide +kernel) (by decide +kernel)) <|
  zq_cons (zq_s_imul (by decide +kernel)) <|
  zq_cons (zq_s_iadd (by decide +kernel)) <|
  zq_cons (zq_s_iload_n (n := 1) (by decide +kernel) rfl) <|
  zq_cons (zq_s_iadd (by decide +kernel)) <|
  zq_cons (zq_s_iload (by decide +kernel)) <|
  zq_cons (zq_s_iast (by decide +kernel)) <|
  zq_cons (zq_s_iinc (n := 1) (by decide +kernel) (by decide +kernel) (by decide +kernel)) <|
  zq_cons (zq_s_goto (off := (-23)) (by decide +kernel) (by decide)) <|
  zq_cons (zq_s_iconst (n := 1) (by decide +kernel) (by decide +kernel)) <|
  zq_cons (zq_s_iload_n (n := 1) (by decide +kernel) rfl) <|
  zq_cons (zq_s_ishl (by decide +kernel)) <|
  zq_cons (zq_s_istore (by decide +kernel) (by decide +kernel)) <|
  zq_cons (zq_s_iload (by decide +kernel)) <|
  zq_cons (zq_s_istore (by decide +kernel) (by decide +kernel)) <|
  zq_cons (zq_s_iconst (n := 1) (by decide +kernel) (by decide +kernel)) <|
  zq_cons (zq_s_istore (by decide +kernel) (by decide +kernel)) <|
  zq_cons (zq_s_iload (by decide +kernel)) <|
  zq_cons (zq_s_bipush (n := 8) (by decide +kernel) (by decide +kernel)) <|
  zq_cons (zq_s_ic_ge (off := 126) (by decide +kernel) (by decide)) <|
  zq_cons (zq_s_iload (by decide +kernel)) <|
  zq_cons (zq_s_if_eq (off := 121) (by decide +kernel) (by decide)) <|
  zq_cons (zq_s_iconst (n := 0) (by decide +kernel) (by decide +kernel)) <|
  zq_cons (zq_s_istore (by decide +kernel) (by decide +kernel)) <|
  zq_cons (zq_s_iconst (n := 0) (by decide +kernel) (by decide +kernel)) <|
  zq_cons (zq_s_istore (by decide +kernel) (by decide +kernel)) <|
  zq_cons (zq_s_iload (by decide +kernel)) <|
  zq_cons (zq_s_bipush (n := 8) (by decide +kernel) (by decide +kernel)) <|
  zq_cons (zq_s_ic_ge (off := 91) (by decide +kernel) (by decide)) <|
  zq_cons (zq_s_iload (by decide +kernel)) <|
  zq_cons (zq_s_iload (by decide +kernel)) <|
  zq_cons (zq_s_ishr (by decide +kernel)) <|
  zq_nil
def zc_X0_fillStepsTo_1 : List (Nat × zq_It) := [(71, .inl (zq_push 72 (.int 1))), (72, .inl (zq_i2 73 (fun x y => x &&& y))), (73, .inl (zq_if_ne 76 80)), (76, .inl (zq_push 77 (.int 0))), (77, .inl (zq_goto 95)), (80, .inl (zq_al 81 0)), (81, .inl (zq_getf 84 [(0, 8)])), (84, .inl (zq_il 86 8)), (86, .inl (zq_iald 87)), (87, .inl (zq_il 89 4)), (89, .inl (zq_il 91 7)), (91, .inl (zq_i2 92 (fun x y => x ||| y))), (92, .inl (zq_push 93 (.int (-1)))), (93, .inl (zq_i2 94 (fun x y => x ^^^ y))), (94, .inl (zq_i2 95 (fun x y => x &&& y))), (95, .inl (zq_is 97 9)), (97, .inl (zq_il 99 7)), (99, .inl (zq_il 101 9)), (101, .inl (zq_i2 102 (fun x y => x ||| y))), (102, .inl (zq_is 104 7)), (104, .inl (zq_push 105 (.int 0))), (105, .inl (zq_is 107 10)), (107, .inl (zq_il 109 10)), (109, .inl (zq_push 111 (.int 8))), (111, .inl (zq_ic_ge 114 148)), (114, .inl (zq_il 116 9)), (116, .inl (zq_if_eq 119 148)), (119, .inl (zq_il 121 9)), (121, .inl (zq_il 123 10)), (123, .inl (zq_i2 124 (fun x y => x >>> (y &&& 31)))), (124, .inl (zq_push 125 (.int 1))), (125, .inl (zq_i2 126 (fun x y => x &&& y))), (126, .inl (zq_if_eq 129 142)), (129, .inl (zq_al 130 2)), (130, .inl (zq_il 131 3)), (131, .inl (zq_il 133 10)), (133, .inl (zq_push 135 (.int 8))), (135, .inl (zq_i2 136 (fun x y => x * y))), (136, .inl (zq_i2 137 (fun x y => x + y))), (137, .inl (zq_il 138 1))]
theorem zk_X0_fillStepsTo_1 : zq_oks zi_X0_fillStepsTo zc_X0_fillStepsTo_1 := zq_cons (zq_s_iconst (n := 1) (by decide +kernel) (by decide +kernel)) <|
  zq_cons (zq_s_iand (by decide +kernel)) <|
  zq_cons (zq_s_if_ne (off := 7) (by decide +kernel) (by decide)) <|
  zq_cons (zq_s_iconst (n := 0) (by decide +kernel) (by decide +kernel)) <|
  zq_cons (zq_s_goto (off := 18) (by decide +kernel) (by decide)) <|
  zq_cons (zq_s_aload_n (n := 0) (by decide +kernel) rfl) <|
  zq_cons (zq_s_getf (index := 18) (by decide +kernel) zf_X0_18) <|
  zq_cons (zq_s_iload (by decide +kernel)) <|
  zq_cons (zq_s_iald (by decide +kernel)) <|
  zq_cons (zq_s_iload (by decide +kernel)) <|
  zq_cons (zq_s_iload (by decide +kernel)) <|
  zq_cons (zq_s_ior (by decide +kernel)) <|
  zq_cons (zq_s_iconst (n := (-1)) (by decide +kernel) (by decide +kernel)) <|
  zq_cons (zq_s_ixor (by decide +kernel)) <|
  zq_cons (zq_s_iand (by decide +kernel)) <|
  zq_cons (zq_s_istore (by decide +kernel) (by decide +kernel)) <|
  zq_cons (zq_s_iload (by decide +kernel)) <|
  zq_cons (zq_s_iload (by decide +kernel)) <|
  zq_cons (zq_s_ior (by decide +kernel)) <|
  zq_cons (zq_s_istore (by decide +kernel) (by decide +kernel)) <|
  zq_cons (zq_s_iconst (n := 0) (by decide +kernel) (by decide +kernel)) <|
  zq_cons (zq_s_istore (by decide +kernel) (by decide +kernel)) <|
  zq_cons (zq_s_iload (by decide +kernel)) <|
  zq_cons (zq_s_bipush (n := 8) (by decide +kernel) (by decide +kernel)) <|
  zq_cons (zq_s_ic_ge (off := 37) (by decide +kernel) (by decide)) <|
  zq_cons (zq_s_iload (by decide +kernel)) <|
  zq_cons (zq_s_if_eq (off := 32) (by decide +kernel) (by decide)) <|
  zq_cons (zq_s_iload (by decide +kernel)) <|
  zq_cons (zq_s_iload (by decide +kernel)) <|
  zq_cons (zq_s_ishr (by decide +kernel)) <|
  zq_cons (zq_s_iconst (n := 1) (by decide +kernel) (by decide +kernel)) <|
  zq_cons (zq_s_iand (by decide +kernel)) <|
  zq_cons (zq_s_if_eq (off := 16) (by decide +kernel) (by decide)) <|
  zq_cons (zq_s_aload_n (n := 2) (by decide +kernel) rfl) <|
  zq_cons (zq_s_iload_n (n := 3) (by decide +kernel) rfl) <|
  zq_cons (zq_s_iload (by decide +kernel)) <|
  zq_cons (zq_s_bipush (n := 8) (by decide +kernel) (by decide +kernel)) <|
  zq_cons (zq_s_imul (by decide +kernel)) <|
  zq_cons (zq_s_iadd (by decide +kernel)) <|
  zq_cons (zq_s_iload_n (n := 1) (by decide +kernel) rfl) <|
  zq_nil
def zc_X0_fillStepsTo_2 : List (Nat × zq_It) := [(138, .inl (zq_i2 139 (fun x y => x + y))), (139, .inl (zq_il 141 8)), (141, .inl (zq_iast 142)), (142, .inl (zq_inc 145 10 1)), (145, .inl (zq_goto 107)), (148, .inl (zq_inc 151 8 1)), (151, .inl (zq_goto 59)), (154, .inl (zq_il 156 4)), (156, .inl (zq_il 158 7)), (158, .inl (zq_i2 159 (fun x y => x ||| y))), (159, .inl (zq_is 161 4)), (161, .inl (zq_il 163 7)), (163, .inl (zq_is 165 5)), (165, .inl (zq_inc 168 6 1)), (168, .inl (zq_goto 41)), (171, .inr (.inr 0))]
theorem zk_X0_fillStepsTo_2 : zq_oks zi_X0_fillStepsTo zc_X0_fillStepsTo_2 := zq_cons (zq_s_iadd (by decide +kernel)) <|
  zq_cons (zq_s_iload (by decide +kernel)) <|
  zq_cons (zq_s_iast (by decide +kernel)) <|
  zq_cons (zq_s_iinc (n := 1) (by decide +kernel) (by decide +kernel) (by decide +kernel)) <|
  zq_cons (zq_s_goto (off := (-38)) (by decide +kernel) (by decide)) <|
  zq_cons (zq_s_iinc (n := 1) (by decide +kernel) (by decide +kernel) (by decide +kernel)) <|
  zq_cons (zq_s_goto (off := (-92)) (by decide +kernel) (by decide)) <|
  zq_cons (zq_s_iload (by decide +kernel)) <|
  zq_cons (zq_s_iload (by decide +kernel)) <|
  zq_cons (zq_s_ior (by decide +kernel)) <|
  zq_cons (zq_s_istore (by decide +kernel) (by decide +kernel)) <|
  zq_cons (zq_s_iload (by decide +kernel)) <|
  zq_cons (zq_s_istore (by decide +kernel) (by decide +kernel)) <|
  zq_cons (zq_s_iinc (n := 1) (by decide +kernel) (by decide +kernel) (by decide +kernel)) <|
  zq_cons (zq_s_goto (off := (-127)) (by decide +kernel) (by decide)) <|
  zq_cons (⟨rfl, (by decide +kernel)⟩) <|
  zq_nil
def zc_X0_fillStepsTo : List (Nat × zq_It) := zc_X0_fillStepsTo_0 ++ (zc_X0_fillStepsTo_1 ++ (zc_X0_fillStepsTo_2))
theorem zk_X0_fillStepsTo : zq_oks zi_X0_fillStepsTo zc_X0_fillStepsTo := zq_app zk_X0_fillStepsTo_0 (zq_app zk_X0_fillStepsTo_1 (zk_X0_fillStepsTo_2))
def zc_X1_add : List (Nat × zq_It) := [(0, .inl (zq_al 1 0)), (1, .inl (zq_getf 4 [(1, 3)])), (4, .inl (zq_if_lt 7 56)), (7, .inl (zq_al 8 0)), (8, .inl (zq_getf 11 [(1, 3)])), (11, .inl (zq_push 13 (.int 9))), (13, .inl (zq_ic_ge 16 56)), (16, .inl (zq_al 17 0)), (17, .inl (zq_getf 20 [(1, 0)])), (20, .inl (zq_al 21 0)), (21, .inl (zq_getf 24 [(1, 3)])), (24, .inl (zq_il 25 1)), (25, .inl (zq_iast 26)), (26, .inl (zq_al 27 0)), (27, .inl (zq_getf 30 [(1, 1)])), (30, .inl (zq_al 31 0)), (31, .inl (zq_getf 34 [(1, 3)])), (34, .inl (zq_il 35 2)), (35, .inl (zq_iast 36)), (36, .inl (zq_al 37 0)), (37, .inl (zq_getf 40 [(1, 2)])), (40, .inl (zq_al 41 0)), (41, .inl (zq_getf 44 [(1, 3)])), (44, .inl (zq_il 45 3)), (45, .inl (zq_iast 46)), (46, .inl (zq_al 47 0)), (47, .inl (zq_dup 48)), (48, .inl (zq_getf 51 [(1, 3)])), (51, .inl (zq_push 52 (.int 1))), (52, .inl (zq_i2 53 (fun x y => x + y))), (53, .inl (zq_puti 56 false [(1, 3)])), (56, .inr (.inr 0))]
theorem zk_X1_add : zq_oks zi_X1_add zc_X1_add := zq_cons (zq_s_aload_n (n := 0) (by decide +kernel) rfl) <|
  zq_cons (zq_s_getf (index := 21) (by decide +kernel) zf_X1_21) <|
  zq_cons (zq_s_if_lt (off := 52) (by decide +kernel) (by decide)) <|
  zq_cons (zq_s_aload_n (n := 0) (by decide +kernel) rfl) <|
  zq_cons (zq_s_getf (index := 21) (by decide +kernel) zf_X1_21) <|
  zq_cons (zq_s_bipush (n := 9) (by decide +kernel) (by decide +kernel)) <|
  zq_cons (zq_s_ic_ge (off := 43) (by decide +kernel) (by decide)) <|
  zq_cons (zq_s_aload_n (n := 0) (by decide +kernel) rfl) <|
  zq_cons (zq_s_getf (index := 11) (by decide +kernel) zf_X1_11) <|
  zq_cons (zq_s_aload_n (n := 0) (by decide +kernel) rfl) <|
  zq_cons (zq_s_getf (index := 21) (by decide +kernel) zf_X1_21) <|
  zq_cons (zq_s_iload_n (n := 1) (by decide +kernel) rfl) <|
  zq_cons (zq_s_iast (by decide +kernel)) <|
  zq_cons (zq_s_aload_n (n := 0) (by decide +kernel) rfl) <|
  zq_cons (zq_s_getf (index := 15) (by decide +kernel) zf_X1_15) <|
  zq_cons (zq_s_aload_n (n := 0) (by decide +kernel) rfl) <|
  zq_cons (zq_s_getf (index := 21) (by decide +kernel) zf_X1_21) <|
  zq_cons (zq_s_iload_n (n := 2) (by decide +kernel) rfl) <|
  zq_cons (zq_s_iast (by decide +kernel)) <|
  zq_cons (zq_s_aload_n (n := 0) (by decide +kernel) rfl) <|
  zq_cons (zq_s_getf (index := 18) (by decide +kernel) zf_X1_18) <|
  zq_cons (zq_s_aload_n (n := 0) (by decide +kernel) rfl) <|
  zq_cons (zq_s_getf (index := 21) (by decide +kernel) zf_X1_21) <|
  zq_cons (zq_s_iload_n (n := 3) (by decide +kernel) rfl) <|
  zq_cons (zq_s_iast (by decide +kernel)) <|
  zq_cons (zq_s_aload_n (n := 0) (by decide +kernel) rfl) <|
  zq_cons (zq_s_dup (by decide +kernel)) <|
  zq_cons (zq_s_getf (index := 21) (by decide +kernel) zf_X1_21) <|
  zq_cons (zq_s_iconst (n := 1) (by decide +kernel) (by decide +kernel)) <|
  zq_cons (zq_s_iadd (by decide +kernel)) <|
  zq_cons (zq_s_puti (index := 21) (by decide +kernel) zp_X1_21 (fun _ _ => ⟨rfl, rfl⟩)) <|
  zq_cons (⟨rfl, (by decide +kernel)⟩) <|
  zq_nil
def zc_X1_become : List (Nat × zq_It) := [(0, .inl (zq_al 1 0)), (1, .inl (zq_push 2 (.int 0))), (2, .inl (zq_puti 5 false [(1, 3)])), (5, .inl (zq_push 6 (.int 0))), (6, .inl (zq_is 7 2)), (7, .inl (zq_il 8 2)), (8, .inl (zq_al 9 1)), (9, .inl (zq_getf 12 [(1, 3)])), (12, .inl (zq_ic_ge 15 43)), (15, .inl (zq_al 16 0)), (16, .inl (zq_al 17 1)), (17, .inl (zq_getf 20 [(1, 0)])), (20, .inl (zq_il 21 2)), (21, .inl (zq_iald 22)), (22, .inl (zq_al 23 1)), (23, .inl (zq_getf 26 [(1, 1)])), (26, .inl (zq_il 27 2)), (27, .inl (zq_iald 28)), (28, .inl (zq_al 29 1)), (29, .inl (zq_getf 32 [(1, 2)])), (32, .inl (zq_il 33 2)), (33, .inl (zq_iald 34)), (34, .inr (.inl (4, .inr [(1, zn_X1_add)]))), (37, .inl (zq_inc 40 2 1)), (40, .inl (zq_goto 7)), (43, .inr (.inr 0))]
theorem zk_X1_become : zq_oks zi_X1_become zc_X1_become := zq_cons (zq_s_aload_n (n := 0) (by decide +kernel) rfl) <|
  zq_cons (zq_s_iconst (n := 0) (by decide +kernel) (by decide +kernel)) <|
  zq_cons (zq_s_puti (index := 21) (by decide +kernel) zp_X1_21 (fun _ _ => ⟨rfl, rfl⟩)) <|
  zq_cons (zq_s_iconst (n := 0) (by decide +kernel) (by decide +kernel)) <|
  zq_cons (zq_s_istore_n (n := 2) (by decide +kernel) rfl (by decide +kernel)) <|
  zq_cons (zq_s_iload_n (n := 2) (by decide +kernel) rfl) <|
  zq_cons (zq_s_aload_n (n := 1) (by decide +kernel) rfl) <|
  zq_cons (zq_s_getf (index := 21) (by decide +kernel) zf_X1_21) <|
  zq_cons (zq_s_ic_ge (off := 31) (by decide +kernel) (by decide)) <|
  zq_cons (zq_s_aload_n (n := 0) (by decide +kernel) rfl) <|
  zq_cons (zq_s_aload_n (n := 1) (by decide +kernel) rfl) <|
  zq_cons (zq_s_getf (index := 11) (by decide +kernel) zf_X1_11) <|
  zq_cons (zq_s_iload_n (n := 2) (by decide +kernel) rfl) <|
  zq_cons (zq_s_iald (by decide +kernel)) <|
  zq_cons (zq_s_aload_n (n := 1) (by decide +kernel) rfl) <|
  zq_cons (zq_s_getf (index := 15) (by decide +kernel) zf_X1_15) <|
  zq_cons (zq_s_iload_n (n := 2) (by decide +kernel) rfl) <|
  zq_cons (zq_s_iald (by decide +kernel)) <|
  zq_cons (zq_s_aload_n (n := 1) (by decide +kernel) rfl) <|
  zq_cons (zq_s_getf (index := 18) (by decide +kernel) zf_X1_18) <|
  zq_cons (zq_s_iload_n (n := 2) (by decide +kernel) rfl) <|
  zq_cons (zq_s_iald (by decide +kernel)) <|
  zq_cons (List.forall_mem_cons.mpr ⟨⟨zi_X1_add, rfl, zq_s_callV (n := 3) (index := 25) (by decide +kernel) rfl zw_671 zw_504 zw_505 zw_85 zw_506 (by decide +kernel) (by decide +kernel) ⟨rfl, rfl⟩⟩, fun _ h => absurd h List.not_mem_nil⟩) <|
  zq_cons (zq_s_iinc (n := 1) (by decide +kernel) (by decide +kernel) (by decide +kernel)) <|
  zq_cons (zq_s_goto (off := (-33)) (by decide +kernel) (by decide)) <|
  zq_cons (⟨rfl, (by decide +kernel)⟩) <|
  zq_nil
def zc_X2_draw : List (Nat × zq_It) := [(0, .inl (zq_al 1 0)), (1, .inl (zq_push 3 (.int 1103515245))), (3, .inl (zq_al 4 0)), (4, .inl (zq_getf 7 [(2, 0)])), (7, .inl (zq_i2 8 (fun x y => x * y))), (8, .inl (zq_push 11 (.int 12345))), (11, .inl (zq_i2 12 (fun x y => x + y))), (12, .inl (zq_puti 15 false [(2, 0)])), (15, .inl (zq_il 16 1)), (16, .inl (zq_push 17 (.int 1))), (17, .inl (zq_ic_ge 20 24)), (20, .inl (zq_push 21 (.int 0))), (21, .inl (zq_goto 33)), (24, .inl (zq_al 25 0)), (25, .inl (zq_getf 28 [(2, 0)])), (28, .inl (zq_push 30 (.int 16))), (30, .inl (zq_i2 31 zq_ush)), (31, .inl (zq_il 32 1)), (32, .inl (zq_i2c 33 (fun x y => x - x / y * y))), (33, .inr (.inr 1))]
theorem zk_X2_draw : zq_oks zi_X2_draw zc_X2_draw := zq_cons (zq_s_aload_n (n := 0) (by decide +kernel) rfl) <|
  zq_cons (zq_s_ldc (index := 7) (by decide +kernel) zw_763) <|
  zq_cons (zq_s_aload_n (n := 0) (by decide +kernel) rfl) <|
  zq_cons (zq_s_getf (index := 8) (by decide +kernel) zf_X2_8) <|
  zq_cons (zq_s_imul (by decide +kernel)) <|
  zq_cons (zq_s_sipush (n := 12345) (by decide +kernel) (by decide +kernel)) <|
  zq_cons (zq_s_iadd (by decide +kernel)) <|
  zq_cons (zq_s_puti (index := 8) (by decide +kernel) zp_X2_8 (fun _ _ => ⟨rfl, rfl⟩)) <|
  zq_cons (zq_s_iload_n (n := 1) (by decide +kernel) rfl) <|
  zq_cons (zq_s_iconst (n := 1) (by decide +kernel) (by decide +kernel)) <|
  zq_cons (zq_s_ic_ge (off := 7) (by decide +kernel) (by decide)) <|
  zq_cons (zq_s_iconst (n := 0) (by decide +kernel) (by decide +kernel)) <|
  zq_cons (zq_s_goto (off := 12) (by decide +kernel) (by decide)) <|
  zq_cons (zq_s_aload_n (n := 0) (by decide +kernel) rfl) <|
  zq_cons (zq_s_getf (index := 8) (by decide +kernel) zf_X2_8) <|
  zq_cons (zq_s_bipush (n := 16) (by decide +kernel) (by decide +kernel)) <|
  zq_cons (zq_s_iushr (by decide +kernel)) <|
  zq_cons (zq_s_iload_n (n := 1) (by decide +kernel) rfl) <|
  zq_cons (zq_s_irem (by decide +kernel)) <|
  zq_cons (⟨rfl, (by decide +kernel)⟩) <|
  zq_nil
def zc_X3_fits : List (Nat × zq_It) := [(0, .inl (zq_il 1 2)), (1, .inl (zq_if_ne 4 21)), (4, .inl (zq_al 5 0)), (5, .inl (zq_il 6 1)), (6, .inr (.inl (2, .inr [(3, zn_X3_sortAt)]))), (9, .inl (zq_push 10 (.int (-1)))), (10, .inl (zq_ic_eq 13 17)), (13, .inl (zq_push 14 (.int 1))), (14, .inl (zq_goto 26)), (17, .inl (zq_push 18 (.int 0))), (18, .inl (zq_goto 26)), (21, .inl (zq_al 22 0)), (22, .inl (zq_il 23 1)), (23, .inr (.inl (2, .inr [(3, zn_X6_isFigure)]))), (26, .inr (.inr 2))]
theorem zk_X3_fits : zq_oks zi_X3_fits zc_X3_fits := zq_cons (zq_s_iload_n (n := 2) (by decide +kernel) rfl) <|
  zq_cons (zq_s_if_ne (off := 20) (by decide +kernel) (by decide)) <|
  zq_cons (zq_s_aload_n (n := 0) (by decide +kernel) rfl) <|
  zq_cons (zq_s_iload_n (n := 1) (by decide +kernel) rfl) <|
  zq_cons (List.forall_mem_cons.mpr ⟨⟨zi_X3_sortAt, rfl, zq_s_callV (n := 1) (index := 21) (by decide +kernel) rfl zw_422 zw_424 zw_1 zw_84 zw_425 (by decide +kernel) (by decide +kernel) ⟨rfl, rfl⟩⟩, fun _ h => absurd h List.not_mem_nil⟩) <|
  zq_cons (zq_s_iconst (n := (-1)) (by decide +kernel) (by decide +kernel)) <|
  zq_cons (zq_s_ic_eq (off := 7) (by decide +kernel) (by decide)) <|
  zq_cons (zq_s_iconst (n := 1) (by decide +kernel) (by decide +kernel)) <|
  zq_cons (zq_s_goto (off := 12) (by decide +kernel) (by decide)) <|
  zq_cons (zq_s_iconst (n := 0) (by decide +kernel) (by decide +kernel)) <|
  zq_cons (zq_s_goto (off := 8) (by decide +kernel) (by decide)) <|
  zq_cons (zq_s_aload_n (n := 0) (by decide +kernel) rfl) <|
  zq_cons (zq_s_iload_n (n := 1) (by decide +kernel) rfl) <|
  zq_cons (List.forall_mem_cons.mpr ⟨⟨zi_X6_isFigure, rfl, zq_s_callU (owner := "DollsAhead$Text") (x := ⟨"DollsAhead$People", "isFigure", "(I)Z"⟩) (n := 1) (index := 25) (by decide +kernel) rfl zw_426 zw_427 zw_428 zw_417 zw_81 zw_418 (Or.inl rfl) (by decide +kernel) (by decide +kernel) ⟨rfl, rfl⟩⟩, fun _ h => absurd h List.not_mem_nil⟩) <|
  zq_cons (⟨rfl, (by decide +kernel)⟩) <|
  zq_nil
def zc_X3_readThings : List (Nat × zq_It) := [(0, .inl (zq_push 1 (.int 0))), (1, .inl (zq_is 2 1)), (2, .inl (zq_il 3 1)), (3, .inl (zq_al 4 0)), (4, .inl (zq_getf 7 [(3, 5)])), (7, .inl (zq_ic_ge 10 59)), (10, .inl (zq_al 11 0)), (11, .inl (zq_getf 14 [(3, 6)])), (14, .inl (zq_il 15 1)), (15, .inl (zq_al 16 0)), (16, .inl (zq_il 17 1)), (17, .inl (zq_push 18 (.int 4))), (18, .inl (zq_i2 19 (fun x y => x * y))), (19, .inr (.inl (2, .inr [(3, zn_X3_sortAt)]))), (22, .inl (zq_iast 23)), (23, .inl (zq_al 24 0)), (24, .inl (zq_getf 27 [(3, 7)])), (27, .inl (zq_il 28 1)), (28, .inl (zq_al 29 0)), (29, .inl (zq_il 30 1)), (30, .inl (zq_push 31 (.int 4))), (31, .inl (zq_i2 32 (fun x y => x * y))), (32, .inl (zq_push 33 (.int 1))), (33, .inl (zq_i2 34 (fun x y => x + y))), (34, .inr (.inl (2, .inr [(3, zn_X6_figure)]))), (37, .inl (zq_iast 38)), (38, .inl (zq_al 39 0)), (39, .inl (zq_getf 42 [(3, 8)])), (42, .inl (zq_il 43 1)), (43, .inl (zq_al 44 0)), (44, .inl (zq_il 45 1)), (45, .inl (zq_push 46 (.int 4))), (46, .inl (zq_i2 47 (fun x y => x * y))), (47, .inl (zq_push 48 (.int 2))), (48, .inl (zq_i2 49 (fun x y => x + y))), (49, .inr (.inl (2, .inr [(3, zn_X6_figure)]))), (52, .inl (zq_iast 53)), (53, .inl (zq_inc 56 1 1)), (56, .inl (zq_goto 2)), (59, .inr (.inr 0))]
theorem zk_X3_readThings : zq_oks zi_X3_readThings zc_X3_readThings := zq_cons (zq_s_iconst (n := 0) (by decide +kernel) (by decide +kernel)) <|
  zq_cons (zq_s_istore_n (n := 1) (by decide +kernel) rfl (by decide +kernel)) <|
  zq_cons (zq_s_iload_n (n := 1) (by decide +kernel) rfl) <|
  zq_cons (zq_s_aload_n (n := 0) (by decide +kernel) rfl) <|
  zq_cons (zq_s_getf (index := 29) (by decide +kernel) zf_X3_29) <|
  zq_cons (zq_s_ic_ge (off := 52) (by decide +kernel) (by decide)) <|
  zq_cons (zq_s_aload_n (n := 0) (by decide +kernel) rfl) <|
  zq_cons (zq_s_getf (index := 11) (by decide +kernel) zf_X3_11) <|
  zq_cons (zq_s_iload_n (n := 1) (by decide +kernel) rfl) <|
  zq_cons (zq_s_aload_n (n := 0) (by decide +kernel) rfl) <|
  zq_cons (zq_s_iload_n (n := 1) (by decide +kernel) rfl) <|
  zq_cons (zq_s_iconst (n := 4) (by decide +kernel) (by decide +kernel)) <|
  zq_cons (zq_s_imul (by decide +kernel)) <|
  zq_cons (List.forall_mem_cons.mpr ⟨⟨zi_X3_sortAt, rfl, zq_s_callV (n := 1) (index := 21) (by decide +kernel) rfl zw_422 zw_424 zw_1 zw_84 zw_425 (by decide +kernel) (by decide +kernel) ⟨rfl, rfl⟩⟩, fun _ h => absurd h List.not_mem_nil⟩) <|
  zq_cons (zq_s_iast (by decide +kernel)) <|
  zq_cons (zq_s_aload_n (n := 0) (by decide +kernel) rfl) <|
  zq_cons (zq_s_getf (index := 15) (by decide +kernel) zf_X3_15) <|
  zq_cons (zq_s_iload_n (n := 1) (by decide +kernel) rfl) <|
  zq_cons (zq_s_aload_n (n := 0) (by decide +kernel) rfl) <|
  zq_cons (zq_s_iload_n (n := 1) (by decide +kernel) rfl) <|
  zq_cons (zq_s_iconst (n := 4) (by decide +kernel) (by decide +kernel)) <|
  zq_cons (zq_s_imul (by decide +kernel)) <|
  zq_cons (zq_s_iconst (n := 1) (by decide +kernel) (by decide +kernel)) <|
  zq_cons (zq_s_iadd (by decide +kernel)) <|
  zq_cons (List.forall_mem_cons.mpr ⟨⟨zi_X6_figure, rfl, zq_s_callU (owner := "DollsAhead$Text") (x := ⟨"DollsAhead$People", "figure", "(I)I"⟩) (n := 1) (index := 33) (by decide +kernel) rfl zw_444 zw_445 zw_446 zw_439 zw_81 zw_440 (Or.inl rfl) (by decide +kernel) (by decide +kernel) ⟨rfl, rfl⟩⟩, fun _ h => absurd h List.not_mem_nil⟩) <|
  zq_cons (zq_s_iast (by decide +kernel)) <|
  zq_cons (zq_s_aload_n (n := 0) (by decide +kernel) rfl) <|
  zq_cons (zq_s_getf (index := 18) (by decide +kernel) zf_X3_18) <|
  zq_cons (zq_s_iload_n (n := 1) (by decide +kernel) rfl) <|
  zq_cons (zq_s_aload_n (n := 0) (by decide +kernel) rfl) <|
  zq_cons (zq_s_iload_n (n := 1) (by decide +kernel) rfl) <|
  zq_cons (zq_s_iconst (n := 4) (by decide +kernel) (by decide +kernel)) <|
  zq_cons (zq_s_imul (by decide +kernel)) <|
  zq_cons (zq_s_iconst (n := 2) (by decide +kernel) (by decide +kernel)) <|
  zq_cons (zq_s_iadd (by decide +kernel)) <|
  zq_cons (List.forall_mem_cons.mpr ⟨⟨zi_X6_figure, rfl, zq_s_callU (owner := "DollsAhead$Text") (x := ⟨"DollsAhead$People", "figure", "(I)I"⟩) (n := 1) (index := 33) (by decide +kernel) rfl zw_444 zw_445 zw_446 zw_439 zw_81 zw_440 (Or.inl rfl) (by decide +kernel) (by decide +kernel) ⟨rfl, rfl⟩⟩, fun _ h => absurd h List.not_mem_nil⟩) <|
  zq_cons (zq_s_iast (by decide +kernel)) <|
  zq_cons (zq_s_iinc (n := 1) (by decide +kernel) (by decide +kernel) (by decide +kernel)) <|
  zq_cons (zq_s_goto (off := (-54)) (by decide +kernel) (by decide)) <|
  zq_cons (⟨rfl, (by decide +kernel)⟩) <|
  zq_nil
def zc_X3_sortAt : List (Nat × zq_It) := [(0, .inl (zq_al 1 0)), (1, .inl (zq_getf 4 [(3, 0)])), (4, .inl (zq_il 5 1)), (5, .inl (zq_iald 6)), (6, .inl (zq_l3 99 103 104 42 40 44 46)), (40, .inl (zq_push 41 (.int 0))), (41, .inr (.inr 1)), (42, .inl (zq_push 43 (.int 1))), (43, .inr (.inr 1)), (44, .inl (zq_push 45 (.int 2))), (45, .inr (.inr 1)), (46, .inl (zq_push 47 (.int (-1)))), (47, .inr (.inr 1))]
theorem zk_X3_sortAt : zq_oks zi_X3_sortAt zc_X3_sortAt := zq_cons (zq_s_aload_n (n := 0) (by decide +kernel) rfl) <|
  zq_cons (zq_s_getf (index := 36) (by decide +kernel) zf_X3_36) <|
  zq_cons (zq_s_iload_n (n := 1) (by decide +kernel) rfl) <|
  zq_cons (zq_s_iald (by decide +kernel)) <|
  zq_cons (zq_s_l3 (dflt := 40) (ps := #[(99, 36), (103, 34), (104, 38)]) (len := 34) (by decide +kernel) (by decide +kernel) rfl (by decide +kernel) (by decide +kernel)) <|
  zq_cons (zq_s_iconst (n := 0) (by decide +kernel) (by decide +kernel)) <|
  zq_cons (⟨rfl, (by decide +kernel)⟩) <|
  zq_cons (zq_s_iconst (n := 1) (by decide +kernel) (by decide +kernel)) <|
  zq_cons (⟨rfl, (by decide +kernel)⟩) <|
  zq_cons (zq_s_iconst (n := 2) (by decide +kernel) (by decide +kernel)) <|
  zq_cons (⟨rfl, (by decide +kernel)⟩) <|
  zq_cons (zq_s_iconst (n := (-1)) (by decide +kernel) (by decide +kernel)) <|
  zq_cons (⟨rfl, (by decide +kernel)⟩) <|
  zq_nil
def zc_X4_isLost : List (Nat × zq_It) := [(0, .inl (zq_al 1 0)), (1, .inl (zq_getf 4 [(4, 2)])), (4, .inl (zq_push 5 (.int (-1)))), (5, .inl (zq_ic_ne 8 12)), (8, .inl (zq_push 9 (.int 1))), (9, .inl (zq_goto 13)), (12, .inl (zq_push 13 (.int 0))), (13, .inr (.inr 2))]
theorem zk_X4_isLost : zq_oks zi_X4_isLost zc_X4_isLost := zq_cons (zq_s_aload_n (n := 0) (by decide +kernel) rfl) <|
  zq_cons (zq_s_getf (index := 19) (by decide +kernel) zf_X4_19) <|
  zq_cons (zq_s_iconst (n := (-1)) (by decide +kernel) (by decide +kernel)) <|
  zq_cons (zq_s_ic_ne (off := 7) (by decide +kernel) (by decide)) <|
  zq_cons (zq_s_iconst (n := 1) (by decide +kernel) (by decide +kernel)) <|
  zq_cons (zq_s_goto (off := 4) (by decide +kernel) (by decide)) <|
  zq_cons (zq_s_iconst (n := 0) (by decide +kernel) (by decide +kernel)) <|
  zq_cons (⟨rfl, (by decide +kernel)⟩) <|
  zq_nil
def zc_X4_become : List (Nat × zq_It) := [(0, .inl (zq_al 1 0)), (1, .inl (zq_il 2 1)), (2, .inl (zq_puti 5 false [(4, 1)])), (5, .inl (zq_al 6 0)), (6, .inl (zq_il 7 2)), (7, .inl (zq_puti 10 false [(4, 2)])), (10, .inl (zq_al 11 0)), (11, .inl (zq_getf 14 [(4, 0)])), (14, .inl (zq_push 15 (.int 0))), (15, .inr (.inl (2, .inl zn_J7_fill_53178))), (18, .inr (.inr 0))]
theorem zk_X4_become : zq_oks zi_X4_become zc_X4_become := zq_cons (zq_s_aload_n (n := 0) (by decide +kernel) rfl) <|
  zq_cons (zq_s_iload_n (n := 1) (by decide +kernel) rfl) <|
  zq_cons (zq_s_puti (index := 15) (by decide +kernel) zp_X4_15 (fun _ _ => ⟨rfl, rfl⟩)) <|
  zq_cons (zq_s_aload_n (n := 0) (by decide +kernel) rfl) <|
  zq_cons (zq_s_iload_n (n := 2) (by decide +kernel) rfl) <|
  zq_cons (zq_s_puti (index := 19) (by decide +kernel) zp_X4_19 (fun _ _ => ⟨rfl, rfl⟩)) <|
  zq_cons (zq_s_aload_n (n := 0) (by decide +kernel) rfl) <|
  zq_cons (zq_s_getf (index := 9) (by decide +kernel) zf_X4_9) <|
  zq_cons (zq_s_iconst (n := 0) (by decide +kernel) (by decide +kernel)) <|
  zq_cons (⟨zi_J7_fill_53178, rfl, zq_s_callS (n := 2) (index := 22) (by decide +kernel) zw_775 zw_276 zw_90 zw_277 (by decide +kernel) (by decide +kernel) ⟨rfl, rfl⟩⟩) <|
  zq_cons (⟨rfl, (by decide +kernel)⟩) <|
  zq_nil
def zc_X4_holds : List (Nat × zq_It) := [(0, .inl (zq_il 1 1)), (1, .inl (zq_if_lt 4 30)), (4, .inl (zq_il 5 2)), (5, .inl (zq_if_lt 8 30)), (8, .inl (zq_il 9 1)), (9, .inl (zq_al 10 0)), (10, .inl (zq_getf 13 [(4, 2)])), (13, .inl (zq_ic_gt 16 30)), (16, .inl (zq_il 17 2)), (17, .inl (zq_al 18 0)), (18, .inl (zq_getf 21 [(4, 2)])), (21, .inl (zq_il 22 1)), (22, .inl (zq_i2 23 (fun x y => x - y))), (23, .inl (zq_ic_gt 26 30)), (26, .inl (zq_push 27 (.int 1))), (27, .inl (zq_goto 31)), (30, .inl (zq_push 31 (.int 0))), (31, .inr (.inr 2))]
theorem zk_X4_holds : zq_oks zi_X4_holds zc_X4_holds := zq_cons (zq_s_iload_n (n := 1) (by decide +kernel) rfl) <|
  zq_cons (zq_s_if_lt (off := 29) (by decide +kernel) (by decide)) <|
  zq_cons (zq_s_iload_n (n := 2) (by decide +kernel) rfl) <|
  zq_cons (zq_s_if_lt (off := 25) (by decide +kernel) (by decide)) <|
  zq_cons (zq_s_iload_n (n := 1) (by decide +kernel) rfl) <|
  zq_cons (zq_s_aload_n (n := 0) (by decide +kernel) rfl) <|
  zq_cons (zq_s_getf (index := 19) (by decide +kernel) zf_X4_19) <|
  zq_cons (zq_s_ic_gt (off := 17) (by decide +kernel) (by decide)) <|
  zq_cons (zq_s_iload_n (n := 2) (by decide +kernel) rfl) <|
  zq_cons (zq_s_aload_n (n := 0) (by decide +kernel) rfl) <|
  zq_cons (zq_s_getf (index := 19) (by decide +kernel) zf_X4_19) <|
  zq_cons (zq_s_iload_n (n := 1) (by decide +kernel) rfl) <|
  zq_cons (zq_s_isub (by decide +kernel)) <|
  zq_cons (zq_s_ic_gt (off := 7) (by decide +kernel) (by decide)) <|
  zq_cons (zq_s_iconst (n := 1) (by decide +kernel) (by decide +kernel)) <|
  zq_cons (zq_s_goto (off := 4) (by decide +kernel) (by decide)) <|
  zq_cons (zq_s_iconst (n := 0) (by decide +kernel) (by decide +kernel)) <|
  zq_cons (⟨rfl, (by decide +kernel)⟩) <|
  zq_nil
def zc_X4_lay : List (Nat × zq_It) := [(0, .inl (zq_al 1 0)), (1, .inl (zq_getf 4 [(4, 1)])), (4, .inl (zq_if_ne 7 18)), (7, .inl (zq_al 8 0)), (8, .inl (zq_getf 11 [(4, 0)])), (11, .inl (zq_il 12 1)), (12, .inl (zq_il 13 2)), (13, .inl (zq_i1 14 (fun x => x.toInt8.toInt32))), (14, .inl (zq_iast 15)), (15, .inl (zq_goto 38)), (18, .inl (zq_al 19 0)), (19, .inl (zq_getf 22 [(4, 0)])), (22, .inl (zq_il 23 1)), (23, .inl (zq_al 24 0)), (24, .inl (zq_getf 27 [(4, 1)])), (27, .inl (zq_push 28 (.int 1))), (28, .inl (zq_ic_ne 31 36)), (31, .inl (zq_il 32 2)), (32, .inl (zq_i1 33 (fun x => x.toInt16.toInt32))), (33, .inl (zq_goto 37)), (36, .inl (zq_il 37 2)), (37, .inl (zq_iast 38)), (38, .inr (.inr 0))]
theorem zk_X4_lay : zq_oks zi_X4_lay zc_X4_lay := zq_cons (zq_s_aload_n (n := 0) (by decide +kernel) rfl) <|
  zq_cons (zq_s_getf (index := 15) (by decide +kernel) zf_X4_15) <|
  zq_cons (zq_s_if_ne (off := 14) (by decide +kernel) (by decide)) <|
  zq_cons (zq_s_aload_n (n := 0) (by decide +kernel) rfl) <|
  zq_cons (zq_s_getf (index := 9) (by decide +kernel) zf_X4_9) <|
  zq_cons (zq_s_iload_n (n := 1) (by decide +kernel) rfl) <|
  zq_cons (zq_s_iload_n (n := 2) (by decide +kernel) rfl) <|
  zq_cons (zq_s_i2b (by decide +kernel)) <|
  zq_cons (zq_s_iast (by decide +kernel)) <|
  zq_cons (zq_s_goto (off := 23) (by decide +kernel) (by decide)) <|
  zq_cons (zq_s_aload_n (n := 0) (by decide +kernel) rfl) <|
  zq_cons (zq_s_getf (index := 9) (by decide +kernel) zf_X4_9) <|
  zq_cons (zq_s_iload_n (n := 1) (by decide +kernel) rfl) <|
  zq_cons (zq_s_aload_n (n := 0) (by decide +kernel) rfl) <|
  zq_cons (zq_s_getf (index := 15) (by decide +kernel) zf_X4_15) <|
  zq_cons (zq_s_iconst (n := 1) (by decide +kernel) (by decide +kernel)) <|
  zq_cons (zq_s_ic_ne (off := 8) (by decide +kernel) (by decide)) <|
  zq_cons (zq_s_iload_n (n := 2) (by decide +kernel) rfl) <|
  zq_cons (zq_s_i2s (by decide +kernel)) <|
  zq_cons (zq_s_goto (off := 4) (by decide +kernel) (by decide)) <|
  zq_cons (zq_s_iload_n (n := 2) (by decide +kernel) rfl) <|
  zq_cons (zq_s_iast (by decide +kernel)) <|
  zq_cons (⟨rfl, (by decide +kernel)⟩) <|
  zq_nil
def zc_X5_add : List (Nat × zq_It) := [(0, .inl (zq_al 1 0)), (1, .inl (zq_getf 4 [(5, 3)])), (4, .inl (zq_if_lt 7 56)), (7, .inl (zq_al 8 0)), (8, .inl (zq_getf 11 [(5, 3)])), (11, .inl (zq_push 13 (.int 8))), (13, .inl (zq_ic_ge 16 56)), (16, .inl (zq_al 17 0)), (17, .inl (zq_getf 20 [(5, 0)])), (20, .inl (zq_al 21 0)), (21, .inl (zq_getf 24 [(5, 3)])), (24, .inl (zq_il 25 1)), (25, .inl (zq_iast 26)), (26, .inl (zq_al 27 0)), (27, .inl (zq_getf 30 [(5, 1)])), (30, .inl (zq_al 31 0)), (31, .inl (zq_getf 34 [(5, 3)])), (34, .inl (zq_il 35 2)), (35, .inl (zq_iast 36)), (36, .inl (zq_al 37 0)), (37, .inl (zq_getf 40 [(5, 2)])), (40, .inl (zq_al 41 0)), (41, .inl (zq_getf 44 [(5, 3)])), (44, .inl (zq_il 45 3)), (45, .inl (zq_iast 46)), (46, .inl (zq_al 47 0)), (47, .inl (zq_dup 48)), (48, .inl (zq_getf 51 [(5, 3)])), (51, .inl (zq_push 52 (.int 1))), (52, .inl (zq_i2 53 (fun x y => x + y))), (53, .inl (zq_puti 56 false [(5, 3)])), (56, .inr (.inr 0))]
theorem zk_X5_add : zq_oks zi_X5_add zc_X5_add := zq_cons (zq_s_aload_n (n := 0) (by decide +kernel) rfl) <|
  zq_cons (zq_s_getf (index := 21) (by decide +kernel) zf_X5_21) <|
  zq_cons (zq_s_if_lt (off := 52) (by decide +kernel) (by decide)) <|
  zq_cons (zq_s_aload_n (n := 0) (by decide +kernel) rfl) <|
  zq_cons (zq_s_getf (index := 21) (by decide +kernel) zf_X5_21) <|
  zq_cons (zq_s_bipush (n := 8) (by decide +kernel) (by decide +kernel)) <|
  zq_cons (zq_s_ic_ge (off := 43) (by decide +kernel) (by decide)) <|
  zq_cons (zq_s_aload_n (n := 0) (by decide +kernel) rfl) <|
  zq_cons (zq_s_getf (index := 9) (by decide +kernel) zf_X5_9) <|
  zq_cons (zq_s_aload_n (n := 0) (by decide +kernel) rfl) <|
  zq_cons (zq_s_getf (index := 21) (by decide +kernel) zf_X5_21) <|
  zq_cons (zq_s_iload_n (n := 1) (by decide +kernel) rfl) <|
  zq_cons (zq_s_iast (by decide +kernel)) <|
  zq_cons (zq_s_aload_n (n := 0) (by decide +kernel) rfl) <|
  zq_cons (zq_s_getf (index := 15) (by decide +kernel) zf_X5_15) <|
  zq_cons (zq_s_aload_n (n := 0) (by decide +kernel) rfl) <|
  zq_cons (zq_s_getf (index := 21) (by decide +kernel) zf_X5_21) <|
  zq_cons (zq_s_iload_n (n := 2) (by decide +kernel) rfl) <|
  zq_cons (zq_s_iast (by decide +kernel)) <|
  zq_cons (zq_s_aload_n (n := 0) (by decide +kernel) rfl) <|
  zq_cons (zq_s_getf (index := 18) (by decide +kernel) zf_X5_18) <|
  zq_cons (zq_s_aload_n (n := 0) (by decide +kernel) rfl) <|
  zq_cons (zq_s_getf (index := 21) (by decide +kernel) zf_X5_21) <|
  zq_cons (zq_s_iload_n (n := 3) (by decide +kernel) rfl) <|
  zq_cons (zq_s_iast (by decide +kernel)) <|
  zq_cons (zq_s_aload_n (n := 0) (by decide +kernel) rfl) <|
  zq_cons (zq_s_dup (by decide +kernel)) <|
  zq_cons (zq_s_getf (index := 21) (by decide +kernel) zf_X5_21) <|
  zq_cons (zq_s_iconst (n := 1) (by decide +kernel) (by decide +kernel)) <|
  zq_cons (zq_s_iadd (by decide +kernel)) <|
  zq_cons (zq_s_puti (index := 21) (by decide +kernel) zp_X5_21 (fun _ _ => ⟨rfl, rfl⟩)) <|
  zq_cons (⟨rfl, (by decide +kernel)⟩) <|
  zq_nil
def zc_X5_allIn : List (Nat × zq_It) := [(0, .inl (zq_al 1 1)), (1, .inl (zq_getf 4 [(6, 1)])), (4, .inl (zq_getf 7 [(3, 5)])), (7, .inl (zq_is 8 2)), (8, .inl (zq_push 9 (.int 0))), (9, .inl (zq_is 10 3)), (10, .inl (zq_il 11 3)), (11, .inl (zq_al 12 0)), (12, .inl (zq_getf 15 [(5, 3)])), (15, .inl (zq_ic_ge 18 61)), (18, .inl (zq_al 19 0)), (19, .inl (zq_getf 22 [(5, 1)])), (22, .inl (zq_il 23 3)), (23, .inl (zq_iald 24)), (24, .inl (zq_il 25 2)), (25, .inl (zq_ic_ge 28 53)), (28, .inl (zq_al 29 1)), (29, .inl (zq_al 30 0)), (30, .inl (zq_getf 33 [(5, 0)])), (33, .inl (zq_il 34 3)), (34, .inl (zq_iald 35)), (35, .inl (zq_al 36 0)), (36, .inl (zq_getf 39 [(5, 1)])), (39, .inl (zq_il 40 3)), (40, .inl (zq_iald 41)), (41, .inr (.inl (3, .inr [(6, zn_X7_roomOf)]))), (44, .inl (zq_al 45 0)), (45, .inl (zq_getf 48 [(5, 2)])), (48, .inl (zq_il 49 3)), (49, .inl (zq_iald 50)), (50, .inl (zq_ic_eq 53 55)), (53, .inl (zq_push 54 (.int 0))), (54, .inr (.inr 2)), (55, .inl (zq_inc 58 3 1)), (58, .inl (zq_goto 10)), (61, .inl (zq_push 62 (.int 1))), (62, .inr (.inr 2))]
theorem zk_X5_allIn : zq_oks zi_X5_allIn zc_X5_allIn := zq_cons (zq_s_aload_n (n := 1) (by decide +kernel) rfl) <|
  zq_cons (zq_s_getf (index := 25) (by decide +kernel) zf_X5_25) <|
  zq_cons (zq_s_getf (index := 31) (by decide +kernel) zf_X5_31) <|
  zq_cons (zq_s_istore_n (n := 2) (by decide +kernel) rfl (by decide +kernel)) <|
  zq_cons (zq_s_iconst (n := 0) (by decide +kernel) (by decide +kernel)) <|
  zq_cons (zq_s_istore_n (n := 3) (by decide +kernel) rfl (by decide +kernel)) <|
  zq_cons (zq_s_iload_n (n := 3) (by decide +kernel) rfl) <|
  zq_cons (zq_s_aload_n (n := 0) (by decide +kernel) rfl) <|
  zq_cons (zq_s_getf (index := 21) (by decide +kernel) zf_X5_21) <|
  zq_cons (zq_s_ic_ge (off := 46) (by decide +kernel) (by decide)) <|
  zq_cons (zq_s_aload_n (n := 0) (by decide +kernel) rfl) <|
  zq_cons (zq_s_getf (index := 15) (by decide +kernel) zf_X5_15) <|
  zq_cons (zq_s_iload_n (n := 3) (by decide +kernel) rfl) <|
  zq_cons (zq_s_iald (by decide +kernel)) <|
  zq_cons (zq_s_iload_n (n := 2) (by decide +kernel) rfl) <|
  zq_cons (zq_s_ic_ge (off := 28) (by decide +kernel) (by decide)) <|
  zq_cons (zq_s_aload_n (n := 1) (by decide +kernel) rfl) <|
  zq_cons (zq_s_aload_n (n := 0) (by decide +kernel) rfl) <|
  zq_cons (zq_s_getf (index := 9) (by decide +kernel) zf_X5_9) <|
  zq_cons (zq_s_iload_n (n := 3) (by decide +kernel) rfl) <|
  zq_cons (zq_s_iald (by decide +kernel)) <|
  zq_cons (zq_s_aload_n (n := 0) (by decide +kernel) rfl) <|
  zq_cons (zq_s_getf (index := 15) (by decide +kernel) zf_X5_15) <|
  zq_cons (zq_s_iload_n (n := 3) (by decide +kernel) rfl) <|
  zq_cons (zq_s_iald (by decide +kernel)) <|
  zq_cons (List.forall_mem_cons.mpr ⟨⟨zi_X7_roomOf, rfl, zq_s_callV (n := 2) (index := 36) (by decide +kernel) rfl zw_712 zw_569 zw_570 zw_89 zw_571 (by decide +kernel) (by decide +kernel) ⟨rfl, rfl⟩⟩, fun _ h => absurd h List.not_mem_nil⟩) <|
  zq_cons (zq_s_aload_n (n := 0) (by decide +kernel) rfl) <|
  zq_cons (zq_s_getf (index := 18) (by decide +kernel) zf_X5_18) <|
  zq_cons (zq_s_iload_n (n := 3) (by decide +kernel) rfl) <|
  zq_cons (zq_s_iald (by decide +kernel)) <|
  zq_cons (zq_s_ic_eq (off := 5) (by decide +kernel) (by decide)) <|
  zq_cons (zq_s_iconst (n := 0) (by decide +kernel) (by decide +kernel)) <|
  zq_cons (⟨rfl, (by decide +kernel)⟩) <|
  zq_cons (zq_s_iinc (n := 1) (by decide +kernel) (by decide +kernel) (by decide +kernel)) <|
  zq_cons (zq_s_goto (off := (-48)) (by decide +kernel) (by decide)) <|
  zq_cons (zq_s_iconst (n := 1) (by decide +kernel) (by decide +kernel)) <|
  zq_cons (⟨rfl, (by decide +kernel)⟩) <|
  zq_nil
def zc_X6_isFull : List (Nat × zq_It) := [(0, .inl (zq_al 1 0)), (1, .inl (zq_getf 4 [(0, 3), (3, 3)])), (4, .inl (zq_al 5 0)), (5, .inl (zq_getf 8 [(0, 1), (3, 1)])), (8, .inl (zq_ic_lt 11 15)), (11, .inl (zq_push 12 (.int 1))), (12, .inl (zq_goto 16)), (15, .inl (zq_push 16 (.int 0))), (16, .inr (.inr 2))]
theorem zk_X6_isFull : zq_oks zi_X6_isFull zc_X6_isFull := zq_cons (zq_s_aload_n (n := 0) (by decide +kernel) rfl) <|
  zq_cons (zq_s_getf (index := 31) (by decide +kernel) zf_X6_31) <|
  zq_cons (zq_s_aload_n (n := 0) (by decide +kernel) rfl) <|
  zq_cons (zq_s_getf (index := 21) (by decide +kernel) zf_X6_21) <|
  zq_cons (zq_s_ic_lt (off := 7) (by decide +kernel) (by decide)) <|
  zq_cons (zq_s_iconst (n := 1) (by decide +kernel) (by decide +kernel)) <|
  zq_cons (zq_s_goto (off := 4) (by decide +kernel) (by decide)) <|
  zq_cons (zq_s_iconst (n := 0) (by decide +kernel) (by decide +kernel)) <|
  zq_cons (⟨rfl, (by decide +kernel)⟩) <|
  zq_nil
def zc_X6_add : List (Nat × zq_It) := [(0, .inl (zq_al 1 0)), (1, .inr (.inl (1, .inr [(0, zn_X6_isFull), (3, zn_X6_isFull)]))), (4, .inl (zq_if_ne 7 31)), (7, .inl (zq_al 8 0)), (8, .inl (zq_getf 11 [(0, 0), (3, 0)])), (11, .inl (zq_al 12 0)), (12, .inl (zq_getf 15 [(0, 3), (3, 3)])), (15, .inl (zq_il 16 1)), (16, .inl (zq_iast 17)), (17, .inl (zq_al 18 0)), (18, .inl (zq_dup 19)), (19, .inl (zq_getf 22 [(0, 3), (3, 3)])), (22, .inl (zq_push 23 (.int 1))), (23, .inl (zq_i2 24 (fun x y => x + y))), (24, .inl (zq_puti 27 false [(0, 3), (3, 3)])), (27, .inl (zq_al 28 0)), (28, .inr (.inl (1, .inr [(0, zn_X6_understand), (3, zn_X6_understand)]))), (31, .inr (.inr 0))]
theorem zk_X6_add : zq_oks zi_X6_add zc_X6_add := zq_cons (zq_s_aload_n (n := 0) (by decide +kernel) rfl) <|
  zq_cons (List.forall_mem_cons.mpr ⟨⟨zi_X6_isFull, rfl, zq_s_callU (owner := "DollsAhead$Text") (x := yX6_isFull) (n := 0) (index := 40) (by decide +kernel) rfl zw_398 zw_388 zw_389 zw_387 zw_81 zw_391 (Or.inl rfl) (by decide +kernel) (by decide +kernel) ⟨rfl, rfl⟩⟩, List.forall_mem_cons.mpr ⟨⟨zi_X6_isFull, rfl, zq_s_callU (owner := "DollsAhead$Text") (x := yX6_isFull) (n := 0) (index := 40) (by decide +kernel) rfl zw_398 zw_388 zw_390 zw_387 zw_81 zw_391 (Or.inl rfl) (by decide +kernel) (by decide +kernel) ⟨rfl, rfl⟩⟩, fun _ h => absurd h List.not_mem_nil⟩⟩) <|
  zq_cons (zq_s_if_ne (off := 27) (by decide +kernel) (by decide)) <|
  zq_cons (zq_s_aload_n (n := 0) (by decide +kernel) rfl) <|
  zq_cons (zq_s_getf (index := 9) (by decide +kernel) zf_X6_9) <|
  zq_cons (zq_s_aload_n (n := 0) (by decide +kernel) rfl) <|
  zq_cons (zq_s_getf (index := 31) (by decide +kernel) zf_X6_31) <|
  zq_cons (zq_s_iload_n (n := 1) (by decide +kernel) rfl) <|
  zq_cons (zq_s_iast (by decide +kernel)) <|
  zq_cons (zq_s_aload_n (n := 0) (by decide +kernel) rfl) <|
  zq_cons (zq_s_dup (by decide +kernel)) <|
  zq_cons (zq_s_getf (index := 31) (by decide +kernel) zf_X6_31) <|
  zq_cons (zq_s_iconst (n := 1) (by decide +kernel) (by decide +kernel)) <|
  zq_cons (zq_s_iadd (by decide +kernel)) <|
  zq_cons (zq_s_puti (index := 31) (by decide +kernel) zp_X6_31 (fun _ _ => ⟨rfl, rfl⟩)) <|
  zq_cons (zq_s_aload_n (n := 0) (by decide +kernel) rfl) <|
  zq_cons (List.forall_mem_cons.mpr ⟨⟨zi_X6_understand, rfl, zq_s_callU (owner := "DollsAhead$Text") (x := yX6_understand) (n := 0) (index := 44) (by decide +kernel) rfl zw_399 zw_1382 zq_x0 zw_401 zw_81 zw_402 (Or.inl rfl) (by decide +kernel) (by decide +kernel) ⟨rfl, rfl⟩⟩, List.forall_mem_cons.mpr ⟨⟨zi_X6_understand, rfl, zq_s_callU (owner := "DollsAhead$Text") (x := yX6_understand) (n := 0) (index := 44) (by decide +kernel) rfl zw_399 zw_1382 zq_x1 zw_401 zw_81 zw_402 (Or.inl rfl) (by decide +kernel) (by decide +kernel) ⟨rfl, rfl⟩⟩, fun _ h => absurd h List.not_mem_nil⟩⟩) <|
  zq_cons (⟨rfl, (by decide +kernel)⟩) <|
  zq_nil
def zc_X6_shorten : List (Nat × zq_It) := [(0, .inl (zq_il 1 1)), (1, .inl (zq_if_lt 4 21)), (4, .inl (zq_il 5 1)), (5, .inl (zq_al 6 0)), (6, .inl (zq_getf 9 [(0, 3), (3, 3)])), (9, .inl (zq_ic_ge 12 21)), (12, .inl (zq_al 13 0)), (13, .inl (zq_il 14 1)), (14, .inl (zq_puti 17 false [(0, 3), (3, 3)])), (17, .inl (zq_al 18 0)), (18, .inr (.inl (1, .inr [(0, zn_X6_understand), (3, zn_X6_understand)]))), (21, .inr (.inr 0))]
theorem zk_X6_shorten : zq_oks zi_X6_shorten zc_X6_shorten := zq_cons (zq_s_iload_n (n := 1) (by decide +kernel) rfl) <|
  zq_cons (zq_s_if_lt (off := 20) (by decide +kernel) (by decide)) <|
  zq_cons (zq_s_iload_n (n := 1) (by decide +kernel) rfl) <|
  zq_cons (zq_s_aload_n (n := 0) (by decide +kernel) rfl) <|
  zq_cons (zq_s_getf (index := 31) (by decide +kernel) zf_X6_31) <|
  zq_cons (zq_s_ic_ge (off := 12) (by decide +kernel) (by decide)) <|
  zq_cons (zq_s_aload_n (n := 0) (by decide +kernel) rfl) <|
  zq_cons (zq_s_iload_n (n := 1) (by decide +kernel) rfl) <|
  zq_cons (zq_s_puti (index := 31) (by decide +kernel) zp_X6_31 (fun _ _ => ⟨rfl, rfl⟩)) <|
  zq_cons (zq_s_aload_n (n := 0) (by decide +kernel) rfl) <|
  zq_cons (List.forall_mem_cons.mpr ⟨⟨zi_X6_understand, rfl, zq_s_callU (owner := "DollsAhead$Text") (x := yX6_understand) (n := 0) (index := 44) (by decide +kernel) rfl zw_399 zw_1382 zq_x0 zw_401 zw_81 zw_402 (Or.inl rfl) (by decide +kernel) (by decide +kernel) ⟨rfl, rfl⟩⟩, List.forall_mem_cons.mpr ⟨⟨zi_X6_understand, rfl, zq_s_callU (owner := "DollsAhead$Text") (x := yX6_understand) (n := 0) (index := 44) (by decide +kernel) rfl zw_399 zw_1382 zq_x1 zw_401 zw_81 zw_402 (Or.inl rfl) (by decide +kernel) (by decide +kernel) ⟨rfl, rfl⟩⟩, fun _ h => absurd h List.not_mem_nil⟩⟩) <|
  zq_cons (⟨rfl, (by decide +kernel)⟩) <|
  zq_nil
def zc_X6_isFigure : List (Nat × zq_It) := [(0, .inl (zq_al 1 0)), (1, .inl (zq_getf 4 [(0, 0), (3, 0)])), (4, .inl (zq_il 5 1)), (5, .inl (zq_iald 6)), (6, .inl (zq_push 8 (.int 48))), (8, .inl (zq_ic_lt 11 26)), (11, .inl (zq_al 12 0)), (12, .inl (zq_getf 15 [(0, 0), (3, 0)])), (15, .inl (zq_il 16 1)), (16, .inl (zq_iald 17)), (17, .inl (zq_push 19 (.int 56))), (19, .inl (zq_ic_ge 22 26)), (22, .inl (zq_push 23 (.int 1))), (23, .inl (zq_goto 27)), (26, .inl (zq_push 27 (.int 0))), (27, .inr (.inr 2))]
theorem zk_X6_isFigure : zq_oks zi_X6_isFigure zc_X6_isFigure := zq_cons (zq_s_aload_n (n := 0) (by decide +kernel) rfl) <|
  zq_cons (zq_s_getf (index := 9) (by decide +kernel) zf_X6_9) <|
  zq_cons (zq_s_iload_n (n := 1) (by decide +kernel) rfl) <|
  zq_cons (zq_s_iald (by decide +kernel)) <|
  zq_cons (zq_s_bipush (n := 48) (by decide +kernel) (by decide +kernel)) <|
  zq_cons (zq_s_ic_lt (off := 18) (by decide +kernel) (by decide)) <|
  zq_cons (zq_s_aload_n (n := 0) (by decide +kernel) rfl) <|
  zq_cons (zq_s_getf (index := 9) (by decide +kernel) zf_X6_9) <|
  zq_cons (zq_s_iload_n (n := 1) (by decide +kernel) rfl) <|
  zq_cons (zq_s_iald (by decide +kernel)) <|
  zq_cons (zq_s_bipush (n := 56) (by decide +kernel) (by decide +kernel)) <|
  zq_cons (zq_s_ic_ge (off := 7) (by decide +kernel) (by decide)) <|
  zq_cons (zq_s_iconst (n := 1) (by decide +kernel) (by decide +kernel)) <|
  zq_cons (zq_s_goto (off := 4) (by decide +kernel) (by decide)) <|
  zq_cons (zq_s_iconst (n := 0) (by decide +kernel) (by decide +kernel)) <|
  zq_cons (⟨rfl, (by decide +kernel)⟩) <|
  zq_nil
def zc_X6_figure : List (Nat × zq_It) := [(0, .inl (zq_al 1 0)), (1, .inl (zq_getf 4 [(0, 0), (3, 0)])), (4, .inl (zq_il 5 1)), (5, .inl (zq_iald 6)), (6, .inl (zq_push 8 (.int 48))), (8, .inl (zq_i2 9 (fun x y => x - y))), (9, .inr (.inr 1))]
theorem zk_X6_figure : zq_oks zi_X6_figure zc_X6_figure := zq_cons (zq_s_aload_n (n := 0) (by decide +kernel) rfl) <|
  zq_cons (zq_s_getf (index := 9) (by decide +kernel) zf_X6_9) <|
  zq_cons (zq_s_iload_n (n := 1) (by decide +kernel) rfl) <|
  zq_cons (zq_s_iald (by decide +kernel)) <|
  zq_cons (zq_s_bipush (n := 48) (by decide +kernel) (by decide +kernel)) <|
  zq_cons (zq_s_isub (by decide +kernel)) <|
  zq_cons (⟨rfl, (by decide +kernel)⟩) <|
  zq_nil
def zc_X6_understand : List (Nat × zq_It) := [(0, .inl (zq_al 1 0)), (1, .inl (zq_al 2 0)), (2, .inr (.inl (1, .inr [(0, zn_X6_firstFault), (3, zn_X6_firstFault)]))), (5, .inl (zq_puti 8 false [(0, 4), (3, 4)])), (8, .inl (zq_al 9 0)), (9, .inl (zq_al 10 0)), (10, .inl (zq_getf 13 [(0, 4), (3, 4)])), (13, .inl (zq_push 14 (.int (-1)))), (14, .inl (zq_ic_ne 17 31)), (17, .inl (zq_al 18 0)), (18, .inl (zq_getf 21 [(0, 3), (3, 3)])), (21, .inl (zq_push 22 (.int 1))), (22, .inl (zq_i2 23 (fun x y => x + y))), (23, .inl (zq_al 24 0)), (24, .inl (zq_getf 27 [(0, 2), (3, 2)])), (27, .inl (zq_i2c 28 (fun x y => x / y))), (28, .inl (zq_goto 32)), (31, .inl (zq_push 32 (.int 0))), (32, .inl (zq_puti 35 false [(0, 5), (3, 5)])), (35, .inl (zq_al 36 0)), (36, .inr (.inl (1, .inr [(0, zn_X0_readThings), (3, zn_X3_readThings)]))), (39, .inr (.inr 0))]
theorem zk_X6_understand : zq_oks zi_X6_understand zc_X6_understand := zq_cons (zq_s_aload_n (n := 0) (by decide +kernel) rfl) <|
  zq_cons (zq_s_aload_n (n := 0) (by decide +kernel) rfl) <|
  zq_cons (List.forall_mem_cons.mpr ⟨⟨zi_X6_firstFault, rfl, zq_s_callU (owner := "DollsAhead$Text") (x := yX6_firstFault) (n := 0) (index := 47) (by decide +kernel) rfl zw_403 zw_1383 zq_x2 zw_405 zw_81 zw_406 (Or.inl rfl) (by decide +kernel) (by decide +kernel) ⟨rfl, rfl⟩⟩, List.forall_mem_cons.mpr ⟨⟨zi_X6_firstFault, rfl, zq_s_callU (owner := "DollsAhead$Text") (x := yX6_firstFault) (n := 0) (index := 47) (by decide +kernel) rfl zw_403 zw_1383 zq_x3 zw_405 zw_81 zw_406 (Or.inl rfl) (by decide +kernel) (by decide +kernel) ⟨rfl, rfl⟩⟩, fun _ h => absurd h List.not_mem_nil⟩⟩) <|
  zq_cons (zq_s_puti (index := 34) (by decide +kernel) zp_X6_34 (fun _ _ => ⟨rfl, rfl⟩)) <|
  zq_cons (zq_s_aload_n (n := 0) (by decide +kernel) rfl) <|
  zq_cons (zq_s_aload_n (n := 0) (by decide +kernel) rfl) <|
  zq_cons (zq_s_getf (index := 34) (by decide +kernel) zf_X6_34) <|
  zq_cons (zq_s_iconst (n := (-1)) (by decide +kernel) (by decide +kernel)) <|
  zq_cons (zq_s_ic_ne (off := 17) (by decide +kernel) (by decide)) <|
  zq_cons (zq_s_aload_n (n := 0) (by decide +kernel) rfl) <|
  zq_cons (zq_s_getf (index := 31) (by decide +kernel) zf_X6_31) <|
  zq_cons (zq_s_iconst (n := 1) (by decide +kernel) (by decide +kernel)) <|
  zq_cons (zq_s_iadd (by decide +kernel)) <|
  zq_cons (zq_s_aload_n (n := 0) (by decide +kernel) rfl) <|
  zq_cons (zq_s_getf (index := 28) (by decide +kernel) zf_X6_28) <|
  zq_cons (zq_s_idiv (by decide +kernel)) <|
  zq_cons (zq_s_goto (off := 4) (by decide +kernel) (by decide)) <|
  zq_cons (zq_s_iconst (n := 0) (by decide +kernel) (by decide +kernel)) <|
  zq_cons (zq_s_puti (index := 37) (by decide +kernel) zp_X6_37 (fun _ _ => ⟨rfl, rfl⟩)) <|
  zq_cons (zq_s_aload_n (n := 0) (by decide +kernel) rfl) <|
  zq_cons (List.forall_mem_cons.mpr ⟨⟨zi_X0_readThings, rfl, zq_s_callU (owner := "DollsAhead$Text") (x := ⟨"DollsAhead$Text", "readThings", "()V"⟩) (n := 0) (index := 51) (by decide +kernel) rfl zw_429 zw_431 zw_432 zw_433 zw_82 zw_434 (Or.inr (List.mem_of_getElem? (i := 1) rfl)) (by decide +kernel) (by decide +kernel) ⟨rfl, rfl⟩⟩, List.forall_mem_cons.mpr ⟨⟨zi_X3_readThings, rfl, zq_s_callU (owner := "DollsAhead$Text") (x := ⟨"DollsAhead$Text", "readThings", "()V"⟩) (n := 0) (index := 51) (by decide +kernel) rfl zw_429 zw_431 zw_441 zw_442 zw_84 zw_443 (Or.inr (List.mem_of_getElem? (i := 1) rfl)) (by decide +kernel) (by decide +kernel) ⟨rfl, rfl⟩⟩, fun _ h => absurd h List.not_mem_nil⟩⟩) <|
  zq_cons (⟨rfl, (by decide +kernel)⟩) <|
  zq_nil
def zc_X6_firstFault_0 : List (Nat × zq_It) := [(0, .inl (zq_push 1 (.int 0))), (1, .inl (zq_is 2 1)), (2, .inl (zq_il 3 1)), (3, .inl (zq_al 4 0)), (4, .inl (zq_getf 7 [(0, 3), (3, 3)])), (7, .inl (zq_ic_ge 10 58)), (10, .inl (zq_il 11 1)), (11, .inl (zq_al 12 0)), (12, .inl (zq_getf 15 [(0, 2), (3, 2)])), (15, .inl (zq_i2c 16 (fun x y => x - x / y * y))), (16, .inl (zq_is 17 2)), (17, .inl (zq_il 18 2)), (18, .inl (zq_al 19 0)), (19, .inl (zq_getf 22 [(0, 2), (3, 2)])), (22, .inl (zq_push 23 (.int 1))), (23, .inl (zq_i2 24 (fun x y => x - y))), (24, .inl (zq_ic_ne 27 41)), (27, .inl (zq_al 28 0)), (28, .inl (zq_getf 31 [(0, 0), (3, 0)])), (31, .inl (zq_il 32 1)), (32, .inl (zq_iald 33)), (33, .inl (zq_push 35 (.int 59))), (35, .inl (zq_ic_eq 38 52)), (38, .inl (zq_goto 50)), (41, .inl (zq_al 42 0)), (42, .inl (zq_il 43 1)), (43, .inl (zq_il 44 2)), (44, .inr (.inl (3, .inr [(0, zn_X0_fits), (3, zn_X3_fits)]))), (47, .inl (zq_if_ne 50 52)), (50, .inl (zq_il 51 1)), (51, .inr (.inr 1)), (52, .inl (zq_inc 55 1 1)), (55, .inl (zq_goto 2)), (58, .inl (zq_al 59 0)), (59, .inl (zq_getf 62 [(0, 3), (3, 3)])), (62, .inl (zq_if_eq 65 83)), (65, .inl (zq_al 66 0)), (66, .inl (zq_getf 69 [(0, 3), (3, 3)])), (69, .inl (zq_al 70 0)), (70, .inl (zq_getf 73 [(0, 2), (3, 2)]))]
theorem zk_X6_firstFault_0 : zq_oks zi_X6_firstFault zc_X6_firstFault_0 := zq_cons (zq_s_iconst (n := 0) (by decide +kernel) (by decide +kernel)) <|
  zq_cons (zq_s_istore_n (n := 1) (by decide +kernel) rfl (by decide +kernel)) <|
  zq_cons (zq_s_iload_n (n := 1) (by decide +kernel) rfl) <|
  zq_cons (zq_s_aload_n (n := 0) (by decide +kernel) rfl) <|
  zq_cons (zq_s_getf (index := 31) (by decide +kernel) zf_X6_31) <|
  zq_cons (zq_s_ic_ge (off := 51) (by decide +kernel) (by decide)) <|
  zq_cons (zq_s_iload_n (n := 1) (by decide +kernel) rfl) <|
  zq_cons (zq_s_aload_n (n := 0) (by decide +kernel) rfl) <|
  zq_cons (zq_s_getf (index := 28) (by decide +kernel) zf_X6_28) <|
  zq_cons (zq_s_irem (by decide +kernel)) <|
  zq_cons (zq_s_istore_n (n := 2) (by decide +kernel) rfl (by decide +kernel)) <|
  zq_cons (zq_s_iload_n (n := 2) (by decide +kernel) rfl) <|
  zq_cons (zq_s_aload_n (n := 0) (by decide +kernel) rfl) <|
  zq_cons (zq_s_getf (index := 28) (by decide +kernel) zf_X6_28) <|
  zq_cons (zq_s_iconst (n := 1) (by decide +kernel) (by decide +kernel)) <|
  zq_cons (zq_s_isub (by decide +kernel)) <|
  zq_cons (zq_s_ic_ne (off := 17) (by decide +kernel) (by decide)) <|
  zq_cons (zq_s_aload_n (n := 0) (by decide +kernel) rfl) <|
  zq_cons (zq_s_getf (index := 9) (by decide +kernel) zf_X6_9) <|
  zq_cons (zq_s_iload_n (n := 1) (by decide +kernel) rfl) <|
  zq_cons (zq_s_iald (by decide +kernel)) <|
  zq_cons (zq_s_bipush (n := 59) (by decide +kernel) (by decide +kernel)) <|
  zq_cons (zq_s_ic_eq (off := 17) (by decide +kernel) (by decide)) <|
  zq_cons (zq_s_goto (off := 12) (by decide +kernel) (by decide)) <|
  zq_cons (zq_s_aload_n (n := 0) (by decide +kernel) rfl) <|
  zq_cons (zq_s_iload_n (n := 1) (by decide +kernel) rfl) <|
  zq_cons (zq_s_iload_n (n := 2) (by decide +kernel) rfl) <|
  zq_cons (List.forall_mem_cons.mpr ⟨⟨zi_X0_fits, rfl, zq_s_callU (owner := "DollsAhead$Text") (x := ⟨"DollsAhead$Text", "fits", "(II)Z"⟩) (n := 2) (index := 54) (by decide +kernel) rfl zw_407 zw_409 zw_410 zw_411 zw_82 zw_412 (Or.inr (List.mem_of_getElem? (i := 0) rfl)) (by decide +kernel) (by decide +kernel) ⟨rfl, rfl⟩⟩, List.forall_mem_cons.mpr ⟨⟨zi_X3_fits, rfl, zq_s_callU (owner := "DollsAhead$Text") (x := ⟨"DollsAhead$Text", "fits", "(II)Z"⟩) (n := 2) (index := 54) (by decide +kernel) rfl zw_407 zw_409 zw_419 zw_420 zw_84 zw_421 (Or.inr (List.mem_of_getElem? (i := 0) rfl)) (by decide +kernel) (by decide +kernel) ⟨rfl, rfl⟩⟩, fun _ h => absurd h List.not_mem_nil⟩⟩) <|
  zq_cons (zq_s_if_ne (off := 5) (by decide +kernel) (by decide)) <|
  zq_cons (zq_s_iload_n (n := 1) (by decide +kernel) rfl) <|
  zq_cons (⟨rfl, (by decide +kernel)⟩) <|
  zq_cons (zq_s_iinc (n := 1) (by decide +kernel) (by decide +kernel) (by decide +kernel)) <|
  zq_cons (zq_s_goto (off := (-53)) (by decide +kernel) (by decide)) <|
  zq_cons (zq_s_aload_n (n := 0) (by decide +kernel) rfl) <|
  zq_cons (zq_s_getf (index := 31) (by decide +kernel) zf_X6_31) <|
  zq_cons (zq_s_if_eq (off := 21) (by decide +kernel) (by decide)) <|
  zq_cons (zq_s_aload_n (n := 0) (by decide +kernel) rfl) <|
  zq_cons (zq_s_getf (index := 31) (by decide +kernel) zf_X6_31) <|
  zq_cons (zq_s_aload_n (n := 0) (by decide +kernel) rfl) <|
  zq_cons (zq_s_getf (index := 28) (by decide +kernel) zf_X6_28) <|
  zq_nil
def zc_X6_firstFault_1 : List (Nat × zq_It) := [(73, .inl (zq_i2c 74 (fun x y => x - x / y * y))), (74, .inl (zq_al 75 0)), (75, .inl (zq_getf 78 [(0, 2), (3, 2)])), (78, .inl (zq_push 79 (.int 1))), (79, .inl (zq_i2 80 (fun x y => x - y))), (80, .inl (zq_ic_ne 83 87)), (83, .inl (zq_push 84 (.int (-1)))), (84, .inl (zq_goto 91)), (87, .inl (zq_al 88 0)), (88, .inl (zq_getf 91 [(0, 3), (3, 3)])), (91, .inr (.inr 1))]
theorem zk_X6_firstFault_1 : zq_oks zi_X6_firstFault zc_X6_firstFault_1 := zq_cons (zq_s_irem (by decide +kernel)) <|
  zq_cons (zq_s_aload_n (n := 0) (by decide +kernel) rfl) <|
  zq_cons (zq_s_getf (index := 28) (by decide +kernel) zf_X6_28) <|
  zq_cons (zq_s_iconst (n := 1) (by decide +kernel) (by decide +kernel)) <|
  zq_cons (zq_s_isub (by decide +kernel)) <|
  zq_cons (zq_s_ic_ne (off := 7) (by decide +kernel) (by decide)) <|
  zq_cons (zq_s_iconst (n := (-1)) (by decide +kernel) (by decide +kernel)) <|
  zq_cons (zq_s_goto (off := 7) (by decide +kernel) (by decide)) <|
  zq_cons (zq_s_aload_n (n := 0) (by decide +kernel) rfl) <|
  zq_cons (zq_s_getf (index := 31) (by decide +kernel) zf_X6_31) <|
  zq_cons (⟨rfl, (by decide +kernel)⟩) <|
  zq_nil
def zc_X6_firstFault : List (Nat × zq_It) := zc_X6_firstFault_0 ++ (zc_X6_firstFault_1)
theorem zk_X6_firstFault : zq_oks zi_X6_firstFault zc_X6_firstFault := zq_app zk_X6_firstFault_0 (zk_X6_firstFault_1)
def zc_X7_forgetSteps : List (Nat × zq_It) := [(0, .inl (zq_al 1 0)), (1, .inl (zq_getf 4 [(6, 7)])), (4, .inl (zq_push 5 (.int (-1)))), (5, .inr (.inl (2, .inl zn_J7_fill_53178))), (8, .inr (.inr 0))]
theorem zk_X7_forgetSteps : zq_oks zi_X7_forgetSteps zc_X7_forgetSteps := zq_cons (zq_s_aload_n (n := 0) (by decide +kernel) rfl) <|
  zq_cons (zq_s_getf (index := 27) (by decide +kernel) zf_X7_27) <|
  zq_cons (zq_s_iconst (n := (-1)) (by decide +kernel) (by decide +kernel)) <|
  zq_cons (⟨zi_J7_fill_53178, rfl, zq_s_callS (n := 2) (index := 52) (by decide +kernel) zw_275 zw_276 zw_90 zw_277 (by decide +kernel) (by decide +kernel) ⟨rfl, rfl⟩⟩) <|
  zq_cons (⟨rfl, (by decide +kernel)⟩) <|
  zq_nil
def zc_X7_suppose : List (Nat × zq_It) := [(0, .inl (zq_al 1 0)), (1, .inl (zq_il 2 1)), (2, .inl (zq_puti 5 false [(6, 11)])), (5, .inl (zq_al 6 0)), (6, .inl (zq_il 7 2)), (7, .inl (zq_puti 10 false [(6, 12)])), (10, .inl (zq_al 11 0)), (11, .inl (zq_il 12 3)), (12, .inl (zq_puti 15 false [(6, 13)])), (15, .inr (.inr 0))]
theorem zk_X7_suppose : zq_oks zi_X7_suppose zc_X7_suppose := zq_cons (zq_s_aload_n (n := 0) (by decide +kernel) rfl) <|
  zq_cons (zq_s_iload_n (n := 1) (by decide +kernel) rfl) <|
  zq_cons (zq_s_puti (index := 42) (by decide +kernel) zp_X7_42 (fun _ _ => ⟨rfl, rfl⟩)) <|
  zq_cons (zq_s_aload_n (n := 0) (by decide +kernel) rfl) <|
  zq_cons (zq_s_iload_n (n := 2) (by decide +kernel) rfl) <|
  zq_cons (zq_s_puti (index := 46) (by decide +kernel) zp_X7_46 (fun _ _ => ⟨rfl, rfl⟩)) <|
  zq_cons (zq_s_aload_n (n := 0) (by decide +kernel) rfl) <|
  zq_cons (zq_s_iload_n (n := 3) (by decide +kernel) rfl) <|
  zq_cons (zq_s_puti (index := 49) (by decide +kernel) zp_X7_49 (fun _ _ => ⟨rfl, rfl⟩)) <|
  zq_cons (⟨rfl, (by decide +kernel)⟩) <|
  zq_nil
def zc_X7_runWith_0 : List (Nat × zq_It) := [(0, .inl (zq_al 1 0)), (1, .inl (zq_al 2 1)), (2, .inl (zq_putr 5 [(6, 8)])), (5, .inl (zq_al 6 0)), (6, .inl (zq_il 7 2)), (7, .inl (zq_puti 10 false [(6, 9)])), (10, .inl (zq_al 11 0)), (11, .inl (zq_il 12 3)), (12, .inl (zq_puti 15 false [(6, 10)])), (15, .inl (zq_al 16 0)), (16, .inr (.inl (1, .inr [(6, zn_X7_layHours)]))), (19, .inl (zq_al 20 0)), (20, .inr (.inl (1, .inr [(6, zn_X7_layTables)]))), (23, .inl (zq_al 24 0)), (24, .inl (zq_getf 27 [(6, 1)])), (27, .inl (zq_getf 30 [(3, 5)])), (30, .inl (zq_is 32 4)), (32, .inl (zq_push 33 (.int (-1)))), (33, .inl (zq_is 35 5)), (35, .inl (zq_il 37 4)), (37, .inl (zq_push 38 (.int 1))), (38, .inl (zq_i2 39 (fun x y => x - y))), (39, .inl (zq_is 41 6)), (41, .inl (zq_il 43 6)), (43, .inl (zq_if_lt 46 83)), (46, .inl (zq_al 47 0)), (47, .inl (zq_il 49 6)), (49, .inr (.inl (2, .inr [(6, zn_X7_sortOf)]))), (52, .inl (zq_push 53 (.int 1))), (53, .inl (zq_ic_ne 56 60)), (56, .inl (zq_il 58 6)), (58, .inl (zq_is 60 5)), (60, .inl (zq_al 61 0)), (61, .inl (zq_il 63 6)), (63, .inr (.inl (2, .inr [(6, zn_X7_sortOf)]))), (66, .inl (zq_push 67 (.int 2))), (67, .inl (zq_ic_eq 70 77)), (70, .inl (zq_al 71 0)), (71, .inl (zq_il 73 6)), (73, .inl (zq_push 74 (.int (-1))))]
theorem zk_X7_runWith_0 : zq_oks zi_X7_runWith zc_X7_runWith_0 := zq_cons (zq_s_aload_n (n := 0) (by decide +kernel) rfl) <|
  zq_cons (zq_s_aload_n (n := 1) (by decide +kernel) rfl) <|
  zq_cons (zq_s_putr (index := 38) (by decide +kernel) zp_X7_38) <|
  zq_cons (zq_s_aload_n (n := 0) (by decide +kernel) rfl) <|
  zq_cons (zq_s_iload_n (n := 2) (by decide +kernel) rfl) <|
  zq_cons (zq_s_puti (index := 58) (by decide +kernel) zp_X7_58 (fun _ _ => ⟨rfl, rfl⟩)) <|
  zq_cons (zq_s_aload_n (n := 0) (by decide +kernel) rfl) <|
  zq_cons (zq_s_iload_n (n := 3) (by decide +kernel) rfl) <|
  zq_cons (zq_s_puti (index := 61) (by decide +kernel) zp_X7_61 (fun _ _ => ⟨rfl, rfl⟩)) <|
  zq_cons (zq_s_aload_n (n := 0) (by decide +kernel) rfl) <|
  zq_cons (List.forall_mem_cons.mpr ⟨⟨zi_X7_layHours, rfl, zq_s_callV (n := 0) (index := 64) (by decide +kernel) rfl zw_539 zw_541 zw_7 zw_89 zw_542 (by decide +kernel) (by decide +kernel) ⟨rfl, rfl⟩⟩, fun _ h => absurd h List.not_mem_nil⟩) <|
  zq_cons (zq_s_aload_n (n := 0) (by decide +kernel) rfl) <|
  zq_cons (List.forall_mem_cons.mpr ⟨⟨zi_X7_layTables, rfl, zq_s_callV (n := 0) (index := 67) (by decide +kernel) rfl zw_543 zw_545 zw_8 zw_89 zw_546 (by decide +kernel) (by decide +kernel) ⟨rfl, rfl⟩⟩, fun _ h => absurd h List.not_mem_nil⟩) <|
  zq_cons (zq_s_aload_n (n := 0) (by decide +kernel) rfl) <|
  zq_cons (zq_s_getf (index := 34) (by decide +kernel) zf_X7_34) <|
  zq_cons (zq_s_getf (index := 70) (by decide +kernel) zf_X7_70) <|
  zq_cons (zq_s_istore (by decide +kernel) (by decide +kernel)) <|
  zq_cons (zq_s_iconst (n := (-1)) (by decide +kernel) (by decide +kernel)) <|
  zq_cons (zq_s_istore (by decide +kernel) (by decide +kernel)) <|
  zq_cons (zq_s_iload (by decide +kernel)) <|
  zq_cons (zq_s_iconst (n := 1) (by decide +kernel) (by decide +kernel)) <|
  zq_cons (zq_s_isub (by decide +kernel)) <|
  zq_cons (zq_s_istore (by decide +kernel) (by decide +kernel)) <|
  zq_cons (zq_s_iload (by decide +kernel)) <|
  zq_cons (zq_s_if_lt (off := 40) (by decide +kernel) (by decide)) <|
  zq_cons (zq_s_aload_n (n := 0) (by decide +kernel) rfl) <|
  zq_cons (zq_s_iload (by decide +kernel)) <|
  zq_cons (List.forall_mem_cons.mpr ⟨⟨zi_X7_sortOf, rfl, zq_s_callV (n := 1) (index := 75) (by decide +kernel) rfl zw_555 zw_557 zw_9 zw_89 zw_558 (by decide +kernel) (by decide +kernel) ⟨rfl, rfl⟩⟩, fun _ h => absurd h List.not_mem_nil⟩) <|
  zq_cons (zq_s_iconst (n := 1) (by decide +kernel) (by decide +kernel)) <|
  zq_cons (zq_s_ic_ne (off := 7) (by decide +kernel) (by decide)) <|
  zq_cons (zq_s_iload (by decide +kernel)) <|
  zq_cons (zq_s_istore (by decide +kernel) (by decide +kernel)) <|
  zq_cons (zq_s_aload_n (n := 0) (by decide +kernel) rfl) <|
  zq_cons (zq_s_iload (by decide +kernel)) <|
  zq_cons (List.forall_mem_cons.mpr ⟨⟨zi_X7_sortOf, rfl, zq_s_callV (n := 1) (index := 75) (by decide +kernel) rfl zw_555 zw_557 zw_9 zw_89 zw_558 (by decide +kernel) (by decide +kernel) ⟨rfl, rfl⟩⟩, fun _ h => absurd h List.not_mem_nil⟩) <|
  zq_cons (zq_s_iconst (n := 2) (by decide +kernel) (by decide +kernel)) <|
  zq_cons (zq_s_ic_eq (off := 10) (by decide +kernel) (by decide)) <|
  zq_cons (zq_s_aload_n (n := 0) (by decide +kernel) rfl) <|
  zq_cons (zq_s_iload (by decide +kernel)) <|
  zq_cons (zq_s_iconst (n := (-1)) (by decide +kernel) (by decide +kernel)) <|
  zq_nil
def zc_X7_runWith_1 : List (Nat × zq_It) := [(74, .inr (.inl (3, .inr [(6, zn_X7_walk)]))), (77, .inl (zq_inc 80 6 (-1))), (80, .inl (zq_goto 41)), (83, .inl (zq_push 84 (.int 0))), (84, .inl (zq_is 86 6)), (86, .inl (zq_il 88 6)), (88, .inl (zq_il 90 4)), (90, .inl (zq_ic_ge 93 117)), (93, .inl (zq_al 94 0)), (94, .inl (zq_il 96 6)), (96, .inr (.inl (2, .inr [(6, zn_X7_sortOf)]))), (99, .inl (zq_push 100 (.int 2))), (100, .inl (zq_ic_ne 103 111)), (103, .inl (zq_al 104 0)), (104, .inl (zq_il 106 6)), (106, .inl (zq_il 108 5)), (108, .inr (.inl (3, .inr [(6, zn_X7_walk)]))), (111, .inl (zq_inc 114 6 1)), (114, .inl (zq_goto 86)), (117, .inr (.inr 0))]
theorem zk_X7_runWith_1 : zq_oks zi_X7_runWith zc_X7_runWith_1 := zq_cons (List.forall_mem_cons.mpr ⟨⟨zi_X7_walk, rfl, zq_s_callV (n := 2) (index := 79) (by decide +kernel) rfl zw_559 zw_561 zw_10 zw_89 zw_562 (by decide +kernel) (by decide +kernel) ⟨rfl, rfl⟩⟩, fun _ h => absurd h List.not_mem_nil⟩) <|
  zq_cons (zq_s_iinc (n := (-1)) (by decide +kernel) (by decide +kernel) (by decide +kernel)) <|
  zq_cons (zq_s_goto (off := (-39)) (by decide +kernel) (by decide)) <|
  zq_cons (zq_s_iconst (n := 0) (by decide +kernel) (by decide +kernel)) <|
  zq_cons (zq_s_istore (by decide +kernel) (by decide +kernel)) <|
  zq_cons (zq_s_iload (by decide +kernel)) <|
  zq_cons (zq_s_iload (by decide +kernel)) <|
  zq_cons (zq_s_ic_ge (off := 27) (by decide +kernel) (by decide)) <|
  zq_cons (zq_s_aload_n (n := 0) (by decide +kernel) rfl) <|
  zq_cons (zq_s_iload (by decide +kernel)) <|
  zq_cons (List.forall_mem_cons.mpr ⟨⟨zi_X7_sortOf, rfl, zq_s_callV (n := 1) (index := 75) (by decide +kernel) rfl zw_555 zw_557 zw_9 zw_89 zw_558 (by decide +kernel) (by decide +kernel) ⟨rfl, rfl⟩⟩, fun _ h => absurd h List.not_mem_nil⟩) <|
  zq_cons (zq_s_iconst (n := 2) (by decide +kernel) (by decide +kernel)) <|
  zq_cons (zq_s_ic_ne (off := 11) (by decide +kernel) (by decide)) <|
  zq_cons (zq_s_aload_n (n := 0) (by decide +kernel) rfl) <|
  zq_cons (zq_s_iload (by decide +kernel)) <|
  zq_cons (zq_s_iload (by decide +kernel)) <|
  zq_cons (List.forall_mem_cons.mpr ⟨⟨zi_X7_walk, rfl, zq_s_callV (n := 2) (index := 79) (by decide +kernel) rfl zw_559 zw_561 zw_10 zw_89 zw_562 (by decide +kernel) (by decide +kernel) ⟨rfl, rfl⟩⟩, fun _ h => absurd h List.not_mem_nil⟩) <|
  zq_cons (zq_s_iinc (n := 1) (by decide +kernel) (by decide +kernel) (by decide +kernel)) <|
  zq_cons (zq_s_goto (off := (-28)) (by decide +kernel) (by decide)) <|
  zq_cons (⟨rfl, (by decide +kernel)⟩) <|
  zq_nil
def zc_X7_runWith : List (Nat × zq_It) := zc_X7_runWith_0 ++ (zc_X7_runWith_1)
theorem zk_X7_runWith : zq_oks zi_X7_runWith zc_X7_runWith := zq_app zk_X7_runWith_0 (zk_X7_runWith_1)
def zc_X7_layHours_0 : List (Nat × zq_It) := [(0, .inl (zq_push 1 (.int (-1)))), (1, .inl (zq_is 2 1)), (2, .inl (zq_push 3 (.int 0))), (3, .inl (zq_is 4 2)), (4, .inl (zq_push 5 (.int 0))), (5, .inl (zq_is 6 3)), (6, .inl (zq_il 7 3)), (7, .inl (zq_push 9 (.int 24))), (9, .inl (zq_ic_ge 12 124)), (12, .inl (zq_push 13 (.int 0))), (13, .inl (zq_is 15 4)), (15, .inl (zq_il 17 4)), (17, .inl (zq_al 18 0)), (18, .inl (zq_getf 21 [(6, 8)])), (21, .inl (zq_getf 24 [(1, 3)])), (24, .inl (zq_ic_ge 27 104)), (27, .inl (zq_al 28 0)), (28, .inl (zq_getf 31 [(6, 8)])), (31, .inl (zq_getf 34 [(1, 1)])), (34, .inl (zq_il 36 4)), (36, .inl (zq_iald 37)), (37, .inl (zq_il 38 3)), (38, .inl (zq_ic_ne 41 98)), (41, .inl (zq_al 42 0)), (42, .inl (zq_getf 45 [(6, 9)])), (45, .inl (zq_il 47 4)), (47, .inl (zq_i2 48 (fun x y => x >>> (y &&& 31)))), (48, .inl (zq_push 49 (.int 1))), (49, .inl (zq_i2 50 (fun x y => x &&& y))), (50, .inl (zq_if_eq 53 56)), (53, .inl (zq_goto 98)), (56, .inl (zq_al 57 0)), (57, .inl (zq_getf 60 [(6, 8)])), (60, .inl (zq_getf 63 [(1, 0)])), (63, .inl (zq_il 65 4)), (65, .inl (zq_iald 66)), (66, .inl (zq_if_ne 69 83)), (69, .inl (zq_al 70 0)), (70, .inl (zq_getf 73 [(6, 8)])), (73, .inl (zq_getf 76 [(1, 2)]))]
theorem zk_X7_layHours_0 : zq_oks zi_X7_layHours zc_X7_layHours_0 := zq_cons (zq_s_iconst (n := (-1)) (by decide +kernel) (by decide +kernel)) <|
  zq_cons (zq_s_istore_n (n := 1) (by decide +kernel) rfl (by decide +kernel)) <|
  zq_cons (zq_s_iconst (n := 0) (by decide +kernel) (by decide +kernel)) <|
  zq_cons (zq_s_istore_n (n := 2) (by decide +kernel) rfl (by decide +kernel)) <|
  zq_cons (zq_s_iconst (n := 0) (by decide +kernel) (by decide +kernel)) <|
  zq_cons (zq_s_istore_n (n := 3) (by decide +kernel) rfl (by decide +kernel)) <|
  zq_cons (zq_s_iload_n (n := 3) (by decide +kernel) rfl) <|
  zq_cons (zq_s_bipush (n := 24) (by decide +kernel) (by decide +kernel)) <|
  zq_cons (zq_s_ic_ge (off := 115) (by decide +kernel) (by decide)) <|
  zq_cons (zq_s_iconst (n := 0) (by decide +kernel) (by decide +kernel)) <|
  zq_cons (zq_s_istore (by decide +kernel) (by decide +kernel)) <|
  zq_cons (zq_s_iload (by decide +kernel)) <|
  zq_cons (zq_s_aload_n (n := 0) (by decide +kernel) rfl) <|
  zq_cons (zq_s_getf (index := 38) (by decide +kernel) zf_X7_38) <|
  zq_cons (zq_s_getf (index := 83) (by decide +kernel) zf_X7_83) <|
  zq_cons (zq_s_ic_ge (off := 80) (by decide +kernel) (by decide)) <|
  zq_cons (zq_s_aload_n (n := 0) (by decide +kernel) rfl) <|
  zq_cons (zq_s_getf (index := 38) (by decide +kernel) zf_X7_38) <|
  zq_cons (zq_s_getf (index := 88) (by decide +kernel) zf_X7_88) <|
  zq_cons (zq_s_iload (by decide +kernel)) <|
  zq_cons (zq_s_iald (by decide +kernel)) <|
  zq_cons (zq_s_iload_n (n := 3) (by decide +kernel) rfl) <|
  zq_cons (zq_s_ic_ne (off := 60) (by decide +kernel) (by decide)) <|
  zq_cons (zq_s_aload_n (n := 0) (by decide +kernel) rfl) <|
  zq_cons (zq_s_getf (index := 58) (by decide +kernel) zf_X7_58) <|
  zq_cons (zq_s_iload (by decide +kernel)) <|
  zq_cons (zq_s_ishr (by decide +kernel)) <|
  zq_cons (zq_s_iconst (n := 1) (by decide +kernel) (by decide +kernel)) <|
  zq_cons (zq_s_iand (by decide +kernel)) <|
  zq_cons (zq_s_if_eq (off := 6) (by decide +kernel) (by decide)) <|
  zq_cons (zq_s_goto (off := 45) (by decide +kernel) (by decide)) <|
  zq_cons (zq_s_aload_n (n := 0) (by decide +kernel) rfl) <|
  zq_cons (zq_s_getf (index := 38) (by decide +kernel) zf_X7_38) <|
  zq_cons (zq_s_getf (index := 91) (by decide +kernel) zf_X7_91) <|
  zq_cons (zq_s_iload (by decide +kernel)) <|
  zq_cons (zq_s_iald (by decide +kernel)) <|
  zq_cons (zq_s_if_ne (off := 17) (by decide +kernel) (by decide)) <|
  zq_cons (zq_s_aload_n (n := 0) (by decide +kernel) rfl) <|
  zq_cons (zq_s_getf (index := 38) (by decide +kernel) zf_X7_38) <|
  zq_cons (zq_s_getf (index := 94) (by decide +kernel) zf_X7_94) <|
  zq_nil
def zc_X7_layHours_1 : List (Nat × zq_It) := [(76, .inl (zq_il 78 4)), (78, .inl (zq_iald 79)), (79, .inl (zq_is 80 1)), (80, .inl (zq_goto 98)), (83, .inl (zq_il 84 2)), (84, .inl (zq_push 85 (.int 1))), (85, .inl (zq_al 86 0)), (86, .inl (zq_getf 89 [(6, 8)])), (89, .inl (zq_getf 92 [(1, 2)])), (92, .inl (zq_il 94 4)), (94, .inl (zq_iald 95)), (95, .inl (zq_i2 96 (fun x y => x <<< (y &&& 31)))), (96, .inl (zq_i2 97 (fun x y => x ||| y))), (97, .inl (zq_is 98 2)), (98, .inl (zq_inc 101 4 1)), (101, .inl (zq_goto 15)), (104, .inl (zq_al 105 0)), (105, .inl (zq_getf 108 [(6, 3)])), (108, .inl (zq_il 109 3)), (109, .inl (zq_il 110 1)), (110, .inl (zq_iast 111)), (111, .inl (zq_al 112 0)), (112, .inl (zq_getf 115 [(6, 4)])), (115, .inl (zq_il 116 3)), (116, .inl (zq_il 117 2)), (117, .inl (zq_iast 118)), (118, .inl (zq_inc 121 3 1)), (121, .inl (zq_goto 6)), (124, .inr (.inr 0))]
theorem zk_X7_layHours_1 : zq_oks zi_X7_layHours zc_X7_layHours_1 := zq_cons (zq_s_iload (by decide +kernel)) <|
  zq_cons (zq_s_iald (by decide +kernel)) <|
  zq_cons (zq_s_istore_n (n := 1) (by decide +kernel) rfl (by decide +kernel)) <|
  zq_cons (zq_s_goto (off := 18) (by decide +kernel) (by decide)) <|
  zq_cons (zq_s_iload_n (n := 2) (by decide +kernel) rfl) <|
  zq_cons (zq_s_iconst (n := 1) (by decide +kernel) (by decide +kernel)) <|
  zq_cons (zq_s_aload_n (n := 0) (by decide +kernel) rfl) <|
  zq_cons (zq_s_getf (index := 38) (by decide +kernel) zf_X7_38) <|
  zq_cons (zq_s_getf (index := 94) (by decide +kernel) zf_X7_94) <|
  zq_cons (zq_s_iload (by decide +kernel)) <|
  zq_cons (zq_s_iald (by decide +kernel)) <|
  zq_cons (zq_s_ishl (by decide +kernel)) <|
  zq_cons (zq_s_ior (by decide +kernel)) <|
  zq_cons (zq_s_istore_n (n := 2) (by decide +kernel) rfl (by decide +kernel)) <|
  zq_cons (zq_s_iinc (n := 1) (by decide +kernel) (by decide +kernel) (by decide +kernel)) <|
  zq_cons (zq_s_goto (off := (-86)) (by decide +kernel) (by decide)) <|
  zq_cons (zq_s_aload_n (n := 0) (by decide +kernel) rfl) <|
  zq_cons (zq_s_getf (index := 15) (by decide +kernel) zf_X7_15) <|
  zq_cons (zq_s_iload_n (n := 3) (by decide +kernel) rfl) <|
  zq_cons (zq_s_iload_n (n := 1) (by decide +kernel) rfl) <|
  zq_cons (zq_s_iast (by decide +kernel)) <|
  zq_cons (zq_s_aload_n (n := 0) (by decide +kernel) rfl) <|
  zq_cons (zq_s_getf (index := 18) (by decide +kernel) zf_X7_18) <|
  zq_cons (zq_s_iload_n (n := 3) (by decide +kernel) rfl) <|
  zq_cons (zq_s_iload_n (n := 2) (by decide +kernel) rfl) <|
  zq_cons (zq_s_iast (by decide +kernel)) <|
  zq_cons (zq_s_iinc (n := 1) (by decide +kernel) (by decide +kernel) (by decide +kernel)) <|
  zq_cons (zq_s_goto (off := (-115)) (by decide +kernel) (by decide)) <|
  zq_cons (⟨rfl, (by decide +kernel)⟩) <|
  zq_nil
def zc_X7_layHours : List (Nat × zq_It) := zc_X7_layHours_0 ++ (zc_X7_layHours_1)
theorem zk_X7_layHours : zq_oks zi_X7_layHours zc_X7_layHours := zq_app zk_X7_layHours_0 (zk_X7_layHours_1)
def zc_X7_layTables_0 : List (Nat × zq_It) := [(0, .inl (zq_push 1 (.int 0))), (1, .inl (zq_is 2 1)), (2, .inl (zq_push 3 (.int 0))), (3, .inl (zq_is 4 2)), (4, .inl (zq_il 5 2)), (5, .inl (zq_push 7 (.int 24))), (7, .inl (zq_ic_ge 10 128)), (10, .inl (zq_il 11 2)), (11, .inl (zq_if_le 14 40)), (14, .inl (zq_al 15 0)), (15, .inl (zq_getf 18 [(6, 4)])), (18, .inl (zq_il 19 2)), (19, .inl (zq_iald 20)), (20, .inl (zq_al 21 0)), (21, .inl (zq_getf 24 [(6, 4)])), (24, .inl (zq_il 25 2)), (25, .inl (zq_push 26 (.int 1))), (26, .inl (zq_i2 27 (fun x y => x - y))), (27, .inl (zq_iald 28)), (28, .inl (zq_ic_eq 31 40)), (31, .inl (zq_il 32 1)), (32, .inl (zq_push 34 (.int 8))), (34, .inl (zq_ic_ge 37 40)), (37, .inl (zq_inc 40 1 1)), (40, .inl (zq_al 41 0)), (41, .inl (zq_getf 44 [(6, 5)])), (44, .inl (zq_il 45 2)), (45, .inl (zq_il 46 1)), (46, .inl (zq_push 48 (.int 64))), (48, .inl (zq_i2 49 (fun x y => x * y))), (49, .inl (zq_iast 50)), (50, .inl (zq_al 51 0)), (51, .inl (zq_getf 54 [(6, 7)])), (54, .inl (zq_il 55 1)), (55, .inl (zq_iald 56)), (56, .inl (zq_al 57 0)), (57, .inl (zq_getf 60 [(6, 4)])), (60, .inl (zq_il 61 2)), (61, .inl (zq_iald 62)), (62, .inl (zq_ic_eq 65 122))]
theorem zk_X7_layTables_0 : zq_oks zi_X7_layTables zc_X7_layTables_0 := zq_cons (zq_s_iconst (n := 0) (by decide +kernel) (by decide +kernel)) <|
  zq_cons (zq_s_istore_n (n := 1) (by decide +kernel) rfl (by decide +kernel)) <|
  zq_cons (zq_s_iconst (n := 0) (by decide +kernel) (by decide +kernel)) <|
  zq_cons (zq_s_istore_n (n := 2) (by decide +kernel) rfl (by decide +kernel)) <|
  zq_cons (zq_s_iload_n (n := 2) (by decide +kernel) rfl) <|
  zq_cons (zq_s_bipush (n := 24) (by decide +kernel) (by decide +kernel)) <|
  zq_cons (zq_s_ic_ge (off := 121) (by decide +kernel) (by decide)) <|
  zq_cons (zq_s_iload_n (n := 2) (by decide +kernel) rfl) <|
  zq_cons (zq_s_if_le (off := 29) (by decide +kernel) (by decide)) <|
  zq_cons (zq_s_aload_n (n := 0) (by decide +kernel) rfl) <|
  zq_cons (zq_s_getf (index := 18) (by decide +kernel) zf_X7_18) <|
  zq_cons (zq_s_iload_n (n := 2) (by decide +kernel) rfl) <|
  zq_cons (zq_s_iald (by decide +kernel)) <|
  zq_cons (zq_s_aload_n (n := 0) (by decide +kernel) rfl) <|
  zq_cons (zq_s_getf (index := 18) (by decide +kernel) zf_X7_18) <|
  zq_cons (zq_s_iload_n (n := 2) (by decide +kernel) rfl) <|
  zq_cons (zq_s_iconst (n := 1) (by decide +kernel) (by decide +kernel)) <|
  zq_cons (zq_s_isub (by decide +kernel)) <|
  zq_cons (zq_s_iald (by decide +kernel)) <|
  zq_cons (zq_s_ic_eq (off := 12) (by decide +kernel) (by decide)) <|
  zq_cons (zq_s_iload_n (n := 1) (by decide +kernel) rfl) <|
  zq_cons (zq_s_bipush (n := 8) (by decide +kernel) (by decide +kernel)) <|
  zq_cons (zq_s_ic_ge (off := 6) (by decide +kernel) (by decide)) <|
  zq_cons (zq_s_iinc (n := 1) (by decide +kernel) (by decide +kernel) (by decide +kernel)) <|
  zq_cons (zq_s_aload_n (n := 0) (by decide +kernel) rfl) <|
  zq_cons (zq_s_getf (index := 21) (by decide +kernel) zf_X7_21) <|
  zq_cons (zq_s_iload_n (n := 2) (by decide +kernel) rfl) <|
  zq_cons (zq_s_iload_n (n := 1) (by decide +kernel) rfl) <|
  zq_cons (zq_s_bipush (n := 64) (by decide +kernel) (by decide +kernel)) <|
  zq_cons (zq_s_imul (by decide +kernel)) <|
  zq_cons (zq_s_iast (by decide +kernel)) <|
  zq_cons (zq_s_aload_n (n := 0) (by decide +kernel) rfl) <|
  zq_cons (zq_s_getf (index := 27) (by decide +kernel) zf_X7_27) <|
  zq_cons (zq_s_iload_n (n := 1) (by decide +kernel) rfl) <|
  zq_cons (zq_s_iald (by decide +kernel)) <|
  zq_cons (zq_s_aload_n (n := 0) (by decide +kernel) rfl) <|
  zq_cons (zq_s_getf (index := 18) (by decide +kernel) zf_X7_18) <|
  zq_cons (zq_s_iload_n (n := 2) (by decide +kernel) rfl) <|
  zq_cons (zq_s_iald (by decide +kernel)) <|
  zq_cons (zq_s_ic_eq (off := 60) (by decide +kernel) (by decide)) <|
  zq_nil
def zc_X7_layTables_1 : List (Nat × zq_It) := [(65, .inl (zq_al 66 0)), (66, .inl (zq_getf 69 [(6, 7)])), (69, .inl (zq_il 70 1)), (70, .inl (zq_al 71 0)), (71, .inl (zq_getf 74 [(6, 4)])), (74, .inl (zq_il 75 2)), (75, .inl (zq_iald 76)), (76, .inl (zq_iast 77)), (77, .inl (zq_al 78 0)), (78, .inl (zq_getf 81 [(6, 0)])), (81, .inl (zq_al 82 0)), (82, .inl (zq_getf 85 [(6, 4)])), (85, .inl (zq_il 86 2)), (86, .inl (zq_iald 87)), (87, .inr (.inl (2, .inr [(0, zn_X0_openAllBut)]))), (90, .inl (zq_push 91 (.int 0))), (91, .inl (zq_is 92 3)), (92, .inl (zq_il 93 3)), (93, .inl (zq_push 95 (.int 8))), (95, .inl (zq_ic_ge 98 122)), (98, .inl (zq_al 99 0)), (99, .inl (zq_getf 102 [(6, 0)])), (102, .inl (zq_il 103 3)), (103, .inl (zq_al 104 0)), (104, .inl (zq_getf 107 [(6, 6)])), (107, .inl (zq_al 108 0)), (108, .inl (zq_getf 111 [(6, 5)])), (111, .inl (zq_il 112 2)), (112, .inl (zq_iald 113)), (113, .inr (.inl (4, .inr [(0, zn_X0_fillStepsTo)]))), (116, .inl (zq_inc 119 3 1)), (119, .inl (zq_goto 92)), (122, .inl (zq_inc 125 2 1)), (125, .inl (zq_goto 4)), (128, .inr (.inr 0))]
theorem zk_X7_layTables_1 : zq_oks zi_X7_layTables zc_X7_layTables_1 := zq_cons (zq_s_aload_n (n := 0) (by decide +kernel) rfl) <|
  zq_cons (zq_s_getf (index := 27) (by decide +kernel) zf_X7_27) <|
  zq_cons (zq_s_iload_n (n := 1) (by decide +kernel) rfl) <|
  zq_cons (zq_s_aload_n (n := 0) (by decide +kernel) rfl) <|
  zq_cons (zq_s_getf (index := 18) (by decide +kernel) zf_X7_18) <|
  zq_cons (zq_s_iload_n (n := 2) (by decide +kernel) rfl) <|
  zq_cons (zq_s_iald (by decide +kernel)) <|
  zq_cons (zq_s_iast (by decide +kernel)) <|
  zq_cons (zq_s_aload_n (n := 0) (by decide +kernel) rfl) <|
  zq_cons (zq_s_getf (index := 30) (by decide +kernel) zf_X7_30) <|
  zq_cons (zq_s_aload_n (n := 0) (by decide +kernel) rfl) <|
  zq_cons (zq_s_getf (index := 18) (by decide +kernel) zf_X7_18) <|
  zq_cons (zq_s_iload_n (n := 2) (by decide +kernel) rfl) <|
  zq_cons (zq_s_iald (by decide +kernel)) <|
  zq_cons (List.forall_mem_cons.mpr ⟨⟨zi_X0_openAllBut, rfl, zq_s_callV (n := 1) (index := 97) (by decide +kernel) rfl zw_547 zw_548 zw_549 zw_82 zw_550 (by decide +kernel) (by decide +kernel) ⟨rfl, rfl⟩⟩, fun _ h => absurd h List.not_mem_nil⟩) <|
  zq_cons (zq_s_iconst (n := 0) (by decide +kernel) (by decide +kernel)) <|
  zq_cons (zq_s_istore_n (n := 3) (by decide +kernel) rfl (by decide +kernel)) <|
  zq_cons (zq_s_iload_n (n := 3) (by decide +kernel) rfl) <|
  zq_cons (zq_s_bipush (n := 8) (by decide +kernel) (by decide +kernel)) <|
  zq_cons (zq_s_ic_ge (off := 27) (by decide +kernel) (by decide)) <|
  zq_cons (zq_s_aload_n (n := 0) (by decide +kernel) rfl) <|
  zq_cons (zq_s_getf (index := 30) (by decide +kernel) zf_X7_30) <|
  zq_cons (zq_s_iload_n (n := 3) (by decide +kernel) rfl) <|
  zq_cons (zq_s_aload_n (n := 0) (by decide +kernel) rfl) <|
  zq_cons (zq_s_getf (index := 24) (by decide +kernel) zf_X7_24) <|
  zq_cons (zq_s_aload_n (n := 0) (by decide +kernel) rfl) <|
  zq_cons (zq_s_getf (index := 21) (by decide +kernel) zf_X7_21) <|
  zq_cons (zq_s_iload_n (n := 2) (by decide +kernel) rfl) <|
  zq_cons (zq_s_iald (by decide +kernel)) <|
  zq_cons (List.forall_mem_cons.mpr ⟨⟨zi_X0_fillStepsTo, rfl, zq_s_callV (n := 3) (index := 103) (by decide +kernel) rfl zw_551 zw_552 zw_553 zw_82 zw_554 (by decide +kernel) (by decide +kernel) ⟨rfl, rfl⟩⟩, fun _ h => absurd h List.not_mem_nil⟩) <|
  zq_cons (zq_s_iinc (n := 1) (by decide +kernel) (by decide +kernel) (by decide +kernel)) <|
  zq_cons (zq_s_goto (off := (-27)) (by decide +kernel) (by decide)) <|
  zq_cons (zq_s_iinc (n := 1) (by decide +kernel) (by decide +kernel) (by decide +kernel)) <|
  zq_cons (zq_s_goto (off := (-121)) (by decide +kernel) (by decide)) <|
  zq_cons (⟨rfl, (by decide +kernel)⟩) <|
  zq_nil
def zc_X7_layTables : List (Nat × zq_It) := zc_X7_layTables_0 ++ (zc_X7_layTables_1)
theorem zk_X7_layTables : zq_oks zi_X7_layTables zc_X7_layTables := zq_app zk_X7_layTables_0 (zk_X7_layTables_1)
def zc_X7_walk_0 : List (Nat × zq_It) := [(0, .inl (zq_al 1 0)), (1, .inl (zq_il 2 1)), (2, .inr (.inl (2, .inr [(6, zn_X7_sortOf)]))), (5, .inl (zq_is 6 3)), (6, .inl (zq_al 7 0)), (7, .inl (zq_il 8 1)), (8, .inr (.inl (2, .inr [(6, zn_X7_bedOf)]))), (11, .inl (zq_is 13 4)), (13, .inl (zq_al 14 0)), (14, .inl (zq_getf 17 [(6, 1)])), (17, .inl (zq_getf 20 [(3, 7)])), (20, .inl (zq_il 21 1)), (21, .inl (zq_iald 22)), (22, .inl (zq_is 24 5)), (24, .inl (zq_il 26 5)), (26, .inl (zq_is 28 6)), (28, .inl (zq_il 30 4)), (30, .inl (zq_is 32 7)), (32, .inl (zq_push 33 (.int 0))), (33, .inl (zq_is 35 8)), (35, .inl (zq_il 37 8)), (37, .inl (zq_push 39 (.int 24))), (39, .inl (zq_ic_ge 42 169)), (42, .inl (zq_il 43 3)), (43, .inl (zq_push 44 (.int 2))), (44, .inl (zq_ic_ne 47 74)), (47, .inl (zq_il 48 2)), (48, .inl (zq_push 49 (.int (-1)))), (49, .inl (zq_ic_eq 52 74)), (52, .inl (zq_al 53 0)), (53, .inl (zq_il 55 8)), (55, .inl (zq_al 56 0)), (56, .inl (zq_getf 59 [(6, 10)])), (59, .inl (zq_i2 60 (fun x y => x + y))), (60, .inl (zq_push 62 (.int 23))), (62, .inl (zq_mm 65 (fun x y => if y < x then y else x))), (65, .inl (zq_il 66 2)), (66, .inr (.inl (3, .inr [(6, zn_X7_roomOf)]))), (69, .inl (zq_is 71 7)), (71, .inl (zq_goto 98))]
theorem zk_X7_walk_0 : zq_oks zi_X7_walk zc_X7_walk_0 := zq_cons (zq_s_aload_n (n := 0) (by decide +kernel) rfl) <|
  zq_cons (zq_s_iload_n (n := 1) (by decide +kernel) rfl) <|
  zq_cons (List.forall_mem_cons.mpr ⟨⟨zi_X7_sortOf, rfl, zq_s_callV (n := 1) (index := 75) (by decide +kernel) rfl zw_555 zw_557 zw_9 zw_89 zw_558 (by decide +kernel) (by decide +kernel) ⟨rfl, rfl⟩⟩, fun _ h => absurd h List.not_mem_nil⟩) <|
  zq_cons (zq_s_istore_n (n := 3) (by decide +kernel) rfl (by decide +kernel)) <|
  zq_cons (zq_s_aload_n (n := 0) (by decide +kernel) rfl) <|
  zq_cons (zq_s_iload_n (n := 1) (by decide +kernel) rfl) <|
  zq_cons (List.forall_mem_cons.mpr ⟨⟨zi_X7_bedOf, rfl, zq_s_callV (n := 1) (index := 107) (by decide +kernel) rfl zw_563 zw_565 zw_11 zw_89 zw_566 (by decide +kernel) (by decide +kernel) ⟨rfl, rfl⟩⟩, fun _ h => absurd h List.not_mem_nil⟩) <|
  zq_cons (zq_s_istore (by decide +kernel) (by decide +kernel)) <|
  zq_cons (zq_s_aload_n (n := 0) (by decide +kernel) rfl) <|
  zq_cons (zq_s_getf (index := 34) (by decide +kernel) zf_X7_34) <|
  zq_cons (zq_s_getf (index := 110) (by decide +kernel) zf_X7_110) <|
  zq_cons (zq_s_iload_n (n := 1) (by decide +kernel) rfl) <|
  zq_cons (zq_s_iald (by decide +kernel)) <|
  zq_cons (zq_s_istore (by decide +kernel) (by decide +kernel)) <|
  zq_cons (zq_s_iload (by decide +kernel)) <|
  zq_cons (zq_s_istore (by decide +kernel) (by decide +kernel)) <|
  zq_cons (zq_s_iload (by decide +kernel)) <|
  zq_cons (zq_s_istore (by decide +kernel) (by decide +kernel)) <|
  zq_cons (zq_s_iconst (n := 0) (by decide +kernel) (by decide +kernel)) <|
  zq_cons (zq_s_istore (by decide +kernel) (by decide +kernel)) <|
  zq_cons (zq_s_iload (by decide +kernel)) <|
  zq_cons (zq_s_bipush (n := 24) (by decide +kernel) (by decide +kernel)) <|
  zq_cons (zq_s_ic_ge (off := 130) (by decide +kernel) (by decide)) <|
  zq_cons (zq_s_iload_n (n := 3) (by decide +kernel) rfl) <|
  zq_cons (zq_s_iconst (n := 2) (by decide +kernel) (by decide +kernel)) <|
  zq_cons (zq_s_ic_ne (off := 30) (by decide +kernel) (by decide)) <|
  zq_cons (zq_s_iload_n (n := 2) (by decide +kernel) rfl) <|
  zq_cons (zq_s_iconst (n := (-1)) (by decide +kernel) (by decide +kernel)) <|
  zq_cons (zq_s_ic_eq (off := 25) (by decide +kernel) (by decide)) <|
  zq_cons (zq_s_aload_n (n := 0) (by decide +kernel) rfl) <|
  zq_cons (zq_s_iload (by decide +kernel)) <|
  zq_cons (zq_s_aload_n (n := 0) (by decide +kernel) rfl) <|
  zq_cons (zq_s_getf (index := 61) (by decide +kernel) zf_X7_61) <|
  zq_cons (zq_s_iadd (by decide +kernel)) <|
  zq_cons (zq_s_bipush (n := 23) (by decide +kernel) (by decide +kernel)) <|
  zq_cons (zq_s_mmin (index := 113) (by decide +kernel) zw_567 zw_112 zw_83 zw_113 (by decide) (by decide)) <|
  zq_cons (zq_s_iload_n (n := 2) (by decide +kernel) rfl) <|
  zq_cons (List.forall_mem_cons.mpr ⟨⟨zi_X7_roomOf, rfl, zq_s_callV (n := 2) (index := 119) (by decide +kernel) rfl zw_568 zw_569 zw_570 zw_89 zw_571 (by decide +kernel) (by decide +kernel) ⟨rfl, rfl⟩⟩, fun _ h => absurd h List.not_mem_nil⟩) <|
  zq_cons (zq_s_istore (by decide +kernel) (by decide +kernel)) <|
  zq_cons (zq_s_goto (off := 27) (by decide +kernel) (by decide)) <|
  zq_nil
def zc_X7_walk_1 : List (Nat × zq_It) := [(74, .inl (zq_il 75 3)), (75, .inl (zq_if_ne 78 98)), (78, .inl (zq_al 79 0)), (79, .inl (zq_getf 82 [(6, 3)])), (82, .inl (zq_il 84 8)), (84, .inl (zq_iald 85)), (85, .inl (zq_push 86 (.int (-1)))), (86, .inl (zq_ic_eq 89 98)), (89, .inl (zq_al 90 0)), (90, .inl (zq_getf 93 [(6, 3)])), (93, .inl (zq_il 95 8)), (95, .inl (zq_iald 96)), (96, .inl (zq_is 98 7)), (98, .inl (zq_al 99 0)), (99, .inl (zq_getf 102 [(6, 6)])), (102, .inl (zq_al 103 0)), (103, .inl (zq_getf 106 [(6, 5)])), (106, .inl (zq_il 108 8)), (108, .inl (zq_iald 109)), (109, .inl (zq_il 111 6)), (111, .inl (zq_push 113 (.int 8))), (113, .inl (zq_i2 114 (fun x y => x * y))), (114, .inl (zq_i2 115 (fun x y => x + y))), (115, .inl (zq_il 117 7)), (117, .inl (zq_i2 118 (fun x y => x + y))), (118, .inl (zq_iald 119)), (119, .inl (zq_is 121 6)), (121, .inl (zq_al 122 0)), (122, .inl (zq_getf 125 [(6, 2)])), (125, .inl (zq_il 127 8)), (127, .inl (zq_push 129 (.int 8))), (129, .inl (zq_i2 130 (fun x y => x * y))), (130, .inl (zq_il 131 1)), (131, .inl (zq_i2 132 (fun x y => x + y))), (132, .inl (zq_il 134 6)), (134, .inl (zq_iast 135)), (135, .inl (zq_il 136 3)), (136, .inl (zq_push 137 (.int 1))), (137, .inl (zq_ic_ne 140 163)), (140, .inl (zq_il 142 6))]
theorem zk_X7_walk_1 : zq_oks zi_X7_walk zc_X7_walk_1 := zq_cons (zq_s_iload_n (n := 3) (by decide +kernel) rfl) <|
  zq_cons (zq_s_if_ne (off := 23) (by decide +kernel) (by decide)) <|
  zq_cons (zq_s_aload_n (n := 0) (by decide +kernel) rfl) <|
  zq_cons (zq_s_getf (index := 15) (by decide +kernel) zf_X7_15) <|
  zq_cons (zq_s_iload (by decide +kernel)) <|
  zq_cons (zq_s_iald (by decide +kernel)) <|
  zq_cons (zq_s_iconst (n := (-1)) (by decide +kernel) (by decide +kernel)) <|
  zq_cons (zq_s_ic_eq (off := 12) (by decide +kernel) (by decide)) <|
  zq_cons (zq_s_aload_n (n := 0) (by decide +kernel) rfl) <|
  zq_cons (zq_s_getf (index := 15) (by decide +kernel) zf_X7_15) <|
  zq_cons (zq_s_iload (by decide +kernel)) <|
  zq_cons (zq_s_iald (by decide +kernel)) <|
  zq_cons (zq_s_istore (by decide +kernel) (by decide +kernel)) <|
  zq_cons (zq_s_aload_n (n := 0) (by decide +kernel) rfl) <|
  zq_cons (zq_s_getf (index := 24) (by decide +kernel) zf_X7_24) <|
  zq_cons (zq_s_aload_n (n := 0) (by decide +kernel) rfl) <|
  zq_cons (zq_s_getf (index := 21) (by decide +kernel) zf_X7_21) <|
  zq_cons (zq_s_iload (by decide +kernel)) <|
  zq_cons (zq_s_iald (by decide +kernel)) <|
  zq_cons (zq_s_iload (by decide +kernel)) <|
  zq_cons (zq_s_bipush (n := 8) (by decide +kernel) (by decide +kernel)) <|
  zq_cons (zq_s_imul (by decide +kernel)) <|
  zq_cons (zq_s_iadd (by decide +kernel)) <|
  zq_cons (zq_s_iload (by decide +kernel)) <|
  zq_cons (zq_s_iadd (by decide +kernel)) <|
  zq_cons (zq_s_iald (by decide +kernel)) <|
  zq_cons (zq_s_istore (by decide +kernel) (by decide +kernel)) <|
  zq_cons (zq_s_aload_n (n := 0) (by decide +kernel) rfl) <|
  zq_cons (zq_s_getf (index := 9) (by decide +kernel) zf_X7_9) <|
  zq_cons (zq_s_iload (by decide +kernel)) <|
  zq_cons (zq_s_bipush (n := 8) (by decide +kernel) (by decide +kernel)) <|
  zq_cons (zq_s_imul (by decide +kernel)) <|
  zq_cons (zq_s_iload_n (n := 1) (by decide +kernel) rfl) <|
  zq_cons (zq_s_iadd (by decide +kernel)) <|
  zq_cons (zq_s_iload (by decide +kernel)) <|
  zq_cons (zq_s_iast (by decide +kernel)) <|
  zq_cons (zq_s_iload_n (n := 3) (by decide +kernel) rfl) <|
  zq_cons (zq_s_iconst (n := 1) (by decide +kernel) (by decide +kernel)) <|
  zq_cons (zq_s_ic_ne (off := 26) (by decide +kernel) (by decide)) <|
  zq_cons (zq_s_iload (by decide +kernel)) <|
  zq_nil
def zc_X7_walk_2 : List (Nat × zq_It) := [(142, .inl (zq_il 144 7)), (144, .inl (zq_ic_ne 147 163)), (147, .inl (zq_il 149 7)), (149, .inl (zq_il 151 4)), (151, .inl (zq_ic_ne 154 159)), (154, .inl (zq_il 156 5)), (156, .inl (zq_goto 161)), (159, .inl (zq_il 161 4)), (161, .inl (zq_is 163 7)), (163, .inl (zq_inc 166 8 1)), (166, .inl (zq_goto 35)), (169, .inr (.inr 0))]
theorem zk_X7_walk_2 : zq_oks zi_X7_walk zc_X7_walk_2 := zq_cons (zq_s_iload (by decide +kernel)) <|
  zq_cons (zq_s_ic_ne (off := 19) (by decide +kernel) (by decide)) <|
  zq_cons (zq_s_iload (by decide +kernel)) <|
  zq_cons (zq_s_iload (by decide +kernel)) <|
  zq_cons (zq_s_ic_ne (off := 8) (by decide +kernel) (by decide)) <|
  zq_cons (zq_s_iload (by decide +kernel)) <|
  zq_cons (zq_s_goto (off := 5) (by decide +kernel) (by decide)) <|
  zq_cons (zq_s_iload (by decide +kernel)) <|
  zq_cons (zq_s_istore (by decide +kernel) (by decide +kernel)) <|
  zq_cons (zq_s_iinc (n := 1) (by decide +kernel) (by decide +kernel) (by decide +kernel)) <|
  zq_cons (zq_s_goto (off := (-131)) (by decide +kernel) (by decide)) <|
  zq_cons (⟨rfl, (by decide +kernel)⟩) <|
  zq_nil
def zc_X7_walk : List (Nat × zq_It) := zc_X7_walk_0 ++ (zc_X7_walk_1 ++ (zc_X7_walk_2))
theorem zk_X7_walk : zq_oks zi_X7_walk zc_X7_walk := zq_app zk_X7_walk_0 (zq_app zk_X7_walk_1 (zk_X7_walk_2))
def zc_X7_sortOf : List (Nat × zq_It) := [(0, .inl (zq_il 1 1)), (1, .inl (zq_al 2 0)), (2, .inl (zq_getf 5 [(6, 11)])), (5, .inl (zq_ic_ne 8 23)), (8, .inl (zq_al 9 0)), (9, .inl (zq_getf 12 [(6, 12)])), (12, .inl (zq_push 13 (.int (-1)))), (13, .inl (zq_ic_eq 16 23)), (16, .inl (zq_al 17 0)), (17, .inl (zq_getf 20 [(6, 12)])), (20, .inl (zq_goto 32)), (23, .inl (zq_al 24 0)), (24, .inl (zq_getf 27 [(6, 1)])), (27, .inl (zq_getf 30 [(3, 6)])), (30, .inl (zq_il 31 1)), (31, .inl (zq_iald 32)), (32, .inr (.inr 1))]
theorem zk_X7_sortOf : zq_oks zi_X7_sortOf zc_X7_sortOf := zq_cons (zq_s_iload_n (n := 1) (by decide +kernel) rfl) <|
  zq_cons (zq_s_aload_n (n := 0) (by decide +kernel) rfl) <|
  zq_cons (zq_s_getf (index := 42) (by decide +kernel) zf_X7_42) <|
  zq_cons (zq_s_ic_ne (off := 18) (by decide +kernel) (by decide)) <|
  zq_cons (zq_s_aload_n (n := 0) (by decide +kernel) rfl) <|
  zq_cons (zq_s_getf (index := 46) (by decide +kernel) zf_X7_46) <|
  zq_cons (zq_s_iconst (n := (-1)) (by decide +kernel) (by decide +kernel)) <|
  zq_cons (zq_s_ic_eq (off := 10) (by decide +kernel) (by decide)) <|
  zq_cons (zq_s_aload_n (n := 0) (by decide +kernel) rfl) <|
  zq_cons (zq_s_getf (index := 46) (by decide +kernel) zf_X7_46) <|
  zq_cons (zq_s_goto (off := 12) (by decide +kernel) (by decide)) <|
  zq_cons (zq_s_aload_n (n := 0) (by decide +kernel) rfl) <|
  zq_cons (zq_s_getf (index := 34) (by decide +kernel) zf_X7_34) <|
  zq_cons (zq_s_getf (index := 122) (by decide +kernel) zf_X7_122) <|
  zq_cons (zq_s_iload_n (n := 1) (by decide +kernel) rfl) <|
  zq_cons (zq_s_iald (by decide +kernel)) <|
  zq_cons (⟨rfl, (by decide +kernel)⟩) <|
  zq_nil
def zc_X7_bedOf : List (Nat × zq_It) := [(0, .inl (zq_il 1 1)), (1, .inl (zq_al 2 0)), (2, .inl (zq_getf 5 [(6, 11)])), (5, .inl (zq_ic_ne 8 23)), (8, .inl (zq_al 9 0)), (9, .inl (zq_getf 12 [(6, 13)])), (12, .inl (zq_push 13 (.int (-1)))), (13, .inl (zq_ic_eq 16 23)), (16, .inl (zq_al 17 0)), (17, .inl (zq_getf 20 [(6, 13)])), (20, .inl (zq_goto 32)), (23, .inl (zq_al 24 0)), (24, .inl (zq_getf 27 [(6, 1)])), (27, .inl (zq_getf 30 [(3, 8)])), (30, .inl (zq_il 31 1)), (31, .inl (zq_iald 32)), (32, .inr (.inr 1))]
theorem zk_X7_bedOf : zq_oks zi_X7_bedOf zc_X7_bedOf := zq_cons (zq_s_iload_n (n := 1) (by decide +kernel) rfl) <|
  zq_cons (zq_s_aload_n (n := 0) (by decide +kernel) rfl) <|
  zq_cons (zq_s_getf (index := 42) (by decide +kernel) zf_X7_42) <|
  zq_cons (zq_s_ic_ne (off := 18) (by decide +kernel) (by decide)) <|
  zq_cons (zq_s_aload_n (n := 0) (by decide +kernel) rfl) <|
  zq_cons (zq_s_getf (index := 49) (by decide +kernel) zf_X7_49) <|
  zq_cons (zq_s_iconst (n := (-1)) (by decide +kernel) (by decide +kernel)) <|
  zq_cons (zq_s_ic_eq (off := 10) (by decide +kernel) (by decide)) <|
  zq_cons (zq_s_aload_n (n := 0) (by decide +kernel) rfl) <|
  zq_cons (zq_s_getf (index := 49) (by decide +kernel) zf_X7_49) <|
  zq_cons (zq_s_goto (off := 12) (by decide +kernel) (by decide)) <|
  zq_cons (zq_s_aload_n (n := 0) (by decide +kernel) rfl) <|
  zq_cons (zq_s_getf (index := 34) (by decide +kernel) zf_X7_34) <|
  zq_cons (zq_s_getf (index := 125) (by decide +kernel) zf_X7_125) <|
  zq_cons (zq_s_iload_n (n := 1) (by decide +kernel) rfl) <|
  zq_cons (zq_s_iald (by decide +kernel)) <|
  zq_cons (⟨rfl, (by decide +kernel)⟩) <|
  zq_nil
def zc_X7_roomOf : List (Nat × zq_It) := [(0, .inl (zq_al 1 0)), (1, .inl (zq_getf 4 [(6, 2)])), (4, .inl (zq_il 5 1)), (5, .inl (zq_push 7 (.int 8))), (7, .inl (zq_i2 8 (fun x y => x * y))), (8, .inl (zq_il 9 2)), (9, .inl (zq_i2 10 (fun x y => x + y))), (10, .inl (zq_iald 11)), (11, .inr (.inr 1))]
theorem zk_X7_roomOf : zq_oks zi_X7_roomOf zc_X7_roomOf := zq_cons (zq_s_aload_n (n := 0) (by decide +kernel) rfl) <|
  zq_cons (zq_s_getf (index := 9) (by decide +kernel) zf_X7_9) <|
  zq_cons (zq_s_iload_n (n := 1) (by decide +kernel) rfl) <|
  zq_cons (zq_s_bipush (n := 8) (by decide +kernel) (by decide +kernel)) <|
  zq_cons (zq_s_imul (by decide +kernel)) <|
  zq_cons (zq_s_iload_n (n := 2) (by decide +kernel) rfl) <|
  zq_cons (zq_s_iadd (by decide +kernel)) <|
  zq_cons (zq_s_iald (by decide +kernel)) <|
  zq_cons (⟨rfl, (by decide +kernel)⟩) <|
  zq_nil
def zc_X7_whoIn : List (Nat × zq_It) := [(0, .inl (zq_push 1 (.int 0))), (1, .inl (zq_is 2 3)), (2, .inl (zq_push 3 (.int 0))), (3, .inl (zq_is 5 4)), (5, .inl (zq_il 7 4)), (7, .inl (zq_al 8 0)), (8, .inl (zq_getf 11 [(6, 1)])), (11, .inl (zq_getf 14 [(3, 5)])), (14, .inl (zq_ic_ge 17 41)), (17, .inl (zq_al 18 0)), (18, .inl (zq_il 19 1)), (19, .inl (zq_il 21 4)), (21, .inr (.inl (3, .inr [(6, zn_X7_roomOf)]))), (24, .inl (zq_il 25 2)), (25, .inl (zq_ic_ne 28 35)), (28, .inl (zq_il 29 3)), (29, .inl (zq_push 30 (.int 1))), (30, .inl (zq_il 32 4)), (32, .inl (zq_i2 33 (fun x y => x <<< (y &&& 31)))), (33, .inl (zq_i2 34 (fun x y => x ||| y))), (34, .inl (zq_is 35 3)), (35, .inl (zq_inc 38 4 1)), (38, .inl (zq_goto 5)), (41, .inl (zq_il 42 3)), (42, .inr (.inr 1))]
theorem zk_X7_whoIn : zq_oks zi_X7_whoIn zc_X7_whoIn := zq_cons (zq_s_iconst (n := 0) (by decide +kernel) (by decide +kernel)) <|
  zq_cons (zq_s_istore_n (n := 3) (by decide +kernel) rfl (by decide +kernel)) <|
  zq_cons (zq_s_iconst (n := 0) (by decide +kernel) (by decide +kernel)) <|
  zq_cons (zq_s_istore (by decide +kernel) (by decide +kernel)) <|
  zq_cons (zq_s_iload (by decide +kernel)) <|
  zq_cons (zq_s_aload_n (n := 0) (by decide +kernel) rfl) <|
  zq_cons (zq_s_getf (index := 34) (by decide +kernel) zf_X7_34) <|
  zq_cons (zq_s_getf (index := 70) (by decide +kernel) zf_X7_70) <|
  zq_cons (zq_s_ic_ge (off := 27) (by decide +kernel) (by decide)) <|
  zq_cons (zq_s_aload_n (n := 0) (by decide +kernel) rfl) <|
  zq_cons (zq_s_iload_n (n := 1) (by decide +kernel) rfl) <|
  zq_cons (zq_s_iload (by decide +kernel)) <|
  zq_cons (List.forall_mem_cons.mpr ⟨⟨zi_X7_roomOf, rfl, zq_s_callV (n := 2) (index := 119) (by decide +kernel) rfl zw_568 zw_569 zw_570 zw_89 zw_571 (by decide +kernel) (by decide +kernel) ⟨rfl, rfl⟩⟩, fun _ h => absurd h List.not_mem_nil⟩) <|
  zq_cons (zq_s_iload_n (n := 2) (by decide +kernel) rfl) <|
  zq_cons (zq_s_ic_ne (off := 10) (by decide +kernel) (by decide)) <|
  zq_cons (zq_s_iload_n (n := 3) (by decide +kernel) rfl) <|
  zq_cons (zq_s_iconst (n := 1) (by decide +kernel) (by decide +kernel)) <|
  zq_cons (zq_s_iload (by decide +kernel)) <|
  zq_cons (zq_s_ishl (by decide +kernel)) <|
  zq_cons (zq_s_ior (by decide +kernel)) <|
  zq_cons (zq_s_istore_n (n := 3) (by decide +kernel) rfl (by decide +kernel)) <|
  zq_cons (zq_s_iinc (n := 1) (by decide +kernel) (by decide +kernel) (by decide +kernel)) <|
  zq_cons (zq_s_goto (off := (-33)) (by decide +kernel) (by decide)) <|
  zq_cons (zq_s_iload_n (n := 3) (by decide +kernel) rfl) <|
  zq_cons (⟨rfl, (by decide +kernel)⟩) <|
  zq_nil
def zc_X7_doorsBetween : List (Nat × zq_It) := [(0, .inl (zq_il 1 2)), (1, .inl (zq_is 3 4)), (3, .inl (zq_push 4 (.int 0))), (4, .inl (zq_is 6 5)), (6, .inl (zq_il 8 5)), (8, .inl (zq_push 10 (.int 8))), (10, .inl (zq_ic_ge 13 49)), (13, .inl (zq_il 15 4)), (15, .inl (zq_il 16 3)), (16, .inl (zq_ic_ne 19 22)), (19, .inl (zq_il 21 5)), (21, .inr (.inr 1)), (22, .inl (zq_al 23 0)), (23, .inl (zq_getf 26 [(6, 6)])), (26, .inl (zq_al 27 0)), (27, .inl (zq_getf 30 [(6, 5)])), (30, .inl (zq_il 31 1)), (31, .inl (zq_iald 32)), (32, .inl (zq_il 34 4)), (34, .inl (zq_push 36 (.int 8))), (36, .inl (zq_i2 37 (fun x y => x * y))), (37, .inl (zq_i2 38 (fun x y => x + y))), (38, .inl (zq_il 39 3)), (39, .inl (zq_i2 40 (fun x y => x + y))), (40, .inl (zq_iald 41)), (41, .inl (zq_is 43 4)), (43, .inl (zq_inc 46 5 1)), (46, .inl (zq_goto 6)), (49, .inl (zq_push 50 (.int (-1)))), (50, .inr (.inr 1))]
theorem zk_X7_doorsBetween : zq_oks zi_X7_doorsBetween zc_X7_doorsBetween := zq_cons (zq_s_iload_n (n := 2) (by decide +kernel) rfl) <|
  zq_cons (zq_s_istore (by decide +kernel) (by decide +kernel)) <|
  zq_cons (zq_s_iconst (n := 0) (by decide +kernel) (by decide +kernel)) <|
  zq_cons (zq_s_istore (by decide +kernel) (by decide +kernel)) <|
  zq_cons (zq_s_iload (by decide +kernel)) <|
  zq_cons (zq_s_bipush (n := 8) (by decide +kernel) (by decide +kernel)) <|
  zq_cons (zq_s_ic_ge (off := 39) (by decide +kernel) (by decide)) <|
  zq_cons (zq_s_iload (by decide +kernel)) <|
  zq_cons (zq_s_iload_n (n := 3) (by decide +kernel) rfl) <|
  zq_cons (zq_s_ic_ne (off := 6) (by decide +kernel) (by decide)) <|
  zq_cons (zq_s_iload (by decide +kernel)) <|
  zq_cons (⟨rfl, (by decide +kernel)⟩) <|
  zq_cons (zq_s_aload_n (n := 0) (by decide +kernel) rfl) <|
  zq_cons (zq_s_getf (index := 24) (by decide +kernel) zf_X7_24) <|
  zq_cons (zq_s_aload_n (n := 0) (by decide +kernel) rfl) <|
  zq_cons (zq_s_getf (index := 21) (by decide +kernel) zf_X7_21) <|
  zq_cons (zq_s_iload_n (n := 1) (by decide +kernel) rfl) <|
  zq_cons (zq_s_iald (by decide +kernel)) <|
  zq_cons (zq_s_iload (by decide +kernel)) <|
  zq_cons (zq_s_bipush (n := 8) (by decide +kernel) (by decide +kernel)) <|
  zq_cons (zq_s_imul (by decide +kernel)) <|
  zq_cons (zq_s_iadd (by decide +kernel)) <|
  zq_cons (zq_s_iload_n (n := 3) (by decide +kernel) rfl) <|
  zq_cons (zq_s_iadd (by decide +kernel)) <|
  zq_cons (zq_s_iald (by decide +kernel)) <|
  zq_cons (zq_s_istore (by decide +kernel) (by decide +kernel)) <|
  zq_cons (zq_s_iinc (n := 1) (by decide +kernel) (by decide +kernel) (by decide +kernel)) <|
  zq_cons (zq_s_goto (off := (-40)) (by decide +kernel) (by decide)) <|
  zq_cons (zq_s_iconst (n := (-1)) (by decide +kernel) (by decide +kernel)) <|
  zq_cons (⟨rfl, (by decide +kernel)⟩) <|
  zq_nil
def zc_X7_emptyHours : List (Nat × zq_It) := [(0, .inl (zq_push 1 (.int 0))), (1, .inl (zq_is 2 2)), (2, .inl (zq_push 3 (.int 0))), (3, .inl (zq_is 4 3)), (4, .inl (zq_il 5 3)), (5, .inl (zq_push 7 (.int 24))), (7, .inl (zq_ic_ge 10 31)), (10, .inl (zq_al 11 0)), (11, .inl (zq_il 12 3)), (12, .inl (zq_il 13 1)), (13, .inr (.inl (3, .inr [(6, zn_X7_whoIn)]))), (16, .inl (zq_if_ne 19 25)), (19, .inl (zq_il 20 2)), (20, .inl (zq_push 21 (.int 1))), (21, .inl (zq_il 22 3)), (22, .inl (zq_i2 23 (fun x y => x <<< (y &&& 31)))), (23, .inl (zq_i2 24 (fun x y => x ||| y))), (24, .inl (zq_is 25 2)), (25, .inl (zq_inc 28 3 1)), (28, .inl (zq_goto 4)), (31, .inl (zq_il 32 2)), (32, .inr (.inr 1))]
theorem zk_X7_emptyHours : zq_oks zi_X7_emptyHours zc_X7_emptyHours := zq_cons (zq_s_iconst (n := 0) (by decide +kernel) (by decide +kernel)) <|
  zq_cons (zq_s_istore_n (n := 2) (by decide +kernel) rfl (by decide +kernel)) <|
  zq_cons (zq_s_iconst (n := 0) (by decide +kernel) (by decide +kernel)) <|
  zq_cons (zq_s_istore_n (n := 3) (by decide +kernel) rfl (by decide +kernel)) <|
  zq_cons (zq_s_iload_n (n := 3) (by decide +kernel) rfl) <|
  zq_cons (zq_s_bipush (n := 24) (by decide +kernel) (by decide +kernel)) <|
  zq_cons (zq_s_ic_ge (off := 24) (by decide +kernel) (by decide)) <|
  zq_cons (zq_s_aload_n (n := 0) (by decide +kernel) rfl) <|
  zq_cons (zq_s_iload_n (n := 3) (by decide +kernel) rfl) <|
  zq_cons (zq_s_iload_n (n := 1) (by decide +kernel) rfl) <|
  zq_cons (List.forall_mem_cons.mpr ⟨⟨zi_X7_whoIn, rfl, zq_s_callV (n := 2) (index := 128) (by decide +kernel) rfl zw_604 zw_581 zw_582 zw_89 zw_583 (by decide +kernel) (by decide +kernel) ⟨rfl, rfl⟩⟩, fun _ h => absurd h List.not_mem_nil⟩) <|
  zq_cons (zq_s_if_ne (off := 9) (by decide +kernel) (by decide)) <|
  zq_cons (zq_s_iload_n (n := 2) (by decide +kernel) rfl) <|
  zq_cons (zq_s_iconst (n := 1) (by decide +kernel) (by decide +kernel)) <|
  zq_cons (zq_s_iload_n (n := 3) (by decide +kernel) rfl) <|
  zq_cons (zq_s_ishl (by decide +kernel)) <|
  zq_cons (zq_s_ior (by decide +kernel)) <|
  zq_cons (zq_s_istore_n (n := 2) (by decide +kernel) rfl (by decide +kernel)) <|
  zq_cons (zq_s_iinc (n := 1) (by decide +kernel) (by decide +kernel) (by decide +kernel)) <|
  zq_cons (zq_s_goto (off := (-24)) (by decide +kernel) (by decide)) <|
  zq_cons (zq_s_iload_n (n := 2) (by decide +kernel) rfl) <|
  zq_cons (⟨rfl, (by decide +kernel)⟩) <|
  zq_nil
def zc_X7_aloneBehind_0 : List (Nat × zq_It) := [(0, .inl (zq_push 1 (.int 0))), (1, .inl (zq_is 2 2)), (2, .inl (zq_push 3 (.int 0))), (3, .inl (zq_is 4 3)), (4, .inl (zq_push 5 (.int 0))), (5, .inl (zq_is 7 4)), (7, .inl (zq_il 9 4)), (9, .inl (zq_al 10 0)), (10, .inl (zq_getf 13 [(6, 1)])), (13, .inl (zq_getf 16 [(3, 5)])), (16, .inl (zq_ic_ge 19 48)), (19, .inl (zq_push 20 (.int 1))), (20, .inl (zq_al 21 0)), (21, .inl (zq_il 22 1)), (22, .inl (zq_il 24 4)), (24, .inr (.inl (3, .inr [(6, zn_X7_roomOf)]))), (27, .inl (zq_i2 28 (fun x y => x <<< (y &&& 31)))), (28, .inl (zq_is 30 5)), (30, .inl (zq_il 31 3)), (31, .inl (zq_il 32 2)), (32, .inl (zq_il 34 5)), (34, .inl (zq_i2 35 (fun x y => x &&& y))), (35, .inl (zq_i2 36 (fun x y => x ||| y))), (36, .inl (zq_is 37 3)), (37, .inl (zq_il 38 2)), (38, .inl (zq_il 40 5)), (40, .inl (zq_i2 41 (fun x y => x ||| y))), (41, .inl (zq_is 42 2)), (42, .inl (zq_inc 45 4 1)), (45, .inl (zq_goto 7)), (48, .inl (zq_push 49 (.int 0))), (49, .inl (zq_is 51 4)), (51, .inl (zq_push 52 (.int 0))), (52, .inl (zq_is 54 5)), (54, .inl (zq_il 56 5)), (56, .inl (zq_al 57 0)), (57, .inl (zq_getf 60 [(6, 1)])), (60, .inl (zq_getf 63 [(3, 5)])), (63, .inl (zq_ic_ge 66 95)), (66, .inl (zq_il 67 3))]
theorem zk_X7_aloneBehind_0 : zq_oks zi_X7_aloneBehind zc_X7_aloneBehind_0 := zq_cons (zq_s_iconst (n := 0) (by decide +kernel) (by decide +kernel)) <|
  zq_cons (zq_s_istore_n (n := 2) (by decide +kernel) rfl (by decide +kernel)) <|
  zq_cons (zq_s_iconst (n := 0) (by decide +kernel) (by decide +kernel)) <|
  zq_cons (zq_s_istore_n (n := 3) (by decide +kernel) rfl (by decide +kernel)) <|
  zq_cons (zq_s_iconst (n := 0) (by decide +kernel) (by decide +kernel)) <|
  zq_cons (zq_s_istore (by decide +kernel) (by decide +kernel)) <|
  zq_cons (zq_s_iload (by decide +kernel)) <|
  zq_cons (zq_s_aload_n (n := 0) (by decide +kernel) rfl) <|
  zq_cons (zq_s_getf (index := 34) (by decide +kernel) zf_X7_34) <|
  zq_cons (zq_s_getf (index := 70) (by decide +kernel) zf_X7_70) <|
  zq_cons (zq_s_ic_ge (off := 32) (by decide +kernel) (by decide)) <|
  zq_cons (zq_s_iconst (n := 1) (by decide +kernel) (by decide +kernel)) <|
  zq_cons (zq_s_aload_n (n := 0) (by decide +kernel) rfl) <|
  zq_cons (zq_s_iload_n (n := 1) (by decide +kernel) rfl) <|
  zq_cons (zq_s_iload (by decide +kernel)) <|
  zq_cons (List.forall_mem_cons.mpr ⟨⟨zi_X7_roomOf, rfl, zq_s_callV (n := 2) (index := 119) (by decide +kernel) rfl zw_568 zw_569 zw_570 zw_89 zw_571 (by decide +kernel) (by decide +kernel) ⟨rfl, rfl⟩⟩, fun _ h => absurd h List.not_mem_nil⟩) <|
  zq_cons (zq_s_ishl (by decide +kernel)) <|
  zq_cons (zq_s_istore (by decide +kernel) (by decide +kernel)) <|
  zq_cons (zq_s_iload_n (n := 3) (by decide +kernel) rfl) <|
  zq_cons (zq_s_iload_n (n := 2) (by decide +kernel) rfl) <|
  zq_cons (zq_s_iload (by decide +kernel)) <|
  zq_cons (zq_s_iand (by decide +kernel)) <|
  zq_cons (zq_s_ior (by decide +kernel)) <|
  zq_cons (zq_s_istore_n (n := 3) (by decide +kernel) rfl (by decide +kernel)) <|
  zq_cons (zq_s_iload_n (n := 2) (by decide +kernel) rfl) <|
  zq_cons (zq_s_iload (by decide +kernel)) <|
  zq_cons (zq_s_ior (by decide +kernel)) <|
  zq_cons (zq_s_istore_n (n := 2) (by decide +kernel) rfl (by decide +kernel)) <|
  zq_cons (zq_s_iinc (n := 1) (by decide +kernel) (by decide +kernel) (by decide +kernel)) <|
  zq_cons (zq_s_goto (off := (-38)) (by decide +kernel) (by decide)) <|
  zq_cons (zq_s_iconst (n := 0) (by decide +kernel) (by decide +kernel)) <|
  zq_cons (zq_s_istore (by decide +kernel) (by decide +kernel)) <|
  zq_cons (zq_s_iconst (n := 0) (by decide +kernel) (by decide +kernel)) <|
  zq_cons (zq_s_istore (by decide +kernel) (by decide +kernel)) <|
  zq_cons (zq_s_iload (by decide +kernel)) <|
  zq_cons (zq_s_aload_n (n := 0) (by decide +kernel) rfl) <|
  zq_cons (zq_s_getf (index := 34) (by decide +kernel) zf_X7_34) <|
  zq_cons (zq_s_getf (index := 70) (by decide +kernel) zf_X7_70) <|
  zq_cons (zq_s_ic_ge (off := 32) (by decide +kernel) (by decide)) <|
  zq_cons (zq_s_iload_n (n := 3) (by decide +kernel) rfl) <|
  zq_nil
def zc_X7_aloneBehind_1 : List (Nat × zq_It) := [(67, .inl (zq_al 68 0)), (68, .inl (zq_il 69 1)), (69, .inl (zq_il 71 5)), (71, .inr (.inl (3, .inr [(6, zn_X7_roomOf)]))), (74, .inl (zq_i2 75 (fun x y => x >>> (y &&& 31)))), (75, .inl (zq_push 76 (.int 1))), (76, .inl (zq_i2 77 (fun x y => x &&& y))), (77, .inl (zq_if_ne 80 89)), (80, .inl (zq_il 82 4)), (82, .inl (zq_push 83 (.int 1))), (83, .inl (zq_il 85 5)), (85, .inl (zq_i2 86 (fun x y => x <<< (y &&& 31)))), (86, .inl (zq_i2 87 (fun x y => x ||| y))), (87, .inl (zq_is 89 4)), (89, .inl (zq_inc 92 5 1)), (92, .inl (zq_goto 54)), (95, .inl (zq_il 97 4)), (97, .inr (.inr 1))]
theorem zk_X7_aloneBehind_1 : zq_oks zi_X7_aloneBehind zc_X7_aloneBehind_1 := zq_cons (zq_s_aload_n (n := 0) (by decide +kernel) rfl) <|
  zq_cons (zq_s_iload_n (n := 1) (by decide +kernel) rfl) <|
  zq_cons (zq_s_iload (by decide +kernel)) <|
  zq_cons (List.forall_mem_cons.mpr ⟨⟨zi_X7_roomOf, rfl, zq_s_callV (n := 2) (index := 119) (by decide +kernel) rfl zw_568 zw_569 zw_570 zw_89 zw_571 (by decide +kernel) (by decide +kernel) ⟨rfl, rfl⟩⟩, fun _ h => absurd h List.not_mem_nil⟩) <|
  zq_cons (zq_s_ishr (by decide +kernel)) <|
  zq_cons (zq_s_iconst (n := 1) (by decide +kernel) (by decide +kernel)) <|
  zq_cons (zq_s_iand (by decide +kernel)) <|
  zq_cons (zq_s_if_ne (off := 12) (by decide +kernel) (by decide)) <|
  zq_cons (zq_s_iload (by decide +kernel)) <|
  zq_cons (zq_s_iconst (n := 1) (by decide +kernel) (by decide +kernel)) <|
  zq_cons (zq_s_iload (by decide +kernel)) <|
  zq_cons (zq_s_ishl (by decide +kernel)) <|
  zq_cons (zq_s_ior (by decide +kernel)) <|
  zq_cons (zq_s_istore (by decide +kernel) (by decide +kernel)) <|
  zq_cons (zq_s_iinc (n := 1) (by decide +kernel) (by decide +kernel) (by decide +kernel)) <|
  zq_cons (zq_s_goto (off := (-38)) (by decide +kernel) (by decide)) <|
  zq_cons (zq_s_iload (by decide +kernel)) <|
  zq_cons (⟨rfl, (by decide +kernel)⟩) <|
  zq_nil
def zc_X7_aloneBehind : List (Nat × zq_It) := zc_X7_aloneBehind_0 ++ (zc_X7_aloneBehind_1)
theorem zk_X7_aloneBehind : zq_oks zi_X7_aloneBehind zc_X7_aloneBehind := zq_app zk_X7_aloneBehind_0 (zk_X7_aloneBehind_1)
def zc_X7_hoursAlone : List (Nat × zq_It) := [(0, .inl (zq_push 1 (.int 0))), (1, .inl (zq_is 2 2)), (2, .inl (zq_push 3 (.int 0))), (3, .inl (zq_is 4 3)), (4, .inl (zq_il 5 3)), (5, .inl (zq_push 7 (.int 24))), (7, .inl (zq_ic_ge 10 28)), (10, .inl (zq_il 11 2)), (11, .inl (zq_al 12 0)), (12, .inl (zq_il 13 3)), (13, .inr (.inl (2, .inr [(6, zn_X7_aloneBehind)]))), (16, .inl (zq_il 17 1)), (17, .inl (zq_i2 18 (fun x y => x >>> (y &&& 31)))), (18, .inl (zq_push 19 (.int 1))), (19, .inl (zq_i2 20 (fun x y => x &&& y))), (20, .inl (zq_i2 21 (fun x y => x + y))), (21, .inl (zq_is 22 2)), (22, .inl (zq_inc 25 3 1)), (25, .inl (zq_goto 4)), (28, .inl (zq_il 29 2)), (29, .inr (.inr 1))]
theorem zk_X7_hoursAlone : zq_oks zi_X7_hoursAlone zc_X7_hoursAlone := zq_cons (zq_s_iconst (n := 0) (by decide +kernel) (by decide +kernel)) <|
  zq_cons (zq_s_istore_n (n := 2) (by decide +kernel) rfl (by decide +kernel)) <|
  zq_cons (zq_s_iconst (n := 0) (by decide +kernel) (by decide +kernel)) <|
  zq_cons (zq_s_istore_n (n := 3) (by decide +kernel) rfl (by decide +kernel)) <|
  zq_cons (zq_s_iload_n (n := 3) (by decide +kernel) rfl) <|
  zq_cons (zq_s_bipush (n := 24) (by decide +kernel) (by decide +kernel)) <|
  zq_cons (zq_s_ic_ge (off := 21) (by decide +kernel) (by decide)) <|
  zq_cons (zq_s_iload_n (n := 2) (by decide +kernel) rfl) <|
  zq_cons (zq_s_aload_n (n := 0) (by decide +kernel) rfl) <|
  zq_cons (zq_s_iload_n (n := 3) (by decide +kernel) rfl) <|
  zq_cons (List.forall_mem_cons.mpr ⟨⟨zi_X7_aloneBehind, rfl, zq_s_callV (n := 1) (index := 131) (by decide +kernel) rfl zw_662 zw_647 zw_648 zw_89 zw_649 (by decide +kernel) (by decide +kernel) ⟨rfl, rfl⟩⟩, fun _ h => absurd h List.not_mem_nil⟩) <|
  zq_cons (zq_s_iload_n (n := 1) (by decide +kernel) rfl) <|
  zq_cons (zq_s_ishr (by decide +kernel)) <|
  zq_cons (zq_s_iconst (n := 1) (by decide +kernel) (by decide +kernel)) <|
  zq_cons (zq_s_iand (by decide +kernel)) <|
  zq_cons (zq_s_iadd (by decide +kernel)) <|
  zq_cons (zq_s_istore_n (n := 2) (by decide +kernel) rfl (by decide +kernel)) <|
  zq_cons (zq_s_iinc (n := 1) (by decide +kernel) (by decide +kernel) (by decide +kernel)) <|
  zq_cons (zq_s_goto (off := (-21)) (by decide +kernel) (by decide)) <|
  zq_cons (zq_s_iload_n (n := 2) (by decide +kernel) rfl) <|
  zq_cons (⟨rfl, (by decide +kernel)⟩) <|
  zq_nil
def zc_X7_mostIn : List (Nat × zq_It) := [(0, .inl (zq_push 1 (.int 0))), (1, .inl (zq_is 2 2)), (2, .inl (zq_push 3 (.int 0))), (3, .inl (zq_is 4 3)), (4, .inl (zq_il 5 3)), (5, .inl (zq_push 7 (.int 8))), (7, .inl (zq_ic_ge 10 30)), (10, .inl (zq_il 11 2)), (11, .inl (zq_al 12 0)), (12, .inl (zq_il 13 1)), (13, .inl (zq_il 14 3)), (14, .inr (.inl (3, .inr [(6, zn_X7_whoIn)]))), (17, .inr (.inl (1, .inl zn_J6_bitCount_0f7a4))), (20, .inl (zq_mm 23 (fun x y => if x < y then y else x))), (23, .inl (zq_is 24 2)), (24, .inl (zq_inc 27 3 1)), (27, .inl (zq_goto 4)), (30, .inl (zq_il 31 2)), (31, .inr (.inr 1))]
theorem zk_X7_mostIn : zq_oks zi_X7_mostIn zc_X7_mostIn := zq_cons (zq_s_iconst (n := 0) (by decide +kernel) (by decide +kernel)) <|
  zq_cons (zq_s_istore_n (n := 2) (by decide +kernel) rfl (by decide +kernel)) <|
  zq_cons (zq_s_iconst (n := 0) (by decide +kernel) (by decide +kernel)) <|
  zq_cons (zq_s_istore_n (n := 3) (by decide +kernel) rfl (by decide +kernel)) <|
  zq_cons (zq_s_iload_n (n := 3) (by decide +kernel) rfl) <|
  zq_cons (zq_s_bipush (n := 8) (by decide +kernel) (by decide +kernel)) <|
  zq_cons (zq_s_ic_ge (off := 23) (by decide +kernel) (by decide)) <|
  zq_cons (zq_s_iload_n (n := 2) (by decide +kernel) rfl) <|
  zq_cons (zq_s_aload_n (n := 0) (by decide +kernel) rfl) <|
  zq_cons (zq_s_iload_n (n := 1) (by decide +kernel) rfl) <|
  zq_cons (zq_s_iload_n (n := 3) (by decide +kernel) rfl) <|
  zq_cons (List.forall_mem_cons.mpr ⟨⟨zi_X7_whoIn, rfl, zq_s_callV (n := 2) (index := 128) (by decide +kernel) rfl zw_604 zw_581 zw_582 zw_89 zw_583 (by decide +kernel) (by decide +kernel) ⟨rfl, rfl⟩⟩, fun _ h => absurd h List.not_mem_nil⟩) <|
  zq_cons (⟨zi_J6_bitCount_0f7a4, rfl, zq_s_callS (n := 1) (index := 134) (by decide +kernel) zw_631 zw_632 zw_92 zw_633 (by decide +kernel) (by decide +kernel) ⟨rfl, rfl⟩⟩) <|
  zq_cons (zq_s_mmax (index := 139) (by decide +kernel) zw_637 zw_115 zw_83 zw_116 (by decide) (by decide)) <|
  zq_cons (zq_s_istore_n (n := 2) (by decide +kernel) rfl (by decide +kernel)) <|
  zq_cons (zq_s_iinc (n := 1) (by decide +kernel) (by decide +kernel) (by decide +kernel)) <|
  zq_cons (zq_s_goto (off := (-23)) (by decide +kernel) (by decide)) <|
  zq_cons (zq_s_iload_n (n := 2) (by decide +kernel) rfl) <|
  zq_cons (⟨rfl, (by decide +kernel)⟩) <|
  zq_nil
def zc_X7_firstRoomOf : List (Nat × zq_It) := [(0, .inl (zq_push 1 (.int 0))), (1, .inl (zq_is 2 3)), (2, .inl (zq_il 3 3)), (3, .inl (zq_push 5 (.int 8))), (5, .inl (zq_ic_ge 8 29)), (8, .inl (zq_al 9 0)), (9, .inl (zq_il 10 1)), (10, .inl (zq_il 11 3)), (11, .inr (.inl (3, .inr [(6, zn_X7_whoIn)]))), (14, .inr (.inl (1, .inl zn_J6_bitCount_0f7a4))), (17, .inl (zq_il 18 2)), (18, .inl (zq_ic_ne 21 23)), (21, .inl (zq_il 22 3)), (22, .inr (.inr 1)), (23, .inl (zq_inc 26 3 1)), (26, .inl (zq_goto 2)), (29, .inl (zq_push 30 (.int (-1)))), (30, .inr (.inr 1))]
theorem zk_X7_firstRoomOf : zq_oks zi_X7_firstRoomOf zc_X7_firstRoomOf := zq_cons (zq_s_iconst (n := 0) (by decide +kernel) (by decide +kernel)) <|
  zq_cons (zq_s_istore_n (n := 3) (by decide +kernel) rfl (by decide +kernel)) <|
  zq_cons (zq_s_iload_n (n := 3) (by decide +kernel) rfl) <|
  zq_cons (zq_s_bipush (n := 8) (by decide +kernel) (by decide +kernel)) <|
  zq_cons (zq_s_ic_ge (off := 24) (by decide +kernel) (by decide)) <|
  zq_cons (zq_s_aload_n (n := 0) (by decide +kernel) rfl) <|
  zq_cons (zq_s_iload_n (n := 1) (by decide +kernel) rfl) <|
  zq_cons (zq_s_iload_n (n := 3) (by decide +kernel) rfl) <|
  zq_cons (List.forall_mem_cons.mpr ⟨⟨zi_X7_whoIn, rfl, zq_s_callV (n := 2) (index := 128) (by decide +kernel) rfl zw_604 zw_581 zw_582 zw_89 zw_583 (by decide +kernel) (by decide +kernel) ⟨rfl, rfl⟩⟩, fun _ h => absurd h List.not_mem_nil⟩) <|
  zq_cons (⟨zi_J6_bitCount_0f7a4, rfl, zq_s_callS (n := 1) (index := 134) (by decide +kernel) zw_631 zw_632 zw_92 zw_633 (by decide +kernel) (by decide +kernel) ⟨rfl, rfl⟩⟩) <|
  zq_cons (zq_s_iload_n (n := 2) (by decide +kernel) rfl) <|
  zq_cons (zq_s_ic_ne (off := 5) (by decide +kernel) (by decide)) <|
  zq_cons (zq_s_iload_n (n := 3) (by decide +kernel) rfl) <|
  zq_cons (⟨rfl, (by decide +kernel)⟩) <|
  zq_cons (zq_s_iinc (n := 1) (by decide +kernel) (by decide +kernel) (by decide +kernel)) <|
  zq_cons (zq_s_goto (off := (-24)) (by decide +kernel) (by decide)) <|
  zq_cons (zq_s_iconst (n := (-1)) (by decide +kernel) (by decide +kernel)) <|
  zq_cons (⟨rfl, (by decide +kernel)⟩) <|
  zq_nil
def zc_X7_findingHour : List (Nat × zq_It) := [(0, .inl (zq_push 1 (.int 0))), (1, .inl (zq_is 2 1)), (2, .inl (zq_il 3 1)), (3, .inl (zq_push 5 (.int 24))), (5, .inl (zq_ic_ge 8 25)), (8, .inl (zq_al 9 0)), (9, .inl (zq_il 10 1)), (10, .inr (.inl (2, .inr [(6, zn_X7_finder)]))), (13, .inl (zq_push 14 (.int (-1)))), (14, .inl (zq_ic_eq 17 19)), (17, .inl (zq_il 18 1)), (18, .inr (.inr 1)), (19, .inl (zq_inc 22 1 1)), (22, .inl (zq_goto 2)), (25, .inl (zq_push 26 (.int (-1)))), (26, .inr (.inr 1))]
theorem zk_X7_findingHour : zq_oks zi_X7_findingHour zc_X7_findingHour := zq_cons (zq_s_iconst (n := 0) (by decide +kernel) (by decide +kernel)) <|
  zq_cons (zq_s_istore_n (n := 1) (by decide +kernel) rfl (by decide +kernel)) <|
  zq_cons (zq_s_iload_n (n := 1) (by decide +kernel) rfl) <|
  zq_cons (zq_s_bipush (n := 24) (by decide +kernel) (by decide +kernel)) <|
  zq_cons (zq_s_ic_ge (off := 20) (by decide +kernel) (by decide)) <|
  zq_cons (zq_s_aload_n (n := 0) (by decide +kernel) rfl) <|
  zq_cons (zq_s_iload_n (n := 1) (by decide +kernel) rfl) <|
  zq_cons (List.forall_mem_cons.mpr ⟨⟨zi_X7_finder, rfl, zq_s_callV (n := 1) (index := 142) (by decide +kernel) rfl zw_613 zw_614 zw_615 zw_89 zw_616 (by decide +kernel) (by decide +kernel) ⟨rfl, rfl⟩⟩, fun _ h => absurd h List.not_mem_nil⟩) <|
  zq_cons (zq_s_iconst (n := (-1)) (by decide +kernel) (by decide +kernel)) <|
  zq_cons (zq_s_ic_eq (off := 5) (by decide +kernel) (by decide)) <|
  zq_cons (zq_s_iload_n (n := 1) (by decide +kernel) rfl) <|
  zq_cons (⟨rfl, (by decide +kernel)⟩) <|
  zq_cons (zq_s_iinc (n := 1) (by decide +kernel) (by decide +kernel) (by decide +kernel)) <|
  zq_cons (zq_s_goto (off := (-20)) (by decide +kernel) (by decide)) <|
  zq_cons (zq_s_iconst (n := (-1)) (by decide +kernel) (by decide +kernel)) <|
  zq_cons (⟨rfl, (by decide +kernel)⟩) <|
  zq_nil
def zc_X7_finder : List (Nat × zq_It) := [(0, .inl (zq_push 1 (.int 0))), (1, .inl (zq_is 2 2)), (2, .inl (zq_il 3 2)), (3, .inl (zq_al 4 0)), (4, .inl (zq_getf 7 [(6, 1)])), (7, .inl (zq_getf 10 [(3, 5)])), (10, .inl (zq_ic_ge 13 40)), (13, .inl (zq_al 14 0)), (14, .inl (zq_il 15 2)), (15, .inr (.inl (2, .inr [(6, zn_X7_sortOf)]))), (18, .inl (zq_push 19 (.int 2))), (19, .inl (zq_ic_ne 22 34)), (22, .inl (zq_al 23 0)), (23, .inl (zq_il 24 1)), (24, .inl (zq_il 25 2)), (25, .inr (.inl (3, .inr [(6, zn_X7_childWith)]))), (28, .inl (zq_push 29 (.int (-1)))), (29, .inl (zq_ic_eq 32 34)), (32, .inl (zq_il 33 2)), (33, .inr (.inr 1)), (34, .inl (zq_inc 37 2 1)), (37, .inl (zq_goto 2)), (40, .inl (zq_push 41 (.int (-1)))), (41, .inr (.inr 1))]
theorem zk_X7_finder : zq_oks zi_X7_finder zc_X7_finder := zq_cons (zq_s_iconst (n := 0) (by decide +kernel) (by decide +kernel)) <|
  zq_cons (zq_s_istore_n (n := 2) (by decide +kernel) rfl (by decide +kernel)) <|
  zq_cons (zq_s_iload_n (n := 2) (by decide +kernel) rfl) <|
  zq_cons (zq_s_aload_n (n := 0) (by decide +kernel) rfl) <|
  zq_cons (zq_s_getf (index := 34) (by decide +kernel) zf_X7_34) <|
  zq_cons (zq_s_getf (index := 70) (by decide +kernel) zf_X7_70) <|
  zq_cons (zq_s_ic_ge (off := 30) (by decide +kernel) (by decide)) <|
  zq_cons (zq_s_aload_n (n := 0) (by decide +kernel) rfl) <|
  zq_cons (zq_s_iload_n (n := 2) (by decide +kernel) rfl) <|
  zq_cons (List.forall_mem_cons.mpr ⟨⟨zi_X7_sortOf, rfl, zq_s_callV (n := 1) (index := 75) (by decide +kernel) rfl zw_555 zw_557 zw_9 zw_89 zw_558 (by decide +kernel) (by decide +kernel) ⟨rfl, rfl⟩⟩, fun _ h => absurd h List.not_mem_nil⟩) <|
  zq_cons (zq_s_iconst (n := 2) (by decide +kernel) (by decide +kernel)) <|
  zq_cons (zq_s_ic_ne (off := 15) (by decide +kernel) (by decide)) <|
  zq_cons (zq_s_aload_n (n := 0) (by decide +kernel) rfl) <|
  zq_cons (zq_s_iload_n (n := 1) (by decide +kernel) rfl) <|
  zq_cons (zq_s_iload_n (n := 2) (by decide +kernel) rfl) <|
  zq_cons (List.forall_mem_cons.mpr ⟨⟨zi_X7_childWith, rfl, zq_s_callV (n := 2) (index := 145) (by decide +kernel) rfl zw_617 zw_618 zw_619 zw_89 zw_620 (by decide +kernel) (by decide +kernel) ⟨rfl, rfl⟩⟩, fun _ h => absurd h List.not_mem_nil⟩) <|
  zq_cons (zq_s_iconst (n := (-1)) (by decide +kernel) (by decide +kernel)) <|
  zq_cons (zq_s_ic_eq (off := 5) (by decide +kernel) (by decide)) <|
  zq_cons (zq_s_iload_n (n := 2) (by decide +kernel) rfl) <|
  zq_cons (⟨rfl, (by decide +kernel)⟩) <|
  zq_cons (zq_s_iinc (n := 1) (by decide +kernel) (by decide +kernel) (by decide +kernel)) <|
  zq_cons (zq_s_goto (off := (-35)) (by decide +kernel) (by decide)) <|
  zq_cons (zq_s_iconst (n := (-1)) (by decide +kernel) (by decide +kernel)) <|
  zq_cons (⟨rfl, (by decide +kernel)⟩) <|
  zq_nil
def zc_X7_childWith : List (Nat × zq_It) := [(0, .inl (zq_push 1 (.int 0))), (1, .inl (zq_is 2 3)), (2, .inl (zq_il 3 3)), (3, .inl (zq_al 4 0)), (4, .inl (zq_getf 7 [(6, 1)])), (7, .inl (zq_getf 10 [(3, 5)])), (10, .inl (zq_ic_ge 13 45)), (13, .inl (zq_al 14 0)), (14, .inl (zq_il 15 3)), (15, .inr (.inl (2, .inr [(6, zn_X7_sortOf)]))), (18, .inl (zq_push 19 (.int 1))), (19, .inl (zq_ic_ne 22 39)), (22, .inl (zq_al 23 0)), (23, .inl (zq_il 24 1)), (24, .inl (zq_il 25 3)), (25, .inr (.inl (3, .inr [(6, zn_X7_roomOf)]))), (28, .inl (zq_al 29 0)), (29, .inl (zq_il 30 1)), (30, .inl (zq_il 31 2)), (31, .inr (.inl (3, .inr [(6, zn_X7_roomOf)]))), (34, .inl (zq_ic_ne 37 39)), (37, .inl (zq_il 38 3)), (38, .inr (.inr 1)), (39, .inl (zq_inc 42 3 1)), (42, .inl (zq_goto 2)), (45, .inl (zq_push 46 (.int (-1)))), (46, .inr (.inr 1))]
theorem zk_X7_childWith : zq_oks zi_X7_childWith zc_X7_childWith := zq_cons (zq_s_iconst (n := 0) (by decide +kernel) (by decide +kernel)) <|
  zq_cons (zq_s_istore_n (n := 3) (by decide +kernel) rfl (by decide +kernel)) <|
  zq_cons (zq_s_iload_n (n := 3) (by decide +kernel) rfl) <|
  zq_cons (zq_s_aload_n (n := 0) (by decide +kernel) rfl) <|
  zq_cons (zq_s_getf (index := 34) (by decide +kernel) zf_X7_34) <|
  zq_cons (zq_s_getf (index := 70) (by decide +kernel) zf_X7_70) <|
  zq_cons (zq_s_ic_ge (off := 35) (by decide +kernel) (by decide)) <|
  zq_cons (zq_s_aload_n (n := 0) (by decide +kernel) rfl) <|
  zq_cons (zq_s_iload_n (n := 3) (by decide +kernel) rfl) <|
  zq_cons (List.forall_mem_cons.mpr ⟨⟨zi_X7_sortOf, rfl, zq_s_callV (n := 1) (index := 75) (by decide +kernel) rfl zw_555 zw_557 zw_9 zw_89 zw_558 (by decide +kernel) (by decide +kernel) ⟨rfl, rfl⟩⟩, fun _ h => absurd h List.not_mem_nil⟩) <|
  zq_cons (zq_s_iconst (n := 1) (by decide +kernel) (by decide +kernel)) <|
  zq_cons (zq_s_ic_ne (off := 20) (by decide +kernel) (by decide)) <|
  zq_cons (zq_s_aload_n (n := 0) (by decide +kernel) rfl) <|
  zq_cons (zq_s_iload_n (n := 1) (by decide +kernel) rfl) <|
  zq_cons (zq_s_iload_n (n := 3) (by decide +kernel) rfl) <|
  zq_cons (List.forall_mem_cons.mpr ⟨⟨zi_X7_roomOf, rfl, zq_s_callV (n := 2) (index := 119) (by decide +kernel) rfl zw_568 zw_569 zw_570 zw_89 zw_571 (by decide +kernel) (by decide +kernel) ⟨rfl, rfl⟩⟩, fun _ h => absurd h List.not_mem_nil⟩) <|
  zq_cons (zq_s_aload_n (n := 0) (by decide +kernel) rfl) <|
  zq_cons (zq_s_iload_n (n := 1) (by decide +kernel) rfl) <|
  zq_cons (zq_s_iload_n (n := 2) (by decide +kernel) rfl) <|
  zq_cons (List.forall_mem_cons.mpr ⟨⟨zi_X7_roomOf, rfl, zq_s_callV (n := 2) (index := 119) (by decide +kernel) rfl zw_568 zw_569 zw_570 zw_89 zw_571 (by decide +kernel) (by decide +kernel) ⟨rfl, rfl⟩⟩, fun _ h => absurd h List.not_mem_nil⟩) <|
  zq_cons (zq_s_ic_ne (off := 5) (by decide +kernel) (by decide)) <|
  zq_cons (zq_s_iload_n (n := 3) (by decide +kernel) rfl) <|
  zq_cons (⟨rfl, (by decide +kernel)⟩) <|
  zq_cons (zq_s_iinc (n := 1) (by decide +kernel) (by decide +kernel) (by decide +kernel)) <|
  zq_cons (zq_s_goto (off := (-40)) (by decide +kernel) (by decide)) <|
  zq_cons (zq_s_iconst (n := (-1)) (by decide +kernel) (by decide +kernel)) <|
  zq_cons (⟨rfl, (by decide +kernel)⟩) <|
  zq_nil
def zc_X8_type : List (Nat × zq_It) := [(0, .inl (zq_al 1 0)), (1, .inl (zq_il 2 1)), (2, .inr (.inl (2, .inr [(7, zn_X8_textOf)]))), (5, .inl (zq_as 6 3)), (6, .inl (zq_al 7 3)), (7, .inl (zq_ifnull 10 21)), (10, .inl (zq_il 11 2)), (11, .inl (zq_push 12 (.int 0))), (12, .inl (zq_push 15 (.int 255))), (15, .inr (.inl (3, .inl zn_X8_within))), (18, .inl (zq_if_ne 21 24)), (21, .inl (zq_push 23 (.int (-2)))), (23, .inr (.inr 1)), (24, .inl (zq_al 25 3)), (25, .inr (.inl (1, .inr [(0, zn_X6_isFull), (3, zn_X6_isFull)]))), (28, .inl (zq_if_eq 31 34)), (31, .inl (zq_push 33 (.int (-4)))), (33, .inr (.inr 1)), (34, .inl (zq_al 35 3)), (35, .inl (zq_il 36 2)), (36, .inr (.inl (2, .inr [(0, zn_X6_add), (3, zn_X6_add)]))), (39, .inl (zq_al 40 0)), (40, .inr (.inl (1, .inr [(7, zn_X8_textChanged)]))), (43, .inl (zq_al 44 3)), (44, .inl (zq_getf 47 [(0, 3), (3, 3)])), (47, .inr (.inr 1))]
theorem zk_X8_type : zq_oks zi_X8_type zc_X8_type := zq_cons (zq_s_aload_n (n := 0) (by decide +kernel) rfl) <|
  zq_cons (zq_s_iload_n (n := 1) (by decide +kernel) rfl) <|
  zq_cons (List.forall_mem_cons.mpr ⟨⟨zi_X8_textOf, rfl, zq_s_callV (n := 1) (index := 94) (by decide +kernel) rfl zw_379 zw_381 zw_0 zw_80 zw_382 (by decide +kernel) (by decide +kernel) ⟨rfl, rfl⟩⟩, fun _ h => absurd h List.not_mem_nil⟩) <|
  zq_cons (zq_s_astore_n (n := 3) (by decide +kernel) rfl (by decide +kernel)) <|
  zq_cons (zq_s_aload_n (n := 3) (by decide +kernel) rfl) <|
  zq_cons (zq_s_ifnull (off := 14) (by decide +kernel) (by decide)) <|
  zq_cons (zq_s_iload_n (n := 2) (by decide +kernel) rfl) <|
  zq_cons (zq_s_iconst (n := 0) (by decide +kernel) (by decide +kernel)) <|
  zq_cons (zq_s_sipush (n := 255) (by decide +kernel) (by decide +kernel)) <|
  zq_cons (⟨zi_X8_within, rfl, zq_s_callS (n := 3) (index := 98) (by decide +kernel) zw_383 zw_384 zw_80 zw_385 (by decide +kernel) (by decide +kernel) ⟨rfl, rfl⟩⟩) <|
  zq_cons (zq_s_if_ne (off := 6) (by decide +kernel) (by decide)) <|
  zq_cons (zq_s_bipush (n := (-2)) (by decide +kernel) (by decide +kernel)) <|
  zq_cons (⟨rfl, (by decide +kernel)⟩) <|
  zq_cons (zq_s_aload_n (n := 3) (by decide +kernel) rfl) <|
  zq_cons (List.forall_mem_cons.mpr ⟨⟨zi_X6_isFull, rfl, zq_s_callU (owner := "DollsAhead$Text") (x := yX6_isFull) (n := 0) (index := 102) (by decide +kernel) rfl zw_386 zw_388 zw_389 zw_387 zw_81 zw_391 (Or.inl rfl) (by decide +kernel) (by decide +kernel) ⟨rfl, rfl⟩⟩, List.forall_mem_cons.mpr ⟨⟨zi_X6_isFull, rfl, zq_s_callU (owner := "DollsAhead$Text") (x := yX6_isFull) (n := 0) (index := 102) (by decide +kernel) rfl zw_386 zw_388 zw_390 zw_387 zw_81 zw_391 (Or.inl rfl) (by decide +kernel) (by decide +kernel) ⟨rfl, rfl⟩⟩, fun _ h => absurd h List.not_mem_nil⟩⟩) <|
  zq_cons (zq_s_if_eq (off := 6) (by decide +kernel) (by decide)) <|
  zq_cons (zq_s_bipush (n := (-4)) (by decide +kernel) (by decide +kernel)) <|
  zq_cons (⟨rfl, (by decide +kernel)⟩) <|
  zq_cons (zq_s_aload_n (n := 3) (by decide +kernel) rfl) <|
  zq_cons (zq_s_iload_n (n := 2) (by decide +kernel) rfl) <|
  zq_cons (List.forall_mem_cons.mpr ⟨⟨zi_X6_add, rfl, zq_s_callU (owner := "DollsAhead$Text") (x := yX6_add) (n := 1) (index := 108) (by decide +kernel) rfl zw_392 zw_394 zw_395 zw_393 zw_81 zw_397 (Or.inl rfl) (by decide +kernel) (by decide +kernel) ⟨rfl, rfl⟩⟩, List.forall_mem_cons.mpr ⟨⟨zi_X6_add, rfl, zq_s_callU (owner := "DollsAhead$Text") (x := yX6_add) (n := 1) (index := 108) (by decide +kernel) rfl zw_392 zw_394 zw_396 zw_393 zw_81 zw_397 (Or.inl rfl) (by decide +kernel) (by decide +kernel) ⟨rfl, rfl⟩⟩, fun _ h => absurd h List.not_mem_nil⟩⟩) <|
  zq_cons (zq_s_aload_n (n := 0) (by decide +kernel) rfl) <|
  zq_cons (List.forall_mem_cons.mpr ⟨⟨zi_X8_textChanged, rfl, zq_s_callV (n := 0) (index := 112) (by decide +kernel) rfl zw_447 zw_449 zw_2 zw_80 zw_450 (by decide +kernel) (by decide +kernel) ⟨rfl, rfl⟩⟩, fun _ h => absurd h List.not_mem_nil⟩) <|
  zq_cons (zq_s_aload_n (n := 3) (by decide +kernel) rfl) <|
  zq_cons (zq_s_getf (index := 115) (by decide +kernel) zf_X8_115) <|
  zq_cons (⟨rfl, (by decide +kernel)⟩) <|
  zq_nil
def zc_X8_wipe : List (Nat × zq_It) := [(0, .inl (zq_al 1 0)), (1, .inl (zq_il 2 1)), (2, .inr (.inl (2, .inr [(7, zn_X8_textOf)]))), (5, .inl (zq_as 6 2)), (6, .inl (zq_al 7 2)), (7, .inl (zq_ifnull 13 10)), (10, .inl (zq_push 12 (.int (-2)))), (12, .inr (.inr 1)), (13, .inl (zq_al 14 2)), (14, .inl (zq_getf 17 [(0, 3), (3, 3)])), (17, .inl (zq_is 18 3)), (18, .inl (zq_al 19 2)), (19, .inl (zq_push 20 (.int 0))), (20, .inr (.inl (2, .inr [(0, zn_X6_shorten), (3, zn_X6_shorten)]))), (23, .inl (zq_al 24 0)), (24, .inr (.inl (1, .inr [(7, zn_X8_textChanged)]))), (27, .inl (zq_il 28 3)), (28, .inr (.inr 1))]
theorem zk_X8_wipe : zq_oks zi_X8_wipe zc_X8_wipe := zq_cons (zq_s_aload_n (n := 0) (by decide +kernel) rfl) <|
  zq_cons (zq_s_iload_n (n := 1) (by decide +kernel) rfl) <|
  zq_cons (List.forall_mem_cons.mpr ⟨⟨zi_X8_textOf, rfl, zq_s_callV (n := 1) (index := 94) (by decide +kernel) rfl zw_379 zw_381 zw_0 zw_80 zw_382 (by decide +kernel) (by decide +kernel) ⟨rfl, rfl⟩⟩, fun _ h => absurd h List.not_mem_nil⟩) <|
  zq_cons (zq_s_astore_n (n := 2) (by decide +kernel) rfl (by decide +kernel)) <|
  zq_cons (zq_s_aload_n (n := 2) (by decide +kernel) rfl) <|
  zq_cons (zq_s_ifnonnull (off := 6) (by decide +kernel) (by decide)) <|
  zq_cons (zq_s_bipush (n := (-2)) (by decide +kernel) (by decide +kernel)) <|
  zq_cons (⟨rfl, (by decide +kernel)⟩) <|
  zq_cons (zq_s_aload_n (n := 2) (by decide +kernel) rfl) <|
  zq_cons (zq_s_getf (index := 115) (by decide +kernel) zf_X8_115) <|
  zq_cons (zq_s_istore_n (n := 3) (by decide +kernel) rfl (by decide +kernel)) <|
  zq_cons (zq_s_aload_n (n := 2) (by decide +kernel) rfl) <|
  zq_cons (zq_s_iconst (n := 0) (by decide +kernel) (by decide +kernel)) <|
  zq_cons (List.forall_mem_cons.mpr ⟨⟨zi_X6_shorten, rfl, zq_s_callU (owner := "DollsAhead$Text") (x := yX6_shorten) (n := 1) (index := 118) (by decide +kernel) rfl zw_463 zw_465 zw_466 zw_464 zw_81 zw_468 (Or.inl rfl) (by decide +kernel) (by decide +kernel) ⟨rfl, rfl⟩⟩, List.forall_mem_cons.mpr ⟨⟨zi_X6_shorten, rfl, zq_s_callU (owner := "DollsAhead$Text") (x := yX6_shorten) (n := 1) (index := 118) (by decide +kernel) rfl zw_463 zw_465 zw_467 zw_464 zw_81 zw_468 (Or.inl rfl) (by decide +kernel) (by decide +kernel) ⟨rfl, rfl⟩⟩, fun _ h => absurd h List.not_mem_nil⟩⟩) <|
  zq_cons (zq_s_aload_n (n := 0) (by decide +kernel) rfl) <|
  zq_cons (List.forall_mem_cons.mpr ⟨⟨zi_X8_textChanged, rfl, zq_s_callV (n := 0) (index := 112) (by decide +kernel) rfl zw_447 zw_449 zw_2 zw_80 zw_450 (by decide +kernel) (by decide +kernel) ⟨rfl, rfl⟩⟩, fun _ h => absurd h List.not_mem_nil⟩) <|
  zq_cons (zq_s_iload_n (n := 3) (by decide +kernel) rfl) <|
  zq_cons (⟨rfl, (by decide +kernel)⟩) <|
  zq_nil
def zc_X8_undo : List (Nat × zq_It) := [(0, .inl (zq_al 1 0)), (1, .inl (zq_il 2 1)), (2, .inr (.inl (2, .inr [(7, zn_X8_textOf)]))), (5, .inl (zq_as 6 2)), (6, .inl (zq_al 7 2)), (7, .inl (zq_ifnull 13 10)), (10, .inl (zq_push 12 (.int (-2)))), (12, .inr (.inr 1)), (13, .inl (zq_al 14 2)), (14, .inl (zq_getf 17 [(0, 3), (3, 3)])), (17, .inl (zq_if_ne 20 23)), (20, .inl (zq_push 22 (.int (-3)))), (22, .inr (.inr 1)), (23, .inl (zq_al 24 2)), (24, .inl (zq_al 25 2)), (25, .inl (zq_getf 28 [(0, 3), (3, 3)])), (28, .inl (zq_push 29 (.int 1))), (29, .inl (zq_i2 30 (fun x y => x - y))), (30, .inr (.inl (2, .inr [(0, zn_X6_shorten), (3, zn_X6_shorten)]))), (33, .inl (zq_al 34 0)), (34, .inr (.inl (1, .inr [(7, zn_X8_textChanged)]))), (37, .inl (zq_al 38 2)), (38, .inl (zq_getf 41 [(0, 3), (3, 3)])), (41, .inr (.inr 1))]
theorem zk_X8_undo : zq_oks zi_X8_undo zc_X8_undo := zq_cons (zq_s_aload_n (n := 0) (by decide +kernel) rfl) <|
  zq_cons (zq_s_iload_n (n := 1) (by decide +kernel) rfl) <|
  zq_cons (List.forall_mem_cons.mpr ⟨⟨zi_X8_textOf, rfl, zq_s_callV (n := 1) (index := 94) (by decide +kernel) rfl zw_379 zw_381 zw_0 zw_80 zw_382 (by decide +kernel) (by decide +kernel) ⟨rfl, rfl⟩⟩, fun _ h => absurd h List.not_mem_nil⟩) <|
  zq_cons (zq_s_astore_n (n := 2) (by decide +kernel) rfl (by decide +kernel)) <|
  zq_cons (zq_s_aload_n (n := 2) (by decide +kernel) rfl) <|
  zq_cons (zq_s_ifnonnull (off := 6) (by decide +kernel) (by decide)) <|
  zq_cons (zq_s_bipush (n := (-2)) (by decide +kernel) (by decide +kernel)) <|
  zq_cons (⟨rfl, (by decide +kernel)⟩) <|
  zq_cons (zq_s_aload_n (n := 2) (by decide +kernel) rfl) <|
  zq_cons (zq_s_getf (index := 115) (by decide +kernel) zf_X8_115) <|
  zq_cons (zq_s_if_ne (off := 6) (by decide +kernel) (by decide)) <|
  zq_cons (zq_s_bipush (n := (-3)) (by decide +kernel) (by decide +kernel)) <|
  zq_cons (⟨rfl, (by decide +kernel)⟩) <|
  zq_cons (zq_s_aload_n (n := 2) (by decide +kernel) rfl) <|
  zq_cons (zq_s_aload_n (n := 2) (by decide +kernel) rfl) <|
  zq_cons (zq_s_getf (index := 115) (by decide +kernel) zf_X8_115) <|
  zq_cons (zq_s_iconst (n := 1) (by decide +kernel) (by decide +kernel)) <|
  zq_cons (zq_s_isub (by decide +kernel)) <|
  zq_cons (List.forall_mem_cons.mpr ⟨⟨zi_X6_shorten, rfl, zq_s_callU (owner := "DollsAhead$Text") (x := yX6_shorten) (n := 1) (index := 118) (by decide +kernel) rfl zw_463 zw_465 zw_466 zw_464 zw_81 zw_468 (Or.inl rfl) (by decide +kernel) (by decide +kernel) ⟨rfl, rfl⟩⟩, List.forall_mem_cons.mpr ⟨⟨zi_X6_shorten, rfl, zq_s_callU (owner := "DollsAhead$Text") (x := yX6_shorten) (n := 1) (index := 118) (by decide +kernel) rfl zw_463 zw_465 zw_467 zw_464 zw_81 zw_468 (Or.inl rfl) (by decide +kernel) (by decide +kernel) ⟨rfl, rfl⟩⟩, fun _ h => absurd h List.not_mem_nil⟩⟩) <|
  zq_cons (zq_s_aload_n (n := 0) (by decide +kernel) rfl) <|
  zq_cons (List.forall_mem_cons.mpr ⟨⟨zi_X8_textChanged, rfl, zq_s_callV (n := 0) (index := 112) (by decide +kernel) rfl zw_447 zw_449 zw_2 zw_80 zw_450 (by decide +kernel) (by decide +kernel) ⟨rfl, rfl⟩⟩, fun _ h => absurd h List.not_mem_nil⟩) <|
  zq_cons (zq_s_aload_n (n := 2) (by decide +kernel) rfl) <|
  zq_cons (zq_s_getf (index := 115) (by decide +kernel) zf_X8_115) <|
  zq_cons (⟨rfl, (by decide +kernel)⟩) <|
  zq_nil
def zc_X8_fault : List (Nat × zq_It) := [(0, .inl (zq_al 1 0)), (1, .inl (zq_il 2 1)), (2, .inr (.inl (2, .inr [(7, zn_X8_textOf)]))), (5, .inl (zq_as 6 2)), (6, .inl (zq_al 7 2)), (7, .inl (zq_ifnull 15 10)), (10, .inl (zq_push 12 (.int (-2)))), (12, .inl (zq_goto 19)), (15, .inl (zq_al 16 2)), (16, .inl (zq_getf 19 [(0, 4), (3, 4)])), (19, .inr (.inr 1))]
theorem zk_X8_fault : zq_oks zi_X8_fault zc_X8_fault := zq_cons (zq_s_aload_n (n := 0) (by decide +kernel) rfl) <|
  zq_cons (zq_s_iload_n (n := 1) (by decide +kernel) rfl) <|
  zq_cons (List.forall_mem_cons.mpr ⟨⟨zi_X8_textOf, rfl, zq_s_callV (n := 1) (index := 94) (by decide +kernel) rfl zw_379 zw_381 zw_0 zw_80 zw_382 (by decide +kernel) (by decide +kernel) ⟨rfl, rfl⟩⟩, fun _ h => absurd h List.not_mem_nil⟩) <|
  zq_cons (zq_s_astore_n (n := 2) (by decide +kernel) rfl (by decide +kernel)) <|
  zq_cons (zq_s_aload_n (n := 2) (by decide +kernel) rfl) <|
  zq_cons (zq_s_ifnonnull (off := 8) (by decide +kernel) (by decide)) <|
  zq_cons (zq_s_bipush (n := (-2)) (by decide +kernel) (by decide +kernel)) <|
  zq_cons (zq_s_goto (off := 7) (by decide +kernel) (by decide)) <|
  zq_cons (zq_s_aload_n (n := 2) (by decide +kernel) rfl) <|
  zq_cons (zq_s_getf (index := 121) (by decide +kernel) zf_X8_121) <|
  zq_cons (⟨rfl, (by decide +kernel)⟩) <|
  zq_nil
def zc_X8_door : List (Nat × zq_It) := [(0, .inl (zq_il 1 1)), (1, .inl (zq_push 2 (.int 0))), (2, .inl (zq_al 3 0)), (3, .inl (zq_getf 6 [(7, 0)])), (6, .inl (zq_getf 9 [(0, 5)])), (9, .inl (zq_push 10 (.int 1))), (10, .inl (zq_i2 11 (fun x y => x - y))), (11, .inr (.inl (3, .inl zn_X8_within))), (14, .inl (zq_if_eq 17 26)), (17, .inl (zq_il 18 2)), (18, .inl (zq_push 19 (.int 0))), (19, .inl (zq_push 20 (.int 1))), (20, .inr (.inl (3, .inl zn_X8_within))), (23, .inl (zq_if_ne 26 29)), (26, .inl (zq_push 28 (.int (-2)))), (28, .inr (.inr 1)), (29, .inl (zq_il 30 2)), (30, .inl (zq_if_ne 33 45)), (33, .inl (zq_al 34 0)), (34, .inl (zq_getf 37 [(7, 0)])), (37, .inl (zq_getf 40 [(0, 6)])), (40, .inl (zq_il 41 1)), (41, .inl (zq_iald 42)), (42, .inl (zq_goto 54)), (45, .inl (zq_al 46 0)), (46, .inl (zq_getf 49 [(7, 0)])), (49, .inl (zq_getf 52 [(0, 7)])), (52, .inl (zq_il 53 1)), (53, .inl (zq_iald 54)), (54, .inr (.inr 1))]
theorem zk_X8_door : zq_oks zi_X8_door zc_X8_door := zq_cons (zq_s_iload_n (n := 1) (by decide +kernel) rfl) <|
  zq_cons (zq_s_iconst (n := 0) (by decide +kernel) (by decide +kernel)) <|
  zq_cons (zq_s_aload_n (n := 0) (by decide +kernel) rfl) <|
  zq_cons (zq_s_getf (index := 10) (by decide +kernel) zf_X8_10) <|
  zq_cons (zq_s_getf (index := 124) (by decide +kernel) zf_X8_124) <|
  zq_cons (zq_s_iconst (n := 1) (by decide +kernel) (by decide +kernel)) <|
  zq_cons (zq_s_isub (by decide +kernel)) <|
  zq_cons (⟨zi_X8_within, rfl, zq_s_callS (n := 3) (index := 98) (by decide +kernel) zw_383 zw_384 zw_80 zw_385 (by decide +kernel) (by decide +kernel) ⟨rfl, rfl⟩⟩) <|
  zq_cons (zq_s_if_eq (off := 12) (by decide +kernel) (by decide)) <|
  zq_cons (zq_s_iload_n (n := 2) (by decide +kernel) rfl) <|
  zq_cons (zq_s_iconst (n := 0) (by decide +kernel) (by decide +kernel)) <|
  zq_cons (zq_s_iconst (n := 1) (by decide +kernel) (by decide +kernel)) <|
  zq_cons (⟨zi_X8_within, rfl, zq_s_callS (n := 3) (index := 98) (by decide +kernel) zw_383 zw_384 zw_80 zw_385 (by decide +kernel) (by decide +kernel) ⟨rfl, rfl⟩⟩) <|
  zq_cons (zq_s_if_ne (off := 6) (by decide +kernel) (by decide)) <|
  zq_cons (zq_s_bipush (n := (-2)) (by decide +kernel) (by decide +kernel)) <|
  zq_cons (⟨rfl, (by decide +kernel)⟩) <|
  zq_cons (zq_s_iload_n (n := 2) (by decide +kernel) rfl) <|
  zq_cons (zq_s_if_ne (off := 15) (by decide +kernel) (by decide)) <|
  zq_cons (zq_s_aload_n (n := 0) (by decide +kernel) rfl) <|
  zq_cons (zq_s_getf (index := 10) (by decide +kernel) zf_X8_10) <|
  zq_cons (zq_s_getf (index := 127) (by decide +kernel) zf_X8_127) <|
  zq_cons (zq_s_iload_n (n := 1) (by decide +kernel) rfl) <|
  zq_cons (zq_s_iald (by decide +kernel)) <|
  zq_cons (zq_s_goto (off := 12) (by decide +kernel) (by decide)) <|
  zq_cons (zq_s_aload_n (n := 0) (by decide +kernel) rfl) <|
  zq_cons (zq_s_getf (index := 10) (by decide +kernel) zf_X8_10) <|
  zq_cons (zq_s_getf (index := 130) (by decide +kernel) zf_X8_130) <|
  zq_cons (zq_s_iload_n (n := 1) (by decide +kernel) rfl) <|
  zq_cons (zq_s_iald (by decide +kernel)) <|
  zq_cons (⟨rfl, (by decide +kernel)⟩) <|
  zq_nil
def zc_X8_person : List (Nat × zq_It) := [(0, .inl (zq_al 1 0)), (1, .inl (zq_il 2 1)), (2, .inr (.inl (2, .inr [(7, zn_X8_isPerson)]))), (5, .inl (zq_if_eq 8 17)), (8, .inl (zq_il 9 2)), (9, .inl (zq_push 10 (.int 0))), (10, .inl (zq_push 11 (.int 2))), (11, .inr (.inl (3, .inl zn_X8_within))), (14, .inl (zq_if_ne 17 20)), (17, .inl (zq_push 19 (.int (-2)))), (19, .inr (.inr 1)), (20, .inl (zq_il 21 2)), (21, .inl (zq_if_ne 24 34)), (24, .inl (zq_al 25 0)), (25, .inl (zq_getf 28 [(7, 1)])), (28, .inl (zq_getf 31 [(3, 6)])), (31, .inl (zq_il 32 1)), (32, .inl (zq_iald 33)), (33, .inr (.inr 1)), (34, .inl (zq_il 35 2)), (35, .inl (zq_push 36 (.int 1))), (36, .inl (zq_ic_ne 39 51)), (39, .inl (zq_al 40 0)), (40, .inl (zq_getf 43 [(7, 1)])), (43, .inl (zq_getf 46 [(3, 7)])), (46, .inl (zq_il 47 1)), (47, .inl (zq_iald 48)), (48, .inl (zq_goto 60)), (51, .inl (zq_al 52 0)), (52, .inl (zq_getf 55 [(7, 1)])), (55, .inl (zq_getf 58 [(3, 8)])), (58, .inl (zq_il 59 1)), (59, .inl (zq_iald 60)), (60, .inr (.inr 1))]
theorem zk_X8_person : zq_oks zi_X8_person zc_X8_person := zq_cons (zq_s_aload_n (n := 0) (by decide +kernel) rfl) <|
  zq_cons (zq_s_iload_n (n := 1) (by decide +kernel) rfl) <|
  zq_cons (List.forall_mem_cons.mpr ⟨⟨zi_X8_isPerson, rfl, zq_s_callV (n := 1) (index := 133) (by decide +kernel) rfl zw_485 zw_487 zw_4 zw_80 zw_488 (by decide +kernel) (by decide +kernel) ⟨rfl, rfl⟩⟩, fun _ h => absurd h List.not_mem_nil⟩) <|
  zq_cons (zq_s_if_eq (off := 12) (by decide +kernel) (by decide)) <|
  zq_cons (zq_s_iload_n (n := 2) (by decide +kernel) rfl) <|
  zq_cons (zq_s_iconst (n := 0) (by decide +kernel) (by decide +kernel)) <|
  zq_cons (zq_s_iconst (n := 2) (by decide +kernel) (by decide +kernel)) <|
  zq_cons (⟨zi_X8_within, rfl, zq_s_callS (n := 3) (index := 98) (by decide +kernel) zw_383 zw_384 zw_80 zw_385 (by decide +kernel) (by decide +kernel) ⟨rfl, rfl⟩⟩) <|
  zq_cons (zq_s_if_ne (off := 6) (by decide +kernel) (by decide)) <|
  zq_cons (zq_s_bipush (n := (-2)) (by decide +kernel) (by decide +kernel)) <|
  zq_cons (⟨rfl, (by decide +kernel)⟩) <|
  zq_cons (zq_s_iload_n (n := 2) (by decide +kernel) rfl) <|
  zq_cons (zq_s_if_ne (off := 13) (by decide +kernel) (by decide)) <|
  zq_cons (zq_s_aload_n (n := 0) (by decide +kernel) rfl) <|
  zq_cons (zq_s_getf (index := 19) (by decide +kernel) zf_X8_19) <|
  zq_cons (zq_s_getf (index := 137) (by decide +kernel) zf_X8_137) <|
  zq_cons (zq_s_iload_n (n := 1) (by decide +kernel) rfl) <|
  zq_cons (zq_s_iald (by decide +kernel)) <|
  zq_cons (⟨rfl, (by decide +kernel)⟩) <|
  zq_cons (zq_s_iload_n (n := 2) (by decide +kernel) rfl) <|
  zq_cons (zq_s_iconst (n := 1) (by decide +kernel) (by decide +kernel)) <|
  zq_cons (zq_s_ic_ne (off := 15) (by decide +kernel) (by decide)) <|
  zq_cons (zq_s_aload_n (n := 0) (by decide +kernel) rfl) <|
  zq_cons (zq_s_getf (index := 19) (by decide +kernel) zf_X8_19) <|
  zq_cons (zq_s_getf (index := 140) (by decide +kernel) zf_X8_140) <|
  zq_cons (zq_s_iload_n (n := 1) (by decide +kernel) rfl) <|
  zq_cons (zq_s_iald (by decide +kernel)) <|
  zq_cons (zq_s_goto (off := 12) (by decide +kernel) (by decide)) <|
  zq_cons (zq_s_aload_n (n := 0) (by decide +kernel) rfl) <|
  zq_cons (zq_s_getf (index := 19) (by decide +kernel) zf_X8_19) <|
  zq_cons (zq_s_getf (index := 143) (by decide +kernel) zf_X8_143) <|
  zq_cons (zq_s_iload_n (n := 1) (by decide +kernel) rfl) <|
  zq_cons (zq_s_iald (by decide +kernel)) <|
  zq_cons (⟨rfl, (by decide +kernel)⟩) <|
  zq_nil
def zc_X8_ahead : List (Nat × zq_It) := [(0, .inl (zq_il 1 1)), (1, .inl (zq_push 2 (.int 1))), (2, .inl (zq_push 4 (.int 9))), (4, .inr (.inl (3, .inl zn_X8_within))), (7, .inl (zq_if_ne 10 13)), (10, .inl (zq_push 12 (.int (-2)))), (12, .inr (.inr 1)), (13, .inl (zq_al 14 0)), (14, .inl (zq_getf 17 [(7, 12)])), (17, .inl (zq_is 18 2)), (18, .inl (zq_al 19 0)), (19, .inl (zq_il 20 1)), (20, .inl (zq_puti 23 false [(7, 12)])), (23, .inl (zq_al 24 0)), (24, .inr (.inl (1, .inr [(7, zn_X8_changed)]))), (27, .inl (zq_il 28 2)), (28, .inr (.inr 1))]
theorem zk_X8_ahead : zq_oks zi_X8_ahead zc_X8_ahead := zq_cons (zq_s_iload_n (n := 1) (by decide +kernel) rfl) <|
  zq_cons (zq_s_iconst (n := 1) (by decide +kernel) (by decide +kernel)) <|
  zq_cons (zq_s_bipush (n := 9) (by decide +kernel) (by decide +kernel)) <|
  zq_cons (⟨zi_X8_within, rfl, zq_s_callS (n := 3) (index := 98) (by decide +kernel) zw_383 zw_384 zw_80 zw_385 (by decide +kernel) (by decide +kernel) ⟨rfl, rfl⟩⟩) <|
  zq_cons (zq_s_if_ne (off := 6) (by decide +kernel) (by decide)) <|
  zq_cons (zq_s_bipush (n := (-2)) (by decide +kernel) (by decide +kernel)) <|
  zq_cons (⟨rfl, (by decide +kernel)⟩) <|
  zq_cons (zq_s_aload_n (n := 0) (by decide +kernel) rfl) <|
  zq_cons (zq_s_getf (index := 77) (by decide +kernel) zf_X8_77) <|
  zq_cons (zq_s_istore_n (n := 2) (by decide +kernel) rfl (by decide +kernel)) <|
  zq_cons (zq_s_aload_n (n := 0) (by decide +kernel) rfl) <|
  zq_cons (zq_s_iload_n (n := 1) (by decide +kernel) rfl) <|
  zq_cons (zq_s_puti (index := 77) (by decide +kernel) zp_X8_77 (fun _ _ => ⟨rfl, rfl⟩)) <|
  zq_cons (zq_s_aload_n (n := 0) (by decide +kernel) rfl) <|
  zq_cons (List.forall_mem_cons.mpr ⟨⟨zi_X8_changed, rfl, zq_s_callV (n := 0) (index := 146) (by decide +kernel) rfl zw_455 zw_457 zw_3 zw_80 zw_458 (by decide +kernel) (by decide +kernel) ⟨rfl, rfl⟩⟩, fun _ h => absurd h List.not_mem_nil⟩) <|
  zq_cons (zq_s_iload_n (n := 2) (by decide +kernel) rfl) <|
  zq_cons (⟨rfl, (by decide +kernel)⟩) <|
  zq_nil
