def zc_L_law_0 : List (Nat × zq_It) := [(3, .inl (zq_dup 4)), (7, .inl (zq_as 8 1)), (11, .inl (zq_dup 12)), (15, .inl (zq_as 16 2)), (16, .inl (zq_push 17 (.int 0))), (17, .inl (zq_is 18 3)), (18, .inl (zq_il 19 3)), (19, .inl (zq_al 20 0)), (20, .inl (zq_alen 21)), (21, .inl (zq_push 23 (.int 6))), (23, .inl (zq_i2 24 (fun x y => x - y))), (24, .inl (zq_ic_gt 27 1335)), (27, .inl (zq_al 28 0)), (28, .inl (zq_il 29 3)), (29, .inl (zq_iald 30)), (30, .inl (zq_push 32 (.int 63))), (32, .inl (zq_i2 33 (fun x y => x &&& y))), (33, .inl (zq_tsw 0 36 1329 [196, 229, 252, 275, 298, 331, 364, 387, 430, 443, 466, 509, 542, 585, 618, 641, 664, 687, 700, 733, 766, 789, 812, 855, 868, 881, 914, 937, 991, 1034, 1077, 1100, 1153, 1196, 1259, 1292, 1315])), (196, .inl (zq_al 197 1)), (197, .inl (zq_al 198 0)), (198, .inl (zq_il 199 3)), (199, .inl (zq_push 200 (.int 1))), (200, .inl (zq_i2 201 (fun x y => x + y))), (201, .inl (zq_iald 202)), (202, .inl (zq_al 203 0)), (203, .inl (zq_il 204 3)), (204, .inl (zq_push 205 (.int 2))), (205, .inl (zq_i2 206 (fun x y => x + y))), (206, .inl (zq_iald 207)), (207, .inr (.inl (3, .inr [(7, zn_X8_type)]))), (210, .inl (zq_al 211 2)), (211, .inl (zq_al 212 0)), (212, .inl (zq_il 213 3)), (213, .inl (zq_push 214 (.int 1))), (214, .inl (zq_i2 215 (fun x y => x + y))), (215, .inl (zq_iald 216)), (216, .inl (zq_al 217 0)), (217, .inl (zq_il 218 3)), (218, .inl (zq_push 219 (.int 2))), (219, .inl (zq_i2 220 (fun x y => x + y)))]
theorem zk_L_law_0 : zq_oks zi_L_law zc_L_law_0 := zq_cons (zq_s_dup (by decide +kernel)) <|
  zq_cons (zq_s_astore_n (n := 1) (by decide +kernel) rfl (by decide +kernel)) <|
  zq_cons (zq_s_dup (by decide +kernel)) <|
  zq_cons (zq_s_astore_n (n := 2) (by decide +kernel) rfl (by decide +kernel)) <|
  zq_cons (zq_s_iconst (n := 0) (by decide +kernel) (by decide +kernel)) <|
  zq_cons (zq_s_istore_n (n := 3) (by decide +kernel) rfl (by decide +kernel)) <|
  zq_cons (zq_s_iload_n (n := 3) (by decide +kernel) rfl) <|
  zq_cons (zq_s_aload_n (n := 0) (by decide +kernel) rfl) <|
  zq_cons (zq_s_alen (by decide +kernel)) <|
  zq_cons (zq_s_bipush (n := 6) (by decide +kernel) (by decide +kernel)) <|
  zq_cons (zq_s_isub (by decide +kernel)) <|
  zq_cons (zq_s_ic_gt (off := 1311) (by decide +kernel) (by decide)) <|
  zq_cons (zq_s_aload_n (n := 0) (by decide +kernel) rfl) <|
  zq_cons (zq_s_iload_n (n := 3) (by decide +kernel) rfl) <|
  zq_cons (zq_s_iald (by decide +kernel)) <|
  zq_cons (zq_s_bipush (n := 63) (by decide +kernel) (by decide +kernel)) <|
  zq_cons (zq_s_iand (by decide +kernel)) <|
  zq_cons (zq_s_tsw (dflt := 1296) (offs := #[163, 196, 219, 242, 265, 298, 331, 354, 397, 410, 433, 476, 509, 552, 585, 608, 631, 654, 667, 700, 733, 756, 779, 822, 835, 848, 881, 904, 958, 1001, 1044, 1067, 1120, 1163, 1226, 1259, 1282]) (len := 163) (by decide +kernel) (by decide) (by decide) (zq_tb (by decide +kernel))) <|
  zq_cons (zq_s_aload_n (n := 1) (by decide +kernel) rfl) <|
  zq_cons (zq_s_aload_n (n := 0) (by decide +kernel) rfl) <|
  zq_cons (zq_s_iload_n (n := 3) (by decide +kernel) rfl) <|
  zq_cons (zq_s_iconst (n := 1) (by decide +kernel) (by decide +kernel)) <|
  zq_cons (zq_s_iadd (by decide +kernel)) <|
  zq_cons (zq_s_iald (by decide +kernel)) <|
  zq_cons (zq_s_aload_n (n := 0) (by decide +kernel) rfl) <|
  zq_cons (zq_s_iload_n (n := 3) (by decide +kernel) rfl) <|
  zq_cons (zq_s_iconst (n := 2) (by decide +kernel) (by decide +kernel)) <|
  zq_cons (zq_s_iadd (by decide +kernel)) <|
  zq_cons (zq_s_iald (by decide +kernel)) <|
  zq_cons (List.forall_mem_cons.mpr ⟨⟨zi_X8_type, rfl, zq_s_callV (n := 2) (index := 13) (by decide +kernel) rfl zw_375 zw_376 zw_377 zw_80 zw_378 (by decide +kernel) (by decide +kernel) ⟨rfl, rfl⟩⟩, fun _ h => absurd h List.not_mem_nil⟩) <|
  zq_cons (zq_s_aload_n (n := 2) (by decide +kernel) rfl) <|
  zq_cons (zq_s_aload_n (n := 0) (by decide +kernel) rfl) <|
  zq_cons (zq_s_iload_n (n := 3) (by decide +kernel) rfl) <|
  zq_cons (zq_s_iconst (n := 1) (by decide +kernel) (by decide +kernel)) <|
  zq_cons (zq_s_iadd (by decide +kernel)) <|
  zq_cons (zq_s_iald (by decide +kernel)) <|
  zq_cons (zq_s_aload_n (n := 0) (by decide +kernel) rfl) <|
  zq_cons (zq_s_iload_n (n := 3) (by decide +kernel) rfl) <|
  zq_cons (zq_s_iconst (n := 2) (by decide +kernel) (by decide +kernel)) <|
  zq_cons (zq_s_iadd (by decide +kernel)) <|
  zq_nil
def zc_L_law_1 : List (Nat × zq_It) := [(220, .inl (zq_iald 221)), (221, .inr (.inl (3, .inr [(8, zn_X9_type)]))), (224, .inl (zq_ic_eq 227 1329)), (227, .inl (zq_push 228 (.int 0))), (228, .inr (.inr 2)), (229, .inl (zq_al 230 1)), (230, .inl (zq_al 231 0)), (231, .inl (zq_il 232 3)), (232, .inl (zq_push 233 (.int 1))), (233, .inl (zq_i2 234 (fun x y => x + y))), (234, .inl (zq_iald 235)), (235, .inr (.inl (2, .inr [(7, zn_X8_wipe)]))), (238, .inl (zq_al 239 2)), (239, .inl (zq_al 240 0)), (240, .inl (zq_il 241 3)), (241, .inl (zq_push 242 (.int 1))), (242, .inl (zq_i2 243 (fun x y => x + y))), (243, .inl (zq_iald 244)), (244, .inr (.inl (2, .inr [(8, zn_X9_wipe)]))), (247, .inl (zq_ic_eq 250 1329)), (250, .inl (zq_push 251 (.int 0))), (251, .inr (.inr 2)), (252, .inl (zq_al 253 1)), (253, .inl (zq_al 254 0)), (254, .inl (zq_il 255 3)), (255, .inl (zq_push 256 (.int 1))), (256, .inl (zq_i2 257 (fun x y => x + y))), (257, .inl (zq_iald 258)), (258, .inr (.inl (2, .inr [(7, zn_X8_undo)]))), (261, .inl (zq_al 262 2)), (262, .inl (zq_al 263 0)), (263, .inl (zq_il 264 3)), (264, .inl (zq_push 265 (.int 1))), (265, .inl (zq_i2 266 (fun x y => x + y))), (266, .inl (zq_iald 267)), (267, .inr (.inl (2, .inr [(8, zn_X9_undo)]))), (270, .inl (zq_ic_eq 273 1329)), (273, .inl (zq_push 274 (.int 0))), (274, .inr (.inr 2)), (275, .inl (zq_al 276 1))]
theorem zk_L_law_1 : zq_oks zi_L_law zc_L_law_1 := zq_cons (zq_s_iald (by decide +kernel)) <|
  zq_cons (List.forall_mem_cons.mpr ⟨⟨zi_X9_type, rfl, zq_s_callV (n := 2) (index := 17) (by decide +kernel) rfl zw_977 zw_978 zw_979 zw_91 zw_980 (by decide +kernel) (by decide +kernel) ⟨rfl, rfl⟩⟩, fun _ h => absurd h List.not_mem_nil⟩) <|
  zq_cons (zq_s_ic_eq (off := 1105) (by decide +kernel) (by decide)) <|
  zq_cons (zq_s_iconst (n := 0) (by decide +kernel) (by decide +kernel)) <|
  zq_cons (⟨rfl, (by decide +kernel)⟩) <|
  zq_cons (zq_s_aload_n (n := 1) (by decide +kernel) rfl) <|
  zq_cons (zq_s_aload_n (n := 0) (by decide +kernel) rfl) <|
  zq_cons (zq_s_iload_n (n := 3) (by decide +kernel) rfl) <|
  zq_cons (zq_s_iconst (n := 1) (by decide +kernel) (by decide +kernel)) <|
  zq_cons (zq_s_iadd (by decide +kernel)) <|
  zq_cons (zq_s_iald (by decide +kernel)) <|
  zq_cons (List.forall_mem_cons.mpr ⟨⟨zi_X8_wipe, rfl, zq_s_callV (n := 1) (index := 18) (by decide +kernel) rfl zw_459 zw_460 zw_461 zw_80 zw_462 (by decide +kernel) (by decide +kernel) ⟨rfl, rfl⟩⟩, fun _ h => absurd h List.not_mem_nil⟩) <|
  zq_cons (zq_s_aload_n (n := 2) (by decide +kernel) rfl) <|
  zq_cons (zq_s_aload_n (n := 0) (by decide +kernel) rfl) <|
  zq_cons (zq_s_iload_n (n := 3) (by decide +kernel) rfl) <|
  zq_cons (zq_s_iconst (n := 1) (by decide +kernel) (by decide +kernel)) <|
  zq_cons (zq_s_iadd (by decide +kernel)) <|
  zq_cons (zq_s_iald (by decide +kernel)) <|
  zq_cons (List.forall_mem_cons.mpr ⟨⟨zi_X9_wipe, rfl, zq_s_callV (n := 1) (index := 22) (by decide +kernel) rfl zw_987 zw_988 zw_989 zw_91 zw_990 (by decide +kernel) (by decide +kernel) ⟨rfl, rfl⟩⟩, fun _ h => absurd h List.not_mem_nil⟩) <|
  zq_cons (zq_s_ic_eq (off := 1082) (by decide +kernel) (by decide)) <|
  zq_cons (zq_s_iconst (n := 0) (by decide +kernel) (by decide +kernel)) <|
  zq_cons (⟨rfl, (by decide +kernel)⟩) <|
  zq_cons (zq_s_aload_n (n := 1) (by decide +kernel) rfl) <|
  zq_cons (zq_s_aload_n (n := 0) (by decide +kernel) rfl) <|
  zq_cons (zq_s_iload_n (n := 3) (by decide +kernel) rfl) <|
  zq_cons (zq_s_iconst (n := 1) (by decide +kernel) (by decide +kernel)) <|
  zq_cons (zq_s_iadd (by decide +kernel)) <|
  zq_cons (zq_s_iald (by decide +kernel)) <|
  zq_cons (List.forall_mem_cons.mpr ⟨⟨zi_X8_undo, rfl, zq_s_callV (n := 1) (index := 23) (by decide +kernel) rfl zw_469 zw_470 zw_471 zw_80 zw_472 (by decide +kernel) (by decide +kernel) ⟨rfl, rfl⟩⟩, fun _ h => absurd h List.not_mem_nil⟩) <|
  zq_cons (zq_s_aload_n (n := 2) (by decide +kernel) rfl) <|
  zq_cons (zq_s_aload_n (n := 0) (by decide +kernel) rfl) <|
  zq_cons (zq_s_iload_n (n := 3) (by decide +kernel) rfl) <|
  zq_cons (zq_s_iconst (n := 1) (by decide +kernel) (by decide +kernel)) <|
  zq_cons (zq_s_iadd (by decide +kernel)) <|
  zq_cons (zq_s_iald (by decide +kernel)) <|
  zq_cons (List.forall_mem_cons.mpr ⟨⟨zi_X9_undo, rfl, zq_s_callV (n := 1) (index := 26) (by decide +kernel) rfl zw_991 zw_992 zw_993 zw_91 zw_994 (by decide +kernel) (by decide +kernel) ⟨rfl, rfl⟩⟩, fun _ h => absurd h List.not_mem_nil⟩) <|
  zq_cons (zq_s_ic_eq (off := 1059) (by decide +kernel) (by decide)) <|
  zq_cons (zq_s_iconst (n := 0) (by decide +kernel) (by decide +kernel)) <|
  zq_cons (⟨rfl, (by decide +kernel)⟩) <|
  zq_cons (zq_s_aload_n (n := 1) (by decide +kernel) rfl) <|
  zq_nil
def zc_L_law_2 : List (Nat × zq_It) := [(276, .inl (zq_al 277 0)), (277, .inl (zq_il 278 3)), (278, .inl (zq_push 279 (.int 1))), (279, .inl (zq_i2 280 (fun x y => x + y))), (280, .inl (zq_iald 281)), (281, .inr (.inl (2, .inr [(7, zn_X8_fault)]))), (284, .inl (zq_al 285 2)), (285, .inl (zq_al 286 0)), (286, .inl (zq_il 287 3)), (287, .inl (zq_push 288 (.int 1))), (288, .inl (zq_i2 289 (fun x y => x + y))), (289, .inl (zq_iald 290)), (290, .inr (.inl (2, .inr [(8, zn_X9_fault)]))), (293, .inl (zq_ic_eq 296 1329)), (296, .inl (zq_push 297 (.int 0))), (297, .inr (.inr 2)), (298, .inl (zq_al 299 1)), (299, .inl (zq_al 300 0)), (300, .inl (zq_il 301 3)), (301, .inl (zq_push 302 (.int 1))), (302, .inl (zq_i2 303 (fun x y => x + y))), (303, .inl (zq_iald 304)), (304, .inl (zq_al 305 0)), (305, .inl (zq_il 306 3)), (306, .inl (zq_push 307 (.int 2))), (307, .inl (zq_i2 308 (fun x y => x + y))), (308, .inl (zq_iald 309)), (309, .inr (.inl (3, .inr [(7, zn_X8_door)]))), (312, .inl (zq_al 313 2)), (313, .inl (zq_al 314 0)), (314, .inl (zq_il 315 3)), (315, .inl (zq_push 316 (.int 1))), (316, .inl (zq_i2 317 (fun x y => x + y))), (317, .inl (zq_iald 318)), (318, .inl (zq_al 319 0)), (319, .inl (zq_il 320 3)), (320, .inl (zq_push 321 (.int 2))), (321, .inl (zq_i2 322 (fun x y => x + y))), (322, .inl (zq_iald 323)), (323, .inr (.inl (3, .inr [(8, zn_X9_door)])))]
theorem zk_L_law_2 : zq_oks zi_L_law zc_L_law_2 := zq_cons (zq_s_aload_n (n := 0) (by decide +kernel) rfl) <|
  zq_cons (zq_s_iload_n (n := 3) (by decide +kernel) rfl) <|
  zq_cons (zq_s_iconst (n := 1) (by decide +kernel) (by decide +kernel)) <|
  zq_cons (zq_s_iadd (by decide +kernel)) <|
  zq_cons (zq_s_iald (by decide +kernel)) <|
  zq_cons (List.forall_mem_cons.mpr ⟨⟨zi_X8_fault, rfl, zq_s_callV (n := 1) (index := 27) (by decide +kernel) rfl zw_473 zw_474 zw_475 zw_80 zw_476 (by decide +kernel) (by decide +kernel) ⟨rfl, rfl⟩⟩, fun _ h => absurd h List.not_mem_nil⟩) <|
  zq_cons (zq_s_aload_n (n := 2) (by decide +kernel) rfl) <|
  zq_cons (zq_s_aload_n (n := 0) (by decide +kernel) rfl) <|
  zq_cons (zq_s_iload_n (n := 3) (by decide +kernel) rfl) <|
  zq_cons (zq_s_iconst (n := 1) (by decide +kernel) (by decide +kernel)) <|
  zq_cons (zq_s_iadd (by decide +kernel)) <|
  zq_cons (zq_s_iald (by decide +kernel)) <|
  zq_cons (List.forall_mem_cons.mpr ⟨⟨zi_X9_fault, rfl, zq_s_callV (n := 1) (index := 30) (by decide +kernel) rfl zw_995 zw_996 zw_997 zw_91 zw_998 (by decide +kernel) (by decide +kernel) ⟨rfl, rfl⟩⟩, fun _ h => absurd h List.not_mem_nil⟩) <|
  zq_cons (zq_s_ic_eq (off := 1036) (by decide +kernel) (by decide)) <|
  zq_cons (zq_s_iconst (n := 0) (by decide +kernel) (by decide +kernel)) <|
  zq_cons (⟨rfl, (by decide +kernel)⟩) <|
  zq_cons (zq_s_aload_n (n := 1) (by decide +kernel) rfl) <|
  zq_cons (zq_s_aload_n (n := 0) (by decide +kernel) rfl) <|
  zq_cons (zq_s_iload_n (n := 3) (by decide +kernel) rfl) <|
  zq_cons (zq_s_iconst (n := 1) (by decide +kernel) (by decide +kernel)) <|
  zq_cons (zq_s_iadd (by decide +kernel)) <|
  zq_cons (zq_s_iald (by decide +kernel)) <|
  zq_cons (zq_s_aload_n (n := 0) (by decide +kernel) rfl) <|
  zq_cons (zq_s_iload_n (n := 3) (by decide +kernel) rfl) <|
  zq_cons (zq_s_iconst (n := 2) (by decide +kernel) (by decide +kernel)) <|
  zq_cons (zq_s_iadd (by decide +kernel)) <|
  zq_cons (zq_s_iald (by decide +kernel)) <|
  zq_cons (List.forall_mem_cons.mpr ⟨⟨zi_X8_door, rfl, zq_s_callV (n := 2) (index := 31) (by decide +kernel) rfl zw_477 zw_478 zw_479 zw_80 zw_480 (by decide +kernel) (by decide +kernel) ⟨rfl, rfl⟩⟩, fun _ h => absurd h List.not_mem_nil⟩) <|
  zq_cons (zq_s_aload_n (n := 2) (by decide +kernel) rfl) <|
  zq_cons (zq_s_aload_n (n := 0) (by decide +kernel) rfl) <|
  zq_cons (zq_s_iload_n (n := 3) (by decide +kernel) rfl) <|
  zq_cons (zq_s_iconst (n := 1) (by decide +kernel) (by decide +kernel)) <|
  zq_cons (zq_s_iadd (by decide +kernel)) <|
  zq_cons (zq_s_iald (by decide +kernel)) <|
  zq_cons (zq_s_aload_n (n := 0) (by decide +kernel) rfl) <|
  zq_cons (zq_s_iload_n (n := 3) (by decide +kernel) rfl) <|
  zq_cons (zq_s_iconst (n := 2) (by decide +kernel) (by decide +kernel)) <|
  zq_cons (zq_s_iadd (by decide +kernel)) <|
  zq_cons (zq_s_iald (by decide +kernel)) <|
  zq_cons (List.forall_mem_cons.mpr ⟨⟨zi_X9_door, rfl, zq_s_callV (n := 2) (index := 34) (by decide +kernel) rfl zw_1022 zw_1023 zw_1024 zw_91 zw_1025 (by decide +kernel) (by decide +kernel) ⟨rfl, rfl⟩⟩, fun _ h => absurd h List.not_mem_nil⟩) <|
  zq_nil
def zc_L_law_3 : List (Nat × zq_It) := [(326, .inl (zq_ic_eq 329 1329)), (329, .inl (zq_push 330 (.int 0))), (330, .inr (.inr 2)), (331, .inl (zq_al 332 1)), (332, .inl (zq_al 333 0)), (333, .inl (zq_il 334 3)), (334, .inl (zq_push 335 (.int 1))), (335, .inl (zq_i2 336 (fun x y => x + y))), (336, .inl (zq_iald 337)), (337, .inl (zq_al 338 0)), (338, .inl (zq_il 339 3)), (339, .inl (zq_push 340 (.int 2))), (340, .inl (zq_i2 341 (fun x y => x + y))), (341, .inl (zq_iald 342)), (342, .inr (.inl (3, .inr [(7, zn_X8_person)]))), (345, .inl (zq_al 346 2)), (346, .inl (zq_al 347 0)), (347, .inl (zq_il 348 3)), (348, .inl (zq_push 349 (.int 1))), (349, .inl (zq_i2 350 (fun x y => x + y))), (350, .inl (zq_iald 351)), (351, .inl (zq_al 352 0)), (352, .inl (zq_il 353 3)), (353, .inl (zq_push 354 (.int 2))), (354, .inl (zq_i2 355 (fun x y => x + y))), (355, .inl (zq_iald 356)), (356, .inr (.inl (3, .inr [(8, zn_X9_person)]))), (359, .inl (zq_ic_eq 362 1329)), (362, .inl (zq_push 363 (.int 0))), (363, .inr (.inr 2)), (364, .inl (zq_al 365 1)), (365, .inl (zq_al 366 0)), (366, .inl (zq_il 367 3)), (367, .inl (zq_push 368 (.int 1))), (368, .inl (zq_i2 369 (fun x y => x + y))), (369, .inl (zq_iald 370)), (370, .inr (.inl (2, .inr [(7, zn_X8_ahead)]))), (373, .inl (zq_al 374 2)), (374, .inl (zq_al 375 0)), (375, .inl (zq_il 376 3))]
theorem zk_L_law_3 : zq_oks zi_L_law zc_L_law_3 := zq_cons (zq_s_ic_eq (off := 1003) (by decide +kernel) (by decide)) <|
  zq_cons (zq_s_iconst (n := 0) (by decide +kernel) (by decide +kernel)) <|
  zq_cons (⟨rfl, (by decide +kernel)⟩) <|
  zq_cons (zq_s_aload_n (n := 1) (by decide +kernel) rfl) <|
  zq_cons (zq_s_aload_n (n := 0) (by decide +kernel) rfl) <|
  zq_cons (zq_s_iload_n (n := 3) (by decide +kernel) rfl) <|
  zq_cons (zq_s_iconst (n := 1) (by decide +kernel) (by decide +kernel)) <|
  zq_cons (zq_s_iadd (by decide +kernel)) <|
  zq_cons (zq_s_iald (by decide +kernel)) <|
  zq_cons (zq_s_aload_n (n := 0) (by decide +kernel) rfl) <|
  zq_cons (zq_s_iload_n (n := 3) (by decide +kernel) rfl) <|
  zq_cons (zq_s_iconst (n := 2) (by decide +kernel) (by decide +kernel)) <|
  zq_cons (zq_s_iadd (by decide +kernel)) <|
  zq_cons (zq_s_iald (by decide +kernel)) <|
  zq_cons (List.forall_mem_cons.mpr ⟨⟨zi_X8_person, rfl, zq_s_callV (n := 2) (index := 35) (by decide +kernel) rfl zw_481 zw_482 zw_483 zw_80 zw_484 (by decide +kernel) (by decide +kernel) ⟨rfl, rfl⟩⟩, fun _ h => absurd h List.not_mem_nil⟩) <|
  zq_cons (zq_s_aload_n (n := 2) (by decide +kernel) rfl) <|
  zq_cons (zq_s_aload_n (n := 0) (by decide +kernel) rfl) <|
  zq_cons (zq_s_iload_n (n := 3) (by decide +kernel) rfl) <|
  zq_cons (zq_s_iconst (n := 1) (by decide +kernel) (by decide +kernel)) <|
  zq_cons (zq_s_iadd (by decide +kernel)) <|
  zq_cons (zq_s_iald (by decide +kernel)) <|
  zq_cons (zq_s_aload_n (n := 0) (by decide +kernel) rfl) <|
  zq_cons (zq_s_iload_n (n := 3) (by decide +kernel) rfl) <|
  zq_cons (zq_s_iconst (n := 2) (by decide +kernel) (by decide +kernel)) <|
  zq_cons (zq_s_iadd (by decide +kernel)) <|
  zq_cons (zq_s_iald (by decide +kernel)) <|
  zq_cons (List.forall_mem_cons.mpr ⟨⟨zi_X9_person, rfl, zq_s_callV (n := 2) (index := 38) (by decide +kernel) rfl zw_1041 zw_1042 zw_1043 zw_91 zw_1044 (by decide +kernel) (by decide +kernel) ⟨rfl, rfl⟩⟩, fun _ h => absurd h List.not_mem_nil⟩) <|
  zq_cons (zq_s_ic_eq (off := 970) (by decide +kernel) (by decide)) <|
  zq_cons (zq_s_iconst (n := 0) (by decide +kernel) (by decide +kernel)) <|
  zq_cons (⟨rfl, (by decide +kernel)⟩) <|
  zq_cons (zq_s_aload_n (n := 1) (by decide +kernel) rfl) <|
  zq_cons (zq_s_aload_n (n := 0) (by decide +kernel) rfl) <|
  zq_cons (zq_s_iload_n (n := 3) (by decide +kernel) rfl) <|
  zq_cons (zq_s_iconst (n := 1) (by decide +kernel) (by decide +kernel)) <|
  zq_cons (zq_s_iadd (by decide +kernel)) <|
  zq_cons (zq_s_iald (by decide +kernel)) <|
  zq_cons (List.forall_mem_cons.mpr ⟨⟨zi_X8_ahead, rfl, zq_s_callV (n := 1) (index := 39) (by decide +kernel) rfl zw_489 zw_490 zw_491 zw_80 zw_492 (by decide +kernel) (by decide +kernel) ⟨rfl, rfl⟩⟩, fun _ h => absurd h List.not_mem_nil⟩) <|
  zq_cons (zq_s_aload_n (n := 2) (by decide +kernel) rfl) <|
  zq_cons (zq_s_aload_n (n := 0) (by decide +kernel) rfl) <|
  zq_cons (zq_s_iload_n (n := 3) (by decide +kernel) rfl) <|
  zq_nil
def zc_L_law_4 : List (Nat × zq_It) := [(376, .inl (zq_push 377 (.int 1))), (377, .inl (zq_i2 378 (fun x y => x + y))), (378, .inl (zq_iald 379)), (379, .inr (.inl (2, .inr [(8, zn_X9_ahead)]))), (382, .inl (zq_ic_eq 385 1329)), (385, .inl (zq_push 386 (.int 0))), (386, .inr (.inr 2)), (387, .inl (zq_al 388 1)), (388, .inl (zq_al 389 0)), (389, .inl (zq_il 390 3)), (390, .inl (zq_push 391 (.int 1))), (391, .inl (zq_i2 392 (fun x y => x + y))), (392, .inl (zq_iald 393)), (393, .inl (zq_al 394 0)), (394, .inl (zq_il 395 3)), (395, .inl (zq_push 396 (.int 2))), (396, .inl (zq_i2 397 (fun x y => x + y))), (397, .inl (zq_iald 398)), (398, .inl (zq_al 399 0)), (399, .inl (zq_il 400 3)), (400, .inl (zq_push 401 (.int 3))), (401, .inl (zq_i2 402 (fun x y => x + y))), (402, .inl (zq_iald 403)), (403, .inr (.inl (4, .inr [(7, zn_X8_event)]))), (406, .inl (zq_al 407 2)), (407, .inl (zq_al 408 0)), (408, .inl (zq_il 409 3)), (409, .inl (zq_push 410 (.int 1))), (410, .inl (zq_i2 411 (fun x y => x + y))), (411, .inl (zq_iald 412)), (412, .inl (zq_al 413 0)), (413, .inl (zq_il 414 3)), (414, .inl (zq_push 415 (.int 2))), (415, .inl (zq_i2 416 (fun x y => x + y))), (416, .inl (zq_iald 417)), (417, .inl (zq_al 418 0)), (418, .inl (zq_il 419 3)), (419, .inl (zq_push 420 (.int 3))), (420, .inl (zq_i2 421 (fun x y => x + y))), (421, .inl (zq_iald 422))]
theorem zk_L_law_4 : zq_oks zi_L_law zc_L_law_4 := zq_cons (zq_s_iconst (n := 1) (by decide +kernel) (by decide +kernel)) <|
  zq_cons (zq_s_iadd (by decide +kernel)) <|
  zq_cons (zq_s_iald (by decide +kernel)) <|
  zq_cons (List.forall_mem_cons.mpr ⟨⟨zi_X9_ahead, rfl, zq_s_callV (n := 1) (index := 42) (by decide +kernel) rfl zw_1056 zw_1057 zw_1058 zw_91 zw_1059 (by decide +kernel) (by decide +kernel) ⟨rfl, rfl⟩⟩, fun _ h => absurd h List.not_mem_nil⟩) <|
  zq_cons (zq_s_ic_eq (off := 947) (by decide +kernel) (by decide)) <|
  zq_cons (zq_s_iconst (n := 0) (by decide +kernel) (by decide +kernel)) <|
  zq_cons (⟨rfl, (by decide +kernel)⟩) <|
  zq_cons (zq_s_aload_n (n := 1) (by decide +kernel) rfl) <|
  zq_cons (zq_s_aload_n (n := 0) (by decide +kernel) rfl) <|
  zq_cons (zq_s_iload_n (n := 3) (by decide +kernel) rfl) <|
  zq_cons (zq_s_iconst (n := 1) (by decide +kernel) (by decide +kernel)) <|
  zq_cons (zq_s_iadd (by decide +kernel)) <|
  zq_cons (zq_s_iald (by decide +kernel)) <|
  zq_cons (zq_s_aload_n (n := 0) (by decide +kernel) rfl) <|
  zq_cons (zq_s_iload_n (n := 3) (by decide +kernel) rfl) <|
  zq_cons (zq_s_iconst (n := 2) (by decide +kernel) (by decide +kernel)) <|
  zq_cons (zq_s_iadd (by decide +kernel)) <|
  zq_cons (zq_s_iald (by decide +kernel)) <|
  zq_cons (zq_s_aload_n (n := 0) (by decide +kernel) rfl) <|
  zq_cons (zq_s_iload_n (n := 3) (by decide +kernel) rfl) <|
  zq_cons (zq_s_iconst (n := 3) (by decide +kernel) (by decide +kernel)) <|
  zq_cons (zq_s_iadd (by decide +kernel)) <|
  zq_cons (zq_s_iald (by decide +kernel)) <|
  zq_cons (List.forall_mem_cons.mpr ⟨⟨zi_X8_event, rfl, zq_s_callV (n := 3) (index := 43) (by decide +kernel) rfl zw_493 zw_494 zw_495 zw_80 zw_496 (by decide +kernel) (by decide +kernel) ⟨rfl, rfl⟩⟩, fun _ h => absurd h List.not_mem_nil⟩) <|
  zq_cons (zq_s_aload_n (n := 2) (by decide +kernel) rfl) <|
  zq_cons (zq_s_aload_n (n := 0) (by decide +kernel) rfl) <|
  zq_cons (zq_s_iload_n (n := 3) (by decide +kernel) rfl) <|
  zq_cons (zq_s_iconst (n := 1) (by decide +kernel) (by decide +kernel)) <|
  zq_cons (zq_s_iadd (by decide +kernel)) <|
  zq_cons (zq_s_iald (by decide +kernel)) <|
  zq_cons (zq_s_aload_n (n := 0) (by decide +kernel) rfl) <|
  zq_cons (zq_s_iload_n (n := 3) (by decide +kernel) rfl) <|
  zq_cons (zq_s_iconst (n := 2) (by decide +kernel) (by decide +kernel)) <|
  zq_cons (zq_s_iadd (by decide +kernel)) <|
  zq_cons (zq_s_iald (by decide +kernel)) <|
  zq_cons (zq_s_aload_n (n := 0) (by decide +kernel) rfl) <|
  zq_cons (zq_s_iload_n (n := 3) (by decide +kernel) rfl) <|
  zq_cons (zq_s_iconst (n := 3) (by decide +kernel) (by decide +kernel)) <|
  zq_cons (zq_s_iadd (by decide +kernel)) <|
  zq_cons (zq_s_iald (by decide +kernel)) <|
  zq_nil
def zc_L_law_5 : List (Nat × zq_It) := [(422, .inr (.inl (4, .inr [(8, zn_X9_event)]))), (425, .inl (zq_ic_eq 428 1329)), (428, .inl (zq_push 429 (.int 0))), (429, .inr (.inr 2)), (430, .inl (zq_al 431 1)), (431, .inr (.inl (1, .inr [(7, zn_X8_back)]))), (434, .inl (zq_al 435 2)), (435, .inr (.inl (1, .inr [(8, zn_X9_back)]))), (438, .inl (zq_ic_eq 441 1329)), (441, .inl (zq_push 442 (.int 0))), (442, .inr (.inr 2)), (443, .inl (zq_al 444 1)), (444, .inl (zq_al 445 0)), (445, .inl (zq_il 446 3)), (446, .inl (zq_push 447 (.int 1))), (447, .inl (zq_i2 448 (fun x y => x + y))), (448, .inl (zq_iald 449)), (449, .inr (.inl (2, .inr [(7, zn_X8_read)]))), (452, .inl (zq_al 453 2)), (453, .inl (zq_al 454 0)), (454, .inl (zq_il 455 3)), (455, .inl (zq_push 456 (.int 1))), (456, .inl (zq_i2 457 (fun x y => x + y))), (457, .inl (zq_iald 458)), (458, .inr (.inl (2, .inr [(8, zn_X9_read)]))), (461, .inl (zq_ic_eq 464 1329)), (464, .inl (zq_push 465 (.int 0))), (465, .inr (.inr 2)), (466, .inl (zq_al 467 1)), (467, .inl (zq_al 468 0)), (468, .inl (zq_il 469 3)), (469, .inl (zq_push 470 (.int 1))), (470, .inl (zq_i2 471 (fun x y => x + y))), (471, .inl (zq_iald 472)), (472, .inl (zq_al 473 0)), (473, .inl (zq_il 474 3)), (474, .inl (zq_push 475 (.int 2))), (475, .inl (zq_i2 476 (fun x y => x + y))), (476, .inl (zq_iald 477)), (477, .inl (zq_al 478 0))]
theorem zk_L_law_5 : zq_oks zi_L_law zc_L_law_5 := zq_cons (List.forall_mem_cons.mpr ⟨⟨zi_X9_event, rfl, zq_s_callV (n := 3) (index := 47) (by decide +kernel) rfl zw_1060 zw_1061 zw_1062 zw_91 zw_1063 (by decide +kernel) (by decide +kernel) ⟨rfl, rfl⟩⟩, fun _ h => absurd h List.not_mem_nil⟩) <|
  zq_cons (zq_s_ic_eq (off := 904) (by decide +kernel) (by decide)) <|
  zq_cons (zq_s_iconst (n := 0) (by decide +kernel) (by decide +kernel)) <|
  zq_cons (⟨rfl, (by decide +kernel)⟩) <|
  zq_cons (zq_s_aload_n (n := 1) (by decide +kernel) rfl) <|
  zq_cons (List.forall_mem_cons.mpr ⟨⟨zi_X8_back, rfl, zq_s_callV (n := 0) (index := 48) (by decide +kernel) rfl zw_507 zw_508 zw_509 zw_80 zw_510 (by decide +kernel) (by decide +kernel) ⟨rfl, rfl⟩⟩, fun _ h => absurd h List.not_mem_nil⟩) <|
  zq_cons (zq_s_aload_n (n := 2) (by decide +kernel) rfl) <|
  zq_cons (List.forall_mem_cons.mpr ⟨⟨zi_X9_back, rfl, zq_s_callV (n := 0) (index := 52) (by decide +kernel) rfl zw_1067 zw_1068 zw_1069 zw_91 zw_1070 (by decide +kernel) (by decide +kernel) ⟨rfl, rfl⟩⟩, fun _ h => absurd h List.not_mem_nil⟩) <|
  zq_cons (zq_s_ic_eq (off := 891) (by decide +kernel) (by decide)) <|
  zq_cons (zq_s_iconst (n := 0) (by decide +kernel) (by decide +kernel)) <|
  zq_cons (⟨rfl, (by decide +kernel)⟩) <|
  zq_cons (zq_s_aload_n (n := 1) (by decide +kernel) rfl) <|
  zq_cons (zq_s_aload_n (n := 0) (by decide +kernel) rfl) <|
  zq_cons (zq_s_iload_n (n := 3) (by decide +kernel) rfl) <|
  zq_cons (zq_s_iconst (n := 1) (by decide +kernel) (by decide +kernel)) <|
  zq_cons (zq_s_iadd (by decide +kernel)) <|
  zq_cons (zq_s_iald (by decide +kernel)) <|
  zq_cons (List.forall_mem_cons.mpr ⟨⟨zi_X8_read, rfl, zq_s_callV (n := 1) (index := 53) (by decide +kernel) rfl zw_511 zw_512 zw_513 zw_80 zw_514 (by decide +kernel) (by decide +kernel) ⟨rfl, rfl⟩⟩, fun _ h => absurd h List.not_mem_nil⟩) <|
  zq_cons (zq_s_aload_n (n := 2) (by decide +kernel) rfl) <|
  zq_cons (zq_s_aload_n (n := 0) (by decide +kernel) rfl) <|
  zq_cons (zq_s_iload_n (n := 3) (by decide +kernel) rfl) <|
  zq_cons (zq_s_iconst (n := 1) (by decide +kernel) (by decide +kernel)) <|
  zq_cons (zq_s_iadd (by decide +kernel)) <|
  zq_cons (zq_s_iald (by decide +kernel)) <|
  zq_cons (List.forall_mem_cons.mpr ⟨⟨zi_X9_read, rfl, zq_s_callV (n := 1) (index := 56) (by decide +kernel) rfl zw_1071 zw_1072 zw_1073 zw_91 zw_1074 (by decide +kernel) (by decide +kernel) ⟨rfl, rfl⟩⟩, fun _ h => absurd h List.not_mem_nil⟩) <|
  zq_cons (zq_s_ic_eq (off := 868) (by decide +kernel) (by decide)) <|
  zq_cons (zq_s_iconst (n := 0) (by decide +kernel) (by decide +kernel)) <|
  zq_cons (⟨rfl, (by decide +kernel)⟩) <|
  zq_cons (zq_s_aload_n (n := 1) (by decide +kernel) rfl) <|
  zq_cons (zq_s_aload_n (n := 0) (by decide +kernel) rfl) <|
  zq_cons (zq_s_iload_n (n := 3) (by decide +kernel) rfl) <|
  zq_cons (zq_s_iconst (n := 1) (by decide +kernel) (by decide +kernel)) <|
  zq_cons (zq_s_iadd (by decide +kernel)) <|
  zq_cons (zq_s_iald (by decide +kernel)) <|
  zq_cons (zq_s_aload_n (n := 0) (by decide +kernel) rfl) <|
  zq_cons (zq_s_iload_n (n := 3) (by decide +kernel) rfl) <|
  zq_cons (zq_s_iconst (n := 2) (by decide +kernel) (by decide +kernel)) <|
  zq_cons (zq_s_iadd (by decide +kernel)) <|
  zq_cons (zq_s_iald (by decide +kernel)) <|
  zq_cons (zq_s_aload_n (n := 0) (by decide +kernel) rfl) <|
  zq_nil
def zc_L_law_6 : List (Nat × zq_It) := [(478, .inl (zq_il 479 3)), (479, .inl (zq_push 480 (.int 3))), (480, .inl (zq_i2 481 (fun x y => x + y))), (481, .inl (zq_iald 482)), (482, .inr (.inl (4, .inr [(7, zn_X8_at)]))), (485, .inl (zq_al 486 2)), (486, .inl (zq_al 487 0)), (487, .inl (zq_il 488 3)), (488, .inl (zq_push 489 (.int 1))), (489, .inl (zq_i2 490 (fun x y => x + y))), (490, .inl (zq_iald 491)), (491, .inl (zq_al 492 0)), (492, .inl (zq_il 493 3)), (493, .inl (zq_push 494 (.int 2))), (494, .inl (zq_i2 495 (fun x y => x + y))), (495, .inl (zq_iald 496)), (496, .inl (zq_al 497 0)), (497, .inl (zq_il 498 3)), (498, .inl (zq_push 499 (.int 3))), (499, .inl (zq_i2 500 (fun x y => x + y))), (500, .inl (zq_iald 501)), (501, .inr (.inl (4, .inr [(8, zn_X9_at)]))), (504, .inl (zq_ic_eq 507 1329)), (507, .inl (zq_push 508 (.int 0))), (508, .inr (.inr 2)), (509, .inl (zq_al 510 1)), (510, .inl (zq_al 511 0)), (511, .inl (zq_il 512 3)), (512, .inl (zq_push 513 (.int 1))), (513, .inl (zq_i2 514 (fun x y => x + y))), (514, .inl (zq_iald 515)), (515, .inl (zq_al 516 0)), (516, .inl (zq_il 517 3)), (517, .inl (zq_push 518 (.int 2))), (518, .inl (zq_i2 519 (fun x y => x + y))), (519, .inl (zq_iald 520)), (520, .inr (.inl (3, .inr [(7, zn_X8_room)]))), (523, .inl (zq_al 524 2)), (524, .inl (zq_al 525 0)), (525, .inl (zq_il 526 3))]
theorem zk_L_law_6 : zq_oks zi_L_law zc_L_law_6 := zq_cons (zq_s_iload_n (n := 3) (by decide +kernel) rfl) <|
  zq_cons (zq_s_iconst (n := 3) (by decide +kernel) (by decide +kernel)) <|
  zq_cons (zq_s_iadd (by decide +kernel)) <|
  zq_cons (zq_s_iald (by decide +kernel)) <|
  zq_cons (List.forall_mem_cons.mpr ⟨⟨zi_X8_at, rfl, zq_s_callV (n := 3) (index := 57) (by decide +kernel) rfl zw_527 zw_528 zw_529 zw_80 zw_530 (by decide +kernel) (by decide +kernel) ⟨rfl, rfl⟩⟩, fun _ h => absurd h List.not_mem_nil⟩) <|
  zq_cons (zq_s_aload_n (n := 2) (by decide +kernel) rfl) <|
  zq_cons (zq_s_aload_n (n := 0) (by decide +kernel) rfl) <|
  zq_cons (zq_s_iload_n (n := 3) (by decide +kernel) rfl) <|
  zq_cons (zq_s_iconst (n := 1) (by decide +kernel) (by decide +kernel)) <|
  zq_cons (zq_s_iadd (by decide +kernel)) <|
  zq_cons (zq_s_iald (by decide +kernel)) <|
  zq_cons (zq_s_aload_n (n := 0) (by decide +kernel) rfl) <|
  zq_cons (zq_s_iload_n (n := 3) (by decide +kernel) rfl) <|
  zq_cons (zq_s_iconst (n := 2) (by decide +kernel) (by decide +kernel)) <|
  zq_cons (zq_s_iadd (by decide +kernel)) <|
  zq_cons (zq_s_iald (by decide +kernel)) <|
  zq_cons (zq_s_aload_n (n := 0) (by decide +kernel) rfl) <|
  zq_cons (zq_s_iload_n (n := 3) (by decide +kernel) rfl) <|
  zq_cons (zq_s_iconst (n := 3) (by decide +kernel) (by decide +kernel)) <|
  zq_cons (zq_s_iadd (by decide +kernel)) <|
  zq_cons (zq_s_iald (by decide +kernel)) <|
  zq_cons (List.forall_mem_cons.mpr ⟨⟨zi_X9_at, rfl, zq_s_callV (n := 3) (index := 60) (by decide +kernel) rfl zw_1083 zw_1084 zw_1085 zw_91 zw_1086 (by decide +kernel) (by decide +kernel) ⟨rfl, rfl⟩⟩, fun _ h => absurd h List.not_mem_nil⟩) <|
  zq_cons (zq_s_ic_eq (off := 825) (by decide +kernel) (by decide)) <|
  zq_cons (zq_s_iconst (n := 0) (by decide +kernel) (by decide +kernel)) <|
  zq_cons (⟨rfl, (by decide +kernel)⟩) <|
  zq_cons (zq_s_aload_n (n := 1) (by decide +kernel) rfl) <|
  zq_cons (zq_s_aload_n (n := 0) (by decide +kernel) rfl) <|
  zq_cons (zq_s_iload_n (n := 3) (by decide +kernel) rfl) <|
  zq_cons (zq_s_iconst (n := 1) (by decide +kernel) (by decide +kernel)) <|
  zq_cons (zq_s_iadd (by decide +kernel)) <|
  zq_cons (zq_s_iald (by decide +kernel)) <|
  zq_cons (zq_s_aload_n (n := 0) (by decide +kernel) rfl) <|
  zq_cons (zq_s_iload_n (n := 3) (by decide +kernel) rfl) <|
  zq_cons (zq_s_iconst (n := 2) (by decide +kernel) (by decide +kernel)) <|
  zq_cons (zq_s_iadd (by decide +kernel)) <|
  zq_cons (zq_s_iald (by decide +kernel)) <|
  zq_cons (List.forall_mem_cons.mpr ⟨⟨zi_X8_room, rfl, zq_s_callV (n := 2) (index := 61) (by decide +kernel) rfl zw_573 zw_574 zw_575 zw_80 zw_576 (by decide +kernel) (by decide +kernel) ⟨rfl, rfl⟩⟩, fun _ h => absurd h List.not_mem_nil⟩) <|
  zq_cons (zq_s_aload_n (n := 2) (by decide +kernel) rfl) <|
  zq_cons (zq_s_aload_n (n := 0) (by decide +kernel) rfl) <|
  zq_cons (zq_s_iload_n (n := 3) (by decide +kernel) rfl) <|
  zq_nil
def zc_L_law_7 : List (Nat × zq_It) := [(526, .inl (zq_push 527 (.int 1))), (527, .inl (zq_i2 528 (fun x y => x + y))), (528, .inl (zq_iald 529)), (529, .inl (zq_al 530 0)), (530, .inl (zq_il 531 3)), (531, .inl (zq_push 532 (.int 2))), (532, .inl (zq_i2 533 (fun x y => x + y))), (533, .inl (zq_iald 534)), (534, .inr (.inl (3, .inr [(8, zn_X9_room)]))), (537, .inl (zq_ic_eq 540 1329)), (540, .inl (zq_push 541 (.int 0))), (541, .inr (.inr 2)), (542, .inl (zq_al 543 1)), (543, .inl (zq_al 544 0)), (544, .inl (zq_il 545 3)), (545, .inl (zq_push 546 (.int 1))), (546, .inl (zq_i2 547 (fun x y => x + y))), (547, .inl (zq_iald 548)), (548, .inl (zq_al 549 0)), (549, .inl (zq_il 550 3)), (550, .inl (zq_push 551 (.int 2))), (551, .inl (zq_i2 552 (fun x y => x + y))), (552, .inl (zq_iald 553)), (553, .inl (zq_al 554 0)), (554, .inl (zq_il 555 3)), (555, .inl (zq_push 556 (.int 3))), (556, .inl (zq_i2 557 (fun x y => x + y))), (557, .inl (zq_iald 558)), (558, .inr (.inl (4, .inr [(7, zn_X8_far)]))), (561, .inl (zq_al 562 2)), (562, .inl (zq_al 563 0)), (563, .inl (zq_il 564 3)), (564, .inl (zq_push 565 (.int 1))), (565, .inl (zq_i2 566 (fun x y => x + y))), (566, .inl (zq_iald 567)), (567, .inl (zq_al 568 0)), (568, .inl (zq_il 569 3)), (569, .inl (zq_push 570 (.int 2))), (570, .inl (zq_i2 571 (fun x y => x + y))), (571, .inl (zq_iald 572))]
theorem zk_L_law_7 : zq_oks zi_L_law zc_L_law_7 := zq_cons (zq_s_iconst (n := 1) (by decide +kernel) (by decide +kernel)) <|
  zq_cons (zq_s_iadd (by decide +kernel)) <|
  zq_cons (zq_s_iald (by decide +kernel)) <|
  zq_cons (zq_s_aload_n (n := 0) (by decide +kernel) rfl) <|
  zq_cons (zq_s_iload_n (n := 3) (by decide +kernel) rfl) <|
  zq_cons (zq_s_iconst (n := 2) (by decide +kernel) (by decide +kernel)) <|
  zq_cons (zq_s_iadd (by decide +kernel)) <|
  zq_cons (zq_s_iald (by decide +kernel)) <|
  zq_cons (List.forall_mem_cons.mpr ⟨⟨zi_X9_room, rfl, zq_s_callV (n := 2) (index := 64) (by decide +kernel) rfl zw_1134 zw_1135 zw_1136 zw_91 zw_1137 (by decide +kernel) (by decide +kernel) ⟨rfl, rfl⟩⟩, fun _ h => absurd h List.not_mem_nil⟩) <|
  zq_cons (zq_s_ic_eq (off := 792) (by decide +kernel) (by decide)) <|
  zq_cons (zq_s_iconst (n := 0) (by decide +kernel) (by decide +kernel)) <|
  zq_cons (⟨rfl, (by decide +kernel)⟩) <|
  zq_cons (zq_s_aload_n (n := 1) (by decide +kernel) rfl) <|
  zq_cons (zq_s_aload_n (n := 0) (by decide +kernel) rfl) <|
  zq_cons (zq_s_iload_n (n := 3) (by decide +kernel) rfl) <|
  zq_cons (zq_s_iconst (n := 1) (by decide +kernel) (by decide +kernel)) <|
  zq_cons (zq_s_iadd (by decide +kernel)) <|
  zq_cons (zq_s_iald (by decide +kernel)) <|
  zq_cons (zq_s_aload_n (n := 0) (by decide +kernel) rfl) <|
  zq_cons (zq_s_iload_n (n := 3) (by decide +kernel) rfl) <|
  zq_cons (zq_s_iconst (n := 2) (by decide +kernel) (by decide +kernel)) <|
  zq_cons (zq_s_iadd (by decide +kernel)) <|
  zq_cons (zq_s_iald (by decide +kernel)) <|
  zq_cons (zq_s_aload_n (n := 0) (by decide +kernel) rfl) <|
  zq_cons (zq_s_iload_n (n := 3) (by decide +kernel) rfl) <|
  zq_cons (zq_s_iconst (n := 3) (by decide +kernel) (by decide +kernel)) <|
  zq_cons (zq_s_iadd (by decide +kernel)) <|
  zq_cons (zq_s_iald (by decide +kernel)) <|
  zq_cons (List.forall_mem_cons.mpr ⟨⟨zi_X8_far, rfl, zq_s_callV (n := 3) (index := 65) (by decide +kernel) rfl zw_584 zw_585 zw_586 zw_80 zw_587 (by decide +kernel) (by decide +kernel) ⟨rfl, rfl⟩⟩, fun _ h => absurd h List.not_mem_nil⟩) <|
  zq_cons (zq_s_aload_n (n := 2) (by decide +kernel) rfl) <|
  zq_cons (zq_s_aload_n (n := 0) (by decide +kernel) rfl) <|
  zq_cons (zq_s_iload_n (n := 3) (by decide +kernel) rfl) <|
  zq_cons (zq_s_iconst (n := 1) (by decide +kernel) (by decide +kernel)) <|
  zq_cons (zq_s_iadd (by decide +kernel)) <|
  zq_cons (zq_s_iald (by decide +kernel)) <|
  zq_cons (zq_s_aload_n (n := 0) (by decide +kernel) rfl) <|
  zq_cons (zq_s_iload_n (n := 3) (by decide +kernel) rfl) <|
  zq_cons (zq_s_iconst (n := 2) (by decide +kernel) (by decide +kernel)) <|
  zq_cons (zq_s_iadd (by decide +kernel)) <|
  zq_cons (zq_s_iald (by decide +kernel)) <|
  zq_nil
def zc_L_law_8 : List (Nat × zq_It) := [(572, .inl (zq_al 573 0)), (573, .inl (zq_il 574 3)), (574, .inl (zq_push 575 (.int 3))), (575, .inl (zq_i2 576 (fun x y => x + y))), (576, .inl (zq_iald 577)), (577, .inr (.inl (4, .inr [(8, zn_X9_far)]))), (580, .inl (zq_ic_eq 583 1329)), (583, .inl (zq_push 584 (.int 0))), (584, .inr (.inr 2)), (585, .inl (zq_al 586 1)), (586, .inl (zq_al 587 0)), (587, .inl (zq_il 588 3)), (588, .inl (zq_push 589 (.int 1))), (589, .inl (zq_i2 590 (fun x y => x + y))), (590, .inl (zq_iald 591)), (591, .inl (zq_al 592 0)), (592, .inl (zq_il 593 3)), (593, .inl (zq_push 594 (.int 2))), (594, .inl (zq_i2 595 (fun x y => x + y))), (595, .inl (zq_iald 596)), (596, .inr (.inl (3, .inr [(7, zn_X8_meet)]))), (599, .inl (zq_al 600 2)), (600, .inl (zq_al 601 0)), (601, .inl (zq_il 602 3)), (602, .inl (zq_push 603 (.int 1))), (603, .inl (zq_i2 604 (fun x y => x + y))), (604, .inl (zq_iald 605)), (605, .inl (zq_al 606 0)), (606, .inl (zq_il 607 3)), (607, .inl (zq_push 608 (.int 2))), (608, .inl (zq_i2 609 (fun x y => x + y))), (609, .inl (zq_iald 610)), (610, .inr (.inl (3, .inr [(8, zn_X9_meet)]))), (613, .inl (zq_ic_eq 616 1329)), (616, .inl (zq_push 617 (.int 0))), (617, .inr (.inr 2)), (618, .inl (zq_al 619 1)), (619, .inl (zq_al 620 0)), (620, .inl (zq_il 621 3)), (621, .inl (zq_push 622 (.int 1)))]
theorem zk_L_law_8 : zq_oks zi_L_law zc_L_law_8 := zq_cons (zq_s_aload_n (n := 0) (by decide +kernel) rfl) <|
  zq_cons (zq_s_iload_n (n := 3) (by decide +kernel) rfl) <|
  zq_cons (zq_s_iconst (n := 3) (by decide +kernel) (by decide +kernel)) <|
  zq_cons (zq_s_iadd (by decide +kernel)) <|
  zq_cons (zq_s_iald (by decide +kernel)) <|
  zq_cons (List.forall_mem_cons.mpr ⟨⟨zi_X9_far, rfl, zq_s_callV (n := 3) (index := 68) (by decide +kernel) rfl zw_1146 zw_1147 zw_1148 zw_91 zw_1149 (by decide +kernel) (by decide +kernel) ⟨rfl, rfl⟩⟩, fun _ h => absurd h List.not_mem_nil⟩) <|
  zq_cons (zq_s_ic_eq (off := 749) (by decide +kernel) (by decide)) <|
  zq_cons (zq_s_iconst (n := 0) (by decide +kernel) (by decide +kernel)) <|
  zq_cons (⟨rfl, (by decide +kernel)⟩) <|
  zq_cons (zq_s_aload_n (n := 1) (by decide +kernel) rfl) <|
  zq_cons (zq_s_aload_n (n := 0) (by decide +kernel) rfl) <|
  zq_cons (zq_s_iload_n (n := 3) (by decide +kernel) rfl) <|
  zq_cons (zq_s_iconst (n := 1) (by decide +kernel) (by decide +kernel)) <|
  zq_cons (zq_s_iadd (by decide +kernel)) <|
  zq_cons (zq_s_iald (by decide +kernel)) <|
  zq_cons (zq_s_aload_n (n := 0) (by decide +kernel) rfl) <|
  zq_cons (zq_s_iload_n (n := 3) (by decide +kernel) rfl) <|
  zq_cons (zq_s_iconst (n := 2) (by decide +kernel) (by decide +kernel)) <|
  zq_cons (zq_s_iadd (by decide +kernel)) <|
  zq_cons (zq_s_iald (by decide +kernel)) <|
  zq_cons (List.forall_mem_cons.mpr ⟨⟨zi_X8_meet, rfl, zq_s_callV (n := 2) (index := 69) (by decide +kernel) rfl zw_592 zw_593 zw_594 zw_80 zw_595 (by decide +kernel) (by decide +kernel) ⟨rfl, rfl⟩⟩, fun _ h => absurd h List.not_mem_nil⟩) <|
  zq_cons (zq_s_aload_n (n := 2) (by decide +kernel) rfl) <|
  zq_cons (zq_s_aload_n (n := 0) (by decide +kernel) rfl) <|
  zq_cons (zq_s_iload_n (n := 3) (by decide +kernel) rfl) <|
  zq_cons (zq_s_iconst (n := 1) (by decide +kernel) (by decide +kernel)) <|
  zq_cons (zq_s_iadd (by decide +kernel)) <|
  zq_cons (zq_s_iald (by decide +kernel)) <|
  zq_cons (zq_s_aload_n (n := 0) (by decide +kernel) rfl) <|
  zq_cons (zq_s_iload_n (n := 3) (by decide +kernel) rfl) <|
  zq_cons (zq_s_iconst (n := 2) (by decide +kernel) (by decide +kernel)) <|
  zq_cons (zq_s_iadd (by decide +kernel)) <|
  zq_cons (zq_s_iald (by decide +kernel)) <|
  zq_cons (List.forall_mem_cons.mpr ⟨⟨zi_X9_meet, rfl, zq_s_callV (n := 2) (index := 72) (by decide +kernel) rfl zw_1154 zw_1155 zw_1156 zw_91 zw_1157 (by decide +kernel) (by decide +kernel) ⟨rfl, rfl⟩⟩, fun _ h => absurd h List.not_mem_nil⟩) <|
  zq_cons (zq_s_ic_eq (off := 716) (by decide +kernel) (by decide)) <|
  zq_cons (zq_s_iconst (n := 0) (by decide +kernel) (by decide +kernel)) <|
  zq_cons (⟨rfl, (by decide +kernel)⟩) <|
  zq_cons (zq_s_aload_n (n := 1) (by decide +kernel) rfl) <|
  zq_cons (zq_s_aload_n (n := 0) (by decide +kernel) rfl) <|
  zq_cons (zq_s_iload_n (n := 3) (by decide +kernel) rfl) <|
  zq_cons (zq_s_iconst (n := 1) (by decide +kernel) (by decide +kernel)) <|
  zq_nil
def zc_L_law_9 : List (Nat × zq_It) := [(622, .inl (zq_i2 623 (fun x y => x + y))), (623, .inl (zq_iald 624)), (624, .inr (.inl (2, .inr [(7, zn_X8_empty)]))), (627, .inl (zq_al 628 2)), (628, .inl (zq_al 629 0)), (629, .inl (zq_il 630 3)), (630, .inl (zq_push 631 (.int 1))), (631, .inl (zq_i2 632 (fun x y => x + y))), (632, .inl (zq_iald 633)), (633, .inr (.inl (2, .inr [(8, zn_X9_empty)]))), (636, .inl (zq_ic_eq 639 1329)), (639, .inl (zq_push 640 (.int 0))), (640, .inr (.inr 2)), (641, .inl (zq_al 642 1)), (642, .inl (zq_al 643 0)), (643, .inl (zq_il 644 3)), (644, .inl (zq_push 645 (.int 1))), (645, .inl (zq_i2 646 (fun x y => x + y))), (646, .inl (zq_iald 647)), (647, .inr (.inl (2, .inr [(7, zn_X8_found)]))), (650, .inl (zq_al 651 2)), (651, .inl (zq_al 652 0)), (652, .inl (zq_il 653 3)), (653, .inl (zq_push 654 (.int 1))), (654, .inl (zq_i2 655 (fun x y => x + y))), (655, .inl (zq_iald 656)), (656, .inr (.inl (2, .inr [(8, zn_X9_found)]))), (659, .inl (zq_ic_eq 662 1329)), (662, .inl (zq_push 663 (.int 0))), (663, .inr (.inr 2)), (664, .inl (zq_al 665 1)), (665, .inl (zq_al 666 0)), (666, .inl (zq_il 667 3)), (667, .inl (zq_push 668 (.int 1))), (668, .inl (zq_i2 669 (fun x y => x + y))), (669, .inl (zq_iald 670)), (670, .inr (.inl (2, .inr [(7, zn_X8_crowd)]))), (673, .inl (zq_al 674 2)), (674, .inl (zq_al 675 0)), (675, .inl (zq_il 676 3))]
theorem zk_L_law_9 : zq_oks zi_L_law zc_L_law_9 := zq_cons (zq_s_iadd (by decide +kernel)) <|
  zq_cons (zq_s_iald (by decide +kernel)) <|
  zq_cons (List.forall_mem_cons.mpr ⟨⟨zi_X8_empty, rfl, zq_s_callV (n := 1) (index := 73) (by decide +kernel) rfl zw_596 zw_597 zw_598 zw_80 zw_599 (by decide +kernel) (by decide +kernel) ⟨rfl, rfl⟩⟩, fun _ h => absurd h List.not_mem_nil⟩) <|
  zq_cons (zq_s_aload_n (n := 2) (by decide +kernel) rfl) <|
  zq_cons (zq_s_aload_n (n := 0) (by decide +kernel) rfl) <|
  zq_cons (zq_s_iload_n (n := 3) (by decide +kernel) rfl) <|
  zq_cons (zq_s_iconst (n := 1) (by decide +kernel) (by decide +kernel)) <|
  zq_cons (zq_s_iadd (by decide +kernel)) <|
  zq_cons (zq_s_iald (by decide +kernel)) <|
  zq_cons (List.forall_mem_cons.mpr ⟨⟨zi_X9_empty, rfl, zq_s_callV (n := 1) (index := 76) (by decide +kernel) rfl zw_1162 zw_1163 zw_1164 zw_91 zw_1165 (by decide +kernel) (by decide +kernel) ⟨rfl, rfl⟩⟩, fun _ h => absurd h List.not_mem_nil⟩) <|
  zq_cons (zq_s_ic_eq (off := 693) (by decide +kernel) (by decide)) <|
  zq_cons (zq_s_iconst (n := 0) (by decide +kernel) (by decide +kernel)) <|
  zq_cons (⟨rfl, (by decide +kernel)⟩) <|
  zq_cons (zq_s_aload_n (n := 1) (by decide +kernel) rfl) <|
  zq_cons (zq_s_aload_n (n := 0) (by decide +kernel) rfl) <|
  zq_cons (zq_s_iload_n (n := 3) (by decide +kernel) rfl) <|
  zq_cons (zq_s_iconst (n := 1) (by decide +kernel) (by decide +kernel)) <|
  zq_cons (zq_s_iadd (by decide +kernel)) <|
  zq_cons (zq_s_iald (by decide +kernel)) <|
  zq_cons (List.forall_mem_cons.mpr ⟨⟨zi_X8_found, rfl, zq_s_callV (n := 1) (index := 77) (by decide +kernel) rfl zw_605 zw_606 zw_607 zw_80 zw_608 (by decide +kernel) (by decide +kernel) ⟨rfl, rfl⟩⟩, fun _ h => absurd h List.not_mem_nil⟩) <|
  zq_cons (zq_s_aload_n (n := 2) (by decide +kernel) rfl) <|
  zq_cons (zq_s_aload_n (n := 0) (by decide +kernel) rfl) <|
  zq_cons (zq_s_iload_n (n := 3) (by decide +kernel) rfl) <|
  zq_cons (zq_s_iconst (n := 1) (by decide +kernel) (by decide +kernel)) <|
  zq_cons (zq_s_iadd (by decide +kernel)) <|
  zq_cons (zq_s_iald (by decide +kernel)) <|
  zq_cons (List.forall_mem_cons.mpr ⟨⟨zi_X9_found, rfl, zq_s_callV (n := 1) (index := 80) (by decide +kernel) rfl zw_1174 zw_1175 zw_1176 zw_91 zw_1177 (by decide +kernel) (by decide +kernel) ⟨rfl, rfl⟩⟩, fun _ h => absurd h List.not_mem_nil⟩) <|
  zq_cons (zq_s_ic_eq (off := 670) (by decide +kernel) (by decide)) <|
  zq_cons (zq_s_iconst (n := 0) (by decide +kernel) (by decide +kernel)) <|
  zq_cons (⟨rfl, (by decide +kernel)⟩) <|
  zq_cons (zq_s_aload_n (n := 1) (by decide +kernel) rfl) <|
  zq_cons (zq_s_aload_n (n := 0) (by decide +kernel) rfl) <|
  zq_cons (zq_s_iload_n (n := 3) (by decide +kernel) rfl) <|
  zq_cons (zq_s_iconst (n := 1) (by decide +kernel) (by decide +kernel)) <|
  zq_cons (zq_s_iadd (by decide +kernel)) <|
  zq_cons (zq_s_iald (by decide +kernel)) <|
  zq_cons (List.forall_mem_cons.mpr ⟨⟨zi_X8_crowd, rfl, zq_s_callV (n := 1) (index := 81) (by decide +kernel) rfl zw_623 zw_624 zw_625 zw_80 zw_626 (by decide +kernel) (by decide +kernel) ⟨rfl, rfl⟩⟩, fun _ h => absurd h List.not_mem_nil⟩) <|
  zq_cons (zq_s_aload_n (n := 2) (by decide +kernel) rfl) <|
  zq_cons (zq_s_aload_n (n := 0) (by decide +kernel) rfl) <|
  zq_cons (zq_s_iload_n (n := 3) (by decide +kernel) rfl) <|
  zq_nil
def zc_L_law_10 : List (Nat × zq_It) := [(676, .inl (zq_push 677 (.int 1))), (677, .inl (zq_i2 678 (fun x y => x + y))), (678, .inl (zq_iald 679)), (679, .inr (.inl (2, .inr [(8, zn_X9_crowd)]))), (682, .inl (zq_ic_eq 685 1329)), (685, .inl (zq_push 686 (.int 0))), (686, .inr (.inr 2)), (687, .inl (zq_al 688 1)), (688, .inr (.inl (1, .inr [(7, zn_X8_alone)]))), (691, .inl (zq_al 692 2)), (692, .inr (.inl (1, .inr [(8, zn_X9_alone)]))), (695, .inl (zq_ic_eq 698 1329)), (698, .inl (zq_push 699 (.int 0))), (699, .inr (.inr 2)), (700, .inl (zq_al 701 1)), (701, .inl (zq_al 702 0)), (702, .inl (zq_il 703 3)), (703, .inl (zq_push 704 (.int 1))), (704, .inl (zq_i2 705 (fun x y => x + y))), (705, .inl (zq_iald 706)), (706, .inl (zq_al 707 0)), (707, .inl (zq_il 708 3)), (708, .inl (zq_push 709 (.int 2))), (709, .inl (zq_i2 710 (fun x y => x + y))), (710, .inl (zq_iald 711)), (711, .inr (.inl (3, .inr [(7, zn_X8_sleep)]))), (714, .inl (zq_al 715 2)), (715, .inl (zq_al 716 0)), (716, .inl (zq_il 717 3)), (717, .inl (zq_push 718 (.int 1))), (718, .inl (zq_i2 719 (fun x y => x + y))), (719, .inl (zq_iald 720)), (720, .inl (zq_al 721 0)), (721, .inl (zq_il 722 3)), (722, .inl (zq_push 723 (.int 2))), (723, .inl (zq_i2 724 (fun x y => x + y))), (724, .inl (zq_iald 725)), (725, .inr (.inl (3, .inr [(8, zn_X9_sleep)]))), (728, .inl (zq_ic_eq 731 1329)), (731, .inl (zq_push 732 (.int 0)))]
theorem zk_L_law_10 : zq_oks zi_L_law zc_L_law_10 := zq_cons (zq_s_iconst (n := 1) (by decide +kernel) (by decide +kernel)) <|
  zq_cons (zq_s_iadd (by decide +kernel)) <|
  zq_cons (zq_s_iald (by decide +kernel)) <|
  zq_cons (List.forall_mem_cons.mpr ⟨⟨zi_X9_crowd, rfl, zq_s_callV (n := 1) (index := 84) (by decide +kernel) rfl zw_1186 zw_1187 zw_1188 zw_91 zw_1189 (by decide +kernel) (by decide +kernel) ⟨rfl, rfl⟩⟩, fun _ h => absurd h List.not_mem_nil⟩) <|
  zq_cons (zq_s_ic_eq (off := 647) (by decide +kernel) (by decide)) <|
  zq_cons (zq_s_iconst (n := 0) (by decide +kernel) (by decide +kernel)) <|
  zq_cons (⟨rfl, (by decide +kernel)⟩) <|
  zq_cons (zq_s_aload_n (n := 1) (by decide +kernel) rfl) <|
  zq_cons (List.forall_mem_cons.mpr ⟨⟨zi_X8_alone, rfl, zq_s_callV (n := 0) (index := 85) (by decide +kernel) rfl zw_642 zw_643 zw_644 zw_80 zw_645 (by decide +kernel) (by decide +kernel) ⟨rfl, rfl⟩⟩, fun _ h => absurd h List.not_mem_nil⟩) <|
  zq_cons (zq_s_aload_n (n := 2) (by decide +kernel) rfl) <|
  zq_cons (List.forall_mem_cons.mpr ⟨⟨zi_X9_alone, rfl, zq_s_callV (n := 0) (index := 88) (by decide +kernel) rfl zw_1198 zw_1199 zw_1200 zw_91 zw_1201 (by decide +kernel) (by decide +kernel) ⟨rfl, rfl⟩⟩, fun _ h => absurd h List.not_mem_nil⟩) <|
  zq_cons (zq_s_ic_eq (off := 634) (by decide +kernel) (by decide)) <|
  zq_cons (zq_s_iconst (n := 0) (by decide +kernel) (by decide +kernel)) <|
  zq_cons (⟨rfl, (by decide +kernel)⟩) <|
  zq_cons (zq_s_aload_n (n := 1) (by decide +kernel) rfl) <|
  zq_cons (zq_s_aload_n (n := 0) (by decide +kernel) rfl) <|
  zq_cons (zq_s_iload_n (n := 3) (by decide +kernel) rfl) <|
  zq_cons (zq_s_iconst (n := 1) (by decide +kernel) (by decide +kernel)) <|
  zq_cons (zq_s_iadd (by decide +kernel)) <|
  zq_cons (zq_s_iald (by decide +kernel)) <|
  zq_cons (zq_s_aload_n (n := 0) (by decide +kernel) rfl) <|
  zq_cons (zq_s_iload_n (n := 3) (by decide +kernel) rfl) <|
  zq_cons (zq_s_iconst (n := 2) (by decide +kernel) (by decide +kernel)) <|
  zq_cons (zq_s_iadd (by decide +kernel)) <|
  zq_cons (zq_s_iald (by decide +kernel)) <|
  zq_cons (List.forall_mem_cons.mpr ⟨⟨zi_X8_sleep, rfl, zq_s_callV (n := 2) (index := 89) (by decide +kernel) rfl zw_650 zw_651 zw_652 zw_80 zw_653 (by decide +kernel) (by decide +kernel) ⟨rfl, rfl⟩⟩, fun _ h => absurd h List.not_mem_nil⟩) <|
  zq_cons (zq_s_aload_n (n := 2) (by decide +kernel) rfl) <|
  zq_cons (zq_s_aload_n (n := 0) (by decide +kernel) rfl) <|
  zq_cons (zq_s_iload_n (n := 3) (by decide +kernel) rfl) <|
  zq_cons (zq_s_iconst (n := 1) (by decide +kernel) (by decide +kernel)) <|
  zq_cons (zq_s_iadd (by decide +kernel)) <|
  zq_cons (zq_s_iald (by decide +kernel)) <|
  zq_cons (zq_s_aload_n (n := 0) (by decide +kernel) rfl) <|
  zq_cons (zq_s_iload_n (n := 3) (by decide +kernel) rfl) <|
  zq_cons (zq_s_iconst (n := 2) (by decide +kernel) (by decide +kernel)) <|
  zq_cons (zq_s_iadd (by decide +kernel)) <|
  zq_cons (zq_s_iald (by decide +kernel)) <|
  zq_cons (List.forall_mem_cons.mpr ⟨⟨zi_X9_sleep, rfl, zq_s_callV (n := 2) (index := 92) (by decide +kernel) rfl zw_1214 zw_1215 zw_1216 zw_91 zw_1217 (by decide +kernel) (by decide +kernel) ⟨rfl, rfl⟩⟩, fun _ h => absurd h List.not_mem_nil⟩) <|
  zq_cons (zq_s_ic_eq (off := 601) (by decide +kernel) (by decide)) <|
  zq_cons (zq_s_iconst (n := 0) (by decide +kernel) (by decide +kernel)) <|
  zq_nil
def zc_L_law_11 : List (Nat × zq_It) := [(732, .inr (.inr 2)), (733, .inl (zq_al 734 1)), (734, .inl (zq_al 735 0)), (735, .inl (zq_il 736 3)), (736, .inl (zq_push 737 (.int 1))), (737, .inl (zq_i2 738 (fun x y => x + y))), (738, .inl (zq_iald 739)), (739, .inl (zq_al 740 0)), (740, .inl (zq_il 741 3)), (741, .inl (zq_push 742 (.int 2))), (742, .inl (zq_i2 743 (fun x y => x + y))), (743, .inl (zq_iald 744)), (744, .inr (.inl (3, .inr [(7, zn_X8_nice)]))), (747, .inl (zq_al 748 2)), (748, .inl (zq_al 749 0)), (749, .inl (zq_il 750 3)), (750, .inl (zq_push 751 (.int 1))), (751, .inl (zq_i2 752 (fun x y => x + y))), (752, .inl (zq_iald 753)), (753, .inl (zq_al 754 0)), (754, .inl (zq_il 755 3)), (755, .inl (zq_push 756 (.int 2))), (756, .inl (zq_i2 757 (fun x y => x + y))), (757, .inl (zq_iald 758)), (758, .inr (.inl (3, .inr [(8, zn_X9_nice)]))), (761, .inl (zq_ic_eq 764 1329)), (764, .inl (zq_push 765 (.int 0))), (765, .inr (.inr 2)), (766, .inl (zq_al 767 1)), (767, .inl (zq_al 768 0)), (768, .inl (zq_il 769 3)), (769, .inl (zq_push 770 (.int 1))), (770, .inl (zq_i2 771 (fun x y => x + y))), (771, .inl (zq_iald 772)), (772, .inr (.inl (2, .inr [(7, zn_X8_lens)]))), (775, .inl (zq_al 776 2)), (776, .inl (zq_al 777 0)), (777, .inl (zq_il 778 3)), (778, .inl (zq_push 779 (.int 1))), (779, .inl (zq_i2 780 (fun x y => x + y)))]
theorem zk_L_law_11 : zq_oks zi_L_law zc_L_law_11 := zq_cons (⟨rfl, (by decide +kernel)⟩) <|
  zq_cons (zq_s_aload_n (n := 1) (by decide +kernel) rfl) <|
  zq_cons (zq_s_aload_n (n := 0) (by decide +kernel) rfl) <|
  zq_cons (zq_s_iload_n (n := 3) (by decide +kernel) rfl) <|
  zq_cons (zq_s_iconst (n := 1) (by decide +kernel) (by decide +kernel)) <|
  zq_cons (zq_s_iadd (by decide +kernel)) <|
  zq_cons (zq_s_iald (by decide +kernel)) <|
  zq_cons (zq_s_aload_n (n := 0) (by decide +kernel) rfl) <|
  zq_cons (zq_s_iload_n (n := 3) (by decide +kernel) rfl) <|
  zq_cons (zq_s_iconst (n := 2) (by decide +kernel) (by decide +kernel)) <|
  zq_cons (zq_s_iadd (by decide +kernel)) <|
  zq_cons (zq_s_iald (by decide +kernel)) <|
  zq_cons (List.forall_mem_cons.mpr ⟨⟨zi_X8_nice, rfl, zq_s_callV (n := 2) (index := 93) (by decide +kernel) rfl zw_663 zw_664 zw_665 zw_80 zw_666 (by decide +kernel) (by decide +kernel) ⟨rfl, rfl⟩⟩, fun _ h => absurd h List.not_mem_nil⟩) <|
  zq_cons (zq_s_aload_n (n := 2) (by decide +kernel) rfl) <|
  zq_cons (zq_s_aload_n (n := 0) (by decide +kernel) rfl) <|
  zq_cons (zq_s_iload_n (n := 3) (by decide +kernel) rfl) <|
  zq_cons (zq_s_iconst (n := 1) (by decide +kernel) (by decide +kernel)) <|
  zq_cons (zq_s_iadd (by decide +kernel)) <|
  zq_cons (zq_s_iald (by decide +kernel)) <|
  zq_cons (zq_s_aload_n (n := 0) (by decide +kernel) rfl) <|
  zq_cons (zq_s_iload_n (n := 3) (by decide +kernel) rfl) <|
  zq_cons (zq_s_iconst (n := 2) (by decide +kernel) (by decide +kernel)) <|
  zq_cons (zq_s_iadd (by decide +kernel)) <|
  zq_cons (zq_s_iald (by decide +kernel)) <|
  zq_cons (List.forall_mem_cons.mpr ⟨⟨zi_X9_nice, rfl, zq_s_callV (n := 2) (index := 96) (by decide +kernel) rfl zw_1226 zw_1227 zw_1228 zw_91 zw_1229 (by decide +kernel) (by decide +kernel) ⟨rfl, rfl⟩⟩, fun _ h => absurd h List.not_mem_nil⟩) <|
  zq_cons (zq_s_ic_eq (off := 568) (by decide +kernel) (by decide)) <|
  zq_cons (zq_s_iconst (n := 0) (by decide +kernel) (by decide +kernel)) <|
  zq_cons (⟨rfl, (by decide +kernel)⟩) <|
  zq_cons (zq_s_aload_n (n := 1) (by decide +kernel) rfl) <|
  zq_cons (zq_s_aload_n (n := 0) (by decide +kernel) rfl) <|
  zq_cons (zq_s_iload_n (n := 3) (by decide +kernel) rfl) <|
  zq_cons (zq_s_iconst (n := 1) (by decide +kernel) (by decide +kernel)) <|
  zq_cons (zq_s_iadd (by decide +kernel)) <|
  zq_cons (zq_s_iald (by decide +kernel)) <|
  zq_cons (List.forall_mem_cons.mpr ⟨⟨zi_X8_lens, rfl, zq_s_callV (n := 1) (index := 97) (by decide +kernel) rfl zw_672 zw_673 zw_674 zw_80 zw_675 (by decide +kernel) (by decide +kernel) ⟨rfl, rfl⟩⟩, fun _ h => absurd h List.not_mem_nil⟩) <|
  zq_cons (zq_s_aload_n (n := 2) (by decide +kernel) rfl) <|
  zq_cons (zq_s_aload_n (n := 0) (by decide +kernel) rfl) <|
  zq_cons (zq_s_iload_n (n := 3) (by decide +kernel) rfl) <|
  zq_cons (zq_s_iconst (n := 1) (by decide +kernel) (by decide +kernel)) <|
  zq_cons (zq_s_iadd (by decide +kernel)) <|
  zq_nil
def zc_L_law_12 : List (Nat × zq_It) := [(780, .inl (zq_iald 781)), (781, .inr (.inl (2, .inr [(8, zn_X9_lens)]))), (784, .inl (zq_ic_eq 787 1329)), (787, .inl (zq_push 788 (.int 0))), (788, .inr (.inr 2)), (789, .inl (zq_al 790 1)), (790, .inl (zq_al 791 0)), (791, .inl (zq_il 792 3)), (792, .inl (zq_push 793 (.int 1))), (793, .inl (zq_i2 794 (fun x y => x + y))), (794, .inl (zq_iald 795)), (795, .inr (.inl (2, .inr [(7, zn_X8_spare)]))), (798, .inl (zq_al 799 2)), (799, .inl (zq_al 800 0)), (800, .inl (zq_il 801 3)), (801, .inl (zq_push 802 (.int 1))), (802, .inl (zq_i2 803 (fun x y => x + y))), (803, .inl (zq_iald 804)), (804, .inr (.inl (2, .inr [(8, zn_X9_spare)]))), (807, .inl (zq_ic_eq 810 1329)), (810, .inl (zq_push 811 (.int 0))), (811, .inr (.inr 2)), (812, .inl (zq_al 813 1)), (813, .inl (zq_al 814 0)), (814, .inl (zq_il 815 3)), (815, .inl (zq_push 816 (.int 1))), (816, .inl (zq_i2 817 (fun x y => x + y))), (817, .inl (zq_iald 818)), (818, .inl (zq_al 819 0)), (819, .inl (zq_il 820 3)), (820, .inl (zq_push 821 (.int 2))), (821, .inl (zq_i2 822 (fun x y => x + y))), (822, .inl (zq_iald 823)), (823, .inl (zq_al 824 0)), (824, .inl (zq_il 825 3)), (825, .inl (zq_push 826 (.int 3))), (826, .inl (zq_i2 827 (fun x y => x + y))), (827, .inl (zq_iald 828)), (828, .inr (.inl (4, .inr [(7, zn_X8_seen)]))), (831, .inl (zq_al 832 2))]
theorem zk_L_law_12 : zq_oks zi_L_law zc_L_law_12 := zq_cons (zq_s_iald (by decide +kernel)) <|
  zq_cons (List.forall_mem_cons.mpr ⟨⟨zi_X9_lens, rfl, zq_s_callV (n := 1) (index := 100) (by decide +kernel) rfl zw_1238 zw_1239 zw_1240 zw_91 zw_1241 (by decide +kernel) (by decide +kernel) ⟨rfl, rfl⟩⟩, fun _ h => absurd h List.not_mem_nil⟩) <|
  zq_cons (zq_s_ic_eq (off := 545) (by decide +kernel) (by decide)) <|
  zq_cons (zq_s_iconst (n := 0) (by decide +kernel) (by decide +kernel)) <|
  zq_cons (⟨rfl, (by decide +kernel)⟩) <|
  zq_cons (zq_s_aload_n (n := 1) (by decide +kernel) rfl) <|
  zq_cons (zq_s_aload_n (n := 0) (by decide +kernel) rfl) <|
  zq_cons (zq_s_iload_n (n := 3) (by decide +kernel) rfl) <|
  zq_cons (zq_s_iconst (n := 1) (by decide +kernel) (by decide +kernel)) <|
  zq_cons (zq_s_iadd (by decide +kernel)) <|
  zq_cons (zq_s_iald (by decide +kernel)) <|
  zq_cons (List.forall_mem_cons.mpr ⟨⟨zi_X8_spare, rfl, zq_s_callV (n := 1) (index := 101) (by decide +kernel) rfl zw_676 zw_677 zw_678 zw_80 zw_679 (by decide +kernel) (by decide +kernel) ⟨rfl, rfl⟩⟩, fun _ h => absurd h List.not_mem_nil⟩) <|
  zq_cons (zq_s_aload_n (n := 2) (by decide +kernel) rfl) <|
  zq_cons (zq_s_aload_n (n := 0) (by decide +kernel) rfl) <|
  zq_cons (zq_s_iload_n (n := 3) (by decide +kernel) rfl) <|
  zq_cons (zq_s_iconst (n := 1) (by decide +kernel) (by decide +kernel)) <|
  zq_cons (zq_s_iadd (by decide +kernel)) <|
  zq_cons (zq_s_iald (by decide +kernel)) <|
  zq_cons (List.forall_mem_cons.mpr ⟨⟨zi_X9_spare, rfl, zq_s_callV (n := 1) (index := 104) (by decide +kernel) rfl zw_1246 zw_1247 zw_1248 zw_91 zw_1249 (by decide +kernel) (by decide +kernel) ⟨rfl, rfl⟩⟩, fun _ h => absurd h List.not_mem_nil⟩) <|
  zq_cons (zq_s_ic_eq (off := 522) (by decide +kernel) (by decide)) <|
  zq_cons (zq_s_iconst (n := 0) (by decide +kernel) (by decide +kernel)) <|
  zq_cons (⟨rfl, (by decide +kernel)⟩) <|
  zq_cons (zq_s_aload_n (n := 1) (by decide +kernel) rfl) <|
  zq_cons (zq_s_aload_n (n := 0) (by decide +kernel) rfl) <|
  zq_cons (zq_s_iload_n (n := 3) (by decide +kernel) rfl) <|
  zq_cons (zq_s_iconst (n := 1) (by decide +kernel) (by decide +kernel)) <|
  zq_cons (zq_s_iadd (by decide +kernel)) <|
  zq_cons (zq_s_iald (by decide +kernel)) <|
  zq_cons (zq_s_aload_n (n := 0) (by decide +kernel) rfl) <|
  zq_cons (zq_s_iload_n (n := 3) (by decide +kernel) rfl) <|
  zq_cons (zq_s_iconst (n := 2) (by decide +kernel) (by decide +kernel)) <|
  zq_cons (zq_s_iadd (by decide +kernel)) <|
  zq_cons (zq_s_iald (by decide +kernel)) <|
  zq_cons (zq_s_aload_n (n := 0) (by decide +kernel) rfl) <|
  zq_cons (zq_s_iload_n (n := 3) (by decide +kernel) rfl) <|
  zq_cons (zq_s_iconst (n := 3) (by decide +kernel) (by decide +kernel)) <|
  zq_cons (zq_s_iadd (by decide +kernel)) <|
  zq_cons (zq_s_iald (by decide +kernel)) <|
  zq_cons (List.forall_mem_cons.mpr ⟨⟨zi_X8_seen, rfl, zq_s_callV (n := 3) (index := 105) (by decide +kernel) rfl zw_692 zw_693 zw_694 zw_80 zw_695 (by decide +kernel) (by decide +kernel) ⟨rfl, rfl⟩⟩, fun _ h => absurd h List.not_mem_nil⟩) <|
  zq_cons (zq_s_aload_n (n := 2) (by decide +kernel) rfl) <|
  zq_nil
def zc_L_law_13 : List (Nat × zq_It) := [(832, .inl (zq_al 833 0)), (833, .inl (zq_il 834 3)), (834, .inl (zq_push 835 (.int 1))), (835, .inl (zq_i2 836 (fun x y => x + y))), (836, .inl (zq_iald 837)), (837, .inl (zq_al 838 0)), (838, .inl (zq_il 839 3)), (839, .inl (zq_push 840 (.int 2))), (840, .inl (zq_i2 841 (fun x y => x + y))), (841, .inl (zq_iald 842)), (842, .inl (zq_al 843 0)), (843, .inl (zq_il 844 3)), (844, .inl (zq_push 845 (.int 3))), (845, .inl (zq_i2 846 (fun x y => x + y))), (846, .inl (zq_iald 847)), (847, .inr (.inl (4, .inr [(8, zn_X9_seen)]))), (850, .inl (zq_ic_eq 853 1329)), (853, .inl (zq_push 854 (.int 0))), (854, .inr (.inr 2)), (855, .inl (zq_al 856 1)), (856, .inr (.inl (1, .inr [(7, zn_X8_forget)]))), (859, .inl (zq_al 860 2)), (860, .inr (.inl (1, .inr [(8, zn_X9_forget)]))), (863, .inl (zq_ic_eq 866 1329)), (866, .inl (zq_push 867 (.int 0))), (867, .inr (.inr 2)), (868, .inl (zq_al 869 1)), (869, .inr (.inl (1, .inr [(7, zn_X8_never)]))), (872, .inl (zq_al 873 2)), (873, .inr (.inl (1, .inr [(8, zn_X9_never)]))), (876, .inl (zq_ic_eq 879 1329)), (879, .inl (zq_push 880 (.int 0))), (880, .inr (.inr 2)), (881, .inl (zq_al 882 1)), (882, .inl (zq_al 883 0)), (883, .inl (zq_il 884 3)), (884, .inl (zq_push 885 (.int 1))), (885, .inl (zq_i2 886 (fun x y => x + y))), (886, .inl (zq_iald 887)), (887, .inl (zq_al 888 0))]
theorem zk_L_law_13 : zq_oks zi_L_law zc_L_law_13 := zq_cons (zq_s_aload_n (n := 0) (by decide +kernel) rfl) <|
  zq_cons (zq_s_iload_n (n := 3) (by decide +kernel) rfl) <|
  zq_cons (zq_s_iconst (n := 1) (by decide +kernel) (by decide +kernel)) <|
  zq_cons (zq_s_iadd (by decide +kernel)) <|
  zq_cons (zq_s_iald (by decide +kernel)) <|
  zq_cons (zq_s_aload_n (n := 0) (by decide +kernel) rfl) <|
  zq_cons (zq_s_iload_n (n := 3) (by decide +kernel) rfl) <|
  zq_cons (zq_s_iconst (n := 2) (by decide +kernel) (by decide +kernel)) <|
  zq_cons (zq_s_iadd (by decide +kernel)) <|
  zq_cons (zq_s_iald (by decide +kernel)) <|
  zq_cons (zq_s_aload_n (n := 0) (by decide +kernel) rfl) <|
  zq_cons (zq_s_iload_n (n := 3) (by decide +kernel) rfl) <|
  zq_cons (zq_s_iconst (n := 3) (by decide +kernel) (by decide +kernel)) <|
  zq_cons (zq_s_iadd (by decide +kernel)) <|
  zq_cons (zq_s_iald (by decide +kernel)) <|
  zq_cons (List.forall_mem_cons.mpr ⟨⟨zi_X9_seen, rfl, zq_s_callV (n := 3) (index := 108) (by decide +kernel) rfl zw_1262 zw_1263 zw_1264 zw_91 zw_1265 (by decide +kernel) (by decide +kernel) ⟨rfl, rfl⟩⟩, fun _ h => absurd h List.not_mem_nil⟩) <|
  zq_cons (zq_s_ic_eq (off := 479) (by decide +kernel) (by decide)) <|
  zq_cons (zq_s_iconst (n := 0) (by decide +kernel) (by decide +kernel)) <|
  zq_cons (⟨rfl, (by decide +kernel)⟩) <|
  zq_cons (zq_s_aload_n (n := 1) (by decide +kernel) rfl) <|
  zq_cons (List.forall_mem_cons.mpr ⟨⟨zi_X8_forget, rfl, zq_s_callV (n := 0) (index := 109) (by decide +kernel) rfl zw_700 zw_701 zw_702 zw_80 zw_703 (by decide +kernel) (by decide +kernel) ⟨rfl, rfl⟩⟩, fun _ h => absurd h List.not_mem_nil⟩) <|
  zq_cons (zq_s_aload_n (n := 2) (by decide +kernel) rfl) <|
  zq_cons (List.forall_mem_cons.mpr ⟨⟨zi_X9_forget, rfl, zq_s_callV (n := 0) (index := 112) (by decide +kernel) rfl zw_1266 zw_1267 zw_1268 zw_91 zw_1269 (by decide +kernel) (by decide +kernel) ⟨rfl, rfl⟩⟩, fun _ h => absurd h List.not_mem_nil⟩) <|
  zq_cons (zq_s_ic_eq (off := 466) (by decide +kernel) (by decide)) <|
  zq_cons (zq_s_iconst (n := 0) (by decide +kernel) (by decide +kernel)) <|
  zq_cons (⟨rfl, (by decide +kernel)⟩) <|
  zq_cons (zq_s_aload_n (n := 1) (by decide +kernel) rfl) <|
  zq_cons (List.forall_mem_cons.mpr ⟨⟨zi_X8_never, rfl, zq_s_callV (n := 0) (index := 113) (by decide +kernel) rfl zw_704 zw_705 zw_706 zw_80 zw_707 (by decide +kernel) (by decide +kernel) ⟨rfl, rfl⟩⟩, fun _ h => absurd h List.not_mem_nil⟩) <|
  zq_cons (zq_s_aload_n (n := 2) (by decide +kernel) rfl) <|
  zq_cons (List.forall_mem_cons.mpr ⟨⟨zi_X9_never, rfl, zq_s_callV (n := 0) (index := 116) (by decide +kernel) rfl zw_1270 zw_1271 zw_1272 zw_91 zw_1273 (by decide +kernel) (by decide +kernel) ⟨rfl, rfl⟩⟩, fun _ h => absurd h List.not_mem_nil⟩) <|
  zq_cons (zq_s_ic_eq (off := 453) (by decide +kernel) (by decide)) <|
  zq_cons (zq_s_iconst (n := 0) (by decide +kernel) (by decide +kernel)) <|
  zq_cons (⟨rfl, (by decide +kernel)⟩) <|
  zq_cons (zq_s_aload_n (n := 1) (by decide +kernel) rfl) <|
  zq_cons (zq_s_aload_n (n := 0) (by decide +kernel) rfl) <|
  zq_cons (zq_s_iload_n (n := 3) (by decide +kernel) rfl) <|
  zq_cons (zq_s_iconst (n := 1) (by decide +kernel) (by decide +kernel)) <|
  zq_cons (zq_s_iadd (by decide +kernel)) <|
  zq_cons (zq_s_iald (by decide +kernel)) <|
  zq_cons (zq_s_aload_n (n := 0) (by decide +kernel) rfl) <|
  zq_nil
def zc_L_law_14 : List (Nat × zq_It) := [(888, .inl (zq_il 889 3)), (889, .inl (zq_push 890 (.int 2))), (890, .inl (zq_i2 891 (fun x y => x + y))), (891, .inl (zq_iald 892)), (892, .inr (.inl (3, .inr [(7, zn_X8_was)]))), (895, .inl (zq_al 896 2)), (896, .inl (zq_al 897 0)), (897, .inl (zq_il 898 3)), (898, .inl (zq_push 899 (.int 1))), (899, .inl (zq_i2 900 (fun x y => x + y))), (900, .inl (zq_iald 901)), (901, .inl (zq_al 902 0)), (902, .inl (zq_il 903 3)), (903, .inl (zq_push 904 (.int 2))), (904, .inl (zq_i2 905 (fun x y => x + y))), (905, .inl (zq_iald 906)), (906, .inr (.inl (3, .inr [(8, zn_X9_was)]))), (909, .inl (zq_ic_eq 912 1329)), (912, .inl (zq_push 913 (.int 0))), (913, .inr (.inr 2)), (914, .inl (zq_al 915 1)), (915, .inl (zq_al 916 0)), (916, .inl (zq_il 917 3)), (917, .inl (zq_push 918 (.int 1))), (918, .inl (zq_i2 919 (fun x y => x + y))), (919, .inl (zq_iald 920)), (920, .inr (.inl (2, .inr [(7, zn_X8_ask)]))), (923, .inl (zq_al 924 2)), (924, .inl (zq_al 925 0)), (925, .inl (zq_il 926 3)), (926, .inl (zq_push 927 (.int 1))), (927, .inl (zq_i2 928 (fun x y => x + y))), (928, .inl (zq_iald 929)), (929, .inr (.inl (2, .inr [(8, zn_X9_ask)]))), (932, .inl (zq_ic_eq 935 1329)), (935, .inl (zq_push 936 (.int 0))), (936, .inr (.inr 2)), (937, .inl (zq_al 938 1)), (938, .inl (zq_al 939 0)), (939, .inl (zq_il 940 3))]
theorem zk_L_law_14 : zq_oks zi_L_law zc_L_law_14 := zq_cons (zq_s_iload_n (n := 3) (by decide +kernel) rfl) <|
  zq_cons (zq_s_iconst (n := 2) (by decide +kernel) (by decide +kernel)) <|
  zq_cons (zq_s_iadd (by decide +kernel)) <|
  zq_cons (zq_s_iald (by decide +kernel)) <|
  zq_cons (List.forall_mem_cons.mpr ⟨⟨zi_X8_was, rfl, zq_s_callV (n := 2) (index := 117) (by decide +kernel) rfl zw_713 zw_714 zw_715 zw_80 zw_716 (by decide +kernel) (by decide +kernel) ⟨rfl, rfl⟩⟩, fun _ h => absurd h List.not_mem_nil⟩) <|
  zq_cons (zq_s_aload_n (n := 2) (by decide +kernel) rfl) <|
  zq_cons (zq_s_aload_n (n := 0) (by decide +kernel) rfl) <|
  zq_cons (zq_s_iload_n (n := 3) (by decide +kernel) rfl) <|
  zq_cons (zq_s_iconst (n := 1) (by decide +kernel) (by decide +kernel)) <|
  zq_cons (zq_s_iadd (by decide +kernel)) <|
  zq_cons (zq_s_iald (by decide +kernel)) <|
  zq_cons (zq_s_aload_n (n := 0) (by decide +kernel) rfl) <|
  zq_cons (zq_s_iload_n (n := 3) (by decide +kernel) rfl) <|
  zq_cons (zq_s_iconst (n := 2) (by decide +kernel) (by decide +kernel)) <|
  zq_cons (zq_s_iadd (by decide +kernel)) <|
  zq_cons (zq_s_iald (by decide +kernel)) <|
  zq_cons (List.forall_mem_cons.mpr ⟨⟨zi_X9_was, rfl, zq_s_callV (n := 2) (index := 120) (by decide +kernel) rfl zw_1282 zw_1283 zw_1284 zw_91 zw_1285 (by decide +kernel) (by decide +kernel) ⟨rfl, rfl⟩⟩, fun _ h => absurd h List.not_mem_nil⟩) <|
  zq_cons (zq_s_ic_eq (off := 420) (by decide +kernel) (by decide)) <|
  zq_cons (zq_s_iconst (n := 0) (by decide +kernel) (by decide +kernel)) <|
  zq_cons (⟨rfl, (by decide +kernel)⟩) <|
  zq_cons (zq_s_aload_n (n := 1) (by decide +kernel) rfl) <|
  zq_cons (zq_s_aload_n (n := 0) (by decide +kernel) rfl) <|
  zq_cons (zq_s_iload_n (n := 3) (by decide +kernel) rfl) <|
  zq_cons (zq_s_iconst (n := 1) (by decide +kernel) (by decide +kernel)) <|
  zq_cons (zq_s_iadd (by decide +kernel)) <|
  zq_cons (zq_s_iald (by decide +kernel)) <|
  zq_cons (List.forall_mem_cons.mpr ⟨⟨zi_X8_ask, rfl, zq_s_callV (n := 1) (index := 121) (by decide +kernel) rfl zw_725 zw_726 zw_727 zw_80 zw_728 (by decide +kernel) (by decide +kernel) ⟨rfl, rfl⟩⟩, fun _ h => absurd h List.not_mem_nil⟩) <|
  zq_cons (zq_s_aload_n (n := 2) (by decide +kernel) rfl) <|
  zq_cons (zq_s_aload_n (n := 0) (by decide +kernel) rfl) <|
  zq_cons (zq_s_iload_n (n := 3) (by decide +kernel) rfl) <|
  zq_cons (zq_s_iconst (n := 1) (by decide +kernel) (by decide +kernel)) <|
  zq_cons (zq_s_iadd (by decide +kernel)) <|
  zq_cons (zq_s_iald (by decide +kernel)) <|
  zq_cons (List.forall_mem_cons.mpr ⟨⟨zi_X9_ask, rfl, zq_s_callV (n := 1) (index := 124) (by decide +kernel) rfl zw_1294 zw_1295 zw_1296 zw_91 zw_1297 (by decide +kernel) (by decide +kernel) ⟨rfl, rfl⟩⟩, fun _ h => absurd h List.not_mem_nil⟩) <|
  zq_cons (zq_s_ic_eq (off := 397) (by decide +kernel) (by decide)) <|
  zq_cons (zq_s_iconst (n := 0) (by decide +kernel) (by decide +kernel)) <|
  zq_cons (⟨rfl, (by decide +kernel)⟩) <|
  zq_cons (zq_s_aload_n (n := 1) (by decide +kernel) rfl) <|
  zq_cons (zq_s_aload_n (n := 0) (by decide +kernel) rfl) <|
  zq_cons (zq_s_iload_n (n := 3) (by decide +kernel) rfl) <|
  zq_nil
def zc_L_law_15 : List (Nat × zq_It) := [(940, .inl (zq_push 941 (.int 1))), (941, .inl (zq_i2 942 (fun x y => x + y))), (942, .inl (zq_iald 943)), (943, .inl (zq_al 944 0)), (944, .inl (zq_il 945 3)), (945, .inl (zq_push 946 (.int 2))), (946, .inl (zq_i2 947 (fun x y => x + y))), (947, .inl (zq_iald 948)), (948, .inl (zq_al 949 0)), (949, .inl (zq_il 950 3)), (950, .inl (zq_push 951 (.int 3))), (951, .inl (zq_i2 952 (fun x y => x + y))), (952, .inl (zq_iald 953)), (953, .inl (zq_al 954 0)), (954, .inl (zq_il 955 3)), (955, .inl (zq_push 956 (.int 4))), (956, .inl (zq_i2 957 (fun x y => x + y))), (957, .inl (zq_iald 958)), (958, .inr (.inl (5, .inr [(7, zn_X8_chance)]))), (961, .inl (zq_al 962 2)), (962, .inl (zq_al 963 0)), (963, .inl (zq_il 964 3)), (964, .inl (zq_push 965 (.int 1))), (965, .inl (zq_i2 966 (fun x y => x + y))), (966, .inl (zq_iald 967)), (967, .inl (zq_al 968 0)), (968, .inl (zq_il 969 3)), (969, .inl (zq_push 970 (.int 2))), (970, .inl (zq_i2 971 (fun x y => x + y))), (971, .inl (zq_iald 972)), (972, .inl (zq_al 973 0)), (973, .inl (zq_il 974 3)), (974, .inl (zq_push 975 (.int 3))), (975, .inl (zq_i2 976 (fun x y => x + y))), (976, .inl (zq_iald 977)), (977, .inl (zq_al 978 0)), (978, .inl (zq_il 979 3)), (979, .inl (zq_push 980 (.int 4))), (980, .inl (zq_i2 981 (fun x y => x + y))), (981, .inl (zq_iald 982))]
theorem zk_L_law_15 : zq_oks zi_L_law zc_L_law_15 := zq_cons (zq_s_iconst (n := 1) (by decide +kernel) (by decide +kernel)) <|
  zq_cons (zq_s_iadd (by decide +kernel)) <|
  zq_cons (zq_s_iald (by decide +kernel)) <|
  zq_cons (zq_s_aload_n (n := 0) (by decide +kernel) rfl) <|
  zq_cons (zq_s_iload_n (n := 3) (by decide +kernel) rfl) <|
  zq_cons (zq_s_iconst (n := 2) (by decide +kernel) (by decide +kernel)) <|
  zq_cons (zq_s_iadd (by decide +kernel)) <|
  zq_cons (zq_s_iald (by decide +kernel)) <|
  zq_cons (zq_s_aload_n (n := 0) (by decide +kernel) rfl) <|
  zq_cons (zq_s_iload_n (n := 3) (by decide +kernel) rfl) <|
  zq_cons (zq_s_iconst (n := 3) (by decide +kernel) (by decide +kernel)) <|
  zq_cons (zq_s_iadd (by decide +kernel)) <|
  zq_cons (zq_s_iald (by decide +kernel)) <|
  zq_cons (zq_s_aload_n (n := 0) (by decide +kernel) rfl) <|
  zq_cons (zq_s_iload_n (n := 3) (by decide +kernel) rfl) <|
  zq_cons (zq_s_iconst (n := 4) (by decide +kernel) (by decide +kernel)) <|
  zq_cons (zq_s_iadd (by decide +kernel)) <|
  zq_cons (zq_s_iald (by decide +kernel)) <|
  zq_cons (List.forall_mem_cons.mpr ⟨⟨zi_X8_chance, rfl, zq_s_callV (n := 4) (index := 125) (by decide +kernel) rfl zw_735 zw_736 zw_737 zw_80 zw_738 (by decide +kernel) (by decide +kernel) ⟨rfl, rfl⟩⟩, fun _ h => absurd h List.not_mem_nil⟩) <|
  zq_cons (zq_s_aload_n (n := 2) (by decide +kernel) rfl) <|
  zq_cons (zq_s_aload_n (n := 0) (by decide +kernel) rfl) <|
  zq_cons (zq_s_iload_n (n := 3) (by decide +kernel) rfl) <|
  zq_cons (zq_s_iconst (n := 1) (by decide +kernel) (by decide +kernel)) <|
  zq_cons (zq_s_iadd (by decide +kernel)) <|
  zq_cons (zq_s_iald (by decide +kernel)) <|
  zq_cons (zq_s_aload_n (n := 0) (by decide +kernel) rfl) <|
  zq_cons (zq_s_iload_n (n := 3) (by decide +kernel) rfl) <|
  zq_cons (zq_s_iconst (n := 2) (by decide +kernel) (by decide +kernel)) <|
  zq_cons (zq_s_iadd (by decide +kernel)) <|
  zq_cons (zq_s_iald (by decide +kernel)) <|
  zq_cons (zq_s_aload_n (n := 0) (by decide +kernel) rfl) <|
  zq_cons (zq_s_iload_n (n := 3) (by decide +kernel) rfl) <|
  zq_cons (zq_s_iconst (n := 3) (by decide +kernel) (by decide +kernel)) <|
  zq_cons (zq_s_iadd (by decide +kernel)) <|
  zq_cons (zq_s_iald (by decide +kernel)) <|
  zq_cons (zq_s_aload_n (n := 0) (by decide +kernel) rfl) <|
  zq_cons (zq_s_iload_n (n := 3) (by decide +kernel) rfl) <|
  zq_cons (zq_s_iconst (n := 4) (by decide +kernel) (by decide +kernel)) <|
  zq_cons (zq_s_iadd (by decide +kernel)) <|
  zq_cons (zq_s_iald (by decide +kernel)) <|
  zq_nil
def zc_L_law_16 : List (Nat × zq_It) := [(982, .inr (.inl (5, .inr [(8, zn_X9_chance)]))), (985, .inl (zq_lcmp 986)), (986, .inl (zq_if_eq 989 1329)), (989, .inl (zq_push 990 (.int 0))), (990, .inr (.inr 2)), (991, .inl (zq_al 992 1)), (992, .inl (zq_al 993 0)), (993, .inl (zq_il 994 3)), (994, .inl (zq_push 995 (.int 1))), (995, .inl (zq_i2 996 (fun x y => x + y))), (996, .inl (zq_iald 997)), (997, .inl (zq_al 998 0)), (998, .inl (zq_il 999 3)), (999, .inl (zq_push 1000 (.int 2))), (1000, .inl (zq_i2 1001 (fun x y => x + y))), (1001, .inl (zq_iald 1002)), (1002, .inl (zq_al 1003 0)), (1003, .inl (zq_il 1004 3)), (1004, .inl (zq_push 1005 (.int 3))), (1005, .inl (zq_i2 1006 (fun x y => x + y))), (1006, .inl (zq_iald 1007)), (1007, .inr (.inl (4, .inr [(7, zn_X8_weeks)]))), (1010, .inl (zq_al 1011 2)), (1011, .inl (zq_al 1012 0)), (1012, .inl (zq_il 1013 3)), (1013, .inl (zq_push 1014 (.int 1))), (1014, .inl (zq_i2 1015 (fun x y => x + y))), (1015, .inl (zq_iald 1016)), (1016, .inl (zq_al 1017 0)), (1017, .inl (zq_il 1018 3)), (1018, .inl (zq_push 1019 (.int 2))), (1019, .inl (zq_i2 1020 (fun x y => x + y))), (1020, .inl (zq_iald 1021)), (1021, .inl (zq_al 1022 0)), (1022, .inl (zq_il 1023 3)), (1023, .inl (zq_push 1024 (.int 3))), (1024, .inl (zq_i2 1025 (fun x y => x + y))), (1025, .inl (zq_iald 1026)), (1026, .inr (.inl (4, .inr [(8, zn_X9_weeks)]))), (1029, .inl (zq_ic_eq 1032 1329))]
theorem zk_L_law_16 : zq_oks zi_L_law zc_L_law_16 := zq_cons (List.forall_mem_cons.mpr ⟨⟨zi_X9_chance, rfl, zq_s_callV (n := 4) (index := 129) (by decide +kernel) rfl zw_1302 zw_1303 zw_1304 zw_91 zw_1305 (by decide +kernel) (by decide +kernel) ⟨rfl, rfl⟩⟩, fun _ h => absurd h List.not_mem_nil⟩) <|
  zq_cons (zq_s_lcmp (by decide +kernel)) <|
  zq_cons (zq_s_if_eq (off := 343) (by decide +kernel) (by decide)) <|
  zq_cons (zq_s_iconst (n := 0) (by decide +kernel) (by decide +kernel)) <|
  zq_cons (⟨rfl, (by decide +kernel)⟩) <|
  zq_cons (zq_s_aload_n (n := 1) (by decide +kernel) rfl) <|
  zq_cons (zq_s_aload_n (n := 0) (by decide +kernel) rfl) <|
  zq_cons (zq_s_iload_n (n := 3) (by decide +kernel) rfl) <|
  zq_cons (zq_s_iconst (n := 1) (by decide +kernel) (by decide +kernel)) <|
  zq_cons (zq_s_iadd (by decide +kernel)) <|
  zq_cons (zq_s_iald (by decide +kernel)) <|
  zq_cons (zq_s_aload_n (n := 0) (by decide +kernel) rfl) <|
  zq_cons (zq_s_iload_n (n := 3) (by decide +kernel) rfl) <|
  zq_cons (zq_s_iconst (n := 2) (by decide +kernel) (by decide +kernel)) <|
  zq_cons (zq_s_iadd (by decide +kernel)) <|
  zq_cons (zq_s_iald (by decide +kernel)) <|
  zq_cons (zq_s_aload_n (n := 0) (by decide +kernel) rfl) <|
  zq_cons (zq_s_iload_n (n := 3) (by decide +kernel) rfl) <|
  zq_cons (zq_s_iconst (n := 3) (by decide +kernel) (by decide +kernel)) <|
  zq_cons (zq_s_iadd (by decide +kernel)) <|
  zq_cons (zq_s_iald (by decide +kernel)) <|
  zq_cons (List.forall_mem_cons.mpr ⟨⟨zi_X8_weeks, rfl, zq_s_callV (n := 3) (index := 130) (by decide +kernel) rfl zw_755 zw_756 zw_757 zw_80 zw_758 (by decide +kernel) (by decide +kernel) ⟨rfl, rfl⟩⟩, fun _ h => absurd h List.not_mem_nil⟩) <|
  zq_cons (zq_s_aload_n (n := 2) (by decide +kernel) rfl) <|
  zq_cons (zq_s_aload_n (n := 0) (by decide +kernel) rfl) <|
  zq_cons (zq_s_iload_n (n := 3) (by decide +kernel) rfl) <|
  zq_cons (zq_s_iconst (n := 1) (by decide +kernel) (by decide +kernel)) <|
  zq_cons (zq_s_iadd (by decide +kernel)) <|
  zq_cons (zq_s_iald (by decide +kernel)) <|
  zq_cons (zq_s_aload_n (n := 0) (by decide +kernel) rfl) <|
  zq_cons (zq_s_iload_n (n := 3) (by decide +kernel) rfl) <|
  zq_cons (zq_s_iconst (n := 2) (by decide +kernel) (by decide +kernel)) <|
  zq_cons (zq_s_iadd (by decide +kernel)) <|
  zq_cons (zq_s_iald (by decide +kernel)) <|
  zq_cons (zq_s_aload_n (n := 0) (by decide +kernel) rfl) <|
  zq_cons (zq_s_iload_n (n := 3) (by decide +kernel) rfl) <|
  zq_cons (zq_s_iconst (n := 3) (by decide +kernel) (by decide +kernel)) <|
  zq_cons (zq_s_iadd (by decide +kernel)) <|
  zq_cons (zq_s_iald (by decide +kernel)) <|
  zq_cons (List.forall_mem_cons.mpr ⟨⟨zi_X9_weeks, rfl, zq_s_callV (n := 3) (index := 133) (by decide +kernel) rfl zw_1317 zw_1318 zw_1319 zw_91 zw_1320 (by decide +kernel) (by decide +kernel) ⟨rfl, rfl⟩⟩, fun _ h => absurd h List.not_mem_nil⟩) <|
  zq_cons (zq_s_ic_eq (off := 300) (by decide +kernel) (by decide)) <|
  zq_nil
def zc_L_law_17 : List (Nat × zq_It) := [(1032, .inl (zq_push 1033 (.int 0))), (1033, .inr (.inr 2)), (1034, .inl (zq_al 1035 1)), (1035, .inl (zq_al 1036 0)), (1036, .inl (zq_il 1037 3)), (1037, .inl (zq_push 1038 (.int 1))), (1038, .inl (zq_i2 1039 (fun x y => x + y))), (1039, .inl (zq_iald 1040)), (1040, .inl (zq_al 1041 0)), (1041, .inl (zq_il 1042 3)), (1042, .inl (zq_push 1043 (.int 2))), (1043, .inl (zq_i2 1044 (fun x y => x + y))), (1044, .inl (zq_iald 1045)), (1045, .inl (zq_al 1046 0)), (1046, .inl (zq_il 1047 3)), (1047, .inl (zq_push 1048 (.int 3))), (1048, .inl (zq_i2 1049 (fun x y => x + y))), (1049, .inl (zq_iald 1050)), (1050, .inr (.inl (4, .inr [(7, zn_X8_sheet)]))), (1053, .inl (zq_al 1054 2)), (1054, .inl (zq_al 1055 0)), (1055, .inl (zq_il 1056 3)), (1056, .inl (zq_push 1057 (.int 1))), (1057, .inl (zq_i2 1058 (fun x y => x + y))), (1058, .inl (zq_iald 1059)), (1059, .inl (zq_al 1060 0)), (1060, .inl (zq_il 1061 3)), (1061, .inl (zq_push 1062 (.int 2))), (1062, .inl (zq_i2 1063 (fun x y => x + y))), (1063, .inl (zq_iald 1064)), (1064, .inl (zq_al 1065 0)), (1065, .inl (zq_il 1066 3)), (1066, .inl (zq_push 1067 (.int 3))), (1067, .inl (zq_i2 1068 (fun x y => x + y))), (1068, .inl (zq_iald 1069)), (1069, .inr (.inl (4, .inr [(8, zn_X9_sheet)]))), (1072, .inl (zq_ic_eq 1075 1329)), (1075, .inl (zq_push 1076 (.int 0))), (1076, .inr (.inr 2)), (1077, .inl (zq_al 1078 1))]
theorem zk_L_law_17 : zq_oks zi_L_law zc_L_law_17 := zq_cons (zq_s_iconst (n := 0) (by decide +kernel) (by decide +kernel)) <|
  zq_cons (⟨rfl, (by decide +kernel)⟩) <|
  zq_cons (zq_s_aload_n (n := 1) (by decide +kernel) rfl) <|
  zq_cons (zq_s_aload_n (n := 0) (by decide +kernel) rfl) <|
  zq_cons (zq_s_iload_n (n := 3) (by decide +kernel) rfl) <|
  zq_cons (zq_s_iconst (n := 1) (by decide +kernel) (by decide +kernel)) <|
  zq_cons (zq_s_iadd (by decide +kernel)) <|
  zq_cons (zq_s_iald (by decide +kernel)) <|
  zq_cons (zq_s_aload_n (n := 0) (by decide +kernel) rfl) <|
  zq_cons (zq_s_iload_n (n := 3) (by decide +kernel) rfl) <|
  zq_cons (zq_s_iconst (n := 2) (by decide +kernel) (by decide +kernel)) <|
  zq_cons (zq_s_iadd (by decide +kernel)) <|
  zq_cons (zq_s_iald (by decide +kernel)) <|
  zq_cons (zq_s_aload_n (n := 0) (by decide +kernel) rfl) <|
  zq_cons (zq_s_iload_n (n := 3) (by decide +kernel) rfl) <|
  zq_cons (zq_s_iconst (n := 3) (by decide +kernel) (by decide +kernel)) <|
  zq_cons (zq_s_iadd (by decide +kernel)) <|
  zq_cons (zq_s_iald (by decide +kernel)) <|
  zq_cons (List.forall_mem_cons.mpr ⟨⟨zi_X8_sheet, rfl, zq_s_callV (n := 3) (index := 134) (by decide +kernel) rfl zw_764 zw_765 zw_766 zw_80 zw_767 (by decide +kernel) (by decide +kernel) ⟨rfl, rfl⟩⟩, fun _ h => absurd h List.not_mem_nil⟩) <|
  zq_cons (zq_s_aload_n (n := 2) (by decide +kernel) rfl) <|
  zq_cons (zq_s_aload_n (n := 0) (by decide +kernel) rfl) <|
  zq_cons (zq_s_iload_n (n := 3) (by decide +kernel) rfl) <|
  zq_cons (zq_s_iconst (n := 1) (by decide +kernel) (by decide +kernel)) <|
  zq_cons (zq_s_iadd (by decide +kernel)) <|
  zq_cons (zq_s_iald (by decide +kernel)) <|
  zq_cons (zq_s_aload_n (n := 0) (by decide +kernel) rfl) <|
  zq_cons (zq_s_iload_n (n := 3) (by decide +kernel) rfl) <|
  zq_cons (zq_s_iconst (n := 2) (by decide +kernel) (by decide +kernel)) <|
  zq_cons (zq_s_iadd (by decide +kernel)) <|
  zq_cons (zq_s_iald (by decide +kernel)) <|
  zq_cons (zq_s_aload_n (n := 0) (by decide +kernel) rfl) <|
  zq_cons (zq_s_iload_n (n := 3) (by decide +kernel) rfl) <|
  zq_cons (zq_s_iconst (n := 3) (by decide +kernel) (by decide +kernel)) <|
  zq_cons (zq_s_iadd (by decide +kernel)) <|
  zq_cons (zq_s_iald (by decide +kernel)) <|
  zq_cons (List.forall_mem_cons.mpr ⟨⟨zi_X9_sheet, rfl, zq_s_callV (n := 3) (index := 137) (by decide +kernel) rfl zw_1326 zw_1327 zw_1328 zw_91 zw_1329 (by decide +kernel) (by decide +kernel) ⟨rfl, rfl⟩⟩, fun _ h => absurd h List.not_mem_nil⟩) <|
  zq_cons (zq_s_ic_eq (off := 257) (by decide +kernel) (by decide)) <|
  zq_cons (zq_s_iconst (n := 0) (by decide +kernel) (by decide +kernel)) <|
  zq_cons (⟨rfl, (by decide +kernel)⟩) <|
  zq_cons (zq_s_aload_n (n := 1) (by decide +kernel) rfl) <|
  zq_nil
def zc_L_law_18 : List (Nat × zq_It) := [(1078, .inl (zq_al 1079 0)), (1079, .inl (zq_il 1080 3)), (1080, .inl (zq_push 1081 (.int 1))), (1081, .inl (zq_i2 1082 (fun x y => x + y))), (1082, .inl (zq_iald 1083)), (1083, .inr (.inl (2, .inr [(7, zn_X8_lose)]))), (1086, .inl (zq_al 1087 2)), (1087, .inl (zq_al 1088 0)), (1088, .inl (zq_il 1089 3)), (1089, .inl (zq_push 1090 (.int 1))), (1090, .inl (zq_i2 1091 (fun x y => x + y))), (1091, .inl (zq_iald 1092)), (1092, .inr (.inl (2, .inr [(8, zn_X9_lose)]))), (1095, .inl (zq_ic_eq 1098 1329)), (1098, .inl (zq_push 1099 (.int 0))), (1099, .inr (.inr 2)), (1100, .inl (zq_al 1101 1)), (1101, .inl (zq_al 1102 0)), (1102, .inl (zq_il 1103 3)), (1103, .inl (zq_push 1104 (.int 1))), (1104, .inl (zq_i2 1105 (fun x y => x + y))), (1105, .inl (zq_iald 1106)), (1106, .inl (zq_al 1107 0)), (1107, .inl (zq_il 1108 3)), (1108, .inl (zq_push 1109 (.int 2))), (1109, .inl (zq_i2 1110 (fun x y => x + y))), (1110, .inl (zq_iald 1111)), (1111, .inl (zq_al 1112 0)), (1112, .inl (zq_il 1113 3)), (1113, .inl (zq_push 1114 (.int 3))), (1114, .inl (zq_i2 1115 (fun x y => x + y))), (1115, .inl (zq_iald 1116)), (1116, .inl (zq_al 1117 0)), (1117, .inl (zq_il 1118 3)), (1118, .inl (zq_push 1119 (.int 4))), (1119, .inl (zq_i2 1120 (fun x y => x + y))), (1120, .inl (zq_iald 1121)), (1121, .inr (.inl (5, .inr [(7, zn_X8_put)]))), (1124, .inl (zq_al 1125 2)), (1125, .inl (zq_al 1126 0))]
theorem zk_L_law_18 : zq_oks zi_L_law zc_L_law_18 := zq_cons (zq_s_aload_n (n := 0) (by decide +kernel) rfl) <|
  zq_cons (zq_s_iload_n (n := 3) (by decide +kernel) rfl) <|
  zq_cons (zq_s_iconst (n := 1) (by decide +kernel) (by decide +kernel)) <|
  zq_cons (zq_s_iadd (by decide +kernel)) <|
  zq_cons (zq_s_iald (by decide +kernel)) <|
  zq_cons (List.forall_mem_cons.mpr ⟨⟨zi_X8_lose, rfl, zq_s_callV (n := 1) (index := 138) (by decide +kernel) rfl zw_776 zw_777 zw_778 zw_80 zw_779 (by decide +kernel) (by decide +kernel) ⟨rfl, rfl⟩⟩, fun _ h => absurd h List.not_mem_nil⟩) <|
  zq_cons (zq_s_aload_n (n := 2) (by decide +kernel) rfl) <|
  zq_cons (zq_s_aload_n (n := 0) (by decide +kernel) rfl) <|
  zq_cons (zq_s_iload_n (n := 3) (by decide +kernel) rfl) <|
  zq_cons (zq_s_iconst (n := 1) (by decide +kernel) (by decide +kernel)) <|
  zq_cons (zq_s_iadd (by decide +kernel)) <|
  zq_cons (zq_s_iald (by decide +kernel)) <|
  zq_cons (List.forall_mem_cons.mpr ⟨⟨zi_X9_lose, rfl, zq_s_callV (n := 1) (index := 141) (by decide +kernel) rfl zw_1330 zw_1331 zw_1332 zw_91 zw_1333 (by decide +kernel) (by decide +kernel) ⟨rfl, rfl⟩⟩, fun _ h => absurd h List.not_mem_nil⟩) <|
  zq_cons (zq_s_ic_eq (off := 234) (by decide +kernel) (by decide)) <|
  zq_cons (zq_s_iconst (n := 0) (by decide +kernel) (by decide +kernel)) <|
  zq_cons (⟨rfl, (by decide +kernel)⟩) <|
  zq_cons (zq_s_aload_n (n := 1) (by decide +kernel) rfl) <|
  zq_cons (zq_s_aload_n (n := 0) (by decide +kernel) rfl) <|
  zq_cons (zq_s_iload_n (n := 3) (by decide +kernel) rfl) <|
  zq_cons (zq_s_iconst (n := 1) (by decide +kernel) (by decide +kernel)) <|
  zq_cons (zq_s_iadd (by decide +kernel)) <|
  zq_cons (zq_s_iald (by decide +kernel)) <|
  zq_cons (zq_s_aload_n (n := 0) (by decide +kernel) rfl) <|
  zq_cons (zq_s_iload_n (n := 3) (by decide +kernel) rfl) <|
  zq_cons (zq_s_iconst (n := 2) (by decide +kernel) (by decide +kernel)) <|
  zq_cons (zq_s_iadd (by decide +kernel)) <|
  zq_cons (zq_s_iald (by decide +kernel)) <|
  zq_cons (zq_s_aload_n (n := 0) (by decide +kernel) rfl) <|
  zq_cons (zq_s_iload_n (n := 3) (by decide +kernel) rfl) <|
  zq_cons (zq_s_iconst (n := 3) (by decide +kernel) (by decide +kernel)) <|
  zq_cons (zq_s_iadd (by decide +kernel)) <|
  zq_cons (zq_s_iald (by decide +kernel)) <|
  zq_cons (zq_s_aload_n (n := 0) (by decide +kernel) rfl) <|
  zq_cons (zq_s_iload_n (n := 3) (by decide +kernel) rfl) <|
  zq_cons (zq_s_iconst (n := 4) (by decide +kernel) (by decide +kernel)) <|
  zq_cons (zq_s_iadd (by decide +kernel)) <|
  zq_cons (zq_s_iald (by decide +kernel)) <|
  zq_cons (List.forall_mem_cons.mpr ⟨⟨zi_X8_put, rfl, zq_s_callV (n := 4) (index := 142) (by decide +kernel) rfl zw_780 zw_781 zw_782 zw_80 zw_783 (by decide +kernel) (by decide +kernel) ⟨rfl, rfl⟩⟩, fun _ h => absurd h List.not_mem_nil⟩) <|
  zq_cons (zq_s_aload_n (n := 2) (by decide +kernel) rfl) <|
  zq_cons (zq_s_aload_n (n := 0) (by decide +kernel) rfl) <|
  zq_nil
def zc_L_law_19 : List (Nat × zq_It) := [(1126, .inl (zq_il 1127 3)), (1127, .inl (zq_push 1128 (.int 1))), (1128, .inl (zq_i2 1129 (fun x y => x + y))), (1129, .inl (zq_iald 1130)), (1130, .inl (zq_al 1131 0)), (1131, .inl (zq_il 1132 3)), (1132, .inl (zq_push 1133 (.int 2))), (1133, .inl (zq_i2 1134 (fun x y => x + y))), (1134, .inl (zq_iald 1135)), (1135, .inl (zq_al 1136 0)), (1136, .inl (zq_il 1137 3)), (1137, .inl (zq_push 1138 (.int 3))), (1138, .inl (zq_i2 1139 (fun x y => x + y))), (1139, .inl (zq_iald 1140)), (1140, .inl (zq_al 1141 0)), (1141, .inl (zq_il 1142 3)), (1142, .inl (zq_push 1143 (.int 4))), (1143, .inl (zq_i2 1144 (fun x y => x + y))), (1144, .inl (zq_iald 1145)), (1145, .inr (.inl (5, .inr [(8, zn_X9_put)]))), (1148, .inl (zq_ic_eq 1151 1329)), (1151, .inl (zq_push 1152 (.int 0))), (1152, .inr (.inr 2)), (1153, .inl (zq_al 1154 1)), (1154, .inl (zq_al 1155 0)), (1155, .inl (zq_il 1156 3)), (1156, .inl (zq_push 1157 (.int 1))), (1157, .inl (zq_i2 1158 (fun x y => x + y))), (1158, .inl (zq_iald 1159)), (1159, .inl (zq_al 1160 0)), (1160, .inl (zq_il 1161 3)), (1161, .inl (zq_push 1162 (.int 2))), (1162, .inl (zq_i2 1163 (fun x y => x + y))), (1163, .inl (zq_iald 1164)), (1164, .inl (zq_al 1165 0)), (1165, .inl (zq_il 1166 3)), (1166, .inl (zq_push 1167 (.int 3))), (1167, .inl (zq_i2 1168 (fun x y => x + y))), (1168, .inl (zq_iald 1169)), (1169, .inr (.inl (4, .inr [(7, zn_X8_get)])))]
theorem zk_L_law_19 : zq_oks zi_L_law zc_L_law_19 := zq_cons (zq_s_iload_n (n := 3) (by decide +kernel) rfl) <|
  zq_cons (zq_s_iconst (n := 1) (by decide +kernel) (by decide +kernel)) <|
  zq_cons (zq_s_iadd (by decide +kernel)) <|
  zq_cons (zq_s_iald (by decide +kernel)) <|
  zq_cons (zq_s_aload_n (n := 0) (by decide +kernel) rfl) <|
  zq_cons (zq_s_iload_n (n := 3) (by decide +kernel) rfl) <|
  zq_cons (zq_s_iconst (n := 2) (by decide +kernel) (by decide +kernel)) <|
  zq_cons (zq_s_iadd (by decide +kernel)) <|
  zq_cons (zq_s_iald (by decide +kernel)) <|
  zq_cons (zq_s_aload_n (n := 0) (by decide +kernel) rfl) <|
  zq_cons (zq_s_iload_n (n := 3) (by decide +kernel) rfl) <|
  zq_cons (zq_s_iconst (n := 3) (by decide +kernel) (by decide +kernel)) <|
  zq_cons (zq_s_iadd (by decide +kernel)) <|
  zq_cons (zq_s_iald (by decide +kernel)) <|
  zq_cons (zq_s_aload_n (n := 0) (by decide +kernel) rfl) <|
  zq_cons (zq_s_iload_n (n := 3) (by decide +kernel) rfl) <|
  zq_cons (zq_s_iconst (n := 4) (by decide +kernel) (by decide +kernel)) <|
  zq_cons (zq_s_iadd (by decide +kernel)) <|
  zq_cons (zq_s_iald (by decide +kernel)) <|
  zq_cons (List.forall_mem_cons.mpr ⟨⟨zi_X9_put, rfl, zq_s_callV (n := 4) (index := 146) (by decide +kernel) rfl zw_1334 zw_1335 zw_1336 zw_91 zw_1337 (by decide +kernel) (by decide +kernel) ⟨rfl, rfl⟩⟩, fun _ h => absurd h List.not_mem_nil⟩) <|
  zq_cons (zq_s_ic_eq (off := 181) (by decide +kernel) (by decide)) <|
  zq_cons (zq_s_iconst (n := 0) (by decide +kernel) (by decide +kernel)) <|
  zq_cons (⟨rfl, (by decide +kernel)⟩) <|
  zq_cons (zq_s_aload_n (n := 1) (by decide +kernel) rfl) <|
  zq_cons (zq_s_aload_n (n := 0) (by decide +kernel) rfl) <|
  zq_cons (zq_s_iload_n (n := 3) (by decide +kernel) rfl) <|
  zq_cons (zq_s_iconst (n := 1) (by decide +kernel) (by decide +kernel)) <|
  zq_cons (zq_s_iadd (by decide +kernel)) <|
  zq_cons (zq_s_iald (by decide +kernel)) <|
  zq_cons (zq_s_aload_n (n := 0) (by decide +kernel) rfl) <|
  zq_cons (zq_s_iload_n (n := 3) (by decide +kernel) rfl) <|
  zq_cons (zq_s_iconst (n := 2) (by decide +kernel) (by decide +kernel)) <|
  zq_cons (zq_s_iadd (by decide +kernel)) <|
  zq_cons (zq_s_iald (by decide +kernel)) <|
  zq_cons (zq_s_aload_n (n := 0) (by decide +kernel) rfl) <|
  zq_cons (zq_s_iload_n (n := 3) (by decide +kernel) rfl) <|
  zq_cons (zq_s_iconst (n := 3) (by decide +kernel) (by decide +kernel)) <|
  zq_cons (zq_s_iadd (by decide +kernel)) <|
  zq_cons (zq_s_iald (by decide +kernel)) <|
  zq_cons (List.forall_mem_cons.mpr ⟨⟨zi_X8_get, rfl, zq_s_callV (n := 3) (index := 147) (by decide +kernel) rfl zw_796 zw_797 zw_798 zw_80 zw_799 (by decide +kernel) (by decide +kernel) ⟨rfl, rfl⟩⟩, fun _ h => absurd h List.not_mem_nil⟩) <|
  zq_nil
def zc_L_law_20 : List (Nat × zq_It) := [(1172, .inl (zq_al 1173 2)), (1173, .inl (zq_al 1174 0)), (1174, .inl (zq_il 1175 3)), (1175, .inl (zq_push 1176 (.int 1))), (1176, .inl (zq_i2 1177 (fun x y => x + y))), (1177, .inl (zq_iald 1178)), (1178, .inl (zq_al 1179 0)), (1179, .inl (zq_il 1180 3)), (1180, .inl (zq_push 1181 (.int 2))), (1181, .inl (zq_i2 1182 (fun x y => x + y))), (1182, .inl (zq_iald 1183)), (1183, .inl (zq_al 1184 0)), (1184, .inl (zq_il 1185 3)), (1185, .inl (zq_push 1186 (.int 3))), (1186, .inl (zq_i2 1187 (fun x y => x + y))), (1187, .inl (zq_iald 1188)), (1188, .inr (.inl (4, .inr [(8, zn_X9_get)]))), (1191, .inl (zq_ic_eq 1194 1329)), (1194, .inl (zq_push 1195 (.int 0))), (1195, .inr (.inr 2)), (1196, .inl (zq_al 1197 1)), (1197, .inl (zq_al 1198 0)), (1198, .inl (zq_il 1199 3)), (1199, .inl (zq_push 1200 (.int 1))), (1200, .inl (zq_i2 1201 (fun x y => x + y))), (1201, .inl (zq_iald 1202)), (1202, .inl (zq_al 1203 0)), (1203, .inl (zq_il 1204 3)), (1204, .inl (zq_push 1205 (.int 2))), (1205, .inl (zq_i2 1206 (fun x y => x + y))), (1206, .inl (zq_iald 1207)), (1207, .inl (zq_al 1208 0)), (1208, .inl (zq_il 1209 3)), (1209, .inl (zq_push 1210 (.int 3))), (1210, .inl (zq_i2 1211 (fun x y => x + y))), (1211, .inl (zq_iald 1212)), (1212, .inl (zq_al 1213 0)), (1213, .inl (zq_il 1214 3)), (1214, .inl (zq_push 1215 (.int 4))), (1215, .inl (zq_i2 1216 (fun x y => x + y)))]
theorem zk_L_law_20 : zq_oks zi_L_law zc_L_law_20 := zq_cons (zq_s_aload_n (n := 2) (by decide +kernel) rfl) <|
  zq_cons (zq_s_aload_n (n := 0) (by decide +kernel) rfl) <|
  zq_cons (zq_s_iload_n (n := 3) (by decide +kernel) rfl) <|
  zq_cons (zq_s_iconst (n := 1) (by decide +kernel) (by decide +kernel)) <|
  zq_cons (zq_s_iadd (by decide +kernel)) <|
  zq_cons (zq_s_iald (by decide +kernel)) <|
  zq_cons (zq_s_aload_n (n := 0) (by decide +kernel) rfl) <|
  zq_cons (zq_s_iload_n (n := 3) (by decide +kernel) rfl) <|
  zq_cons (zq_s_iconst (n := 2) (by decide +kernel) (by decide +kernel)) <|
  zq_cons (zq_s_iadd (by decide +kernel)) <|
  zq_cons (zq_s_iald (by decide +kernel)) <|
  zq_cons (zq_s_aload_n (n := 0) (by decide +kernel) rfl) <|
  zq_cons (zq_s_iload_n (n := 3) (by decide +kernel) rfl) <|
  zq_cons (zq_s_iconst (n := 3) (by decide +kernel) (by decide +kernel)) <|
  zq_cons (zq_s_iadd (by decide +kernel)) <|
  zq_cons (zq_s_iald (by decide +kernel)) <|
  zq_cons (List.forall_mem_cons.mpr ⟨⟨zi_X9_get, rfl, zq_s_callV (n := 3) (index := 150) (by decide +kernel) rfl zw_1346 zw_1347 zw_1348 zw_91 zw_1349 (by decide +kernel) (by decide +kernel) ⟨rfl, rfl⟩⟩, fun _ h => absurd h List.not_mem_nil⟩) <|
  zq_cons (zq_s_ic_eq (off := 138) (by decide +kernel) (by decide)) <|
  zq_cons (zq_s_iconst (n := 0) (by decide +kernel) (by decide +kernel)) <|
  zq_cons (⟨rfl, (by decide +kernel)⟩) <|
  zq_cons (zq_s_aload_n (n := 1) (by decide +kernel) rfl) <|
  zq_cons (zq_s_aload_n (n := 0) (by decide +kernel) rfl) <|
  zq_cons (zq_s_iload_n (n := 3) (by decide +kernel) rfl) <|
  zq_cons (zq_s_iconst (n := 1) (by decide +kernel) (by decide +kernel)) <|
  zq_cons (zq_s_iadd (by decide +kernel)) <|
  zq_cons (zq_s_iald (by decide +kernel)) <|
  zq_cons (zq_s_aload_n (n := 0) (by decide +kernel) rfl) <|
  zq_cons (zq_s_iload_n (n := 3) (by decide +kernel) rfl) <|
  zq_cons (zq_s_iconst (n := 2) (by decide +kernel) (by decide +kernel)) <|
  zq_cons (zq_s_iadd (by decide +kernel)) <|
  zq_cons (zq_s_iald (by decide +kernel)) <|
  zq_cons (zq_s_aload_n (n := 0) (by decide +kernel) rfl) <|
  zq_cons (zq_s_iload_n (n := 3) (by decide +kernel) rfl) <|
  zq_cons (zq_s_iconst (n := 3) (by decide +kernel) (by decide +kernel)) <|
  zq_cons (zq_s_iadd (by decide +kernel)) <|
  zq_cons (zq_s_iald (by decide +kernel)) <|
  zq_cons (zq_s_aload_n (n := 0) (by decide +kernel) rfl) <|
  zq_cons (zq_s_iload_n (n := 3) (by decide +kernel) rfl) <|
  zq_cons (zq_s_iconst (n := 4) (by decide +kernel) (by decide +kernel)) <|
  zq_cons (zq_s_iadd (by decide +kernel)) <|
  zq_nil
def zc_L_law_21 : List (Nat × zq_It) := [(1216, .inl (zq_iald 1217)), (1217, .inl (zq_al 1218 0)), (1218, .inl (zq_il 1219 3)), (1219, .inl (zq_push 1220 (.int 5))), (1220, .inl (zq_i2 1221 (fun x y => x + y))), (1221, .inl (zq_iald 1222)), (1222, .inr (.inl (6, .inr [(7, zn_X8_copy)]))), (1225, .inl (zq_al 1226 2)), (1226, .inl (zq_al 1227 0)), (1227, .inl (zq_il 1228 3)), (1228, .inl (zq_push 1229 (.int 1))), (1229, .inl (zq_i2 1230 (fun x y => x + y))), (1230, .inl (zq_iald 1231)), (1231, .inl (zq_al 1232 0)), (1232, .inl (zq_il 1233 3)), (1233, .inl (zq_push 1234 (.int 2))), (1234, .inl (zq_i2 1235 (fun x y => x + y))), (1235, .inl (zq_iald 1236)), (1236, .inl (zq_al 1237 0)), (1237, .inl (zq_il 1238 3)), (1238, .inl (zq_push 1239 (.int 3))), (1239, .inl (zq_i2 1240 (fun x y => x + y))), (1240, .inl (zq_iald 1241)), (1241, .inl (zq_al 1242 0)), (1242, .inl (zq_il 1243 3)), (1243, .inl (zq_push 1244 (.int 4))), (1244, .inl (zq_i2 1245 (fun x y => x + y))), (1245, .inl (zq_iald 1246)), (1246, .inl (zq_al 1247 0)), (1247, .inl (zq_il 1248 3)), (1248, .inl (zq_push 1249 (.int 5))), (1249, .inl (zq_i2 1250 (fun x y => x + y))), (1250, .inl (zq_iald 1251)), (1251, .inr (.inl (6, .inr [(8, zn_X9_copy)]))), (1254, .inl (zq_ic_eq 1257 1329)), (1257, .inl (zq_push 1258 (.int 0))), (1258, .inr (.inr 2)), (1259, .inl (zq_al 1260 1)), (1260, .inl (zq_al 1261 0)), (1261, .inl (zq_il 1262 3))]
theorem zk_L_law_21 : zq_oks zi_L_law zc_L_law_21 := zq_cons (zq_s_iald (by decide +kernel)) <|
  zq_cons (zq_s_aload_n (n := 0) (by decide +kernel) rfl) <|
  zq_cons (zq_s_iload_n (n := 3) (by decide +kernel) rfl) <|
  zq_cons (zq_s_iconst (n := 5) (by decide +kernel) (by decide +kernel)) <|
  zq_cons (zq_s_iadd (by decide +kernel)) <|
  zq_cons (zq_s_iald (by decide +kernel)) <|
  zq_cons (List.forall_mem_cons.mpr ⟨⟨zi_X8_copy, rfl, zq_s_callV (n := 5) (index := 151) (by decide +kernel) rfl zw_801 zw_802 zw_803 zw_80 zw_804 (by decide +kernel) (by decide +kernel) ⟨rfl, rfl⟩⟩, fun _ h => absurd h List.not_mem_nil⟩) <|
  zq_cons (zq_s_aload_n (n := 2) (by decide +kernel) rfl) <|
  zq_cons (zq_s_aload_n (n := 0) (by decide +kernel) rfl) <|
  zq_cons (zq_s_iload_n (n := 3) (by decide +kernel) rfl) <|
  zq_cons (zq_s_iconst (n := 1) (by decide +kernel) (by decide +kernel)) <|
  zq_cons (zq_s_iadd (by decide +kernel)) <|
  zq_cons (zq_s_iald (by decide +kernel)) <|
  zq_cons (zq_s_aload_n (n := 0) (by decide +kernel) rfl) <|
  zq_cons (zq_s_iload_n (n := 3) (by decide +kernel) rfl) <|
  zq_cons (zq_s_iconst (n := 2) (by decide +kernel) (by decide +kernel)) <|
  zq_cons (zq_s_iadd (by decide +kernel)) <|
  zq_cons (zq_s_iald (by decide +kernel)) <|
  zq_cons (zq_s_aload_n (n := 0) (by decide +kernel) rfl) <|
  zq_cons (zq_s_iload_n (n := 3) (by decide +kernel) rfl) <|
  zq_cons (zq_s_iconst (n := 3) (by decide +kernel) (by decide +kernel)) <|
  zq_cons (zq_s_iadd (by decide +kernel)) <|
  zq_cons (zq_s_iald (by decide +kernel)) <|
  zq_cons (zq_s_aload_n (n := 0) (by decide +kernel) rfl) <|
  zq_cons (zq_s_iload_n (n := 3) (by decide +kernel) rfl) <|
  zq_cons (zq_s_iconst (n := 4) (by decide +kernel) (by decide +kernel)) <|
  zq_cons (zq_s_iadd (by decide +kernel)) <|
  zq_cons (zq_s_iald (by decide +kernel)) <|
  zq_cons (zq_s_aload_n (n := 0) (by decide +kernel) rfl) <|
  zq_cons (zq_s_iload_n (n := 3) (by decide +kernel) rfl) <|
  zq_cons (zq_s_iconst (n := 5) (by decide +kernel) (by decide +kernel)) <|
  zq_cons (zq_s_iadd (by decide +kernel)) <|
  zq_cons (zq_s_iald (by decide +kernel)) <|
  zq_cons (List.forall_mem_cons.mpr ⟨⟨zi_X9_copy, rfl, zq_s_callV (n := 5) (index := 155) (by decide +kernel) rfl zw_1351 zw_1352 zw_1353 zw_91 zw_1354 (by decide +kernel) (by decide +kernel) ⟨rfl, rfl⟩⟩, fun _ h => absurd h List.not_mem_nil⟩) <|
  zq_cons (zq_s_ic_eq (off := 75) (by decide +kernel) (by decide)) <|
  zq_cons (zq_s_iconst (n := 0) (by decide +kernel) (by decide +kernel)) <|
  zq_cons (⟨rfl, (by decide +kernel)⟩) <|
  zq_cons (zq_s_aload_n (n := 1) (by decide +kernel) rfl) <|
  zq_cons (zq_s_aload_n (n := 0) (by decide +kernel) rfl) <|
  zq_cons (zq_s_iload_n (n := 3) (by decide +kernel) rfl) <|
  zq_nil
def zc_L_law_22 : List (Nat × zq_It) := [(1262, .inl (zq_push 1263 (.int 1))), (1263, .inl (zq_i2 1264 (fun x y => x + y))), (1264, .inl (zq_iald 1265)), (1265, .inl (zq_al 1266 0)), (1266, .inl (zq_il 1267 3)), (1267, .inl (zq_push 1268 (.int 2))), (1268, .inl (zq_i2 1269 (fun x y => x + y))), (1269, .inl (zq_iald 1270)), (1270, .inr (.inl (3, .inr [(7, zn_X8_write)]))), (1273, .inl (zq_al 1274 2)), (1274, .inl (zq_al 1275 0)), (1275, .inl (zq_il 1276 3)), (1276, .inl (zq_push 1277 (.int 1))), (1277, .inl (zq_i2 1278 (fun x y => x + y))), (1278, .inl (zq_iald 1279)), (1279, .inl (zq_al 1280 0)), (1280, .inl (zq_il 1281 3)), (1281, .inl (zq_push 1282 (.int 2))), (1282, .inl (zq_i2 1283 (fun x y => x + y))), (1283, .inl (zq_iald 1284)), (1284, .inr (.inl (3, .inr [(8, zn_X9_write)]))), (1287, .inl (zq_ic_eq 1290 1329)), (1290, .inl (zq_push 1291 (.int 0))), (1291, .inr (.inr 2)), (1292, .inl (zq_al 1293 1)), (1293, .inl (zq_al 1294 0)), (1294, .inl (zq_il 1295 3)), (1295, .inl (zq_push 1296 (.int 1))), (1296, .inl (zq_i2 1297 (fun x y => x + y))), (1297, .inl (zq_iald 1298)), (1298, .inr (.inl (2, .inr [(7, zn_X8_count)]))), (1301, .inl (zq_al 1302 2)), (1302, .inl (zq_al 1303 0)), (1303, .inl (zq_il 1304 3)), (1304, .inl (zq_push 1305 (.int 1))), (1305, .inl (zq_i2 1306 (fun x y => x + y))), (1306, .inl (zq_iald 1307)), (1307, .inr (.inl (2, .inr [(8, zn_X9_count)]))), (1310, .inl (zq_ic_eq 1313 1329)), (1313, .inl (zq_push 1314 (.int 0)))]
theorem zk_L_law_22 : zq_oks zi_L_law zc_L_law_22 := zq_cons (zq_s_iconst (n := 1) (by decide +kernel) (by decide +kernel)) <|
  zq_cons (zq_s_iadd (by decide +kernel)) <|
  zq_cons (zq_s_iald (by decide +kernel)) <|
  zq_cons (zq_s_aload_n (n := 0) (by decide +kernel) rfl) <|
  zq_cons (zq_s_iload_n (n := 3) (by decide +kernel) rfl) <|
  zq_cons (zq_s_iconst (n := 2) (by decide +kernel) (by decide +kernel)) <|
  zq_cons (zq_s_iadd (by decide +kernel)) <|
  zq_cons (zq_s_iald (by decide +kernel)) <|
  zq_cons (List.forall_mem_cons.mpr ⟨⟨zi_X8_write, rfl, zq_s_callV (n := 2) (index := 156) (by decide +kernel) rfl zw_808 zw_809 zw_810 zw_80 zw_811 (by decide +kernel) (by decide +kernel) ⟨rfl, rfl⟩⟩, fun _ h => absurd h List.not_mem_nil⟩) <|
  zq_cons (zq_s_aload_n (n := 2) (by decide +kernel) rfl) <|
  zq_cons (zq_s_aload_n (n := 0) (by decide +kernel) rfl) <|
  zq_cons (zq_s_iload_n (n := 3) (by decide +kernel) rfl) <|
  zq_cons (zq_s_iconst (n := 1) (by decide +kernel) (by decide +kernel)) <|
  zq_cons (zq_s_iadd (by decide +kernel)) <|
  zq_cons (zq_s_iald (by decide +kernel)) <|
  zq_cons (zq_s_aload_n (n := 0) (by decide +kernel) rfl) <|
  zq_cons (zq_s_iload_n (n := 3) (by decide +kernel) rfl) <|
  zq_cons (zq_s_iconst (n := 2) (by decide +kernel) (by decide +kernel)) <|
  zq_cons (zq_s_iadd (by decide +kernel)) <|
  zq_cons (zq_s_iald (by decide +kernel)) <|
  zq_cons (List.forall_mem_cons.mpr ⟨⟨zi_X9_write, rfl, zq_s_callV (n := 2) (index := 159) (by decide +kernel) rfl zw_1355 zw_1356 zw_1357 zw_91 zw_1358 (by decide +kernel) (by decide +kernel) ⟨rfl, rfl⟩⟩, fun _ h => absurd h List.not_mem_nil⟩) <|
  zq_cons (zq_s_ic_eq (off := 42) (by decide +kernel) (by decide)) <|
  zq_cons (zq_s_iconst (n := 0) (by decide +kernel) (by decide +kernel)) <|
  zq_cons (⟨rfl, (by decide +kernel)⟩) <|
  zq_cons (zq_s_aload_n (n := 1) (by decide +kernel) rfl) <|
  zq_cons (zq_s_aload_n (n := 0) (by decide +kernel) rfl) <|
  zq_cons (zq_s_iload_n (n := 3) (by decide +kernel) rfl) <|
  zq_cons (zq_s_iconst (n := 1) (by decide +kernel) (by decide +kernel)) <|
  zq_cons (zq_s_iadd (by decide +kernel)) <|
  zq_cons (zq_s_iald (by decide +kernel)) <|
  zq_cons (List.forall_mem_cons.mpr ⟨⟨zi_X8_count, rfl, zq_s_callV (n := 1) (index := 160) (by decide +kernel) rfl zw_813 zw_814 zw_815 zw_80 zw_816 (by decide +kernel) (by decide +kernel) ⟨rfl, rfl⟩⟩, fun _ h => absurd h List.not_mem_nil⟩) <|
  zq_cons (zq_s_aload_n (n := 2) (by decide +kernel) rfl) <|
  zq_cons (zq_s_aload_n (n := 0) (by decide +kernel) rfl) <|
  zq_cons (zq_s_iload_n (n := 3) (by decide +kernel) rfl) <|
  zq_cons (zq_s_iconst (n := 1) (by decide +kernel) (by decide +kernel)) <|
  zq_cons (zq_s_iadd (by decide +kernel)) <|
  zq_cons (zq_s_iald (by decide +kernel)) <|
  zq_cons (List.forall_mem_cons.mpr ⟨⟨zi_X9_count, rfl, zq_s_callV (n := 1) (index := 163) (by decide +kernel) rfl zw_1359 zw_1360 zw_1361 zw_91 zw_1362 (by decide +kernel) (by decide +kernel) ⟨rfl, rfl⟩⟩, fun _ h => absurd h List.not_mem_nil⟩) <|
  zq_cons (zq_s_ic_eq (off := 19) (by decide +kernel) (by decide)) <|
  zq_cons (zq_s_iconst (n := 0) (by decide +kernel) (by decide +kernel)) <|
  zq_nil
def zc_L_law_23 : List (Nat × zq_It) := [(1314, .inr (.inr 2)), (1315, .inl (zq_al 1316 1)), (1316, .inr (.inl (1, .inr [(7, zn_X8_digest)]))), (1319, .inl (zq_al 1320 2)), (1320, .inr (.inl (1, .inr [(8, zn_X9_digest)]))), (1323, .inl (zq_lcmp 1324)), (1324, .inl (zq_if_eq 1327 1329)), (1327, .inl (zq_push 1328 (.int 0))), (1328, .inr (.inr 2)), (1329, .inl (zq_inc 1332 3 6)), (1332, .inl (zq_goto 18)), (1335, .inl (zq_push 1336 (.int 1))), (1336, .inr (.inr 2))]
theorem zk_L_law_23 : zq_oks zi_L_law zc_L_law_23 := zq_cons (⟨rfl, (by decide +kernel)⟩) <|
  zq_cons (zq_s_aload_n (n := 1) (by decide +kernel) rfl) <|
  zq_cons (List.forall_mem_cons.mpr ⟨⟨zi_X8_digest, rfl, zq_s_callV (n := 0) (index := 164) (by decide +kernel) rfl zw_822 zw_823 zw_824 zw_80 zw_825 (by decide +kernel) (by decide +kernel) ⟨rfl, rfl⟩⟩, fun _ h => absurd h List.not_mem_nil⟩) <|
  zq_cons (zq_s_aload_n (n := 2) (by decide +kernel) rfl) <|
  zq_cons (List.forall_mem_cons.mpr ⟨⟨zi_X9_digest, rfl, zq_s_callV (n := 0) (index := 168) (by decide +kernel) rfl zw_1367 zw_1368 zw_1369 zw_91 zw_1370 (by decide +kernel) (by decide +kernel) ⟨rfl, rfl⟩⟩, fun _ h => absurd h List.not_mem_nil⟩) <|
  zq_cons (zq_s_lcmp (by decide +kernel)) <|
  zq_cons (zq_s_if_eq (off := 5) (by decide +kernel) (by decide)) <|
  zq_cons (zq_s_iconst (n := 0) (by decide +kernel) (by decide +kernel)) <|
  zq_cons (⟨rfl, (by decide +kernel)⟩) <|
  zq_cons (zq_s_iinc (n := 6) (by decide +kernel) (by decide +kernel) (by decide +kernel)) <|
  zq_cons (zq_s_goto (off := (-1314)) (by decide +kernel) (by decide)) <|
  zq_cons (zq_s_iconst (n := 1) (by decide +kernel) (by decide +kernel)) <|
  zq_cons (⟨rfl, (by decide +kernel)⟩) <|
  zq_nil
def zc_L_law : List (Nat × zq_It) := zc_L_law_0 ++ (zc_L_law_1 ++ (zc_L_law_2 ++ (zc_L_law_3 ++ (zc_L_law_4 ++ (zc_L_law_5 ++ (zc_L_law_6 ++ (zc_L_law_7 ++ (zc_L_law_8 ++ (zc_L_law_9 ++ (zc_L_law_10 ++ (zc_L_law_11 ++ (zc_L_law_12 ++ (zc_L_law_13 ++ (zc_L_law_14 ++ (zc_L_law_15 ++ (zc_L_law_16 ++ (zc_L_law_17 ++ (zc_L_law_18 ++ (zc_L_law_19 ++ (zc_L_law_20 ++ (zc_L_law_21 ++ (zc_L_law_22 ++ (zc_L_law_23)))))))))))))))))))))))
theorem zk_L_law : zq_oks zi_L_law zc_L_law := zq_app zk_L_law_0 (zq_app zk_L_law_1 (zq_app zk_L_law_2 (zq_app zk_L_law_3 (zq_app zk_L_law_4 (zq_app zk_L_law_5 (zq_app zk_L_law_6 (zq_app zk_L_law_7 (zq_app zk_L_law_8 (zq_app zk_L_law_9 (zq_app zk_L_law_10 (zq_app zk_L_law_11 (zq_app zk_L_law_12 (zq_app zk_L_law_13 (zq_app zk_L_law_14 (zq_app zk_L_law_15 (zq_app zk_L_law_16 (zq_app zk_L_law_17 (zq_app zk_L_law_18 (zq_app zk_L_law_19 (zq_app zk_L_law_20 (zq_app zk_L_law_21 (zq_app zk_L_law_22 (zk_L_law_23)))))))))))))))))))))))
