theorem dX6_init_0 : decode cX6_init 0 = .ok (.aload_n 0, 1) := by decide +kernel
theorem dX6_init_1 : decode cX6_init 1 = .ok (.invokespecial 3, 3) := by decide +kernel
theorem dX6_init_4 : decode cX6_init 4 = .ok (.aload_n 0, 1) := by decide +kernel
theorem dX6_init_5 : decode cX6_init 5 = .ok (.bipush 35, 2) := by decide +kernel
theorem dX6_init_7 : decode cX6_init 7 = .ok (.newarray .int, 2) := by decide +kernel
theorem dX6_init_9 : decode cX6_init 9 = .ok (.putfield 9, 3) := by decide +kernel
theorem dX6_init_12 : decode cX6_init 12 = .ok (.aload_n 0, 1) := by decide +kernel
theorem dX6_init_13 : decode cX6_init 13 = .ok (.iload_n 1, 1) := by decide +kernel
theorem dX6_init_14 : decode cX6_init 14 = .ok (.bipush 35, 2) := by decide +kernel
theorem dX6_init_16 : decode cX6_init 16 = .ok (.invokestatic 15, 3) := by decide +kernel
theorem dX6_init_19 : decode cX6_init 19 = .ok (.putfield 21, 3) := by decide +kernel
theorem dX6_init_22 : decode cX6_init 22 = .ok (.aload_n 0, 1) := by decide +kernel
theorem dX6_init_23 : decode cX6_init 23 = .ok (.iload_n 2, 1) := by decide +kernel
theorem dX6_init_24 : decode cX6_init 24 = .ok (.iconst 1, 1) := by decide +kernel
theorem dX6_init_25 : decode cX6_init 25 = .ok (.invokestatic 25, 3) := by decide +kernel
theorem dX6_init_28 : decode cX6_init 28 = .ok (.putfield 28, 3) := by decide +kernel
theorem dX6_init_31 : decode cX6_init 31 = .ok (.aload_n 0, 1) := by decide +kernel
theorem dX6_init_32 : decode cX6_init 32 = .ok (.iconst 0, 1) := by decide +kernel
theorem dX6_init_33 : decode cX6_init 33 = .ok (.putfield 31, 3) := by decide +kernel
theorem dX6_init_36 : decode cX6_init 36 = .ok (.aload_n 0, 1) := by decide +kernel
theorem dX6_init_37 : decode cX6_init 37 = .ok (.iconst (-1), 1) := by decide +kernel
theorem dX6_init_38 : decode cX6_init 38 = .ok (.putfield 34, 3) := by decide +kernel
theorem dX6_init_41 : decode cX6_init 41 = .ok (.aload_n 0, 1) := by decide +kernel
theorem dX6_init_42 : decode cX6_init 42 = .ok (.iconst 0, 1) := by decide +kernel
theorem dX6_init_43 : decode cX6_init 43 = .ok (.putfield 37, 3) := by decide +kernel
theorem dX6_init_46 : decode cX6_init 46 = .ok (.return_, 1) := by decide +kernel
set_option maxRecDepth 100000 in
set_option maxHeartbeats 4000000 in
theorem zy_X6_init_0 (l : Launch) (g : zq_G) (h0 : Nat) (sz : Nat) : zy_Mt g l yX6_init cX6_init 3 { frames := 1, cells := 1, slots := 35, locals := 14 } [.ref h0, .int 35, .int 3] [(h0, .inr (0, [.null, .int 0, .int 0, .int 0, .int 0, .int 0, .null, .null, .null]))] sz (fun (u : Nat → Nat) => [(h0, .inr (0, [.ref (u 0), .int 35, .int 3, .int 0, .int (-1), .int 0, .null, .null, .null])), ((u 0), zy_i g 35)]) 1 35 := by
  refine zy_of (by decide) (Nat.le_of_ble_eq_true rfl) (fun hx hb hr hml hown hts hin0 hK hN hlocks A hA hP hD ls hl hS => ?_)
  have hin : _ = "<init>" := hin0
  have hl : lv_has ls 3 [(0, .ref h0), (1, .int 35), (2, .int 3)] := hl
  refine lv_aload_n hx hb dX6_init_0 rfl (lv_at hl 0 rfl) ?_
  refine W.objInit hx hb hown (hts _ zu_110) (hts _ zu_100) (hts _ zu_101) rfl (by rw [hml]; exact hl.1) rfl dX6_init_1 (Nat.le_of_ble_eq_true rfl) (Nat.le_of_ble_eq_true rfl) ?_
  refine W.eq (g2 := F0 _ 4 ls []) rfl ?_
  refine lv_aload_n hx hb dX6_init_4 rfl (lv_at hl 0 rfl) ?_
  refine lv_bipush (v := 35) hx hb dX6_init_5 (by decide) ?_
  refine zy_newi (N := 35) hx hb (hts _ zu_165) hK hP hD hS hA (by decide) (by decide +kernel) (by decide +kernel) (Nat.le_of_ble_eq_true rfl) (Nat.le_of_ble_eq_true rfl) dX6_init_7 (fun q7 H hP hD hS => ?_)
  have hP : va_P g.1 vwCl [(h0, .inr (0, [.null, .int 0, .int 0, .int 0, .int 0, .int 0, .null, .null, .null])), (q7, zy_i g 35)] H := hP
  have hD : va_D A [(h0, .inr (0, [.null, .int 0, .int 0, .int 0, .int 0, .int 0, .null, .null, .null])), (q7, zy_i g 35)] := hD
  refine va_putF (D := g.1) (ci := 0) (v := .ref q7) (ty := (.array .int)) (C := RX0) (T := TX0) (N := 9) hx hb hts zq_uw0 tyX0 tyX0_ok nmX0 hown hK hP hD hS 0 rfl rfl 0 (by decide) (hts _ zu_122) (fun _ h9 => h9) rfl hin rfl (by decide +kernel) rfl rfl (Nat.le_of_ble_eq_true rfl) dX6_init_9 (fun H locs hP hD hS => ?_)
  have hP : va_P g.1 vwCl [(h0, .inr (0, [.ref q7, .int 0, .int 0, .int 0, .int 0, .int 0, .null, .null, .null])), (q7, zy_i g 35)] H := hP
  have hD : va_D A [(h0, .inr (0, [.ref q7, .int 0, .int 0, .int 0, .int 0, .int 0, .null, .null, .null])), (q7, zy_i g 35)] := hD
  refine lv_aload_n hx hb dX6_init_12 rfl (lv_at hl 0 rfl) ?_
  refine lv_iload_n hx hb dX6_init_13 rfl (lv_at hl 1 rfl) ?_
  refine lv_bipush (v := 35) hx hb dX6_init_14 (by decide) ?_
  refine va_mmin hx hb (hml.trans hl.1.symm) hown (hts _ zu_111) (hts _ zu_112) (hts _ zu_83) (hts _ zu_113) (Nat.le_of_ble_eq_true rfl) (Nat.le_of_ble_eq_true rfl) (Nat.le_of_ble_eq_true rfl) (Nat.le_of_ble_eq_true rfl) dX6_init_16 ?_
  rw [if_neg (by decide)]
  refine va_putF (D := g.1) (ci := 0) (v := .int 35) (ty := .int) (C := RX0) (T := TX0) (N := 9) hx hb hts zq_uw0 tyX0 tyX0_ok nmX0 hown hK hP hD hS 0 rfl rfl 1 (by decide) (hts _ zu_127) (fun _ h9 => h9) rfl hin rfl (by decide +kernel) rfl rfl (Nat.le_of_ble_eq_true rfl) dX6_init_19 (fun H locs hP hD hS => ?_)
  have hP : va_P g.1 vwCl [(h0, .inr (0, [.ref q7, .int 35, .int 0, .int 0, .int 0, .int 0, .null, .null, .null])), (q7, zy_i g 35)] H := hP
  have hD : va_D A [(h0, .inr (0, [.ref q7, .int 35, .int 0, .int 0, .int 0, .int 0, .null, .null, .null])), (q7, zy_i g 35)] := hD
  refine lv_aload_n hx hb dX6_init_22 rfl (lv_at hl 0 rfl) ?_
  refine lv_iload_n hx hb dX6_init_23 rfl (lv_at hl 2 rfl) ?_
  refine lv_iconst (v := 1) hx hb dX6_init_24 (by decide) ?_
  refine va_mmax hx hb (hml.trans hl.1.symm) hown (hts _ zu_114) (hts _ zu_115) (hts _ zu_83) (hts _ zu_116) (Nat.le_of_ble_eq_true rfl) (Nat.le_of_ble_eq_true rfl) (Nat.le_of_ble_eq_true rfl) (Nat.le_of_ble_eq_true rfl) dX6_init_25 ?_
  rw [if_neg (by decide)]
  refine va_putF (D := g.1) (ci := 0) (v := .int 3) (ty := .int) (C := RX0) (T := TX0) (N := 9) hx hb hts zq_uw0 tyX0 tyX0_ok nmX0 hown hK hP hD hS 0 rfl rfl 2 (by decide) (hts _ zu_128) (fun _ h9 => h9) rfl hin rfl (by decide +kernel) rfl rfl (Nat.le_of_ble_eq_true rfl) dX6_init_28 (fun H locs hP hD hS => ?_)
  have hP : va_P g.1 vwCl [(h0, .inr (0, [.ref q7, .int 35, .int 3, .int 0, .int 0, .int 0, .null, .null, .null])), (q7, zy_i g 35)] H := hP
  have hD : va_D A [(h0, .inr (0, [.ref q7, .int 35, .int 3, .int 0, .int 0, .int 0, .null, .null, .null])), (q7, zy_i g 35)] := hD
  refine lv_aload_n hx hb dX6_init_31 rfl (lv_at hl 0 rfl) ?_
  refine lv_iconst (v := 0) hx hb dX6_init_32 (by decide) ?_
  refine va_put (D := g.1) (ci := 0) (v := .int 0) (ty := .int) (C := RX0) (T := TX0) (N := 9) hx hb hts zq_uw0 tyX0 tyX0_ok nmX0 hown hK hP hD hS 0 rfl rfl 3 (by decide) (hts _ zu_129) (fun _ h9 => h9) rfl (by decide +kernel) rfl rfl (Nat.le_of_ble_eq_true rfl) dX6_init_33 (fun H locs hP hD hS => ?_)
  have hP : va_P g.1 vwCl [(h0, .inr (0, [.ref q7, .int 35, .int 3, .int 0, .int 0, .int 0, .null, .null, .null])), (q7, zy_i g 35)] H := hP
  have hD : va_D A [(h0, .inr (0, [.ref q7, .int 35, .int 3, .int 0, .int 0, .int 0, .null, .null, .null])), (q7, zy_i g 35)] := hD
  refine lv_aload_n hx hb dX6_init_36 rfl (lv_at hl 0 rfl) ?_
  refine lv_iconst (v := (-1)) hx hb dX6_init_37 (by decide) ?_
  refine va_put (D := g.1) (ci := 0) (v := .int (-1)) (ty := .int) (C := RX0) (T := TX0) (N := 9) hx hb hts zq_uw0 tyX0 tyX0_ok nmX0 hown hK hP hD hS 0 rfl rfl 4 (by decide) (hts _ zu_135) (fun _ h9 => h9) rfl (by decide +kernel) rfl rfl (Nat.le_of_ble_eq_true rfl) dX6_init_38 (fun H locs hP hD hS => ?_)
  have hP : va_P g.1 vwCl [(h0, .inr (0, [.ref q7, .int 35, .int 3, .int 0, .int (-1), .int 0, .null, .null, .null])), (q7, zy_i g 35)] H := hP
  have hD : va_D A [(h0, .inr (0, [.ref q7, .int 35, .int 3, .int 0, .int (-1), .int 0, .null, .null, .null])), (q7, zy_i g 35)] := hD
  refine lv_aload_n hx hb dX6_init_41 rfl (lv_at hl 0 rfl) ?_
  refine lv_iconst (v := 0) hx hb dX6_init_42 (by decide) ?_
  refine va_put (D := g.1) (ci := 0) (v := .int 0) (ty := .int) (C := RX0) (T := TX0) (N := 9) hx hb hts zq_uw0 tyX0 tyX0_ok nmX0 hown hK hP hD hS 0 rfl rfl 5 (by decide) (hts _ zu_137) (fun _ h9 => h9) rfl (by decide +kernel) rfl rfl (Nat.le_of_ble_eq_true rfl) dX6_init_43 (fun H locs hP hD hS => ?_)
  have hP : va_P g.1 vwCl [(h0, .inr (0, [.ref q7, .int 35, .int 3, .int 0, .int (-1), .int 0, .null, .null, .null])), (q7, zy_i g 35)] H := hP
  have hD : va_D A [(h0, .inr (0, [.ref q7, .int 35, .int 3, .int 0, .int (-1), .int 0, .null, .null, .null])), (q7, zy_i g 35)] := hD
  refine W.widen (k := 1) (n := 35) (Nat.le_of_ble_eq_true rfl) (Nat.le_of_ble_eq_true rfl) ?_
  exact zy_ret (u := fun k => [q7].getD k 0) hx hb hr hlocks hP hD hS dX6_init_46

set_option maxRecDepth 100000 in
set_option maxHeartbeats 4000000 in
theorem zy_X6_init_3 (l : Launch) (g : zq_G) (h0 : Nat) (sz : Nat) : zy_Mt g l yX6_init cX6_init 3 { frames := 1, cells := 1, slots := 35, locals := 14 } [.ref h0, .int 31, .int 4] [(h0, .inr (3, [.null, .int 0, .int 0, .int 0, .int 0, .int 0, .null, .null, .null]))] sz (fun (u : Nat → Nat) => [(h0, .inr (3, [.ref (u 0), .int 31, .int 4, .int 0, .int (-1), .int 0, .null, .null, .null])), ((u 0), zy_i g 35)]) 1 35 := by
  refine zy_of (by decide) (Nat.le_of_ble_eq_true rfl) (fun hx hb hr hml hown hts hin0 hK hN hlocks A hA hP hD ls hl hS => ?_)
  have hin : _ = "<init>" := hin0
  have hl : lv_has ls 3 [(0, .ref h0), (1, .int 31), (2, .int 4)] := hl
  refine lv_aload_n hx hb dX6_init_0 rfl (lv_at hl 0 rfl) ?_
  refine W.objInit hx hb hown (hts _ zu_110) (hts _ zu_100) (hts _ zu_101) rfl (by rw [hml]; exact hl.1) rfl dX6_init_1 (Nat.le_of_ble_eq_true rfl) (Nat.le_of_ble_eq_true rfl) ?_
  refine W.eq (g2 := F0 _ 4 ls []) rfl ?_
  refine lv_aload_n hx hb dX6_init_4 rfl (lv_at hl 0 rfl) ?_
  refine lv_bipush (v := 35) hx hb dX6_init_5 (by decide) ?_
  refine zy_newi (N := 35) hx hb (hts _ zu_165) hK hP hD hS hA (by decide) (by decide +kernel) (by decide +kernel) (Nat.le_of_ble_eq_true rfl) (Nat.le_of_ble_eq_true rfl) dX6_init_7 (fun q7 H hP hD hS => ?_)
  have hP : va_P g.1 vwCl [(h0, .inr (3, [.null, .int 0, .int 0, .int 0, .int 0, .int 0, .null, .null, .null])), (q7, zy_i g 35)] H := hP
  have hD : va_D A [(h0, .inr (3, [.null, .int 0, .int 0, .int 0, .int 0, .int 0, .null, .null, .null])), (q7, zy_i g 35)] := hD
  refine va_putF (D := g.1) (ci := 3) (v := .ref q7) (ty := (.array .int)) (C := RX3) (T := TX3) (N := 9) hx hb hts zq_uw3 tyX3 tyX3_ok nmX3 hown hK hP hD hS 0 rfl rfl 0 (by decide) (hts _ zu_122) (fun _ h9 => h9) rfl hin rfl (by decide +kernel) rfl rfl (Nat.le_of_ble_eq_true rfl) dX6_init_9 (fun H locs hP hD hS => ?_)
  have hP : va_P g.1 vwCl [(h0, .inr (3, [.ref q7, .int 0, .int 0, .int 0, .int 0, .int 0, .null, .null, .null])), (q7, zy_i g 35)] H := hP
  have hD : va_D A [(h0, .inr (3, [.ref q7, .int 0, .int 0, .int 0, .int 0, .int 0, .null, .null, .null])), (q7, zy_i g 35)] := hD
  refine lv_aload_n hx hb dX6_init_12 rfl (lv_at hl 0 rfl) ?_
  refine lv_iload_n hx hb dX6_init_13 rfl (lv_at hl 1 rfl) ?_
  refine lv_bipush (v := 35) hx hb dX6_init_14 (by decide) ?_
  refine va_mmin hx hb (hml.trans hl.1.symm) hown (hts _ zu_111) (hts _ zu_112) (hts _ zu_83) (hts _ zu_113) (Nat.le_of_ble_eq_true rfl) (Nat.le_of_ble_eq_true rfl) (Nat.le_of_ble_eq_true rfl) (Nat.le_of_ble_eq_true rfl) dX6_init_16 ?_
  rw [if_neg (by decide)]
  refine va_putF (D := g.1) (ci := 3) (v := .int 31) (ty := .int) (C := RX3) (T := TX3) (N := 9) hx hb hts zq_uw3 tyX3 tyX3_ok nmX3 hown hK hP hD hS 0 rfl rfl 1 (by decide) (hts _ zu_127) (fun _ h9 => h9) rfl hin rfl (by decide +kernel) rfl rfl (Nat.le_of_ble_eq_true rfl) dX6_init_19 (fun H locs hP hD hS => ?_)
  have hP : va_P g.1 vwCl [(h0, .inr (3, [.ref q7, .int 31, .int 0, .int 0, .int 0, .int 0, .null, .null, .null])), (q7, zy_i g 35)] H := hP
  have hD : va_D A [(h0, .inr (3, [.ref q7, .int 31, .int 0, .int 0, .int 0, .int 0, .null, .null, .null])), (q7, zy_i g 35)] := hD
  refine lv_aload_n hx hb dX6_init_22 rfl (lv_at hl 0 rfl) ?_
  refine lv_iload_n hx hb dX6_init_23 rfl (lv_at hl 2 rfl) ?_
  refine lv_iconst (v := 1) hx hb dX6_init_24 (by decide) ?_
  refine va_mmax hx hb (hml.trans hl.1.symm) hown (hts _ zu_114) (hts _ zu_115) (hts _ zu_83) (hts _ zu_116) (Nat.le_of_ble_eq_true rfl) (Nat.le_of_ble_eq_true rfl) (Nat.le_of_ble_eq_true rfl) (Nat.le_of_ble_eq_true rfl) dX6_init_25 ?_
  rw [if_neg (by decide)]
  refine va_putF (D := g.1) (ci := 3) (v := .int 4) (ty := .int) (C := RX3) (T := TX3) (N := 9) hx hb hts zq_uw3 tyX3 tyX3_ok nmX3 hown hK hP hD hS 0 rfl rfl 2 (by decide) (hts _ zu_128) (fun _ h9 => h9) rfl hin rfl (by decide +kernel) rfl rfl (Nat.le_of_ble_eq_true rfl) dX6_init_28 (fun H locs hP hD hS => ?_)
  have hP : va_P g.1 vwCl [(h0, .inr (3, [.ref q7, .int 31, .int 4, .int 0, .int 0, .int 0, .null, .null, .null])), (q7, zy_i g 35)] H := hP
  have hD : va_D A [(h0, .inr (3, [.ref q7, .int 31, .int 4, .int 0, .int 0, .int 0, .null, .null, .null])), (q7, zy_i g 35)] := hD
  refine lv_aload_n hx hb dX6_init_31 rfl (lv_at hl 0 rfl) ?_
  refine lv_iconst (v := 0) hx hb dX6_init_32 (by decide) ?_
  refine va_put (D := g.1) (ci := 3) (v := .int 0) (ty := .int) (C := RX3) (T := TX3) (N := 9) hx hb hts zq_uw3 tyX3 tyX3_ok nmX3 hown hK hP hD hS 0 rfl rfl 3 (by decide) (hts _ zu_129) (fun _ h9 => h9) rfl (by decide +kernel) rfl rfl (Nat.le_of_ble_eq_true rfl) dX6_init_33 (fun H locs hP hD hS => ?_)
  have hP : va_P g.1 vwCl [(h0, .inr (3, [.ref q7, .int 31, .int 4, .int 0, .int 0, .int 0, .null, .null, .null])), (q7, zy_i g 35)] H := hP
  have hD : va_D A [(h0, .inr (3, [.ref q7, .int 31, .int 4, .int 0, .int 0, .int 0, .null, .null, .null])), (q7, zy_i g 35)] := hD
  refine lv_aload_n hx hb dX6_init_36 rfl (lv_at hl 0 rfl) ?_
  refine lv_iconst (v := (-1)) hx hb dX6_init_37 (by decide) ?_
  refine va_put (D := g.1) (ci := 3) (v := .int (-1)) (ty := .int) (C := RX3) (T := TX3) (N := 9) hx hb hts zq_uw3 tyX3 tyX3_ok nmX3 hown hK hP hD hS 0 rfl rfl 4 (by decide) (hts _ zu_135) (fun _ h9 => h9) rfl (by decide +kernel) rfl rfl (Nat.le_of_ble_eq_true rfl) dX6_init_38 (fun H locs hP hD hS => ?_)
  have hP : va_P g.1 vwCl [(h0, .inr (3, [.ref q7, .int 31, .int 4, .int 0, .int (-1), .int 0, .null, .null, .null])), (q7, zy_i g 35)] H := hP
  have hD : va_D A [(h0, .inr (3, [.ref q7, .int 31, .int 4, .int 0, .int (-1), .int 0, .null, .null, .null])), (q7, zy_i g 35)] := hD
  refine lv_aload_n hx hb dX6_init_41 rfl (lv_at hl 0 rfl) ?_
  refine lv_iconst (v := 0) hx hb dX6_init_42 (by decide) ?_
  refine va_put (D := g.1) (ci := 3) (v := .int 0) (ty := .int) (C := RX3) (T := TX3) (N := 9) hx hb hts zq_uw3 tyX3 tyX3_ok nmX3 hown hK hP hD hS 0 rfl rfl 5 (by decide) (hts _ zu_137) (fun _ h9 => h9) rfl (by decide +kernel) rfl rfl (Nat.le_of_ble_eq_true rfl) dX6_init_43 (fun H locs hP hD hS => ?_)
  have hP : va_P g.1 vwCl [(h0, .inr (3, [.ref q7, .int 31, .int 4, .int 0, .int (-1), .int 0, .null, .null, .null])), (q7, zy_i g 35)] H := hP
  have hD : va_D A [(h0, .inr (3, [.ref q7, .int 31, .int 4, .int 0, .int (-1), .int 0, .null, .null, .null])), (q7, zy_i g 35)] := hD
  refine W.widen (k := 1) (n := 35) (Nat.le_of_ble_eq_true rfl) (Nat.le_of_ble_eq_true rfl) ?_
  exact zy_ret (u := fun k => [q7].getD k 0) hx hb hr hlocks hP hD hS dX6_init_46

theorem dX0_init_0 : decode cX0_init 0 = .ok (.aload_n 0, 1) := by decide +kernel
theorem dX0_init_1 : decode cX0_init 1 = .ok (.bipush 35, 2) := by decide +kernel
theorem dX0_init_3 : decode cX0_init 3 = .ok (.iconst 3, 1) := by decide +kernel
theorem dX0_init_4 : decode cX0_init 4 = .ok (.invokespecial 5, 3) := by decide +kernel
theorem dX0_init_7 : decode cX0_init 7 = .ok (.aload_n 0, 1) := by decide +kernel
theorem dX0_init_8 : decode cX0_init 8 = .ok (.bipush 12, 2) := by decide +kernel
theorem dX0_init_10 : decode cX0_init 10 = .ok (.newarray .int, 2) := by decide +kernel
theorem dX0_init_12 : decode cX0_init 12 = .ok (.putfield 11, 3) := by decide +kernel
theorem dX0_init_15 : decode cX0_init 15 = .ok (.aload_n 0, 1) := by decide +kernel
theorem dX0_init_16 : decode cX0_init 16 = .ok (.bipush 12, 2) := by decide +kernel
theorem dX0_init_18 : decode cX0_init 18 = .ok (.newarray .int, 2) := by decide +kernel
theorem dX0_init_20 : decode cX0_init 20 = .ok (.putfield 15, 3) := by decide +kernel
theorem dX0_init_23 : decode cX0_init 23 = .ok (.aload_n 0, 1) := by decide +kernel
theorem dX0_init_24 : decode cX0_init 24 = .ok (.bipush 8, 2) := by decide +kernel
theorem dX0_init_26 : decode cX0_init 26 = .ok (.newarray .int, 2) := by decide +kernel
theorem dX0_init_28 : decode cX0_init 28 = .ok (.putfield 18, 3) := by decide +kernel
theorem dX0_init_31 : decode cX0_init 31 = .ok (.return_, 1) := by decide +kernel
set_option maxRecDepth 100000 in
set_option maxHeartbeats 4000000 in
theorem zy_X0_init (l : Launch) (g : zq_G) (h0 : Nat) (sz : Nat) : zy_Mt g l yX0_init cX0_init 1 { frames := 2, cells := 4, slots := 67, locals := 36 } [.ref h0] [(h0, .inr (0, [.null, .int 0, .int 0, .int 0, .int 0, .int 0, .null, .null, .null]))] sz (fun (u : Nat → Nat) => [(h0, .inr (0, [.ref (u 0), .int 35, .int 3, .int 0, .int (-1), .int 0, .ref (u 1), .ref (u 2), .ref (u 3)])), ((u 0), zy_i g 35), ((u 1), zy_i g 12), ((u 2), zy_i g 12), ((u 3), zy_i g 8)]) 4 67 := by
  refine zy_of (by decide) (Nat.le_of_ble_eq_true rfl) (fun hx hb hr hml hown hts hin0 hK hN hlocks A hA hP hD ls hl hS => ?_)
  have hin : _ = "<init>" := hin0
  have hl : lv_has ls 1 [(0, .ref h0)] := hl
  refine lv_aload_n hx hb dX0_init_0 rfl (lv_at hl 0 rfl) ?_
  refine lv_bipush (v := 35) hx hb dX0_init_1 (by decide) ?_
  refine lv_iconst (v := 3) hx hb dX0_init_3 (by decide) ?_
  refine zy_callI (As := [.int 35, .int 3]) (rest := []) (n := 2) (wr := []) hx hb hml hown hts hK hN hP hD hS hA (zy_X6_init_0 l g h0  _) [0] [] rfl rfl rfl rfl (by decide) zu_81 zu_107 zu_108 zu_109 rfl (by decide +kernel) ⟨rfl, rfl⟩ ⟨(Nat.le_of_ble_eq_true rfl), (Nat.le_of_ble_eq_true rfl)⟩ rfl hl.1 (lv_room (Nat.le_of_ble_eq_true rfl)) dX0_init_4 ⟨(Nat.le_of_ble_eq_true rfl), (Nat.le_of_ble_eq_true rfl)⟩ (fun u4 H locs hP hD hS => ?_)
  have hP : va_P g.1 vwCl [(h0, .inr (0, [.ref (u4 0), .int 35, .int 3, .int 0, .int (-1), .int 0, .null, .null, .null])), ((u4 0), zy_i g 35)] H := hP
  have hD : va_D A [(h0, .inr (0, [.ref (u4 0), .int 35, .int 3, .int 0, .int (-1), .int 0, .null, .null, .null])), ((u4 0), zy_i g 35)] := hD
  refine lv_aload_n hx hb dX0_init_7 rfl (lv_at hl 0 rfl) ?_
  refine lv_bipush (v := 12) hx hb dX0_init_8 (by decide) ?_
  refine zy_newi (N := 12) hx hb (hts _ zu_165) hK hP hD hS hA (by decide) (by decide +kernel) (by decide +kernel) (Nat.le_of_ble_eq_true rfl) (Nat.le_of_ble_eq_true rfl) dX0_init_10 (fun q10 H hP hD hS => ?_)
  have hP : va_P g.1 vwCl [(h0, .inr (0, [.ref (u4 0), .int 35, .int 3, .int 0, .int (-1), .int 0, .null, .null, .null])), ((u4 0), zy_i g 35), (q10, zy_i g 12)] H := hP
  have hD : va_D A [(h0, .inr (0, [.ref (u4 0), .int 35, .int 3, .int 0, .int (-1), .int 0, .null, .null, .null])), ((u4 0), zy_i g 35), (q10, zy_i g 12)] := hD
  refine va_putF (D := g.1) (ci := 0) (v := .ref q10) (ty := (.array .int)) (C := RX0) (T := TX0) (N := 9) hx hb hts zq_uw0 tyX0 tyX0_ok nmX0 hown hK hP hD hS 0 rfl rfl 6 (by decide) (hts _ zu_117) (fun _ h9 => h9) rfl hin rfl (by decide +kernel) rfl rfl (Nat.le_of_ble_eq_true rfl) dX0_init_12 (fun H locs hP hD hS => ?_)
  have hP : va_P g.1 vwCl [(h0, .inr (0, [.ref (u4 0), .int 35, .int 3, .int 0, .int (-1), .int 0, .ref q10, .null, .null])), ((u4 0), zy_i g 35), (q10, zy_i g 12)] H := hP
  have hD : va_D A [(h0, .inr (0, [.ref (u4 0), .int 35, .int 3, .int 0, .int (-1), .int 0, .ref q10, .null, .null])), ((u4 0), zy_i g 35), (q10, zy_i g 12)] := hD
  refine lv_aload_n hx hb dX0_init_15 rfl (lv_at hl 0 rfl) ?_
  refine lv_bipush (v := 12) hx hb dX0_init_16 (by decide) ?_
  refine zy_newi (N := 12) hx hb (hts _ zu_165) hK hP hD hS hA (by decide) (by decide +kernel) (by decide +kernel) (Nat.le_of_ble_eq_true rfl) (Nat.le_of_ble_eq_true rfl) dX0_init_18 (fun q18 H hP hD hS => ?_)
  have hP : va_P g.1 vwCl [(h0, .inr (0, [.ref (u4 0), .int 35, .int 3, .int 0, .int (-1), .int 0, .ref q10, .null, .null])), ((u4 0), zy_i g 35), (q10, zy_i g 12), (q18, zy_i g 12)] H := hP
  have hD : va_D A [(h0, .inr (0, [.ref (u4 0), .int 35, .int 3, .int 0, .int (-1), .int 0, .ref q10, .null, .null])), ((u4 0), zy_i g 35), (q10, zy_i g 12), (q18, zy_i g 12)] := hD
  refine va_putF (D := g.1) (ci := 0) (v := .ref q18) (ty := (.array .int)) (C := RX0) (T := TX0) (N := 9) hx hb hts zq_uw0 tyX0 tyX0_ok nmX0 hown hK hP hD hS 0 rfl rfl 7 (by decide) (hts _ zu_119) (fun _ h9 => h9) rfl hin rfl (by decide +kernel) rfl rfl (Nat.le_of_ble_eq_true rfl) dX0_init_20 (fun H locs hP hD hS => ?_)
  have hP : va_P g.1 vwCl [(h0, .inr (0, [.ref (u4 0), .int 35, .int 3, .int 0, .int (-1), .int 0, .ref q10, .ref q18, .null])), ((u4 0), zy_i g 35), (q10, zy_i g 12), (q18, zy_i g 12)] H := hP
  have hD : va_D A [(h0, .inr (0, [.ref (u4 0), .int 35, .int 3, .int 0, .int (-1), .int 0, .ref q10, .ref q18, .null])), ((u4 0), zy_i g 35), (q10, zy_i g 12), (q18, zy_i g 12)] := hD
  refine lv_aload_n hx hb dX0_init_23 rfl (lv_at hl 0 rfl) ?_
  refine lv_bipush (v := 8) hx hb dX0_init_24 (by decide) ?_
  refine zy_newi (N := 8) hx hb (hts _ zu_165) hK hP hD hS hA (by decide) (by decide +kernel) (by decide +kernel) (Nat.le_of_ble_eq_true rfl) (Nat.le_of_ble_eq_true rfl) dX0_init_26 (fun q26 H hP hD hS => ?_)
  have hP : va_P g.1 vwCl [(h0, .inr (0, [.ref (u4 0), .int 35, .int 3, .int 0, .int (-1), .int 0, .ref q10, .ref q18, .null])), ((u4 0), zy_i g 35), (q10, zy_i g 12), (q18, zy_i g 12), (q26, zy_i g 8)] H := hP
  have hD : va_D A [(h0, .inr (0, [.ref (u4 0), .int 35, .int 3, .int 0, .int (-1), .int 0, .ref q10, .ref q18, .null])), ((u4 0), zy_i g 35), (q10, zy_i g 12), (q18, zy_i g 12), (q26, zy_i g 8)] := hD
  refine va_putF (D := g.1) (ci := 0) (v := .ref q26) (ty := (.array .int)) (C := RX0) (T := TX0) (N := 9) hx hb hts zq_uw0 tyX0 tyX0_ok nmX0 hown hK hP hD hS 0 rfl rfl 8 (by decide) (hts _ zu_121) (fun _ h9 => h9) rfl hin rfl (by decide +kernel) rfl rfl (Nat.le_of_ble_eq_true rfl) dX0_init_28 (fun H locs hP hD hS => ?_)
  have hP : va_P g.1 vwCl [(h0, .inr (0, [.ref (u4 0), .int 35, .int 3, .int 0, .int (-1), .int 0, .ref q10, .ref q18, .ref q26])), ((u4 0), zy_i g 35), (q10, zy_i g 12), (q18, zy_i g 12), (q26, zy_i g 8)] H := hP
  have hD : va_D A [(h0, .inr (0, [.ref (u4 0), .int 35, .int 3, .int 0, .int (-1), .int 0, .ref q10, .ref q18, .ref q26])), ((u4 0), zy_i g 35), (q10, zy_i g 12), (q18, zy_i g 12), (q26, zy_i g 8)] := hD
  refine W.widen (k := 4) (n := 67) (Nat.le_of_ble_eq_true rfl) (Nat.le_of_ble_eq_true rfl) ?_
  exact zy_ret (u := fun k => [(u4 0), q10, q18, q26].getD k 0) hx hb hr hlocks hP hD hS dX0_init_31

theorem dX3_init_0 : decode cX3_init 0 = .ok (.aload_n 0, 1) := by decide +kernel
theorem dX3_init_1 : decode cX3_init 1 = .ok (.bipush 31, 2) := by decide +kernel
theorem dX3_init_3 : decode cX3_init 3 = .ok (.iconst 4, 1) := by decide +kernel
theorem dX3_init_4 : decode cX3_init 4 = .ok (.invokespecial 5, 3) := by decide +kernel
theorem dX3_init_7 : decode cX3_init 7 = .ok (.aload_n 0, 1) := by decide +kernel
theorem dX3_init_8 : decode cX3_init 8 = .ok (.bipush 8, 2) := by decide +kernel
theorem dX3_init_10 : decode cX3_init 10 = .ok (.newarray .int, 2) := by decide +kernel
theorem dX3_init_12 : decode cX3_init 12 = .ok (.putfield 11, 3) := by decide +kernel
theorem dX3_init_15 : decode cX3_init 15 = .ok (.aload_n 0, 1) := by decide +kernel
theorem dX3_init_16 : decode cX3_init 16 = .ok (.bipush 8, 2) := by decide +kernel
theorem dX3_init_18 : decode cX3_init 18 = .ok (.newarray .int, 2) := by decide +kernel
theorem dX3_init_20 : decode cX3_init 20 = .ok (.putfield 15, 3) := by decide +kernel
theorem dX3_init_23 : decode cX3_init 23 = .ok (.aload_n 0, 1) := by decide +kernel
theorem dX3_init_24 : decode cX3_init 24 = .ok (.bipush 8, 2) := by decide +kernel
theorem dX3_init_26 : decode cX3_init 26 = .ok (.newarray .int, 2) := by decide +kernel
theorem dX3_init_28 : decode cX3_init 28 = .ok (.putfield 18, 3) := by decide +kernel
theorem dX3_init_31 : decode cX3_init 31 = .ok (.return_, 1) := by decide +kernel
set_option maxRecDepth 100000 in
set_option maxHeartbeats 4000000 in
theorem zy_X3_init (l : Launch) (g : zq_G) (h0 : Nat) (sz : Nat) : zy_Mt g l yX3_init cX3_init 1 { frames := 2, cells := 4, slots := 59, locals := 36 } [.ref h0] [(h0, .inr (3, [.null, .int 0, .int 0, .int 0, .int 0, .int 0, .null, .null, .null]))] sz (fun (u : Nat → Nat) => [(h0, .inr (3, [.ref (u 0), .int 31, .int 4, .int 0, .int (-1), .int 0, .ref (u 1), .ref (u 2), .ref (u 3)])), ((u 0), zy_i g 35), ((u 1), zy_i g 8), ((u 2), zy_i g 8), ((u 3), zy_i g 8)]) 4 59 := by
  refine zy_of (by decide) (Nat.le_of_ble_eq_true rfl) (fun hx hb hr hml hown hts hin0 hK hN hlocks A hA hP hD ls hl hS => ?_)
  have hin : _ = "<init>" := hin0
  have hl : lv_has ls 1 [(0, .ref h0)] := hl
  refine lv_aload_n hx hb dX3_init_0 rfl (lv_at hl 0 rfl) ?_
  refine lv_bipush (v := 31) hx hb dX3_init_1 (by decide) ?_
  refine lv_iconst (v := 4) hx hb dX3_init_3 (by decide) ?_
  refine zy_callI (As := [.int 31, .int 4]) (rest := []) (n := 2) (wr := []) hx hb hml hown hts hK hN hP hD hS hA (zy_X6_init_3 l g h0  _) [0] [] rfl rfl rfl rfl (by decide) zu_81 zu_171 zu_108 zu_109 rfl (by decide +kernel) ⟨rfl, rfl⟩ ⟨(Nat.le_of_ble_eq_true rfl), (Nat.le_of_ble_eq_true rfl)⟩ rfl hl.1 (lv_room (Nat.le_of_ble_eq_true rfl)) dX3_init_4 ⟨(Nat.le_of_ble_eq_true rfl), (Nat.le_of_ble_eq_true rfl)⟩ (fun u4 H locs hP hD hS => ?_)
  have hP : va_P g.1 vwCl [(h0, .inr (3, [.ref (u4 0), .int 31, .int 4, .int 0, .int (-1), .int 0, .null, .null, .null])), ((u4 0), zy_i g 35)] H := hP
  have hD : va_D A [(h0, .inr (3, [.ref (u4 0), .int 31, .int 4, .int 0, .int (-1), .int 0, .null, .null, .null])), ((u4 0), zy_i g 35)] := hD
  refine lv_aload_n hx hb dX3_init_7 rfl (lv_at hl 0 rfl) ?_
  refine lv_bipush (v := 8) hx hb dX3_init_8 (by decide) ?_
  refine zy_newi (N := 8) hx hb (hts _ zu_165) hK hP hD hS hA (by decide) (by decide +kernel) (by decide +kernel) (Nat.le_of_ble_eq_true rfl) (Nat.le_of_ble_eq_true rfl) dX3_init_10 (fun q10 H hP hD hS => ?_)
  have hP : va_P g.1 vwCl [(h0, .inr (3, [.ref (u4 0), .int 31, .int 4, .int 0, .int (-1), .int 0, .null, .null, .null])), ((u4 0), zy_i g 35), (q10, zy_i g 8)] H := hP
  have hD : va_D A [(h0, .inr (3, [.ref (u4 0), .int 31, .int 4, .int 0, .int (-1), .int 0, .null, .null, .null])), ((u4 0), zy_i g 35), (q10, zy_i g 8)] := hD
  refine va_putF (D := g.1) (ci := 3) (v := .ref q10) (ty := (.array .int)) (C := RX3) (T := TX3) (N := 9) hx hb hts zq_uw3 tyX3 tyX3_ok nmX3 hown hK hP hD hS 0 rfl rfl 6 (by decide) (hts _ zu_172) (fun _ h9 => h9) rfl hin rfl (by decide +kernel) rfl rfl (Nat.le_of_ble_eq_true rfl) dX3_init_12 (fun H locs hP hD hS => ?_)
  have hP : va_P g.1 vwCl [(h0, .inr (3, [.ref (u4 0), .int 31, .int 4, .int 0, .int (-1), .int 0, .ref q10, .null, .null])), ((u4 0), zy_i g 35), (q10, zy_i g 8)] H := hP
  have hD : va_D A [(h0, .inr (3, [.ref (u4 0), .int 31, .int 4, .int 0, .int (-1), .int 0, .ref q10, .null, .null])), ((u4 0), zy_i g 35), (q10, zy_i g 8)] := hD
  refine lv_aload_n hx hb dX3_init_15 rfl (lv_at hl 0 rfl) ?_
  refine lv_bipush (v := 8) hx hb dX3_init_16 (by decide) ?_
  refine zy_newi (N := 8) hx hb (hts _ zu_165) hK hP hD hS hA (by decide) (by decide +kernel) (by decide +kernel) (Nat.le_of_ble_eq_true rfl) (Nat.le_of_ble_eq_true rfl) dX3_init_18 (fun q18 H hP hD hS => ?_)
  have hP : va_P g.1 vwCl [(h0, .inr (3, [.ref (u4 0), .int 31, .int 4, .int 0, .int (-1), .int 0, .ref q10, .null, .null])), ((u4 0), zy_i g 35), (q10, zy_i g 8), (q18, zy_i g 8)] H := hP
  have hD : va_D A [(h0, .inr (3, [.ref (u4 0), .int 31, .int 4, .int 0, .int (-1), .int 0, .ref q10, .null, .null])), ((u4 0), zy_i g 35), (q10, zy_i g 8), (q18, zy_i g 8)] := hD
  refine va_putF (D := g.1) (ci := 3) (v := .ref q18) (ty := (.array .int)) (C := RX3) (T := TX3) (N := 9) hx hb hts zq_uw3 tyX3 tyX3_ok nmX3 hown hK hP hD hS 0 rfl rfl 7 (by decide) (hts _ zu_175) (fun _ h9 => h9) rfl hin rfl (by decide +kernel) rfl rfl (Nat.le_of_ble_eq_true rfl) dX3_init_20 (fun H locs hP hD hS => ?_)
  have hP : va_P g.1 vwCl [(h0, .inr (3, [.ref (u4 0), .int 31, .int 4, .int 0, .int (-1), .int 0, .ref q10, .ref q18, .null])), ((u4 0), zy_i g 35), (q10, zy_i g 8), (q18, zy_i g 8)] H := hP
  have hD : va_D A [(h0, .inr (3, [.ref (u4 0), .int 31, .int 4, .int 0, .int (-1), .int 0, .ref q10, .ref q18, .null])), ((u4 0), zy_i g 35), (q10, zy_i g 8), (q18, zy_i g 8)] := hD
  refine lv_aload_n hx hb dX3_init_23 rfl (lv_at hl 0 rfl) ?_
  refine lv_bipush (v := 8) hx hb dX3_init_24 (by decide) ?_
  refine zy_newi (N := 8) hx hb (hts _ zu_165) hK hP hD hS hA (by decide) (by decide +kernel) (by decide +kernel) (Nat.le_of_ble_eq_true rfl) (Nat.le_of_ble_eq_true rfl) dX3_init_26 (fun q26 H hP hD hS => ?_)
  have hP : va_P g.1 vwCl [(h0, .inr (3, [.ref (u4 0), .int 31, .int 4, .int 0, .int (-1), .int 0, .ref q10, .ref q18, .null])), ((u4 0), zy_i g 35), (q10, zy_i g 8), (q18, zy_i g 8), (q26, zy_i g 8)] H := hP
  have hD : va_D A [(h0, .inr (3, [.ref (u4 0), .int 31, .int 4, .int 0, .int (-1), .int 0, .ref q10, .ref q18, .null])), ((u4 0), zy_i g 35), (q10, zy_i g 8), (q18, zy_i g 8), (q26, zy_i g 8)] := hD
  refine va_putF (D := g.1) (ci := 3) (v := .ref q26) (ty := (.array .int)) (C := RX3) (T := TX3) (N := 9) hx hb hts zq_uw3 tyX3 tyX3_ok nmX3 hown hK hP hD hS 0 rfl rfl 8 (by decide) (hts _ zu_178) (fun _ h9 => h9) rfl hin rfl (by decide +kernel) rfl rfl (Nat.le_of_ble_eq_true rfl) dX3_init_28 (fun H locs hP hD hS => ?_)
  have hP : va_P g.1 vwCl [(h0, .inr (3, [.ref (u4 0), .int 31, .int 4, .int 0, .int (-1), .int 0, .ref q10, .ref q18, .ref q26])), ((u4 0), zy_i g 35), (q10, zy_i g 8), (q18, zy_i g 8), (q26, zy_i g 8)] H := hP
  have hD : va_D A [(h0, .inr (3, [.ref (u4 0), .int 31, .int 4, .int 0, .int (-1), .int 0, .ref q10, .ref q18, .ref q26])), ((u4 0), zy_i g 35), (q10, zy_i g 8), (q18, zy_i g 8), (q26, zy_i g 8)] := hD
  refine W.widen (k := 4) (n := 59) (Nat.le_of_ble_eq_true rfl) (Nat.le_of_ble_eq_true rfl) ?_
  exact zy_ret (u := fun k => [(u4 0), q10, q18, q26].getD k 0) hx hb hr hlocks hP hD hS dX3_init_31

theorem dX1_init_0 : decode cX1_init 0 = .ok (.aload_n 0, 1) := by decide +kernel
theorem dX1_init_1 : decode cX1_init 1 = .ok (.invokespecial 3, 3) := by decide +kernel
theorem dX1_init_4 : decode cX1_init 4 = .ok (.aload_n 0, 1) := by decide +kernel
theorem dX1_init_5 : decode cX1_init 5 = .ok (.bipush 9, 2) := by decide +kernel
theorem dX1_init_7 : decode cX1_init 7 = .ok (.newarray .int, 2) := by decide +kernel
theorem dX1_init_9 : decode cX1_init 9 = .ok (.putfield 11, 3) := by decide +kernel
theorem dX1_init_12 : decode cX1_init 12 = .ok (.aload_n 0, 1) := by decide +kernel
theorem dX1_init_13 : decode cX1_init 13 = .ok (.bipush 9, 2) := by decide +kernel
theorem dX1_init_15 : decode cX1_init 15 = .ok (.newarray .int, 2) := by decide +kernel
theorem dX1_init_17 : decode cX1_init 17 = .ok (.putfield 15, 3) := by decide +kernel
theorem dX1_init_20 : decode cX1_init 20 = .ok (.aload_n 0, 1) := by decide +kernel
theorem dX1_init_21 : decode cX1_init 21 = .ok (.bipush 9, 2) := by decide +kernel
theorem dX1_init_23 : decode cX1_init 23 = .ok (.newarray .int, 2) := by decide +kernel
theorem dX1_init_25 : decode cX1_init 25 = .ok (.putfield 18, 3) := by decide +kernel
theorem dX1_init_28 : decode cX1_init 28 = .ok (.return_, 1) := by decide +kernel
set_option maxRecDepth 100000 in
set_option maxHeartbeats 4000000 in
theorem zy_X1_init (l : Launch) (g : zq_G) (h0 : Nat) (sz : Nat) : zy_Mt g l yX1_init cX1_init 1 { frames := 1, cells := 3, slots := 27, locals := 12 } [.ref h0] [(h0, .inr (1, [.null, .null, .null, .int 0]))] sz (fun (u : Nat → Nat) => [(h0, .inr (1, [.ref (u 0), .ref (u 1), .ref (u 2), .int 0])), ((u 0), zy_i g 9), ((u 1), zy_i g 9), ((u 2), zy_i g 9)]) 3 27 := by
  refine zy_of (by decide) (Nat.le_of_ble_eq_true rfl) (fun hx hb hr hml hown hts hin0 hK hN hlocks A hA hP hD ls hl hS => ?_)
  have hin : _ = "<init>" := hin0
  have hl : lv_has ls 1 [(0, .ref h0)] := hl
  refine lv_aload_n hx hb dX1_init_0 rfl (lv_at hl 0 rfl) ?_
  refine W.objInit hx hb hown (hts _ zu_199) (hts _ zu_100) (hts _ zu_101) rfl (by rw [hml]; exact hl.1) rfl dX1_init_1 (Nat.le_of_ble_eq_true rfl) (Nat.le_of_ble_eq_true rfl) ?_
  refine W.eq (g2 := F0 _ 4 ls []) rfl ?_
  refine lv_aload_n hx hb dX1_init_4 rfl (lv_at hl 0 rfl) ?_
  refine lv_bipush (v := 9) hx hb dX1_init_5 (by decide) ?_
  refine zy_newi (N := 9) hx hb (hts _ zu_165) hK hP hD hS hA (by decide) (by decide +kernel) (by decide +kernel) (Nat.le_of_ble_eq_true rfl) (Nat.le_of_ble_eq_true rfl) dX1_init_7 (fun q7 H hP hD hS => ?_)
  have hP : va_P g.1 vwCl [(h0, .inr (1, [.null, .null, .null, .int 0])), (q7, zy_i g 9)] H := hP
  have hD : va_D A [(h0, .inr (1, [.null, .null, .null, .int 0])), (q7, zy_i g 9)] := hD
  refine va_putF (D := g.1) (ci := 1) (v := .ref q7) (ty := (.array .int)) (C := RX1) (T := TX1) (N := 4) hx hb hts zq_uw1 tyX1 tyX1_ok nmX1 hown hK hP hD hS 0 rfl rfl 0 (by decide) (hts _ zu_200) (fun _ h9 => h9) rfl hin rfl (by decide +kernel) rfl rfl (Nat.le_of_ble_eq_true rfl) dX1_init_9 (fun H locs hP hD hS => ?_)
  have hP : va_P g.1 vwCl [(h0, .inr (1, [.ref q7, .null, .null, .int 0])), (q7, zy_i g 9)] H := hP
  have hD : va_D A [(h0, .inr (1, [.ref q7, .null, .null, .int 0])), (q7, zy_i g 9)] := hD
  refine lv_aload_n hx hb dX1_init_12 rfl (lv_at hl 0 rfl) ?_
  refine lv_bipush (v := 9) hx hb dX1_init_13 (by decide) ?_
  refine zy_newi (N := 9) hx hb (hts _ zu_165) hK hP hD hS hA (by decide) (by decide +kernel) (by decide +kernel) (Nat.le_of_ble_eq_true rfl) (Nat.le_of_ble_eq_true rfl) dX1_init_15 (fun q15 H hP hD hS => ?_)
  have hP : va_P g.1 vwCl [(h0, .inr (1, [.ref q7, .null, .null, .int 0])), (q7, zy_i g 9), (q15, zy_i g 9)] H := hP
  have hD : va_D A [(h0, .inr (1, [.ref q7, .null, .null, .int 0])), (q7, zy_i g 9), (q15, zy_i g 9)] := hD
  refine va_putF (D := g.1) (ci := 1) (v := .ref q15) (ty := (.array .int)) (C := RX1) (T := TX1) (N := 4) hx hb hts zq_uw1 tyX1 tyX1_ok nmX1 hown hK hP hD hS 0 rfl rfl 1 (by decide) (hts _ zu_202) (fun _ h9 => h9) rfl hin rfl (by decide +kernel) rfl rfl (Nat.le_of_ble_eq_true rfl) dX1_init_17 (fun H locs hP hD hS => ?_)
  have hP : va_P g.1 vwCl [(h0, .inr (1, [.ref q7, .ref q15, .null, .int 0])), (q7, zy_i g 9), (q15, zy_i g 9)] H := hP
  have hD : va_D A [(h0, .inr (1, [.ref q7, .ref q15, .null, .int 0])), (q7, zy_i g 9), (q15, zy_i g 9)] := hD
  refine lv_aload_n hx hb dX1_init_20 rfl (lv_at hl 0 rfl) ?_
  refine lv_bipush (v := 9) hx hb dX1_init_21 (by decide) ?_
  refine zy_newi (N := 9) hx hb (hts _ zu_165) hK hP hD hS hA (by decide) (by decide +kernel) (by decide +kernel) (Nat.le_of_ble_eq_true rfl) (Nat.le_of_ble_eq_true rfl) dX1_init_23 (fun q23 H hP hD hS => ?_)
  have hP : va_P g.1 vwCl [(h0, .inr (1, [.ref q7, .ref q15, .null, .int 0])), (q7, zy_i g 9), (q15, zy_i g 9), (q23, zy_i g 9)] H := hP
  have hD : va_D A [(h0, .inr (1, [.ref q7, .ref q15, .null, .int 0])), (q7, zy_i g 9), (q15, zy_i g 9), (q23, zy_i g 9)] := hD
  refine va_putF (D := g.1) (ci := 1) (v := .ref q23) (ty := (.array .int)) (C := RX1) (T := TX1) (N := 4) hx hb hts zq_uw1 tyX1 tyX1_ok nmX1 hown hK hP hD hS 0 rfl rfl 2 (by decide) (hts _ zu_204) (fun _ h9 => h9) rfl hin rfl (by decide +kernel) rfl rfl (Nat.le_of_ble_eq_true rfl) dX1_init_25 (fun H locs hP hD hS => ?_)
  have hP : va_P g.1 vwCl [(h0, .inr (1, [.ref q7, .ref q15, .ref q23, .int 0])), (q7, zy_i g 9), (q15, zy_i g 9), (q23, zy_i g 9)] H := hP
  have hD : va_D A [(h0, .inr (1, [.ref q7, .ref q15, .ref q23, .int 0])), (q7, zy_i g 9), (q15, zy_i g 9), (q23, zy_i g 9)] := hD
  refine W.widen (k := 3) (n := 27) (Nat.le_of_ble_eq_true rfl) (Nat.le_of_ble_eq_true rfl) ?_
  exact zy_ret (u := fun k => [q7, q15, q23].getD k 0) hx hb hr hlocks hP hD hS dX1_init_28

theorem dX2_init_0 : decode cX2_init 0 = .ok (.aload_n 0, 1) := by decide +kernel
theorem dX2_init_1 : decode cX2_init 1 = .ok (.invokespecial 1, 3) := by decide +kernel
theorem dX2_init_4 : decode cX2_init 4 = .ok (.return_, 1) := by decide +kernel
set_option maxRecDepth 100000 in
set_option maxHeartbeats 4000000 in
theorem zy_X2_init (l : Launch) (g : zq_G) (h0 : Nat) (sz : Nat) : zy_Mt g l yX2_init cX2_init 1 { frames := 1, cells := 0, slots := 0, locals := 12 } [.ref h0] [(h0, .inr (2, [.int 0]))] sz (fun (u : Nat → Nat) => [(h0, .inr (2, [.int 0]))]) 0 0 := by
  refine zy_of (by decide) (Nat.le_of_ble_eq_true rfl) (fun hx hb hr hml hown hts hin0 hK hN hlocks A hA hP hD ls hl hS => ?_)
  have hin : _ = "<init>" := hin0
  have hl : lv_has ls 1 [(0, .ref h0)] := hl
  refine lv_aload_n hx hb dX2_init_0 rfl (lv_at hl 0 rfl) ?_
  refine W.objInit hx hb hown (hts _ zu_223) (hts _ zu_100) (hts _ zu_101) rfl (by rw [hml]; exact hl.1) rfl dX2_init_1 (Nat.le_of_ble_eq_true rfl) (Nat.le_of_ble_eq_true rfl) ?_
  refine W.eq (g2 := F0 _ 4 ls []) rfl ?_
  refine W.widen (k := 0) (n := 0) (Nat.le_of_ble_eq_true rfl) (Nat.le_of_ble_eq_true rfl) ?_
  exact zy_ret (u := fun k => [].getD k 0) hx hb hr hlocks hP hD hS dX2_init_4

theorem dX5_init_0 : decode cX5_init 0 = .ok (.aload_n 0, 1) := by decide +kernel
theorem dX5_init_1 : decode cX5_init 1 = .ok (.invokespecial 3, 3) := by decide +kernel
theorem dX5_init_4 : decode cX5_init 4 = .ok (.aload_n 0, 1) := by decide +kernel
theorem dX5_init_5 : decode cX5_init 5 = .ok (.bipush 8, 2) := by decide +kernel
theorem dX5_init_7 : decode cX5_init 7 = .ok (.newarray .int, 2) := by decide +kernel
theorem dX5_init_9 : decode cX5_init 9 = .ok (.putfield 9, 3) := by decide +kernel
theorem dX5_init_12 : decode cX5_init 12 = .ok (.aload_n 0, 1) := by decide +kernel
theorem dX5_init_13 : decode cX5_init 13 = .ok (.bipush 8, 2) := by decide +kernel
theorem dX5_init_15 : decode cX5_init 15 = .ok (.newarray .int, 2) := by decide +kernel
theorem dX5_init_17 : decode cX5_init 17 = .ok (.putfield 15, 3) := by decide +kernel
theorem dX5_init_20 : decode cX5_init 20 = .ok (.aload_n 0, 1) := by decide +kernel
theorem dX5_init_21 : decode cX5_init 21 = .ok (.bipush 8, 2) := by decide +kernel
theorem dX5_init_23 : decode cX5_init 23 = .ok (.newarray .int, 2) := by decide +kernel
theorem dX5_init_25 : decode cX5_init 25 = .ok (.putfield 18, 3) := by decide +kernel
theorem dX5_init_28 : decode cX5_init 28 = .ok (.return_, 1) := by decide +kernel
set_option maxRecDepth 100000 in
set_option maxHeartbeats 4000000 in
theorem zy_X5_init (l : Launch) (g : zq_G) (h0 : Nat) (sz : Nat) : zy_Mt g l yX5_init cX5_init 1 { frames := 1, cells := 3, slots := 24, locals := 12 } [.ref h0] [(h0, .inr (5, [.null, .null, .null, .int 0]))] sz (fun (u : Nat → Nat) => [(h0, .inr (5, [.ref (u 0), .ref (u 1), .ref (u 2), .int 0])), ((u 0), zy_i g 8), ((u 1), zy_i g 8), ((u 2), zy_i g 8)]) 3 24 := by
  refine zy_of (by decide) (Nat.le_of_ble_eq_true rfl) (fun hx hb hr hml hown hts hin0 hK hN hlocks A hA hP hD ls hl hS => ?_)
  have hin : _ = "<init>" := hin0
  have hl : lv_has ls 1 [(0, .ref h0)] := hl
  refine lv_aload_n hx hb dX5_init_0 rfl (lv_at hl 0 rfl) ?_
  refine W.objInit hx hb hown (hts _ zu_234) (hts _ zu_100) (hts _ zu_101) rfl (by rw [hml]; exact hl.1) rfl dX5_init_1 (Nat.le_of_ble_eq_true rfl) (Nat.le_of_ble_eq_true rfl) ?_
  refine W.eq (g2 := F0 _ 4 ls []) rfl ?_
  refine lv_aload_n hx hb dX5_init_4 rfl (lv_at hl 0 rfl) ?_
  refine lv_bipush (v := 8) hx hb dX5_init_5 (by decide) ?_
  refine zy_newi (N := 8) hx hb (hts _ zu_165) hK hP hD hS hA (by decide) (by decide +kernel) (by decide +kernel) (Nat.le_of_ble_eq_true rfl) (Nat.le_of_ble_eq_true rfl) dX5_init_7 (fun q7 H hP hD hS => ?_)
  have hP : va_P g.1 vwCl [(h0, .inr (5, [.null, .null, .null, .int 0])), (q7, zy_i g 8)] H := hP
  have hD : va_D A [(h0, .inr (5, [.null, .null, .null, .int 0])), (q7, zy_i g 8)] := hD
  refine va_putF (D := g.1) (ci := 5) (v := .ref q7) (ty := (.array .int)) (C := RX5) (T := TX5) (N := 4) hx hb hts zq_uw5 tyX5 tyX5_ok nmX5 hown hK hP hD hS 0 rfl rfl 0 (by decide) (hts _ zu_235) (fun _ h9 => h9) rfl hin rfl (by decide +kernel) rfl rfl (Nat.le_of_ble_eq_true rfl) dX5_init_9 (fun H locs hP hD hS => ?_)
  have hP : va_P g.1 vwCl [(h0, .inr (5, [.ref q7, .null, .null, .int 0])), (q7, zy_i g 8)] H := hP
  have hD : va_D A [(h0, .inr (5, [.ref q7, .null, .null, .int 0])), (q7, zy_i g 8)] := hD
  refine lv_aload_n hx hb dX5_init_12 rfl (lv_at hl 0 rfl) ?_
  refine lv_bipush (v := 8) hx hb dX5_init_13 (by decide) ?_
  refine zy_newi (N := 8) hx hb (hts _ zu_165) hK hP hD hS hA (by decide) (by decide +kernel) (by decide +kernel) (Nat.le_of_ble_eq_true rfl) (Nat.le_of_ble_eq_true rfl) dX5_init_15 (fun q15 H hP hD hS => ?_)
  have hP : va_P g.1 vwCl [(h0, .inr (5, [.ref q7, .null, .null, .int 0])), (q7, zy_i g 8), (q15, zy_i g 8)] H := hP
  have hD : va_D A [(h0, .inr (5, [.ref q7, .null, .null, .int 0])), (q7, zy_i g 8), (q15, zy_i g 8)] := hD
  refine va_putF (D := g.1) (ci := 5) (v := .ref q15) (ty := (.array .int)) (C := RX5) (T := TX5) (N := 4) hx hb hts zq_uw5 tyX5 tyX5_ok nmX5 hown hK hP hD hS 0 rfl rfl 1 (by decide) (hts _ zu_236) (fun _ h9 => h9) rfl hin rfl (by decide +kernel) rfl rfl (Nat.le_of_ble_eq_true rfl) dX5_init_17 (fun H locs hP hD hS => ?_)
  have hP : va_P g.1 vwCl [(h0, .inr (5, [.ref q7, .ref q15, .null, .int 0])), (q7, zy_i g 8), (q15, zy_i g 8)] H := hP
  have hD : va_D A [(h0, .inr (5, [.ref q7, .ref q15, .null, .int 0])), (q7, zy_i g 8), (q15, zy_i g 8)] := hD
  refine lv_aload_n hx hb dX5_init_20 rfl (lv_at hl 0 rfl) ?_
  refine lv_bipush (v := 8) hx hb dX5_init_21 (by decide) ?_
  refine zy_newi (N := 8) hx hb (hts _ zu_165) hK hP hD hS hA (by decide) (by decide +kernel) (by decide +kernel) (Nat.le_of_ble_eq_true rfl) (Nat.le_of_ble_eq_true rfl) dX5_init_23 (fun q23 H hP hD hS => ?_)
  have hP : va_P g.1 vwCl [(h0, .inr (5, [.ref q7, .ref q15, .null, .int 0])), (q7, zy_i g 8), (q15, zy_i g 8), (q23, zy_i g 8)] H := hP
  have hD : va_D A [(h0, .inr (5, [.ref q7, .ref q15, .null, .int 0])), (q7, zy_i g 8), (q15, zy_i g 8), (q23, zy_i g 8)] := hD
  refine va_putF (D := g.1) (ci := 5) (v := .ref q23) (ty := (.array .int)) (C := RX5) (T := TX5) (N := 4) hx hb hts zq_uw5 tyX5 tyX5_ok nmX5 hown hK hP hD hS 0 rfl rfl 2 (by decide) (hts _ zu_237) (fun _ h9 => h9) rfl hin rfl (by decide +kernel) rfl rfl (Nat.le_of_ble_eq_true rfl) dX5_init_25 (fun H locs hP hD hS => ?_)
  have hP : va_P g.1 vwCl [(h0, .inr (5, [.ref q7, .ref q15, .ref q23, .int 0])), (q7, zy_i g 8), (q15, zy_i g 8), (q23, zy_i g 8)] H := hP
  have hD : va_D A [(h0, .inr (5, [.ref q7, .ref q15, .ref q23, .int 0])), (q7, zy_i g 8), (q15, zy_i g 8), (q23, zy_i g 8)] := hD
  refine W.widen (k := 3) (n := 24) (Nat.le_of_ble_eq_true rfl) (Nat.le_of_ble_eq_true rfl) ?_
  exact zy_ret (u := fun k => [q7, q15, q23].getD k 0) hx hb hr hlocks hP hD hS dX5_init_28

theorem dX4_init_0 : decode cX4_init 0 = .ok (.aload_n 0, 1) := by decide +kernel
theorem dX4_init_1 : decode cX4_init 1 = .ok (.invokespecial 3, 3) := by decide +kernel
theorem dX4_init_4 : decode cX4_init 4 = .ok (.aload_n 0, 1) := by decide +kernel
theorem dX4_init_5 : decode cX4_init 5 = .ok (.bipush 60, 2) := by decide +kernel
theorem dX4_init_7 : decode cX4_init 7 = .ok (.newarray .int, 2) := by decide +kernel
theorem dX4_init_9 : decode cX4_init 9 = .ok (.putfield 9, 3) := by decide +kernel
theorem dX4_init_12 : decode cX4_init 12 = .ok (.aload_n 0, 1) := by decide +kernel
theorem dX4_init_13 : decode cX4_init 13 = .ok (.iconst 0, 1) := by decide +kernel
theorem dX4_init_14 : decode cX4_init 14 = .ok (.putfield 15, 3) := by decide +kernel
theorem dX4_init_17 : decode cX4_init 17 = .ok (.aload_n 0, 1) := by decide +kernel
theorem dX4_init_18 : decode cX4_init 18 = .ok (.iconst (-1), 1) := by decide +kernel
theorem dX4_init_19 : decode cX4_init 19 = .ok (.putfield 19, 3) := by decide +kernel
theorem dX4_init_22 : decode cX4_init 22 = .ok (.return_, 1) := by decide +kernel
set_option maxRecDepth 100000 in
set_option maxHeartbeats 4000000 in
theorem zy_X4_init (l : Launch) (g : zq_G) (h0 : Nat) (sz : Nat) : zy_Mt g l yX4_init cX4_init 1 { frames := 1, cells := 1, slots := 60, locals := 12 } [.ref h0] [(h0, .inr (4, [.null, .int 0, .int 0]))] sz (fun (u : Nat → Nat) => [(h0, .inr (4, [.ref (u 0), .int 0, .int (-1)])), ((u 0), zy_i g 60)]) 1 60 := by
  refine zy_of (by decide) (Nat.le_of_ble_eq_true rfl) (fun hx hb hr hml hown hts hin0 hK hN hlocks A hA hP hD ls hl hS => ?_)
  have hin : _ = "<init>" := hin0
  have hl : lv_has ls 1 [(0, .ref h0)] := hl
  refine lv_aload_n hx hb dX4_init_0 rfl (lv_at hl 0 rfl) ?_
  refine W.objInit hx hb hown (hts _ zu_255) (hts _ zu_100) (hts _ zu_101) rfl (by rw [hml]; exact hl.1) rfl dX4_init_1 (Nat.le_of_ble_eq_true rfl) (Nat.le_of_ble_eq_true rfl) ?_
  refine W.eq (g2 := F0 _ 4 ls []) rfl ?_
  refine lv_aload_n hx hb dX4_init_4 rfl (lv_at hl 0 rfl) ?_
  refine lv_bipush (v := 60) hx hb dX4_init_5 (by decide) ?_
  refine zy_newi (N := 60) hx hb (hts _ zu_165) hK hP hD hS hA (by decide) (by decide +kernel) (by decide +kernel) (Nat.le_of_ble_eq_true rfl) (Nat.le_of_ble_eq_true rfl) dX4_init_7 (fun q7 H hP hD hS => ?_)
  have hP : va_P g.1 vwCl [(h0, .inr (4, [.null, .int 0, .int 0])), (q7, zy_i g 60)] H := hP
  have hD : va_D A [(h0, .inr (4, [.null, .int 0, .int 0])), (q7, zy_i g 60)] := hD
  refine va_putF (D := g.1) (ci := 4) (v := .ref q7) (ty := (.array .int)) (C := RX4) (T := TX4) (N := 3) hx hb hts zq_uw4 tyX4 tyX4_ok nmX4 hown hK hP hD hS 0 rfl rfl 0 (by decide) (hts _ zu_256) (fun _ h9 => h9) rfl hin rfl (by decide +kernel) rfl rfl (Nat.le_of_ble_eq_true rfl) dX4_init_9 (fun H locs hP hD hS => ?_)
  have hP : va_P g.1 vwCl [(h0, .inr (4, [.ref q7, .int 0, .int 0])), (q7, zy_i g 60)] H := hP
  have hD : va_D A [(h0, .inr (4, [.ref q7, .int 0, .int 0])), (q7, zy_i g 60)] := hD
  refine lv_aload_n hx hb dX4_init_12 rfl (lv_at hl 0 rfl) ?_
  refine lv_iconst (v := 0) hx hb dX4_init_13 (by decide) ?_
  refine va_put (D := g.1) (ci := 4) (v := .int 0) (ty := .int) (C := RX4) (T := TX4) (N := 3) hx hb hts zq_uw4 tyX4 tyX4_ok nmX4 hown hK hP hD hS 0 rfl rfl 1 (by decide) (hts _ zu_258) (fun _ h9 => h9) rfl (by decide +kernel) rfl rfl (Nat.le_of_ble_eq_true rfl) dX4_init_14 (fun H locs hP hD hS => ?_)
  have hP : va_P g.1 vwCl [(h0, .inr (4, [.ref q7, .int 0, .int 0])), (q7, zy_i g 60)] H := hP
  have hD : va_D A [(h0, .inr (4, [.ref q7, .int 0, .int 0])), (q7, zy_i g 60)] := hD
  refine lv_aload_n hx hb dX4_init_17 rfl (lv_at hl 0 rfl) ?_
  refine lv_iconst (v := (-1)) hx hb dX4_init_18 (by decide) ?_
  refine va_put (D := g.1) (ci := 4) (v := .int (-1)) (ty := .int) (C := RX4) (T := TX4) (N := 3) hx hb hts zq_uw4 tyX4 tyX4_ok nmX4 hown hK hP hD hS 0 rfl rfl 2 (by decide) (hts _ zu_260) (fun _ h9 => h9) rfl (by decide +kernel) rfl rfl (Nat.le_of_ble_eq_true rfl) dX4_init_19 (fun H locs hP hD hS => ?_)
  have hP : va_P g.1 vwCl [(h0, .inr (4, [.ref q7, .int 0, .int (-1)])), (q7, zy_i g 60)] H := hP
  have hD : va_D A [(h0, .inr (4, [.ref q7, .int 0, .int (-1)])), (q7, zy_i g 60)] := hD
  refine W.widen (k := 1) (n := 60) (Nat.le_of_ble_eq_true rfl) (Nat.le_of_ble_eq_true rfl) ?_
  exact zy_ret (u := fun k => [q7].getD k 0) hx hb hr hlocks hP hD hS dX4_init_22

theorem dX7_init_0 : decode cX7_init 0 = .ok (.aload_n 0, 1) := by decide +kernel
theorem dX7_init_1 : decode cX7_init 1 = .ok (.invokespecial 3, 3) := by decide +kernel
theorem dX7_init_4 : decode cX7_init 4 = .ok (.aload_n 0, 1) := by decide +kernel
theorem dX7_init_5 : decode cX7_init 5 = .ok (.sipush 192, 3) := by decide +kernel
theorem dX7_init_8 : decode cX7_init 8 = .ok (.newarray .int, 2) := by decide +kernel
theorem dX7_init_10 : decode cX7_init 10 = .ok (.putfield 9, 3) := by decide +kernel
theorem dX7_init_13 : decode cX7_init 13 = .ok (.aload_n 0, 1) := by decide +kernel
theorem dX7_init_14 : decode cX7_init 14 = .ok (.bipush 24, 2) := by decide +kernel
theorem dX7_init_16 : decode cX7_init 16 = .ok (.newarray .int, 2) := by decide +kernel
theorem dX7_init_18 : decode cX7_init 18 = .ok (.putfield 15, 3) := by decide +kernel
theorem dX7_init_21 : decode cX7_init 21 = .ok (.aload_n 0, 1) := by decide +kernel
theorem dX7_init_22 : decode cX7_init 22 = .ok (.bipush 24, 2) := by decide +kernel
theorem dX7_init_24 : decode cX7_init 24 = .ok (.newarray .int, 2) := by decide +kernel
theorem dX7_init_26 : decode cX7_init 26 = .ok (.putfield 18, 3) := by decide +kernel
theorem dX7_init_29 : decode cX7_init 29 = .ok (.aload_n 0, 1) := by decide +kernel
theorem dX7_init_30 : decode cX7_init 30 = .ok (.bipush 24, 2) := by decide +kernel
theorem dX7_init_32 : decode cX7_init 32 = .ok (.newarray .int, 2) := by decide +kernel
theorem dX7_init_34 : decode cX7_init 34 = .ok (.putfield 21, 3) := by decide +kernel
theorem dX7_init_37 : decode cX7_init 37 = .ok (.aload_n 0, 1) := by decide +kernel
theorem dX7_init_38 : decode cX7_init 38 = .ok (.sipush 576, 3) := by decide +kernel
theorem dX7_init_41 : decode cX7_init 41 = .ok (.newarray .int, 2) := by decide +kernel
theorem dX7_init_43 : decode cX7_init 43 = .ok (.putfield 24, 3) := by decide +kernel
theorem dX7_init_46 : decode cX7_init 46 = .ok (.aload_n 0, 1) := by decide +kernel
theorem dX7_init_47 : decode cX7_init 47 = .ok (.bipush 9, 2) := by decide +kernel
theorem dX7_init_49 : decode cX7_init 49 = .ok (.newarray .int, 2) := by decide +kernel
theorem dX7_init_51 : decode cX7_init 51 = .ok (.putfield 27, 3) := by decide +kernel
theorem dX7_init_54 : decode cX7_init 54 = .ok (.aload_n 0, 1) := by decide +kernel
theorem dX7_init_55 : decode cX7_init 55 = .ok (.aload_n 1, 1) := by decide +kernel
theorem dX7_init_56 : decode cX7_init 56 = .ok (.putfield 30, 3) := by decide +kernel
theorem dX7_init_59 : decode cX7_init 59 = .ok (.aload_n 0, 1) := by decide +kernel
theorem dX7_init_60 : decode cX7_init 60 = .ok (.aload_n 2, 1) := by decide +kernel
theorem dX7_init_61 : decode cX7_init 61 = .ok (.putfield 34, 3) := by decide +kernel
theorem dX7_init_64 : decode cX7_init 64 = .ok (.aload_n 0, 1) := by decide +kernel
theorem dX7_init_65 : decode cX7_init 65 = .ok (.aload_n 3, 1) := by decide +kernel
theorem dX7_init_66 : decode cX7_init 66 = .ok (.putfield 38, 3) := by decide +kernel
theorem dX7_init_69 : decode cX7_init 69 = .ok (.aload_n 0, 1) := by decide +kernel
theorem dX7_init_70 : decode cX7_init 70 = .ok (.iconst (-1), 1) := by decide +kernel
theorem dX7_init_71 : decode cX7_init 71 = .ok (.putfield 42, 3) := by decide +kernel
theorem dX7_init_74 : decode cX7_init 74 = .ok (.aload_n 0, 1) := by decide +kernel
theorem dX7_init_75 : decode cX7_init 75 = .ok (.iconst (-1), 1) := by decide +kernel
theorem dX7_init_76 : decode cX7_init 76 = .ok (.putfield 46, 3) := by decide +kernel
theorem dX7_init_79 : decode cX7_init 79 = .ok (.aload_n 0, 1) := by decide +kernel
theorem dX7_init_80 : decode cX7_init 80 = .ok (.iconst (-1), 1) := by decide +kernel
theorem dX7_init_81 : decode cX7_init 81 = .ok (.putfield 49, 3) := by decide +kernel
theorem dX7_init_84 : decode cX7_init 84 = .ok (.aload_n 0, 1) := by decide +kernel
theorem dX7_init_85 : decode cX7_init 85 = .ok (.getfield 27, 3) := by decide +kernel
theorem dX7_init_88 : decode cX7_init 88 = .ok (.iconst (-1), 1) := by decide +kernel
theorem dX7_init_89 : decode cX7_init 89 = .ok (.invokestatic 52, 3) := by decide +kernel
theorem dX7_init_92 : decode cX7_init 92 = .ok (.return_, 1) := by decide +kernel
set_option maxRecDepth 100000 in
set_option maxHeartbeats 4000000 in
theorem zy_X7_init (l : Launch) (g : zq_G) (h0 : Nat) (d0 : Nat) (p0 : Nat) (e0 : Nat) (sz : Nat) : zy_Mt g l yX7_init cX7_init 4 { frames := 1, cells := 6, slots := 849, locals := 23 } [.ref h0, .ref d0, .ref p0, .ref e0] [(h0, .inr (6, [.null, .null, .null, .null, .null, .null, .null, .null, .null, .int 0, .int 0, .int 0, .int 0, .int 0]))] sz (fun (u : Nat → Nat) => [(h0, .inr (6, [.ref d0, .ref p0, .ref (u 0), .ref (u 1), .ref (u 2), .ref (u 3), .ref (u 4), .ref (u 5), .ref e0, .int 0, .int 0, .int (-1), .int (-1), .int (-1)])), ((u 0), zy_i g 192), ((u 1), zy_i g 24), ((u 2), zy_i g 24), ((u 3), zy_i g 24), ((u 4), zy_i g 576), ((u 5), zy_m g 9)]) 6 849 := by
  refine zy_of (by decide) (Nat.le_of_ble_eq_true rfl) (fun hx hb hr hml hown hts hin0 hK hN hlocks A hA hP hD ls hl hS => ?_)
  have hin : _ = "<init>" := hin0
  have hl : lv_has ls 4 [(0, .ref h0), (1, .ref d0), (2, .ref p0), (3, .ref e0)] := hl
  refine lv_aload_n hx hb dX7_init_0 rfl (lv_at hl 0 rfl) ?_
  refine W.objInit hx hb hown (hts _ zu_274) (hts _ zu_100) (hts _ zu_101) rfl (by rw [hml]; exact hl.1) rfl dX7_init_1 (Nat.le_of_ble_eq_true rfl) (Nat.le_of_ble_eq_true rfl) ?_
  refine W.eq (g2 := F0 _ 4 ls []) rfl ?_
  refine lv_aload_n hx hb dX7_init_4 rfl (lv_at hl 0 rfl) ?_
  refine lv_sipush (v := 192) hx hb dX7_init_5 (by decide) ?_
  refine zy_newi (N := 192) hx hb (hts _ zu_165) hK hP hD hS hA (by decide) (by decide +kernel) (by decide +kernel) (Nat.le_of_ble_eq_true rfl) (Nat.le_of_ble_eq_true rfl) dX7_init_8 (fun q8 H hP hD hS => ?_)
  have hP : va_P g.1 vwCl [(h0, .inr (6, [.null, .null, .null, .null, .null, .null, .null, .null, .null, .int 0, .int 0, .int 0, .int 0, .int 0])), (q8, zy_i g 192)] H := hP
  have hD : va_D A [(h0, .inr (6, [.null, .null, .null, .null, .null, .null, .null, .null, .null, .int 0, .int 0, .int 0, .int 0, .int 0])), (q8, zy_i g 192)] := hD
  refine va_putF (D := g.1) (ci := 6) (v := .ref q8) (ty := (.array .int)) (C := RX7) (T := TX7) (N := 14) hx hb hts zq_uw7 tyX7 tyX7_ok nmX7 hown hK hP hD hS 0 rfl rfl 2 (by decide) (hts _ zu_281) (fun _ h9 => h9) rfl hin rfl (by decide +kernel) rfl rfl (Nat.le_of_ble_eq_true rfl) dX7_init_10 (fun H locs hP hD hS => ?_)
  have hP : va_P g.1 vwCl [(h0, .inr (6, [.null, .null, .ref q8, .null, .null, .null, .null, .null, .null, .int 0, .int 0, .int 0, .int 0, .int 0])), (q8, zy_i g 192)] H := hP
  have hD : va_D A [(h0, .inr (6, [.null, .null, .ref q8, .null, .null, .null, .null, .null, .null, .int 0, .int 0, .int 0, .int 0, .int 0])), (q8, zy_i g 192)] := hD
  refine lv_aload_n hx hb dX7_init_13 rfl (lv_at hl 0 rfl) ?_
  refine lv_bipush (v := 24) hx hb dX7_init_14 (by decide) ?_
  refine zy_newi (N := 24) hx hb (hts _ zu_165) hK hP hD hS hA (by decide) (by decide +kernel) (by decide +kernel) (Nat.le_of_ble_eq_true rfl) (Nat.le_of_ble_eq_true rfl) dX7_init_16 (fun q16 H hP hD hS => ?_)
  have hP : va_P g.1 vwCl [(h0, .inr (6, [.null, .null, .ref q8, .null, .null, .null, .null, .null, .null, .int 0, .int 0, .int 0, .int 0, .int 0])), (q8, zy_i g 192), (q16, zy_i g 24)] H := hP
  have hD : va_D A [(h0, .inr (6, [.null, .null, .ref q8, .null, .null, .null, .null, .null, .null, .int 0, .int 0, .int 0, .int 0, .int 0])), (q8, zy_i g 192), (q16, zy_i g 24)] := hD
  refine va_putF (D := g.1) (ci := 6) (v := .ref q16) (ty := (.array .int)) (C := RX7) (T := TX7) (N := 14) hx hb hts zq_uw7 tyX7 tyX7_ok nmX7 hown hK hP hD hS 0 rfl rfl 3 (by decide) (hts _ zu_282) (fun _ h9 => h9) rfl hin rfl (by decide +kernel) rfl rfl (Nat.le_of_ble_eq_true rfl) dX7_init_18 (fun H locs hP hD hS => ?_)
  have hP : va_P g.1 vwCl [(h0, .inr (6, [.null, .null, .ref q8, .ref q16, .null, .null, .null, .null, .null, .int 0, .int 0, .int 0, .int 0, .int 0])), (q8, zy_i g 192), (q16, zy_i g 24)] H := hP
  have hD : va_D A [(h0, .inr (6, [.null, .null, .ref q8, .ref q16, .null, .null, .null, .null, .null, .int 0, .int 0, .int 0, .int 0, .int 0])), (q8, zy_i g 192), (q16, zy_i g 24)] := hD
  refine lv_aload_n hx hb dX7_init_21 rfl (lv_at hl 0 rfl) ?_
  refine lv_bipush (v := 24) hx hb dX7_init_22 (by decide) ?_
  refine zy_newi (N := 24) hx hb (hts _ zu_165) hK hP hD hS hA (by decide) (by decide +kernel) (by decide +kernel) (Nat.le_of_ble_eq_true rfl) (Nat.le_of_ble_eq_true rfl) dX7_init_24 (fun q24 H hP hD hS => ?_)
  have hP : va_P g.1 vwCl [(h0, .inr (6, [.null, .null, .ref q8, .ref q16, .null, .null, .null, .null, .null, .int 0, .int 0, .int 0, .int 0, .int 0])), (q8, zy_i g 192), (q16, zy_i g 24), (q24, zy_i g 24)] H := hP
  have hD : va_D A [(h0, .inr (6, [.null, .null, .ref q8, .ref q16, .null, .null, .null, .null, .null, .int 0, .int 0, .int 0, .int 0, .int 0])), (q8, zy_i g 192), (q16, zy_i g 24), (q24, zy_i g 24)] := hD
  refine va_putF (D := g.1) (ci := 6) (v := .ref q24) (ty := (.array .int)) (C := RX7) (T := TX7) (N := 14) hx hb hts zq_uw7 tyX7 tyX7_ok nmX7 hown hK hP hD hS 0 rfl rfl 4 (by decide) (hts _ zu_283) (fun _ h9 => h9) rfl hin rfl (by decide +kernel) rfl rfl (Nat.le_of_ble_eq_true rfl) dX7_init_26 (fun H locs hP hD hS => ?_)
  have hP : va_P g.1 vwCl [(h0, .inr (6, [.null, .null, .ref q8, .ref q16, .ref q24, .null, .null, .null, .null, .int 0, .int 0, .int 0, .int 0, .int 0])), (q8, zy_i g 192), (q16, zy_i g 24), (q24, zy_i g 24)] H := hP
  have hD : va_D A [(h0, .inr (6, [.null, .null, .ref q8, .ref q16, .ref q24, .null, .null, .null, .null, .int 0, .int 0, .int 0, .int 0, .int 0])), (q8, zy_i g 192), (q16, zy_i g 24), (q24, zy_i g 24)] := hD
  refine lv_aload_n hx hb dX7_init_29 rfl (lv_at hl 0 rfl) ?_
  refine lv_bipush (v := 24) hx hb dX7_init_30 (by decide) ?_
  refine zy_newi (N := 24) hx hb (hts _ zu_165) hK hP hD hS hA (by decide) (by decide +kernel) (by decide +kernel) (Nat.le_of_ble_eq_true rfl) (Nat.le_of_ble_eq_true rfl) dX7_init_32 (fun q32 H hP hD hS => ?_)
  have hP : va_P g.1 vwCl [(h0, .inr (6, [.null, .null, .ref q8, .ref q16, .ref q24, .null, .null, .null, .null, .int 0, .int 0, .int 0, .int 0, .int 0])), (q8, zy_i g 192), (q16, zy_i g 24), (q24, zy_i g 24), (q32, zy_i g 24)] H := hP
  have hD : va_D A [(h0, .inr (6, [.null, .null, .ref q8, .ref q16, .ref q24, .null, .null, .null, .null, .int 0, .int 0, .int 0, .int 0, .int 0])), (q8, zy_i g 192), (q16, zy_i g 24), (q24, zy_i g 24), (q32, zy_i g 24)] := hD
  refine va_putF (D := g.1) (ci := 6) (v := .ref q32) (ty := (.array .int)) (C := RX7) (T := TX7) (N := 14) hx hb hts zq_uw7 tyX7 tyX7_ok nmX7 hown hK hP hD hS 0 rfl rfl 5 (by decide) (hts _ zu_284) (fun _ h9 => h9) rfl hin rfl (by decide +kernel) rfl rfl (Nat.le_of_ble_eq_true rfl) dX7_init_34 (fun H locs hP hD hS => ?_)
  have hP : va_P g.1 vwCl [(h0, .inr (6, [.null, .null, .ref q8, .ref q16, .ref q24, .ref q32, .null, .null, .null, .int 0, .int 0, .int 0, .int 0, .int 0])), (q8, zy_i g 192), (q16, zy_i g 24), (q24, zy_i g 24), (q32, zy_i g 24)] H := hP
  have hD : va_D A [(h0, .inr (6, [.null, .null, .ref q8, .ref q16, .ref q24, .ref q32, .null, .null, .null, .int 0, .int 0, .int 0, .int 0, .int 0])), (q8, zy_i g 192), (q16, zy_i g 24), (q24, zy_i g 24), (q32, zy_i g 24)] := hD
  refine lv_aload_n hx hb dX7_init_37 rfl (lv_at hl 0 rfl) ?_
  refine lv_sipush (v := 576) hx hb dX7_init_38 (by decide) ?_
  refine zy_newi (N := 576) hx hb (hts _ zu_165) hK hP hD hS hA (by decide) (by decide +kernel) (by decide +kernel) (Nat.le_of_ble_eq_true rfl) (Nat.le_of_ble_eq_true rfl) dX7_init_41 (fun q41 H hP hD hS => ?_)
  have hP : va_P g.1 vwCl [(h0, .inr (6, [.null, .null, .ref q8, .ref q16, .ref q24, .ref q32, .null, .null, .null, .int 0, .int 0, .int 0, .int 0, .int 0])), (q8, zy_i g 192), (q16, zy_i g 24), (q24, zy_i g 24), (q32, zy_i g 24), (q41, zy_i g 576)] H := hP
  have hD : va_D A [(h0, .inr (6, [.null, .null, .ref q8, .ref q16, .ref q24, .ref q32, .null, .null, .null, .int 0, .int 0, .int 0, .int 0, .int 0])), (q8, zy_i g 192), (q16, zy_i g 24), (q24, zy_i g 24), (q32, zy_i g 24), (q41, zy_i g 576)] := hD
  refine va_putF (D := g.1) (ci := 6) (v := .ref q41) (ty := (.array .int)) (C := RX7) (T := TX7) (N := 14) hx hb hts zq_uw7 tyX7 tyX7_ok nmX7 hown hK hP hD hS 0 rfl rfl 6 (by decide) (hts _ zu_285) (fun _ h9 => h9) rfl hin rfl (by decide +kernel) rfl rfl (Nat.le_of_ble_eq_true rfl) dX7_init_43 (fun H locs hP hD hS => ?_)
  have hP : va_P g.1 vwCl [(h0, .inr (6, [.null, .null, .ref q8, .ref q16, .ref q24, .ref q32, .ref q41, .null, .null, .int 0, .int 0, .int 0, .int 0, .int 0])), (q8, zy_i g 192), (q16, zy_i g 24), (q24, zy_i g 24), (q32, zy_i g 24), (q41, zy_i g 576)] H := hP
  have hD : va_D A [(h0, .inr (6, [.null, .null, .ref q8, .ref q16, .ref q24, .ref q32, .ref q41, .null, .null, .int 0, .int 0, .int 0, .int 0, .int 0])), (q8, zy_i g 192), (q16, zy_i g 24), (q24, zy_i g 24), (q32, zy_i g 24), (q41, zy_i g 576)] := hD
  refine lv_aload_n hx hb dX7_init_46 rfl (lv_at hl 0 rfl) ?_
  refine lv_bipush (v := 9) hx hb dX7_init_47 (by decide) ?_
  refine zy_newi (N := 9) hx hb (hts _ zu_165) hK hP hD hS hA (by decide) (by decide +kernel) (by decide +kernel) (Nat.le_of_ble_eq_true rfl) (Nat.le_of_ble_eq_true rfl) dX7_init_49 (fun q49 H hP hD hS => ?_)
  have hP : va_P g.1 vwCl [(h0, .inr (6, [.null, .null, .ref q8, .ref q16, .ref q24, .ref q32, .ref q41, .null, .null, .int 0, .int 0, .int 0, .int 0, .int 0])), (q8, zy_i g 192), (q16, zy_i g 24), (q24, zy_i g 24), (q32, zy_i g 24), (q41, zy_i g 576), (q49, zy_i g 9)] H := hP
  have hD : va_D A [(h0, .inr (6, [.null, .null, .ref q8, .ref q16, .ref q24, .ref q32, .ref q41, .null, .null, .int 0, .int 0, .int 0, .int 0, .int 0])), (q8, zy_i g 192), (q16, zy_i g 24), (q24, zy_i g 24), (q32, zy_i g 24), (q41, zy_i g 576), (q49, zy_i g 9)] := hD
  refine va_putF (D := g.1) (ci := 6) (v := .ref q49) (ty := (.array .int)) (C := RX7) (T := TX7) (N := 14) hx hb hts zq_uw7 tyX7 tyX7_ok nmX7 hown hK hP hD hS 0 rfl rfl 7 (by decide) (hts _ zu_286) (fun _ h9 => h9) rfl hin rfl (by decide +kernel) rfl rfl (Nat.le_of_ble_eq_true rfl) dX7_init_51 (fun H locs hP hD hS => ?_)
  have hP : va_P g.1 vwCl [(h0, .inr (6, [.null, .null, .ref q8, .ref q16, .ref q24, .ref q32, .ref q41, .ref q49, .null, .int 0, .int 0, .int 0, .int 0, .int 0])), (q8, zy_i g 192), (q16, zy_i g 24), (q24, zy_i g 24), (q32, zy_i g 24), (q41, zy_i g 576), (q49, zy_i g 9)] H := hP
  have hD : va_D A [(h0, .inr (6, [.null, .null, .ref q8, .ref q16, .ref q24, .ref q32, .ref q41, .ref q49, .null, .int 0, .int 0, .int 0, .int 0, .int 0])), (q8, zy_i g 192), (q16, zy_i g 24), (q24, zy_i g 24), (q32, zy_i g 24), (q41, zy_i g 576), (q49, zy_i g 9)] := hD
  refine lv_aload_n hx hb dX7_init_54 rfl (lv_at hl 0 rfl) ?_
  refine lv_aload_n hx hb dX7_init_55 rfl (lv_at hl 1 rfl) ?_
  refine va_putF (D := g.1) (ci := 6) (v := .ref d0) (ty := (.object "DollsAhead$Doors")) (C := RX7) (T := TX7) (N := 14) hx hb hts zq_uw7 tyX7 tyX7_ok nmX7 hown hK hP hD hS 0 rfl rfl 0 (by decide) (hts _ zu_278) (fun _ h9 => h9) rfl hin rfl (by decide +kernel) rfl rfl (Nat.le_of_ble_eq_true rfl) dX7_init_56 (fun H locs hP hD hS => ?_)
  have hP : va_P g.1 vwCl [(h0, .inr (6, [.ref d0, .null, .ref q8, .ref q16, .ref q24, .ref q32, .ref q41, .ref q49, .null, .int 0, .int 0, .int 0, .int 0, .int 0])), (q8, zy_i g 192), (q16, zy_i g 24), (q24, zy_i g 24), (q32, zy_i g 24), (q41, zy_i g 576), (q49, zy_i g 9)] H := hP
  have hD : va_D A [(h0, .inr (6, [.ref d0, .null, .ref q8, .ref q16, .ref q24, .ref q32, .ref q41, .ref q49, .null, .int 0, .int 0, .int 0, .int 0, .int 0])), (q8, zy_i g 192), (q16, zy_i g 24), (q24, zy_i g 24), (q32, zy_i g 24), (q41, zy_i g 576), (q49, zy_i g 9)] := hD
  refine lv_aload_n hx hb dX7_init_59 rfl (lv_at hl 0 rfl) ?_
  refine lv_aload_n hx hb dX7_init_60 rfl (lv_at hl 2 rfl) ?_
  refine va_putF (D := g.1) (ci := 6) (v := .ref p0) (ty := (.object "DollsAhead$People")) (C := RX7) (T := TX7) (N := 14) hx hb hts zq_uw7 tyX7 tyX7_ok nmX7 hown hK hP hD hS 0 rfl rfl 1 (by decide) (hts _ zu_279) (fun _ h9 => h9) rfl hin rfl (by decide +kernel) rfl rfl (Nat.le_of_ble_eq_true rfl) dX7_init_61 (fun H locs hP hD hS => ?_)
  have hP : va_P g.1 vwCl [(h0, .inr (6, [.ref d0, .ref p0, .ref q8, .ref q16, .ref q24, .ref q32, .ref q41, .ref q49, .null, .int 0, .int 0, .int 0, .int 0, .int 0])), (q8, zy_i g 192), (q16, zy_i g 24), (q24, zy_i g 24), (q32, zy_i g 24), (q41, zy_i g 576), (q49, zy_i g 9)] H := hP
  have hD : va_D A [(h0, .inr (6, [.ref d0, .ref p0, .ref q8, .ref q16, .ref q24, .ref q32, .ref q41, .ref q49, .null, .int 0, .int 0, .int 0, .int 0, .int 0])), (q8, zy_i g 192), (q16, zy_i g 24), (q24, zy_i g 24), (q32, zy_i g 24), (q41, zy_i g 576), (q49, zy_i g 9)] := hD
  refine lv_aload_n hx hb dX7_init_64 rfl (lv_at hl 0 rfl) ?_
  refine lv_aload_n hx hb dX7_init_65 rfl (lv_at hl 3 rfl) ?_
  refine va_put (D := g.1) (ci := 6) (v := .ref e0) (ty := (.object "DollsAhead$Events")) (C := RX7) (T := TX7) (N := 14) hx hb hts zq_uw7 tyX7 tyX7_ok nmX7 hown hK hP hD hS 0 rfl rfl 8 (by decide) (hts _ zu_287) (fun _ h9 => h9) rfl (by decide +kernel) rfl rfl (Nat.le_of_ble_eq_true rfl) dX7_init_66 (fun H locs hP hD hS => ?_)
  have hP : va_P g.1 vwCl [(h0, .inr (6, [.ref d0, .ref p0, .ref q8, .ref q16, .ref q24, .ref q32, .ref q41, .ref q49, .ref e0, .int 0, .int 0, .int 0, .int 0, .int 0])), (q8, zy_i g 192), (q16, zy_i g 24), (q24, zy_i g 24), (q32, zy_i g 24), (q41, zy_i g 576), (q49, zy_i g 9)] H := hP
  have hD : va_D A [(h0, .inr (6, [.ref d0, .ref p0, .ref q8, .ref q16, .ref q24, .ref q32, .ref q41, .ref q49, .ref e0, .int 0, .int 0, .int 0, .int 0, .int 0])), (q8, zy_i g 192), (q16, zy_i g 24), (q24, zy_i g 24), (q32, zy_i g 24), (q41, zy_i g 576), (q49, zy_i g 9)] := hD
  refine lv_aload_n hx hb dX7_init_69 rfl (lv_at hl 0 rfl) ?_
  refine lv_iconst (v := (-1)) hx hb dX7_init_70 (by decide) ?_
  refine va_put (D := g.1) (ci := 6) (v := .int (-1)) (ty := .int) (C := RX7) (T := TX7) (N := 14) hx hb hts zq_uw7 tyX7 tyX7_ok nmX7 hown hK hP hD hS 0 rfl rfl 11 (by decide) (hts _ zu_290) (fun _ h9 => h9) rfl (by decide +kernel) rfl rfl (Nat.le_of_ble_eq_true rfl) dX7_init_71 (fun H locs hP hD hS => ?_)
  have hP : va_P g.1 vwCl [(h0, .inr (6, [.ref d0, .ref p0, .ref q8, .ref q16, .ref q24, .ref q32, .ref q41, .ref q49, .ref e0, .int 0, .int 0, .int (-1), .int 0, .int 0])), (q8, zy_i g 192), (q16, zy_i g 24), (q24, zy_i g 24), (q32, zy_i g 24), (q41, zy_i g 576), (q49, zy_i g 9)] H := hP
  have hD : va_D A [(h0, .inr (6, [.ref d0, .ref p0, .ref q8, .ref q16, .ref q24, .ref q32, .ref q41, .ref q49, .ref e0, .int 0, .int 0, .int (-1), .int 0, .int 0])), (q8, zy_i g 192), (q16, zy_i g 24), (q24, zy_i g 24), (q32, zy_i g 24), (q41, zy_i g 576), (q49, zy_i g 9)] := hD
  refine lv_aload_n hx hb dX7_init_74 rfl (lv_at hl 0 rfl) ?_
  refine lv_iconst (v := (-1)) hx hb dX7_init_75 (by decide) ?_
  refine va_put (D := g.1) (ci := 6) (v := .int (-1)) (ty := .int) (C := RX7) (T := TX7) (N := 14) hx hb hts zq_uw7 tyX7 tyX7_ok nmX7 hown hK hP hD hS 0 rfl rfl 12 (by decide) (hts _ zu_291) (fun _ h9 => h9) rfl (by decide +kernel) rfl rfl (Nat.le_of_ble_eq_true rfl) dX7_init_76 (fun H locs hP hD hS => ?_)
  have hP : va_P g.1 vwCl [(h0, .inr (6, [.ref d0, .ref p0, .ref q8, .ref q16, .ref q24, .ref q32, .ref q41, .ref q49, .ref e0, .int 0, .int 0, .int (-1), .int (-1), .int 0])), (q8, zy_i g 192), (q16, zy_i g 24), (q24, zy_i g 24), (q32, zy_i g 24), (q41, zy_i g 576), (q49, zy_i g 9)] H := hP
  have hD : va_D A [(h0, .inr (6, [.ref d0, .ref p0, .ref q8, .ref q16, .ref q24, .ref q32, .ref q41, .ref q49, .ref e0, .int 0, .int 0, .int (-1), .int (-1), .int 0])), (q8, zy_i g 192), (q16, zy_i g 24), (q24, zy_i g 24), (q32, zy_i g 24), (q41, zy_i g 576), (q49, zy_i g 9)] := hD
  refine lv_aload_n hx hb dX7_init_79 rfl (lv_at hl 0 rfl) ?_
  refine lv_iconst (v := (-1)) hx hb dX7_init_80 (by decide) ?_
  refine va_put (D := g.1) (ci := 6) (v := .int (-1)) (ty := .int) (C := RX7) (T := TX7) (N := 14) hx hb hts zq_uw7 tyX7 tyX7_ok nmX7 hown hK hP hD hS 0 rfl rfl 13 (by decide) (hts _ zu_292) (fun _ h9 => h9) rfl (by decide +kernel) rfl rfl (Nat.le_of_ble_eq_true rfl) dX7_init_81 (fun H locs hP hD hS => ?_)
  have hP : va_P g.1 vwCl [(h0, .inr (6, [.ref d0, .ref p0, .ref q8, .ref q16, .ref q24, .ref q32, .ref q41, .ref q49, .ref e0, .int 0, .int 0, .int (-1), .int (-1), .int (-1)])), (q8, zy_i g 192), (q16, zy_i g 24), (q24, zy_i g 24), (q32, zy_i g 24), (q41, zy_i g 576), (q49, zy_i g 9)] H := hP
  have hD : va_D A [(h0, .inr (6, [.ref d0, .ref p0, .ref q8, .ref q16, .ref q24, .ref q32, .ref q41, .ref q49, .ref e0, .int 0, .int 0, .int (-1), .int (-1), .int (-1)])), (q8, zy_i g 192), (q16, zy_i g 24), (q24, zy_i g 24), (q32, zy_i g 24), (q41, zy_i g 576), (q49, zy_i g 9)] := hD
  refine lv_aload_n hx hb dX7_init_84 rfl (lv_at hl 0 rfl) ?_
  refine va_get (D := g.1) (ci := 6) (v := .ref q49) (C := RX7) (T := TX7) (N := 14) hx hb hts zq_uw7 hown hK hP 0 rfl rfl 7 (by decide) (hts _ zu_286) (fun _ h9 => h9) rfl dX7_init_85 ?_
  refine lv_iconst (v := (-1)) hx hb dX7_init_88 (by decide) ?_
  refine zy_callS (As := [.ref q49, .int (-1)]) (rest := []) (n := 2) (wr := [(h0, .inr (6, [.ref d0, .ref p0, .ref q8, .ref q16, .ref q24, .ref q32, .ref q41, .ref q49, .ref e0, .int 0, .int 0, .int (-1), .int (-1), .int (-1)])), (q8, zy_i g 192), (q16, zy_i g 24), (q24, zy_i g 24), (q32, zy_i g 24), (q41, zy_i g 576)]) hx hb hml hown hts hK hN hP hD hS hA (zy_fill l g q49 _) [6] [0, 1, 2, 3, 4, 5] rfl rfl rfl rfl (by decide) zu_90 zu_275 zu_276 zu_277 (by decide +kernel) ⟨rfl, rfl⟩ ⟨(Nat.le_of_ble_eq_true rfl), (Nat.le_of_ble_eq_true rfl)⟩ rfl hl.1 (lv_room (Nat.le_of_ble_eq_true rfl)) dX7_init_89 ⟨(Nat.le_of_ble_eq_true rfl), (Nat.le_of_ble_eq_true rfl)⟩ (fun u89 H locs hP hD hS => ?_)
  have hP : va_P g.1 vwCl [(h0, .inr (6, [.ref d0, .ref p0, .ref q8, .ref q16, .ref q24, .ref q32, .ref q41, .ref q49, .ref e0, .int 0, .int 0, .int (-1), .int (-1), .int (-1)])), (q8, zy_i g 192), (q16, zy_i g 24), (q24, zy_i g 24), (q32, zy_i g 24), (q41, zy_i g 576), (q49, zy_m g 9)] H := hP
  have hD : va_D A [(h0, .inr (6, [.ref d0, .ref p0, .ref q8, .ref q16, .ref q24, .ref q32, .ref q41, .ref q49, .ref e0, .int 0, .int 0, .int (-1), .int (-1), .int (-1)])), (q8, zy_i g 192), (q16, zy_i g 24), (q24, zy_i g 24), (q32, zy_i g 24), (q41, zy_i g 576), (q49, zy_m g 9)] := hD
  refine W.widen (k := 6) (n := 849) (Nat.le_of_ble_eq_true rfl) (Nat.le_of_ble_eq_true rfl) ?_
  exact zy_ret (u := fun k => [q8, q16, q24, q32, q41, q49].getD k 0) hx hb hr hlocks hP hD hS dX7_init_92

