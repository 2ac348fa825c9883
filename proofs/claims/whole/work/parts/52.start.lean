/-! ===== how things stand at the start: both sides new, nothing told ===== -/
def zy_t0 : zTd := ((0, fun _ => 0), (0, fun _ => 0), 3, (0, fun _ => 0, fun _ => 0, fun _ => 0))
def zy_s0 : zES := (0, fun _ => 0, fun _ => 0, fun _ => 0)
def zy_h0 : zSH := (fun _ => false, fun _ => 0, fun _ => 0, fun _ _ => 0, 0)
def zy_i0 (a : Nat) : Nat → Int32 :=
  bif Nat.beq a 0 then (fun j => bif Nat.beq j 12 then 3 else bif Nat.beq j 15 then -1 else bif Nat.beq j 16 then -1 else 0)
  else bif Nat.beq a 1 then (fun j => bif Nat.beq j 1 then 35 else bif Nat.beq j 2 then 3 else bif Nat.beq j 4 then -1 else 0)
  else bif Nat.beq a 6 then (fun j => bif Nat.beq j 1 then 31 else bif Nat.beq j 2 then 4 else bif Nat.beq j 4 then -1 else 0)
  else bif Nat.beq a 25 || (Nat.beq a 27 || (Nat.beq a 29 || Nat.beq a 31)) then (fun j => bif Nat.beq j 2 then -1 else 0)
  else bif Nat.beq a 33 || Nat.beq a 40 then (fun j => bif Nat.beq j 11 || (Nat.beq j 12 || Nat.beq j 13) then -1 else 0)
  else bif Nat.beq a 39 || Nat.beq a 46 then (fun _ => -1)
  else bif Nat.beq a 50 then (fun j => bif Nat.beq j 9 then 3 else 0)
  else (fun _ => 0)
def zy_mu (sc : Nat × (Nat → Int32)) : zq_Me := (zy_i0, fun _ _ => 0, fun _ _ => 11, sc)
theorem zy_nd : ynd zy_t0 = 0 := by decide
theorem zy_np : ynp zy_t0 = 0 := by decide
theorem zy_hk : zHk zy_h0 := fun s _ => ⟨Nat.zero_le _, Nat.zero_le _⟩
theorem zy_c0 (sc : Nat × (Nat → Int32)) : zIc zy_t0 zy_s0 zy_h0 (zy_mu sc) := by
  refine ⟨⟨⟨by decide, rfl, rfl, rfl, fun i hi => absurd hi (Nat.not_lt_zero i)⟩, ⟨by decide, rfl, rfl, rfl, fun i hi => absurd hi (Nat.not_lt_zero i)⟩, ?_, ?_⟩, ⟨⟨?_, ?_, ?_, ?_⟩, ⟨?_, ?_, ?_⟩⟩, ⟨rfl, by decide, by decide⟩, ⟨⟨by decide, rfl, fun e he => absurd he (Nat.not_lt_zero e)⟩, by decide⟩, ⟨rfl, fun sp hsp => Or.inl ?_, Or.inl rfl⟩, ⟨rfl, fun sp hsp => Or.inl ?_⟩, Or.inl rfl, ⟨by decide, rfl, fun e he => absurd he (Nat.not_lt_zero e)⟩, ⟨fun s hs => ⟨fun h => absurd (show false = true from h) (by decide), fun _ => ?_, fun i _ => ?_⟩, rfl⟩, zy_hk⟩
  · show (-1 : Int32) = _; decide
  · show (-1 : Int32) = _; decide
  · rw [zy_nd]; decide
  · rw [zy_nd]; rfl
  · rw [zy_nd]; exact fun d hd => absurd hd (Nat.not_lt_zero d)
  · rw [zy_nd]; exact fun d hd => absurd hd (Nat.not_lt_zero d)
  · rw [zy_np]; decide
  · rw [zy_np]; rfl
  · rw [zy_np]; exact fun d hd => absurd hd (Nat.not_lt_zero d)
  · rfl
  · rfl
  · rcases (show s = 0 ∨ s = 1 ∨ s = 2 ∨ s = 3 by omega) with rfl | rfl | rfl | rfl <;> rfl
  · rcases (show s = 0 ∨ s = 1 ∨ s = 2 ∨ s = 3 by omega) with rfl | rfl | rfl | rfl <;> rfl
theorem zy_m0 (sc : Nat × (Nat → Int32)) : zIm zy_t0 zy_s0 zy_h0 (zy_mu sc) := by
  refine ⟨⟨⟨by decide, by decide, by decide, rfl, fun i hi => absurd hi (Nat.not_lt_zero i)⟩, ⟨by decide, by decide, by decide, rfl, fun i hi => absurd hi (Nat.not_lt_zero i)⟩⟩, ⟨rfl, by decide, by decide⟩, ⟨⟨by decide, rfl, fun e he => absurd he (Nat.not_lt_zero e)⟩, by decide⟩, ⟨by decide, rfl, fun e he => absurd he (Nat.not_lt_zero e)⟩, ⟨fun s hs => ⟨rfl, fun h => absurd (show false = true from h) (by decide), fun i _ => rfl⟩, rfl⟩, zy_hk⟩
set_option maxRecDepth 100000 in
set_option maxHeartbeats 4000000 in
theorem zy_go {L : Nat} {xs : Nat → Int32} (hL : L ≤ 384) : zq_Wp zn_L_law 16 [(0, .ref 77), (1, .ref 0), (2, .ref 50)] [] (zy_mu (L, xs)) (fun v _ => v = some (.int 1)) := by
  refine zq_go zt_L_law 2 [] 18 [(0, .ref 77), (1, .ref 0), (2, .ref 50), (3, .int (nI 0))] [] (zy_mu (L, xs)) rfl trivial ?_
  exact zl_loop (sc := (L, xs)) rfl hL L 0 (by omega) (Nat.zero_le L) zy_t0 zy_s0 zy_h0 _ (zy_c0 _) (zy_m0 _) rfl

def zy_ad (q0 q8 b : Nat) (u v : Nat → Nat) : Nat → Nat := fun k => [q0, (u 0), (u 1), (u 2), (u 3), (u 4), (u 5), (u 6), (u 7), (u 8), (u 9), (u 10), (u 11), (u 12), (u 13), (u 14), (u 15), (u 16), (u 17), (u 18), (u 19), (u 20), (u 21), (u 22), (u 23), (u 24), (u 25), (u 26), (u 27), (u 28), (u 29), (u 30), (u 31), (u 32), (u 33), (u 34), (u 35), (u 36), (u 37), (u 38), (u 39), (u 40), (u 41), (u 42), (u 43), (u 44), (u 45), (u 46), (u 47), (u 48), q8, (v 0), (v 1), (v 2), (v 3), (v 4), (v 5), (v 6), (v 7), (v 8), (v 9), (v 10), (v 11), (v 12), (v 13), (v 14), (v 15), (v 16), (v 17), (v 18), (v 19), (v 20), (v 21), (v 22), (v 23), (v 24), (v 25), b].getD k 0
abbrev zy_all (g : zq_G) (q0 q8 : Nat) (u v : Nat → Nat) (f : Nat → Option Nat) : va_W := [(q0, .inr (7, [.ref (u 0), .ref (u 5), .ref (u 10), .ref (u 14), .ref (u 18), .ref (u 19), .ref (u 23), .ref (u 32), .ref (u 39), .ref (u 46), .ref (u 47), .ref (u 48), .int 3, .int 0, .int 0, .int (-1), .int (-1)])), ((u 0), .inr (0, [.ref (u 1), .int 35, .int 3, .int 0, .int (-1), .int 0, .ref (u 2), .ref (u 3), .ref (u 4)])), ((u 1), zy_i g 35), ((u 2), zy_i g 12), ((u 3), zy_i g 12), ((u 4), zy_i g 8), ((u 5), .inr (3, [.ref (u 6), .int 31, .int 4, .int 0, .int (-1), .int 0, .ref (u 7), .ref (u 8), .ref (u 9)])), ((u 6), zy_i g 35), ((u 7), zy_i g 8), ((u 8), zy_i g 8), ((u 9), zy_i g 8), ((u 10), .inr (1, [.ref (u 11), .ref (u 12), .ref (u 13), .int 0])), ((u 11), zy_i g 9), ((u 12), zy_i g 9), ((u 13), zy_i g 9), ((u 14), .inr (1, [.ref (u 15), .ref (u 16), .ref (u 17), .int 0])), ((u 15), zy_i g 9), ((u 16), zy_i g 9), ((u 17), zy_i g 9), ((u 18), .inr (2, [.int 0])), ((u 19), .inr (5, [.ref (u 20), .ref (u 21), .ref (u 22), .int 0])), ((u 20), zy_i g 8), ((u 21), zy_i g 8), ((u 22), zy_i g 8), ((u 23), zy_q g 4 f), ((u 24), .inr (4, [.ref (u 25), .int 0, .int (-1)])), ((u 25), zy_i g 60), ((u 26), .inr (4, [.ref (u 27), .int 0, .int (-1)])), ((u 27), zy_i g 60), ((u 28), .inr (4, [.ref (u 29), .int 0, .int (-1)])), ((u 29), zy_i g 60), ((u 30), .inr (4, [.ref (u 31), .int 0, .int (-1)])), ((u 31), zy_i g 60), ((u 32), .inr (6, [.ref (u 0), .ref (u 5), .ref (u 33), .ref (u 34), .ref (u 35), .ref (u 36), .ref (u 37), .ref (u 38), .ref (u 10), .int 0, .int 0, .int (-1), .int (-1), .int (-1)])), ((u 33), zy_i g 192), ((u 34), zy_i g 24), ((u 35), zy_i g 24), ((u 36), zy_i g 24), ((u 37), zy_i g 576), ((u 38), zy_m g 9), ((u 39), .inr (6, [.ref (u 0), .ref (u 5), .ref (u 40), .ref (u 41), .ref (u 42), .ref (u 43), .ref (u 44), .ref (u 45), .ref (u 10), .int 0, .int 0, .int (-1), .int (-1), .int (-1)])), ((u 40), zy_i g 192), ((u 41), zy_i g 24), ((u 42), zy_i g 24), ((u 43), zy_i g 24), ((u 44), zy_i g 576), ((u 45), zy_m g 9), ((u 46), zy_i g 192), ((u 47), zy_i g 8), ((u 48), zy_l g 8), (q8, .inr (8, [.ref (v 0), .ref (v 1), .int 0, .ref (v 2), .ref (v 3), .int 0, .ref (v 4), .ref (v 5), .ref (v 6), .int 3, .int 0, .ref (v 7), .ref (v 8), .ref (v 9), .int 0, .int 0, .ref (v 10), .ref (v 11), .ref (v 12), .int 0, .int 0, .int 0, .ref (v 13), .ref (v 14), .ref (v 15), .ref (v 16), .int 0, .ref (v 17), .ref (v 18), .ref (v 19), .ref (v 20), .ref (v 21), .ref (v 22), .ref (v 23), .ref (v 24), .ref (v 25), .int 0])), ((v 0), zy_i g 2), ((v 1), zy_i g 70), ((v 2), zy_i g 13), ((v 3), zy_i g 13), ((v 4), zy_i g 9), ((v 5), zy_i g 9), ((v 6), zy_i g 9), ((v 7), zy_i g 9), ((v 8), zy_i g 9), ((v 9), zy_i g 9), ((v 10), zy_i g 9), ((v 11), zy_i g 9), ((v 12), zy_i g 9), ((v 13), zy_i g 24), ((v 14), zy_i g 1536), ((v 15), zy_i g 192), ((v 16), zy_i g 2), ((v 17), zy_i g 8), ((v 18), zy_i g 8), ((v 19), zy_i g 8), ((v 20), zy_i g 192), ((v 21), zy_z g 4), ((v 22), zy_i g 4), ((v 23), zy_i g 4), ((v 24), zy_i g 240), ((v 25), zy_i g 60)]
set_option maxRecDepth 100000 in
set_option maxHeartbeats 4000000 in
theorem zy_ws (D : va_G) (cA : Nat → ClassId) (sc : Nat × (Nat → Int32)) (q0 q8 b : Nat) (u v : Nat → Nat) : zq_ws (D, cA, zy_ad q0 q8 b u v, sc) (zy_mu sc) = zy_all (D, cA, fun _ => 0, sc) q0 q8 u v (fun j => some (zy_ad q0 q8 b u v ([25, 27, 29, 31].getD j 0))) := rfl

theorem zy_ext {s : State} {args : Array Value} (hts : ∀ w ∈ lw_tbl, w.before args s = true) : ∀ w ∈ zq_ext, w.before args s = true := by
  exact List.forall_mem_cons.mpr ⟨zq_selp (C := RX0) (y := yX6_understand) (z := yX6_isFull) (by decide) rfl (hts _ (zq_t2 (List.mem_of_getElem? (i := 70) rfl))) (hts _ (zq_t2 (List.mem_of_getElem? (i := 81) rfl))) (hts _ (zq_t2 (List.mem_of_getElem? (i := 82) rfl))), List.forall_mem_cons.mpr ⟨zq_selp (C := RX3) (y := yX6_understand) (z := yX6_isFull) (by decide) rfl (hts _ (zq_t2 (List.mem_of_getElem? (i := 71) rfl))) (hts _ (zq_t2 (List.mem_of_getElem? (i := 81) rfl))) (hts _ (zq_t2 (List.mem_of_getElem? (i := 82) rfl))), List.forall_mem_cons.mpr ⟨zq_selp (C := RX0) (y := yX6_firstFault) (z := yX6_isFull) (by decide) rfl (hts _ (zq_t2 (List.mem_of_getElem? (i := 70) rfl))) (hts _ (zq_t2 (List.mem_of_getElem? (i := 85) rfl))) (hts _ (zq_t2 (List.mem_of_getElem? (i := 86) rfl))), List.forall_mem_cons.mpr ⟨zq_selp (C := RX3) (y := yX6_firstFault) (z := yX6_isFull) (by decide) rfl (hts _ (zq_t2 (List.mem_of_getElem? (i := 71) rfl))) (hts _ (zq_t2 (List.mem_of_getElem? (i := 85) rfl))) (hts _ (zq_t2 (List.mem_of_getElem? (i := 86) rfl))), fun _ h => absurd h List.not_mem_nil⟩⟩⟩⟩
theorem zy_tw {s : State} {args : Array Value} (hts : ∀ w ∈ lw_tbl, w.before args s = true) : ∀ w ∈ zq_W, w.before args s = true := fun w hw => by
  rcases List.mem_append.mp (List.mem_filter.mp hw).1 with h | h
  · exact zy_ext hts w h
  · exact hts w h
theorem zy_dk {s : State} {args : Array Value} (hts : ∀ w ∈ lw_tbl, w.before args s = true) : zq_Dk s :=
  List.forall_mem_cons.mpr ⟨va_Nw.of rfl (hts _ (zq_t2 (List.mem_of_getElem? (i := 89) rfl))), List.forall_mem_cons.mpr ⟨va_Nw.of rfl (hts _ (zq_t2 (List.mem_of_getElem? (i := 111) rfl))), fun _ h => absurd h List.not_mem_nil⟩⟩

theorem zy_nk {s : State} {args : Array Value} (hts : ∀ w ∈ lw_tbl, w.before args s = true) : zy_Nk s :=
  ⟨va_Nw.of rfl (hts _ (zq_t1 (List.mem_of_getElem? (i := 117) rfl))), va_Nw.of rfl (hts _ (zq_t1 (List.mem_of_getElem? (i := 141) rfl))), va_Nw.of rfl (hts _ (zq_t1 (List.mem_of_getElem? (i := 152) rfl))), va_AO.of (hts _ (zq_t1 (List.mem_of_getElem? (i := 171) rfl)))⟩
/-- the classes, out of the tables -/
theorem zy_kn {s : State} {args : Array Value} (hts : ∀ w ∈ lw_tbl, w.before args s = true) : ∃ (D : va_G) (cA : Nat → ClassId), va_K D vwCl (zq_tys (D, cA, fun _ => 0, 0, fun _ => 0)) s := by
  obtain ⟨c0, i0, k0⟩ := u_known (C := RX0) (T := TX0) (N := 9) (n := 9) hts zq_in0 (hts _ (zq_t1 (List.mem_of_getElem? (i := 24) rfl)))
  obtain ⟨c1, i1, k1⟩ := u_known (C := RX1) (T := TX1) (N := 4) (n := 4) hts zq_in1 (hts _ (zq_t1 (List.mem_of_getElem? (i := 116) rfl)))
  obtain ⟨c2, i2, k2⟩ := u_known (C := RX2) (T := TX2) (N := 1) (n := 1) hts zq_in2 (hts _ (zq_t1 (List.mem_of_getElem? (i := 140) rfl)))
  obtain ⟨c3, i3, k3⟩ := u_known (C := RX3) (T := TX3) (N := 9) (n := 9) hts zq_in3 (hts _ (zq_t1 (List.mem_of_getElem? (i := 88) rfl)))
  obtain ⟨c4, i4, k4⟩ := u_known (C := RX4) (T := TX4) (N := 3) (n := 3) hts zq_in4 (hts _ (zq_t1 (List.mem_of_getElem? (i := 172) rfl)))
  obtain ⟨c5, i5, k5⟩ := u_known (C := RX5) (T := TX5) (N := 4) (n := 4) hts zq_in5 (hts _ (zq_t1 (List.mem_of_getElem? (i := 151) rfl)))
  obtain ⟨c6, i6, k6⟩ := u_known (C := RX7) (T := TX7) (N := 14) (n := 14) hts zq_in7 (hts _ (zq_t1 (List.mem_of_getElem? (i := 191) rfl)))
  obtain ⟨c7, i7, k7⟩ := u_known (C := RX8) (T := TX8) (N := 17) (n := 17) hts zq_in8 (hts _ (zq_t1 (List.mem_of_getElem? (i := 16) rfl)))
  obtain ⟨c8, i8, k8⟩ := u_known (C := RX9) (T := TX9) (N := 37) (n := 37) hts zq_in9 (hts _ (zq_t4 (List.mem_of_getElem? (i := 60) rfl)))
  obtain ⟨a0, b0, d0⟩ := zy_arr (hts _ (zq_t1 (List.mem_of_getElem? (i := 86) rfl)))
  obtain ⟨a1, b1, d1⟩ := zy_arr (hts _ (zq_t2 (List.mem_of_getElem? (i := 55) rfl)))
  obtain ⟨a2, b2, d2⟩ := zy_arr (hts _ (zq_t4 (List.mem_of_getElem? (i := 177) rfl)))
  obtain ⟨a3, b3, d3⟩ := zy_arrq (zy_nk hts).2.2.2
  refine ⟨(fun k => [c0, c1, c2, c3, c4, c5, c6, c7, c8].getD k c0, fun k => [i0, i1, i2, i3, i4, i5, i6, i7, i8].getD k i0), fun k => [a0, a1, a2, a3].getD k a0, ?_, ?_⟩
  · intro k q hq
    match k, hq with
    | 0, hq => cases hq; exact k0
    | 1, hq => cases hq; exact k1
    | 2, hq => cases hq; exact k2
    | 3, hq => cases hq; exact k3
    | 4, hq => cases hq; exact k4
    | 5, hq => cases hq; exact k5
    | 6, hq => cases hq; exact k6
    | 7, hq => cases hq; exact k7
    | 8, hq => cases hq; exact k8
    | k + 9, hq => simp [vwCl] at hq
  · intro k q hq
    match k, hq with
    | 0, hq => cases hq; exact ⟨b0, d0⟩
    | 1, hq => cases hq; exact ⟨b1, d1⟩
    | 2, hq => cases hq; exact ⟨b2, d2⟩
    | 3, hq => cases hq; exact ⟨b3, d3⟩
    | k + 4, hq => simp [zq_tys] at hq

theorem dL_law_0 : decode code 0 = .ok (.new 7, 3) := by decide +kernel
theorem dL_law_3 : decode code 3 = .ok (.dup, 1) := by decide +kernel
theorem dL_law_4 : decode code 4 = .ok (.invokespecial 9, 3) := by decide +kernel
theorem dL_law_7 : decode code 7 = .ok (.astore_n 1, 1) := by decide +kernel
theorem dL_law_8 : decode code 8 = .ok (.new 10, 3) := by decide +kernel
theorem dL_law_11 : decode code 11 = .ok (.dup, 1) := by decide +kernel
theorem dL_law_12 : decode code 12 = .ok (.invokespecial 12, 3) := by decide +kernel
theorem dL_law_15 : decode code 15 = .ok (.astore_n 2, 1) := by decide +kernel
theorem zu_94 : Cond.classLink RL 7 RX8 ∈ zq_W := zq_inW (zq_t1 (List.mem_of_getElem? (i := 15) rfl)) rfl
theorem zu_95 : Cond.instantiable RX8 17 ∈ zq_W := zq_inW (zq_t1 (List.mem_of_getElem? (i := 16) rfl)) rfl
theorem zu_80 : Cond.initialized RX8 ∈ zq_W := zq_inW (zq_t1 (List.mem_of_getElem? (i := 1) rfl)) rfl
theorem zu_96 : Cond.methodLink RL 9 yX8_init ∈ zq_W := zq_inW (zq_t1 (List.mem_of_getElem? (i := 17) rfl)) rfl
theorem zu_97 : Cond.instanceMethod yX8_init ∈ zq_W := zq_inW (zq_t1 (List.mem_of_getElem? (i := 18) rfl)) rfl
theorem zu_98 : Cond.code yX8_init prog_1_method_1_code 2 none ∈ zq_W := zq_inW (zq_t1 (List.mem_of_getElem? (i := 19) rfl)) rfl
theorem zu_858 : Cond.classLink RL 10 RX9 ∈ zq_W := zq_inW (zq_t4 (List.mem_of_getElem? (i := 59) rfl)) rfl
theorem zu_859 : Cond.instantiable RX9 37 ∈ zq_W := zq_inW (zq_t4 (List.mem_of_getElem? (i := 60) rfl)) rfl
theorem zu_91 : Cond.initialized RX9 ∈ zq_W := zq_inW (zq_t1 (List.mem_of_getElem? (i := 12) rfl)) rfl
theorem zu_860 : Cond.methodLink RL 12 yX9_init ∈ zq_W := zq_inW (zq_t4 (List.mem_of_getElem? (i := 61) rfl)) rfl
theorem zu_861 : Cond.instanceMethod yX9_init ∈ zq_W := zq_inW (zq_t4 (List.mem_of_getElem? (i := 62) rfl)) rfl
theorem zu_862 : Cond.code yX9_init prog_11_method_1_code 1 none ∈ zq_W := zq_inW (zq_t4 (List.mem_of_getElem? (i := 63) rfl)) rfl
