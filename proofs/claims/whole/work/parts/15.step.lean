/-! ===== the reference's step ===== -/
/-- a number that goes down to -1 -/
def zdn : Nat → Int32
  | 0 => -1
  | n + 1 => nI n
theorem zdn_dec (n : Nat) : nI n + (-1) = zdn n := by
  cases n with
  | zero => decide
  | succ n => exact pk_m1 n
theorem zdn_sub (n : Nat) : nI n - nI 1 = zdn n := by
  cases n with
  | zero => decide
  | succ n => exact pk_sub (by omega)
theorem zdn_neg : zdn 0 < 0 := by decide
/-- a least one, found from above -/
def zlo (C : Nat → Bool) (x n v : Nat) : Prop := (v = x ∧ ∀ y, n ≤ y → y < 8 → C y = false) ∨ (n ≤ v ∧ v < 8 ∧ C v = true ∧ ∀ z, n ≤ z → z < v → C z = false)
theorem zlo_8 {C : Nat → Bool} {x : Nat} : zlo C x 8 x := Or.inl ⟨rfl, fun y h1 h2 => by omega⟩
theorem zlo_t {C : Nat → Bool} {x n : Nat} (hn : n < 8) (h : C n = true) : zlo C x n n := Or.inr ⟨Nat.le_refl _, hn, h, fun z h1 h2 => by omega⟩
theorem zlo_f {C : Nat → Bool} {x n v : Nat} (hv : zlo C x (n + 1) v) (h : C n = false) : zlo C x n v := by
  rcases hv with ⟨h1, h2⟩ | ⟨h1, h2, h3, h4⟩
  · refine Or.inl ⟨h1, fun y hy hy8 => ?_⟩
    by_cases he : y = n
    · rw [he]; exact h
    · exact h2 y (by omega) hy8
  · refine Or.inr ⟨by omega, h2, h3, fun z hz hz2 => ?_⟩
    by_cases he : z = n
    · rw [he]; exact h
    · exact h4 z (by omega) hz2
theorem zlo_0 {C : Nat → Bool} {x v : Nat} (h : zlo C x 0 v) : v = if zf C 8 < 8 then zf C 8 else x := by
  rcases h with ⟨h1, h2⟩ | ⟨h1, h2, h3, h4⟩
  · rw [zf_none (fun i hi => h2 i (Nat.zero_le _) hi), if_neg (by omega)]; exact h1
  · have h5 : zf C 8 = v := zf_eq h2 h3 (fun i hi => h4 i (Nat.zero_le _) hi)
    rw [h5, if_pos h2]
theorem zg_d_1 {a : Nat → Nat → Bool} {x y : Nat} (hy : y < 8) : zg_d a y x = 1 ↔ x ≠ y ∧ a y x = true := by
  constructor
  · intro h
    have h1 := zg_d_lt (a := a) (t := y) (x := x) (by omega)
    have h0 := zg_d_min (a := a) (t := y) (x := x) (j := 0) (by omega)
    rw [h] at h1
    obtain ⟨z, -, h2, h3⟩ := zg_back h1 h0
    have hz : z = y := by simpa [zg_b] using h2
    subst hz
    exact ⟨by simpa [zg_b] using h0, h3⟩
  · rintro ⟨h1, h2⟩
    refine zg_d_eq (by decide) (zg_step hy (by simp [zg_b]) h2) (fun j hj => ?_)
    obtain rfl : j = 0 := by omega
    simp [zg_b, h1]
/-- the rooms that 'step' looks for -/
def zsC (a : Nat → Nat → Bool) (t x y : Nat) : Bool := decide (zg_d a y x = 1) && decide (zg_d a t y + 1 = zg_d a t x)
theorem zsC_n {a : Nat → Nat → Bool} {t x : Nat} (h8 : zg_d a t x < 8) : (if zf (zsC a t x) 8 < 8 then zf (zsC a t x) 8 else x) = zg_n a t x := by
  by_cases h0 : 0 < zg_d a t x
  · obtain ⟨h1, h2, h3, h4⟩ := zg_n_spec h0 h8
    have hne : x ≠ zg_n a t x := fun e => by rw [← e] at h3; omega
    have h5 : zf (zsC a t x) 8 = zg_n a t x := by
      refine zf_eq h1 ?_ (fun i hi => ?_)
      · unfold zsC
        rw [decide_eq_true ((zg_d_1 h1).mpr ⟨hne, h2⟩), decide_eq_true (by omega)]
        rfl
      · cases hc : zsC a t x i with
        | false => rfl
        | true =>
          unfold zsC at hc
          rw [Bool.and_eq_true, decide_eq_true_eq, decide_eq_true_eq] at hc
          exact absurd ⟨((zg_d_1 (by omega)).mp hc.1).2, by omega⟩ (h4 i hi)
    rw [h5, if_pos h1]
  · have h5 : zf (zsC a t x) 8 = 8 := zf_none (fun i _ => by
      unfold zsC
      rw [Bool.and_eq_false_iff]
      exact Or.inr (decide_eq_false (by omega)))
    rw [h5, if_neg (by omega), zg_n_0 (by omega)]
/-- the far table of an hour as it is when measured -/
def zT (a : Nat → Nat → Bool) (P : Nat) (μ : zq_Me) : Prop := ∀ x c, x < 8 → c < 8 → μ.1 65 (P + 8 * x + c) = nI (zfD (zg_d a c x))
theorem zfD_lt (d : Nat) : zfD d < 100 := by unfold zfD; split <;> omega
theorem zfD_1 {d : Nat} : zfD d = 1 ↔ d = 1 := by unfold zfD; split <;> omega
set_option maxRecDepth 100000 in
set_option maxHeartbeats 4000000 in
theorem zs_isBeside {a : Nat → Nat → Bool} {h x y : Nat} (hh : h < 24) (hx : x < 8) (hy : y < 8) {μ : zq_Me} (hT : zT a (64 * h) μ) : zq_Wp zn_X9_isBeside 0 [(0, .ref 50), (1, .int (nI h)), (2, .int (nI x)), (3, .int (nI y))] [] μ (zq_pi (zB (decide (zg_d a y x = 1))) μ) := by
  refine zq_go zt_X9_isBeside 14 [vp_in ((((nI 64) * (nI h)) + ((nI 8) * (nI x))) + (nI y)) 1536] (if ¬ (μ.1 65 (((((nI 64) * (nI h)) + ((nI 8) * (nI x))) + (nI y)).toNatClampNeg)) = (nI 1) then 24 else 20) [(0, .ref 50), (1, .int (nI h)), (2, .int (nI x)), (3, .int (nI y))] [] μ rfl ⟨zn_in (k := ((64 * h) + (8 * x)) + y) (by rw [zn_mul 64 h, zn_mul 8 x, zn_add (64 * h) (8 * x), zn_add ((64 * h) + (8 * x)) y]) (by omega) (by decide), trivial⟩ ?_
  rw [zn_mul 64 h, zn_mul 8 x, zn_add (64 * h) (8 * x), zn_add ((64 * h) + (8 * x)) y, zn_cl (n := ((64 * h) + (8 * x)) + y) (by omega), hT x y hx hy]
  have e1 : (nI (zfD (zg_d a y x)) = nI 1) = (zg_d a y x = 1) := by rw [zn_eq (Nat.lt_trans (zfD_lt _) (by decide)) (by decide)]; exact propext zfD_1
  refine zq_ite (fun h3 => ?_) (fun h3 => ?_)
  · rw [e1] at h3
    refine zq_go zt_X9_isBeside 1 [] 25 [(0, .ref 50), (1, .int (nI h)), (2, .int (nI x)), (3, .int (nI y))] [.int (nI 0)] μ rfl trivial ?_
    rw [decide_eq_false h3]
    exact zq_retz zt_X9_isBeside rfl (Or.inl rfl) (⟨rfl, rfl⟩)
  · rw [e1] at h3
    refine zq_go zt_X9_isBeside 2 [] 25 [(0, .ref 50), (1, .int (nI h)), (2, .int (nI x)), (3, .int (nI y))] [.int (nI 1)] μ rfl trivial ?_
    rw [decide_eq_true (Classical.not_not.mp h3)]
    exact zq_retz zt_X9_isBeside rfl (Or.inr rfl) (⟨rfl, rfl⟩)
set_option maxRecDepth 100000 in
set_option maxHeartbeats 4000000 in
theorem zs_step_l {Q : zq_Post} {a : Nat → Nat → Bool} {h x t : Nat} (hh : h < 24) (hx : x < 8) (ht : t < 8) {μ : zq_Me} (hT : zT a (64 * h) μ) (h8 : zg_d a t x < 8) (kk : ∀ v, v < 8 → (v = if zf (zsC a t x) 8 < 8 then zf (zsC a t x) 8 else x) → zq_Wp zn_X9_step 99 [(5, .int (nI v))] [] μ Q) : ∀ (n v : Nat), v < 8 → n ≤ 8 → zlo (zsC a t x) x n v → zq_Wp zn_X9_step 25 [(0, .ref 50), (1, .int (nI h)), (2, .int (nI x)), (3, .int (nI t)), (4, .int (nI (zfD (zg_d a t x)))), (5, .int (nI v)), (6, .int (zdn n))] [] μ Q := by
  intro n
  induction n with
  | zero =>
    intro v hv hn hz
    refine zq_go zt_X9_step 2 [] (if (zdn 0) < 0 then 99 else 30) [(0, .ref 50), (1, .int (nI h)), (2, .int (nI x)), (3, .int (nI t)), (4, .int (nI (zfD (zg_d a t x)))), (5, .int (nI v)), (6, .int (zdn 0))] [] μ rfl trivial ?_
    rw [if_pos (zdn_neg)]
    exact zq_drp [5] [(5, .int (nI v))] rfl (kk v hv (zlo_0 hz))
  | succ n ih =>
    intro v hv hn hz
    have l9 := zfD_lt (zg_d a t x)
    have l8 := zfD_lt (zg_d a t n)
    show zq_Wp zn_X9_step 25 [(0, .ref 50), (1, .int (nI h)), (2, .int (nI x)), (3, .int (nI t)), (4, .int (nI (zfD (zg_d a t x)))), (5, .int (nI v)), (6, .int (nI n))] [] μ Q
    refine zq_go zt_X9_step 2 [] (if (nI n) < 0 then 99 else 30) [(0, .ref 50), (1, .int (nI h)), (2, .int (nI x)), (3, .int (nI t)), (4, .int (nI (zfD (zg_d a t x)))), (5, .int (nI v)), (6, .int (nI n))] [] μ rfl trivial ?_
    rw [if_neg (zn_notneg (by omega))]
    refine zq_go zt_X9_step 3 [] (if (nI 99) ≤ (nI (zfD (zg_d a t x))) then 99 else 37) [(0, .ref 50), (1, .int (nI h)), (2, .int (nI x)), (3, .int (nI t)), (4, .int (nI (zfD (zg_d a t x)))), (5, .int (nI v)), (6, .int (nI n))] [] μ rfl trivial ?_
    rw [if_neg (by rw [zn_le (by decide) (by omega)]; unfold zfD; rw [if_pos h8]; omega)]
    refine zq_go zt_X9_step 4 [] 42 [(0, .ref 50), (1, .int (nI h)), (2, .int (nI x)), (3, .int (nI t)), (4, .int (nI (zfD (zg_d a t x)))), (5, .int (nI v)), (6, .int (nI n))] [.int (nI n), .int (nI x), .int (nI h), .ref 50] μ rfl trivial ?_
    refine zq_call zt_X9_step [.ref 50, .int (nI h), .int (nI x), .int (nI n)] [] (zs_isBeside hh hx (show n < 8 by omega) hT) rfl rfl ?_
    rintro _ _ ⟨rfl, rfl⟩
    refine zq_go zt_X9_step 1 [] (if (zB (decide (zg_d a n x = 1))) = 0 then 76 else 48) [(0, .ref 50), (1, .int (nI h)), (2, .int (nI x)), (3, .int (nI t)), (4, .int (nI (zfD (zg_d a t x)))), (5, .int (nI v)), (6, .int (nI n))] [] μ rfl trivial ?_
    refine zq_ite (fun h20 => ?_) (fun h20 => ?_)
    · have hb9 : zsC a t x n = false := by
        unfold zsC
        rw [zB_f h20]
        rfl
      refine zq_go zt_X9_step 4 [] (if (nI 0) = 0 then 89 else 84) [(0, .ref 50), (1, .int (nI h)), (2, .int (nI x)), (3, .int (nI t)), (4, .int (nI (zfD (zg_d a t x)))), (5, .int (nI v)), (6, .int (nI n)), (7, .int (nI 0))] [] μ rfl trivial ?_
      rw [if_pos (by decide)]
      refine zq_go zt_X9_step 4 [] 25 [(0, .ref 50), (1, .int (nI h)), (2, .int (nI x)), (3, .int (nI t)), (4, .int (nI (zfD (zg_d a t x)))), (5, .int (nI v)), (6, .int ((nI n) + (-1))), (7, .int (nI 0))] [] μ rfl trivial ?_
      rw [zdn_dec]
      exact zq_drp [0, 1, 2, 3, 4, 5, 6] [(0, .ref 50), (1, .int (nI h)), (2, .int (nI x)), (3, .int (nI t)), (4, .int (nI (zfD (zg_d a t x)))), (5, .int (nI v)), (6, .int (zdn n))] rfl (ih v hv (by omega) (zlo_f hz hb9))
    · have hq := of_decide_eq_true (zB_t h20)
      refine zq_go zt_X9_step 16 [vp_in ((((nI 64) * (nI h)) + ((nI 8) * (nI n))) + (nI t)) 1536] (if ¬ (μ.1 65 (((((nI 64) * (nI h)) + ((nI 8) * (nI n))) + (nI t)).toNatClampNeg)) = ((nI (zfD (zg_d a t x))) - (nI 1)) then 76 else 72) [(0, .ref 50), (1, .int (nI h)), (2, .int (nI x)), (3, .int (nI t)), (4, .int (nI (zfD (zg_d a t x)))), (5, .int (nI v)), (6, .int (nI n))] [] μ rfl ⟨zn_in (k := ((64 * h) + (8 * n)) + t) (by rw [zn_mul 64 h, zn_mul 8 n, zn_add (64 * h) (8 * n), zn_add ((64 * h) + (8 * n)) t]) (by omega) (by decide), trivial⟩ ?_
      rw [zn_mul 64 h, zn_mul 8 n, zn_add (64 * h) (8 * n), zn_add ((64 * h) + (8 * n)) t, zn_cl (n := ((64 * h) + (8 * n)) + t) (by omega), hT n t (by omega) ht]
      rw [zdn_sub]
      refine zq_ite (fun h34 => ?_) (fun h34 => ?_)
      · have hb9 : zsC a t x n = false := by
          unfold zsC
          rw [Bool.and_eq_false_iff]
          refine Or.inr (decide_eq_false (fun h9 => h34 ?_))
          have q1 : zg_d a t n < 8 := by omega
          unfold zfD
          rw [if_pos q1, if_pos h8, ← h9]
          rfl
        refine zq_go zt_X9_step 4 [] (if (nI 0) = 0 then 89 else 84) [(0, .ref 50), (1, .int (nI h)), (2, .int (nI x)), (3, .int (nI t)), (4, .int (nI (zfD (zg_d a t x)))), (5, .int (nI v)), (6, .int (nI n)), (7, .int (nI 0))] [] μ rfl trivial ?_
        rw [if_pos (by decide)]
        refine zq_go zt_X9_step 4 [] 25 [(0, .ref 50), (1, .int (nI h)), (2, .int (nI x)), (3, .int (nI t)), (4, .int (nI (zfD (zg_d a t x)))), (5, .int (nI v)), (6, .int ((nI n) + (-1))), (7, .int (nI 0))] [] μ rfl trivial ?_
        rw [zdn_dec]
        exact zq_drp [0, 1, 2, 3, 4, 5, 6] [(0, .ref 50), (1, .int (nI h)), (2, .int (nI x)), (3, .int (nI t)), (4, .int (nI (zfD (zg_d a t x)))), (5, .int (nI v)), (6, .int (zdn n))] rfl (ih v hv (by omega) (zlo_f hz hb9))
      · have hb9 : zsC a t x n = true := by
          have h7 := Classical.not_not.mp h34
          unfold zsC
          rw [decide_eq_true hq, Bool.true_and]
          refine decide_eq_true ?_
          cases hd9 : zfD (zg_d a t x) with
          | zero => rw [hd9] at h7; exact absurd h7 (zn_neg1 (by omega))
          | succ k =>
            rw [hd9] at h7
            have h6 : zfD (zg_d a t n) = k := by
              have h5 : nI (zfD (zg_d a t n)) = nI k := h7
              rwa [zn_eq (by omega) (by omega)] at h5
            unfold zfD at hd9 h6
            rw [if_pos h8] at hd9
            split at h6 <;> omega
        refine zq_go zt_X9_step 2 [] 77 [(0, .ref 50), (1, .int (nI h)), (2, .int (nI x)), (3, .int (nI t)), (4, .int (nI (zfD (zg_d a t x)))), (5, .int (nI v)), (6, .int (nI n))] [.int (nI 1)] μ rfl trivial ?_
        refine zq_go zt_X9_step 3 [] (if (nI 1) = 0 then 89 else 84) [(0, .ref 50), (1, .int (nI h)), (2, .int (nI x)), (3, .int (nI t)), (4, .int (nI (zfD (zg_d a t x)))), (5, .int (nI v)), (6, .int (nI n)), (7, .int (nI 1))] [] μ rfl trivial ?_
        rw [if_neg (by decide)]
        refine zq_go zt_X9_step 2 [] 91 [(0, .ref 50), (1, .int (nI h)), (2, .int (nI x)), (3, .int (nI t)), (4, .int (nI (zfD (zg_d a t x)))), (5, .int (nI v)), (6, .int (nI n)), (7, .int (nI 1))] [.int (nI n)] μ rfl trivial ?_
        refine zq_go zt_X9_step 3 [] 25 [(0, .ref 50), (1, .int (nI h)), (2, .int (nI x)), (3, .int (nI t)), (4, .int (nI (zfD (zg_d a t x)))), (5, .int (nI n)), (6, .int ((nI n) + (-1))), (7, .int (nI 1))] [] μ rfl trivial ?_
        rw [zdn_dec]
        exact zq_drp [0, 1, 2, 3, 4, 5, 6] [(0, .ref 50), (1, .int (nI h)), (2, .int (nI x)), (3, .int (nI t)), (4, .int (nI (zfD (zg_d a t x)))), (5, .int (nI n)), (6, .int (zdn n))] rfl (ih n (by omega) (by omega) (zlo_t (by omega) hb9))
set_option maxRecDepth 100000 in
set_option maxHeartbeats 4000000 in
theorem zs_step {a : Nat → Nat → Bool} {h x t : Nat} (hh : h < 24) (hx : x < 8) (ht : t < 8) {μ : zq_Me} (hT : zT a (64 * h) μ) : zq_Wp zn_X9_step 0 [(0, .ref 50), (1, .int (nI h)), (2, .int (nI x)), (3, .int (nI t))] [] μ (zq_pi (nI (zg_n a t x)) μ) := by
  have l9 := zfD_lt (zg_d a t x)
  refine zq_go zt_X9_step 17 [vp_in ((((nI 64) * (nI h)) + ((nI 8) * (nI x))) + (nI t)) 1536] 25 [(0, .ref 50), (1, .int (nI h)), (2, .int (nI x)), (3, .int (nI t)), (4, .int (μ.1 65 (((((nI 64) * (nI h)) + ((nI 8) * (nI x))) + (nI t)).toNatClampNeg))), (5, .int (nI x)), (6, .int (nI 7))] [] μ rfl ⟨zn_in (k := ((64 * h) + (8 * x)) + t) (by rw [zn_mul 64 h, zn_mul 8 x, zn_add (64 * h) (8 * x), zn_add ((64 * h) + (8 * x)) t]) (by omega) (by decide), trivial⟩ ?_
  rw [zn_mul 64 h, zn_mul 8 x, zn_add (64 * h) (8 * x), zn_add ((64 * h) + (8 * x)) t, zn_cl (n := ((64 * h) + (8 * x)) + t) (by omega), hT x t hx ht]
  by_cases h8 : zg_d a t x < 8
  · refine zs_step_l hh hx ht hT h8 (fun v hv9 hv => ?_) 8 x hx (Nat.le_refl _) zlo_8
    refine zq_go zt_X9_step 1 [] 101 [(5, .int (nI v))] [.int (nI v)] μ rfl trivial ?_
    rw [hv, zsC_n h8]
    exact zq_retn zt_X9_step rfl rfl (⟨rfl, rfl⟩)
  · refine zq_go zt_X9_step 2 [] (if (nI 7) < 0 then 99 else 30) [(0, .ref 50), (1, .int (nI h)), (2, .int (nI x)), (3, .int (nI t)), (4, .int (nI (zfD (zg_d a t x)))), (5, .int (nI x)), (6, .int (nI 7))] [] μ rfl trivial ?_
    rw [if_neg (by decide)]
    refine zq_go zt_X9_step 3 [] (if (nI 99) ≤ (nI (zfD (zg_d a t x))) then 99 else 37) [(0, .ref 50), (1, .int (nI h)), (2, .int (nI x)), (3, .int (nI t)), (4, .int (nI (zfD (zg_d a t x)))), (5, .int (nI x)), (6, .int (nI 7))] [] μ rfl trivial ?_
    rw [if_pos (by rw [zn_le (by decide) (by omega)]; unfold zfD; rw [if_neg h8]; omega)]
    refine zq_go zt_X9_step 1 [] 101 [(0, .ref 50), (1, .int (nI h)), (2, .int (nI x)), (3, .int (nI t)), (4, .int (nI (zfD (zg_d a t x)))), (5, .int (nI x)), (6, .int (nI 7))] [.int (nI x)] μ rfl trivial ?_
    have h7 := zg_d_le (a := a) (t := t) x
    rw [zg_n_0 (a := a) (t := t) (x := x) (by omega)]
    exact zq_retn zt_X9_step rfl rfl (⟨rfl, rfl⟩)
