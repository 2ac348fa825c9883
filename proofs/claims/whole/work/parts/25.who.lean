/-! ===== who is where: both sides ===== -/
def zwho (np : Nat) (R : Nat → Nat → Nat) (h r : Nat) : Nat := zm (fun p => decide (R p h = r)) np
def zemp (np : Nat) (R : Nat → Nat → Nat) (r : Nat) : Nat := zm (fun h => decide (zwho np R h r = 0)) 24
/-- is p by itself behind hour h -/
def zbi (np : Nat) (R : Nat → Nat → Nat) (h p : Nat) : Bool := decide (zwho np R h (R p h) = 2 ^ p)
def zal (np : Nat) (R : Nat → Nat → Nat) (h : Nat) : Nat := zm (fun p => zbi np R h p) np
theorem zwho_lt {np : Nat} (hn : np ≤ 8) (R : Nat → Nat → Nat) (h r : Nat) : zwho np R h r < 2 ^ 8 := Nat.lt_of_lt_of_le (zm_lt _ _) (Nat.pow_le_pow_right (by decide) hn)
theorem zal_lt {np : Nat} (hn : np ≤ 8) (R : Nat → Nat → Nat) (h : Nat) : zal np R h < 2 ^ 8 := Nat.lt_of_lt_of_le (zm_lt _ _) (Nat.pow_le_pow_right (by decide) hn)
theorem zm_t {p : Nat → Bool} {n : Nat} (h : p n = true) : zm p (n + 1) = zm p n ||| 2 ^ n := by
  show _ ||| _ = _
  rw [if_pos h]
theorem zm_f {p : Nat → Bool} {n : Nat} (h : p n = false) : zm p (n + 1) = zm p n := by
  show _ ||| _ = _
  rw [if_neg (by rw [h]; decide), Nat.or_zero]
def zQm (np : Nat) (R : Nat → Nat → Nat) (μ : zq_Me) : Prop := np ≤ 8 ∧ μ.1 50 5 = nI np ∧ ∀ p h, p < np → h < 24 → μ.1 66 (8 * h + p) = nI (R p h) ∧ R p h < 8
def zQ33 (np : Nat) (R : Nat → Nat → Nat) (μ : zq_Me) : Prop := np ≤ 8 ∧ μ.1 6 5 = nI np ∧ ∀ p h, p < np → h < 24 → μ.1 34 (h * 8 + p) = nI (R p h) ∧ R p h < 8
def zQ40 (np : Nat) (R : Nat → Nat → Nat) (μ : zq_Me) : Prop := np ≤ 8 ∧ μ.1 6 5 = nI np ∧ ∀ p h, p < np → h < 24 → μ.1 41 (h * 8 + p) = nI (R p h) ∧ R p h < 8
set_option maxRecDepth 100000 in
set_option maxHeartbeats 4000000 in
theorem zs_whoIn33_l {Q : zq_Post} {np : Nat} {R : Nat → Nat → Nat} {μ : zq_Me} (hQ : zQ33 np R μ) {h r : Nat} (hh : h < 24) (hr : r < 2 ^ 31) (kk : zq_Wp zn_X7_whoIn 41 [(3, .int (nI (zm (fun p => decide (R p h = r)) np)))] [] μ Q) : ∀ (j p : Nat), p + j = np → zq_Wp zn_X7_whoIn 5 [(0, .ref 33), (1, .int (nI h)), (2, .int (nI r)), (3, .int (nI (zm (fun p => decide (R p h = r)) p))), (4, .int (nI p))] [] μ Q := by
  intro j
  induction j with
  | zero =>
    intro p hij
    have hnp := hQ.1
    obtain rfl : p = np := by omega
    refine zq_go zt_X7_whoIn 5 [] (if (μ.1 6 5) ≤ (nI p) then 41 else 17) [(0, .ref 33), (1, .int (nI h)), (2, .int (nI r)), (3, .int (nI (zm (fun p => decide (R p h = r)) p))), (4, .int (nI p))] [] μ rfl trivial ?_
    rw [hQ.2.1]
    rw [if_pos (by rw [zn_le (by omega) (by omega)]; omega)]
    exact zq_drp [3] [(3, .int (nI (zm (fun p => decide (R p h = r)) p)))] rfl kk
  | succ j ih =>
    intro p hij
    have hnp := hQ.1
    obtain ⟨hr9, hr8⟩ := hQ.2.2 p h (by omega) hh
    refine zq_go zt_X7_whoIn 5 [] (if (μ.1 6 5) ≤ (nI p) then 41 else 17) [(0, .ref 33), (1, .int (nI h)), (2, .int (nI r)), (3, .int (nI (zm (fun p => decide (R p h = r)) p))), (4, .int (nI p))] [] μ rfl trivial ?_
    rw [hQ.2.1]
    rw [if_neg (by rw [zn_le (by omega) (by omega)]; omega)]
    refine zq_go zt_X7_whoIn 3 [] 21 [(0, .ref 33), (1, .int (nI h)), (2, .int (nI r)), (3, .int (nI (zm (fun p => decide (R p h = r)) p))), (4, .int (nI p))] [.int (nI p), .int (nI h), .ref 33] μ rfl trivial ?_
    refine zq_call zt_X7_whoIn [.ref 33, .int (nI h), .int (nI p)] [] (zs_roomOf33 hh (show p < 8 by omega) hr9) rfl rfl ?_
    rintro _ _ ⟨rfl, rfl⟩
    refine zq_go zt_X7_whoIn 2 [] (if ¬ (nI (R p h)) = (nI r) then 35 else 28) [(0, .ref 33), (1, .int (nI h)), (2, .int (nI r)), (3, .int (nI (zm (fun p => decide (R p h = r)) p))), (4, .int (nI p))] [] μ rfl trivial ?_
    refine zq_ite (fun h21 => ?_) (fun h21 => ?_)
    · rw [zn_eq (by omega) (by omega)] at h21
      refine zq_go zt_X7_whoIn 2 [] 5 [(0, .ref 33), (1, .int (nI h)), (2, .int (nI r)), (3, .int (nI (zm (fun p => decide (R p h = r)) p))), (4, .int ((nI p) + (nI 1)))] [] μ rfl trivial ?_
      rw [zn_add p 1]
      have h9 := ih (p + 1) (by omega)
      rw [zm_f (decide_eq_false h21)] at h9
      exact h9
    · have hq9 : R p h = r := by
        rw [zn_eq (by omega) (by omega)] at h21
        omega
      refine zq_go zt_X7_whoIn 8 [] 5 [(0, .ref 33), (1, .int (nI h)), (2, .int (nI r)), (3, .int ((nI (zm (fun p => decide (R p h = r)) p)) ||| ((nI 1) <<< ((nI p) &&& 31)))), (4, .int ((nI p) + (nI 1)))] [] μ rfl trivial ?_
      rw [zn_add p 1]
      rw [zn_1shl (by omega), zn_or]
      have h9 := ih (p + 1) (by omega)
      rw [zm_t (decide_eq_true hq9)] at h9
      exact h9
set_option maxRecDepth 100000 in
set_option maxHeartbeats 4000000 in
theorem zs_whoIn33 {np : Nat} {R : Nat → Nat → Nat} {μ : zq_Me} (hQ : zQ33 np R μ) {h r : Nat} (hh : h < 24) (hr : r < 2 ^ 31) : zq_Wp zn_X7_whoIn 0 [(0, .ref 33), (1, .int (nI h)), (2, .int (nI r))] [] μ (zq_pi (nI (zwho np R h r)) μ) := by
  refine zq_go zt_X7_whoIn 4 [] 5 [(0, .ref 33), (1, .int (nI h)), (2, .int (nI r)), (3, .int (nI 0)), (4, .int (nI 0))] [] μ rfl trivial ?_
  refine zs_whoIn33_l hQ hh hr ?_ np 0 (by omega)
  refine zq_go zt_X7_whoIn 1 [] 42 [(3, .int (nI (zm (fun p => decide (R p h = r)) np)))] [.int (nI (zm (fun p => decide (R p h = r)) np))] μ rfl trivial ?_
  exact zq_retn zt_X7_whoIn rfl rfl (⟨rfl, rfl⟩)
set_option maxRecDepth 100000 in
set_option maxHeartbeats 4000000 in
theorem zs_emptyHours33_l {Q : zq_Post} {np : Nat} {R : Nat → Nat → Nat} {μ : zq_Me} (hQ : zQ33 np R μ) {r : Nat} (hr : r < 2 ^ 31) (kk : zq_Wp zn_X7_emptyHours 31 [(2, .int (nI (zm (fun h => decide (zwho np R h r = 0)) 24)))] [] μ Q) : ∀ (j h : Nat), h + j = 24 → zq_Wp zn_X7_emptyHours 4 [(0, .ref 33), (1, .int (nI r)), (2, .int (nI (zm (fun h => decide (zwho np R h r = 0)) h))), (3, .int (nI h))] [] μ Q := by
  intro j
  induction j with
  | zero =>
    intro h hij
    obtain rfl : h = 24 := by omega
    refine zq_go zt_X7_emptyHours 3 [] (if (nI 24) ≤ (nI 24) then 31 else 10) [(0, .ref 33), (1, .int (nI r)), (2, .int (nI (zm (fun h => decide (zwho np R h r = 0)) 24))), (3, .int (nI 24))] [] μ rfl trivial ?_
    rw [if_pos (by decide)]
    exact zq_drp [2] [(2, .int (nI (zm (fun h => decide (zwho np R h r = 0)) 24)))] rfl kk
  | succ j ih =>
    intro h hij
    have hwl := zwho_lt hQ.1 R h r
    refine zq_go zt_X7_emptyHours 3 [] (if (nI 24) ≤ (nI h) then 31 else 10) [(0, .ref 33), (1, .int (nI r)), (2, .int (nI (zm (fun h => decide (zwho np R h r = 0)) h))), (3, .int (nI h))] [] μ rfl trivial ?_
    rw [if_neg (by rw [zn_le (by omega) (by omega)]; omega)]
    refine zq_go zt_X7_emptyHours 3 [] 13 [(0, .ref 33), (1, .int (nI r)), (2, .int (nI (zm (fun h => decide (zwho np R h r = 0)) h))), (3, .int (nI h))] [.int (nI r), .int (nI h), .ref 33] μ rfl trivial ?_
    refine zq_call zt_X7_emptyHours [.ref 33, .int (nI h), .int (nI r)] [] (zs_whoIn33 hQ (show h < 24 by omega) hr) rfl rfl ?_
    rintro _ _ ⟨rfl, rfl⟩
    refine zq_go zt_X7_emptyHours 1 [] (if ¬ (nI (zwho np R h r)) = 0 then 25 else 19) [(0, .ref 33), (1, .int (nI r)), (2, .int (nI (zm (fun h => decide (zwho np R h r = 0)) h))), (3, .int (nI h))] [] μ rfl trivial ?_
    refine zq_ite (fun h17 => ?_) (fun h17 => ?_)
    · have hq9 : ¬ zwho np R h r = 0 := by
        rw [show (0 : Int32) = nI 0 from rfl, zn_eq (by omega) (by decide)] at h17
        exact h17
      refine zq_go zt_X7_emptyHours 2 [] 4 [(0, .ref 33), (1, .int (nI r)), (2, .int (nI (zm (fun h => decide (zwho np R h r = 0)) h))), (3, .int ((nI h) + (nI 1)))] [] μ rfl trivial ?_
      rw [zn_add h 1]
      have h9 := ih (h + 1) (by omega)
      rw [zm_f (decide_eq_false hq9)] at h9
      exact h9
    · have hq9 : zwho np R h r = 0 := by
        rw [show (0 : Int32) = nI 0 from rfl, zn_eq (by omega) (by decide)] at h17
        omega
      refine zq_go zt_X7_emptyHours 8 [] 4 [(0, .ref 33), (1, .int (nI r)), (2, .int ((nI (zm (fun h => decide (zwho np R h r = 0)) h)) ||| ((nI 1) <<< ((nI h) &&& 31)))), (3, .int ((nI h) + (nI 1)))] [] μ rfl trivial ?_
      rw [zn_add h 1]
      rw [zn_1shl (by omega), zn_or]
      have h9 := ih (h + 1) (by omega)
      rw [zm_t (decide_eq_true hq9)] at h9
      exact h9
set_option maxRecDepth 100000 in
set_option maxHeartbeats 4000000 in
theorem zs_emptyHours33 {np : Nat} {R : Nat → Nat → Nat} {μ : zq_Me} (hQ : zQ33 np R μ) {r : Nat} (hr : r < 2 ^ 31) : zq_Wp zn_X7_emptyHours 0 [(0, .ref 33), (1, .int (nI r))] [] μ (zq_pi (nI (zemp np R r)) μ) := by
  refine zq_go zt_X7_emptyHours 4 [] 4 [(0, .ref 33), (1, .int (nI r)), (2, .int (nI 0)), (3, .int (nI 0))] [] μ rfl trivial ?_
  refine zs_emptyHours33_l hQ hr ?_ 24 0 (by omega)
  refine zq_go zt_X7_emptyHours 1 [] 32 [(2, .int (nI (zm (fun h => decide (zwho np R h r = 0)) 24)))] [.int (nI (zm (fun h => decide (zwho np R h r = 0)) 24))] μ rfl trivial ?_
  exact zq_retn zt_X7_emptyHours rfl rfl (⟨rfl, rfl⟩)
set_option maxRecDepth 100000 in
set_option maxHeartbeats 4000000 in
theorem zs_whoIn40_l {Q : zq_Post} {np : Nat} {R : Nat → Nat → Nat} {μ : zq_Me} (hQ : zQ40 np R μ) {h r : Nat} (hh : h < 24) (hr : r < 2 ^ 31) (kk : zq_Wp zn_X7_whoIn 41 [(3, .int (nI (zm (fun p => decide (R p h = r)) np)))] [] μ Q) : ∀ (j p : Nat), p + j = np → zq_Wp zn_X7_whoIn 5 [(0, .ref 40), (1, .int (nI h)), (2, .int (nI r)), (3, .int (nI (zm (fun p => decide (R p h = r)) p))), (4, .int (nI p))] [] μ Q := by
  intro j
  induction j with
  | zero =>
    intro p hij
    have hnp := hQ.1
    obtain rfl : p = np := by omega
    refine zq_go zt_X7_whoIn 5 [] (if (μ.1 6 5) ≤ (nI p) then 41 else 17) [(0, .ref 40), (1, .int (nI h)), (2, .int (nI r)), (3, .int (nI (zm (fun p => decide (R p h = r)) p))), (4, .int (nI p))] [] μ rfl trivial ?_
    rw [hQ.2.1]
    rw [if_pos (by rw [zn_le (by omega) (by omega)]; omega)]
    exact zq_drp [3] [(3, .int (nI (zm (fun p => decide (R p h = r)) p)))] rfl kk
  | succ j ih =>
    intro p hij
    have hnp := hQ.1
    obtain ⟨hr9, hr8⟩ := hQ.2.2 p h (by omega) hh
    refine zq_go zt_X7_whoIn 5 [] (if (μ.1 6 5) ≤ (nI p) then 41 else 17) [(0, .ref 40), (1, .int (nI h)), (2, .int (nI r)), (3, .int (nI (zm (fun p => decide (R p h = r)) p))), (4, .int (nI p))] [] μ rfl trivial ?_
    rw [hQ.2.1]
    rw [if_neg (by rw [zn_le (by omega) (by omega)]; omega)]
    refine zq_go zt_X7_whoIn 3 [] 21 [(0, .ref 40), (1, .int (nI h)), (2, .int (nI r)), (3, .int (nI (zm (fun p => decide (R p h = r)) p))), (4, .int (nI p))] [.int (nI p), .int (nI h), .ref 40] μ rfl trivial ?_
    refine zq_call zt_X7_whoIn [.ref 40, .int (nI h), .int (nI p)] [] (zs_roomOf40 hh (show p < 8 by omega) hr9) rfl rfl ?_
    rintro _ _ ⟨rfl, rfl⟩
    refine zq_go zt_X7_whoIn 2 [] (if ¬ (nI (R p h)) = (nI r) then 35 else 28) [(0, .ref 40), (1, .int (nI h)), (2, .int (nI r)), (3, .int (nI (zm (fun p => decide (R p h = r)) p))), (4, .int (nI p))] [] μ rfl trivial ?_
    refine zq_ite (fun h21 => ?_) (fun h21 => ?_)
    · rw [zn_eq (by omega) (by omega)] at h21
      refine zq_go zt_X7_whoIn 2 [] 5 [(0, .ref 40), (1, .int (nI h)), (2, .int (nI r)), (3, .int (nI (zm (fun p => decide (R p h = r)) p))), (4, .int ((nI p) + (nI 1)))] [] μ rfl trivial ?_
      rw [zn_add p 1]
      have h9 := ih (p + 1) (by omega)
      rw [zm_f (decide_eq_false h21)] at h9
      exact h9
    · have hq9 : R p h = r := by
        rw [zn_eq (by omega) (by omega)] at h21
        omega
      refine zq_go zt_X7_whoIn 8 [] 5 [(0, .ref 40), (1, .int (nI h)), (2, .int (nI r)), (3, .int ((nI (zm (fun p => decide (R p h = r)) p)) ||| ((nI 1) <<< ((nI p) &&& 31)))), (4, .int ((nI p) + (nI 1)))] [] μ rfl trivial ?_
      rw [zn_add p 1]
      rw [zn_1shl (by omega), zn_or]
      have h9 := ih (p + 1) (by omega)
      rw [zm_t (decide_eq_true hq9)] at h9
      exact h9
set_option maxRecDepth 100000 in
set_option maxHeartbeats 4000000 in
theorem zs_whoIn40 {np : Nat} {R : Nat → Nat → Nat} {μ : zq_Me} (hQ : zQ40 np R μ) {h r : Nat} (hh : h < 24) (hr : r < 2 ^ 31) : zq_Wp zn_X7_whoIn 0 [(0, .ref 40), (1, .int (nI h)), (2, .int (nI r))] [] μ (zq_pi (nI (zwho np R h r)) μ) := by
  refine zq_go zt_X7_whoIn 4 [] 5 [(0, .ref 40), (1, .int (nI h)), (2, .int (nI r)), (3, .int (nI 0)), (4, .int (nI 0))] [] μ rfl trivial ?_
  refine zs_whoIn40_l hQ hh hr ?_ np 0 (by omega)
  refine zq_go zt_X7_whoIn 1 [] 42 [(3, .int (nI (zm (fun p => decide (R p h = r)) np)))] [.int (nI (zm (fun p => decide (R p h = r)) np))] μ rfl trivial ?_
  exact zq_retn zt_X7_whoIn rfl rfl (⟨rfl, rfl⟩)
set_option maxRecDepth 100000 in
set_option maxHeartbeats 4000000 in
theorem zs_emptyHours40_l {Q : zq_Post} {np : Nat} {R : Nat → Nat → Nat} {μ : zq_Me} (hQ : zQ40 np R μ) {r : Nat} (hr : r < 2 ^ 31) (kk : zq_Wp zn_X7_emptyHours 31 [(2, .int (nI (zm (fun h => decide (zwho np R h r = 0)) 24)))] [] μ Q) : ∀ (j h : Nat), h + j = 24 → zq_Wp zn_X7_emptyHours 4 [(0, .ref 40), (1, .int (nI r)), (2, .int (nI (zm (fun h => decide (zwho np R h r = 0)) h))), (3, .int (nI h))] [] μ Q := by
  intro j
  induction j with
  | zero =>
    intro h hij
    obtain rfl : h = 24 := by omega
    refine zq_go zt_X7_emptyHours 3 [] (if (nI 24) ≤ (nI 24) then 31 else 10) [(0, .ref 40), (1, .int (nI r)), (2, .int (nI (zm (fun h => decide (zwho np R h r = 0)) 24))), (3, .int (nI 24))] [] μ rfl trivial ?_
    rw [if_pos (by decide)]
    exact zq_drp [2] [(2, .int (nI (zm (fun h => decide (zwho np R h r = 0)) 24)))] rfl kk
  | succ j ih =>
    intro h hij
    have hwl := zwho_lt hQ.1 R h r
    refine zq_go zt_X7_emptyHours 3 [] (if (nI 24) ≤ (nI h) then 31 else 10) [(0, .ref 40), (1, .int (nI r)), (2, .int (nI (zm (fun h => decide (zwho np R h r = 0)) h))), (3, .int (nI h))] [] μ rfl trivial ?_
    rw [if_neg (by rw [zn_le (by omega) (by omega)]; omega)]
    refine zq_go zt_X7_emptyHours 3 [] 13 [(0, .ref 40), (1, .int (nI r)), (2, .int (nI (zm (fun h => decide (zwho np R h r = 0)) h))), (3, .int (nI h))] [.int (nI r), .int (nI h), .ref 40] μ rfl trivial ?_
    refine zq_call zt_X7_emptyHours [.ref 40, .int (nI h), .int (nI r)] [] (zs_whoIn40 hQ (show h < 24 by omega) hr) rfl rfl ?_
    rintro _ _ ⟨rfl, rfl⟩
    refine zq_go zt_X7_emptyHours 1 [] (if ¬ (nI (zwho np R h r)) = 0 then 25 else 19) [(0, .ref 40), (1, .int (nI r)), (2, .int (nI (zm (fun h => decide (zwho np R h r = 0)) h))), (3, .int (nI h))] [] μ rfl trivial ?_
    refine zq_ite (fun h17 => ?_) (fun h17 => ?_)
    · have hq9 : ¬ zwho np R h r = 0 := by
        rw [show (0 : Int32) = nI 0 from rfl, zn_eq (by omega) (by decide)] at h17
        exact h17
      refine zq_go zt_X7_emptyHours 2 [] 4 [(0, .ref 40), (1, .int (nI r)), (2, .int (nI (zm (fun h => decide (zwho np R h r = 0)) h))), (3, .int ((nI h) + (nI 1)))] [] μ rfl trivial ?_
      rw [zn_add h 1]
      have h9 := ih (h + 1) (by omega)
      rw [zm_f (decide_eq_false hq9)] at h9
      exact h9
    · have hq9 : zwho np R h r = 0 := by
        rw [show (0 : Int32) = nI 0 from rfl, zn_eq (by omega) (by decide)] at h17
        omega
      refine zq_go zt_X7_emptyHours 8 [] 4 [(0, .ref 40), (1, .int (nI r)), (2, .int ((nI (zm (fun h => decide (zwho np R h r = 0)) h)) ||| ((nI 1) <<< ((nI h) &&& 31)))), (3, .int ((nI h) + (nI 1)))] [] μ rfl trivial ?_
      rw [zn_add h 1]
      rw [zn_1shl (by omega), zn_or]
      have h9 := ih (h + 1) (by omega)
      rw [zm_t (decide_eq_true hq9)] at h9
      exact h9
set_option maxRecDepth 100000 in
set_option maxHeartbeats 4000000 in
theorem zs_emptyHours40 {np : Nat} {R : Nat → Nat → Nat} {μ : zq_Me} (hQ : zQ40 np R μ) {r : Nat} (hr : r < 2 ^ 31) : zq_Wp zn_X7_emptyHours 0 [(0, .ref 40), (1, .int (nI r))] [] μ (zq_pi (nI (zemp np R r)) μ) := by
  refine zq_go zt_X7_emptyHours 4 [] 4 [(0, .ref 40), (1, .int (nI r)), (2, .int (nI 0)), (3, .int (nI 0))] [] μ rfl trivial ?_
  refine zs_emptyHours40_l hQ hr ?_ 24 0 (by omega)
  refine zq_go zt_X7_emptyHours 1 [] 32 [(2, .int (nI (zm (fun h => decide (zwho np R h r = 0)) 24)))] [.int (nI (zm (fun h => decide (zwho np R h r = 0)) 24))] μ rfl trivial ?_
  exact zq_retn zt_X7_emptyHours rfl rfl (⟨rfl, rfl⟩)
set_option maxRecDepth 100000 in
set_option maxHeartbeats 4000000 in
theorem zs_inRoom_l {Q : zq_Post} {np : Nat} {R : Nat → Nat → Nat} {μ : zq_Me} (hQ : zQm np R μ) {h r : Nat} (hh : h < 24) (hr : r < 2 ^ 31) (kk : zq_Wp zn_X9_inRoom 47 [(3, .int (nI (zm (fun p => decide (R p h = r)) np)))] [] μ Q) : ∀ (j p : Nat), p + j = np → zq_Wp zn_X9_inRoom 5 [(0, .ref 50), (1, .int (nI h)), (2, .int (nI r)), (3, .int (nI (zm (fun p => decide (R p h = r)) p))), (4, .int (nI p))] [] μ Q := by
  intro j
  induction j with
  | zero =>
    intro p hij
    have hnp := hQ.1
    obtain rfl : p = np := by omega
    refine zq_go zt_X9_inRoom 4 [] (if (μ.1 50 5) ≤ (nI p) then 47 else 14) [(0, .ref 50), (1, .int (nI h)), (2, .int (nI r)), (3, .int (nI (zm (fun p => decide (R p h = r)) p))), (4, .int (nI p))] [] μ rfl trivial ?_
    rw [hQ.2.1]
    rw [if_pos (by rw [zn_le (by omega) (by omega)]; omega)]
    exact zq_drp [3] [(3, .int (nI (zm (fun p => decide (R p h = r)) p)))] rfl kk
  | succ j ih =>
    intro p hij
    have hnp := hQ.1
    obtain ⟨hr90, hr8⟩ := hQ.2.2 p h (by omega) hh
    have hr9 : μ.1 66 ((8 * h) + p) = nI (R p h) := hr90
    refine zq_go zt_X9_inRoom 4 [] (if (μ.1 50 5) ≤ (nI p) then 47 else 14) [(0, .ref 50), (1, .int (nI h)), (2, .int (nI r)), (3, .int (nI (zm (fun p => decide (R p h = r)) p))), (4, .int (nI p))] [] μ rfl trivial ?_
    rw [hQ.2.1]
    rw [if_neg (by rw [zn_le (by omega) (by omega)]; omega)]
    refine zq_go zt_X9_inRoom 11 [vp_in (((nI 8) * (nI h)) + (nI p)) 192] (if ¬ (μ.1 66 ((((nI 8) * (nI h)) + (nI p)).toNatClampNeg)) = (nI r) then 38 else 31) [(0, .ref 50), (1, .int (nI h)), (2, .int (nI r)), (3, .int (nI (zm (fun p => decide (R p h = r)) p))), (4, .int (nI p))] [.int (nI (zm (fun p => decide (R p h = r)) p))] μ rfl ⟨zn_in (k := (8 * h) + p) (by rw [zn_mul 8 h, zn_add (8 * h) p]) (by omega) (by decide), trivial⟩ ?_
    rw [zn_mul 8 h, zn_add (8 * h) p, zn_cl (n := (8 * h) + p) (by omega), hr9]
    refine zq_ite (fun h20 => ?_) (fun h20 => ?_)
    · rw [zn_eq (by omega) (by omega)] at h20
      refine zq_go zt_X9_inRoom 5 [] 5 [(0, .ref 50), (1, .int (nI h)), (2, .int (nI r)), (3, .int ((nI (zm (fun p => decide (R p h = r)) p)) ||| (nI 0))), (4, .int ((nI p) + (nI 1)))] [] μ rfl trivial ?_
      rw [zn_add p 1]
      rw [zn_or, Nat.or_zero]
      have h9 := ih (p + 1) (by omega)
      rw [zm_f (decide_eq_false h20)] at h9
      exact h9
    · have hq9 : R p h = r := by
        rw [zn_eq (by omega) (by omega)] at h20
        omega
      refine zq_go zt_X9_inRoom 4 [] 39 [(0, .ref 50), (1, .int (nI h)), (2, .int (nI r)), (3, .int (nI (zm (fun p => decide (R p h = r)) p))), (4, .int (nI p))] [.int ((nI 1) <<< ((nI p) &&& 31)), .int (nI (zm (fun p => decide (R p h = r)) p))] μ rfl trivial ?_
      refine zq_go zt_X9_inRoom 4 [] 5 [(0, .ref 50), (1, .int (nI h)), (2, .int (nI r)), (3, .int ((nI (zm (fun p => decide (R p h = r)) p)) ||| ((nI 1) <<< ((nI p) &&& 31)))), (4, .int ((nI p) + (nI 1)))] [] μ rfl trivial ?_
      rw [zn_add p 1]
      rw [zn_1shl (by omega), zn_or]
      have h9 := ih (p + 1) (by omega)
      rw [zm_t (decide_eq_true hq9)] at h9
      exact h9
set_option maxRecDepth 100000 in
set_option maxHeartbeats 4000000 in
theorem zs_inRoom {np : Nat} {R : Nat → Nat → Nat} {μ : zq_Me} (hQ : zQm np R μ) {h r : Nat} (hh : h < 24) (hr : r < 2 ^ 31) : zq_Wp zn_X9_inRoom 0 [(0, .ref 50), (1, .int (nI h)), (2, .int (nI r))] [] μ (zq_pi (nI (zwho np R h r)) μ) := by
  refine zq_go zt_X9_inRoom 4 [] 5 [(0, .ref 50), (1, .int (nI h)), (2, .int (nI r)), (3, .int (nI 0)), (4, .int (nI 0))] [] μ rfl trivial ?_
  refine zs_inRoom_l hQ hh hr ?_ np 0 (by omega)
  refine zq_go zt_X9_inRoom 1 [] 48 [(3, .int (nI (zm (fun p => decide (R p h = r)) np)))] [.int (nI (zm (fun p => decide (R p h = r)) np))] μ rfl trivial ?_
  exact zq_retn zt_X9_inRoom rfl rfl (⟨rfl, rfl⟩)
set_option maxRecDepth 100000 in
set_option maxHeartbeats 4000000 in
theorem zs_emptyNow_l {Q : zq_Post} {np : Nat} {R : Nat → Nat → Nat} {μ : zq_Me} (hQ : zQm np R μ) {r : Nat} (hr : r < 2 ^ 31) (kk : zq_Wp zn_X9_emptyNow 35 [(2, .int (nI (zm (fun h => decide (zwho np R h r = 0)) 24)))] [] μ Q) : ∀ (j h : Nat), h + j = 24 → zq_Wp zn_X9_emptyNow 4 [(0, .ref 50), (1, .int (nI r)), (2, .int (nI (zm (fun h => decide (zwho np R h r = 0)) h))), (3, .int (nI h))] [] μ Q := by
  intro j
  induction j with
  | zero =>
    intro h hij
    obtain rfl : h = 24 := by omega
    refine zq_go zt_X9_emptyNow 3 [] (if (nI 24) ≤ (nI 24) then 35 else 10) [(0, .ref 50), (1, .int (nI r)), (2, .int (nI (zm (fun h => decide (zwho np R h r = 0)) 24))), (3, .int (nI 24))] [] μ rfl trivial ?_
    rw [if_pos (by decide)]
    exact zq_drp [2] [(2, .int (nI (zm (fun h => decide (zwho np R h r = 0)) 24)))] rfl kk
  | succ j ih =>
    intro h hij
    have hwl := zwho_lt hQ.1 R h r
    refine zq_go zt_X9_emptyNow 3 [] (if (nI 24) ≤ (nI h) then 35 else 10) [(0, .ref 50), (1, .int (nI r)), (2, .int (nI (zm (fun h => decide (zwho np R h r = 0)) h))), (3, .int (nI h))] [] μ rfl trivial ?_
    rw [if_neg (by rw [zn_le (by omega) (by omega)]; omega)]
    refine zq_go zt_X9_emptyNow 4 [] 14 [(0, .ref 50), (1, .int (nI r)), (2, .int (nI (zm (fun h => decide (zwho np R h r = 0)) h))), (3, .int (nI h))] [.int (nI r), .int (nI h), .ref 50, .int (nI (zm (fun h => decide (zwho np R h r = 0)) h))] μ rfl trivial ?_
    refine zq_call zt_X9_emptyNow [.ref 50, .int (nI h), .int (nI r)] [.int (nI (zm (fun h => decide (zwho np R h r = 0)) h))] (zs_inRoom hQ (show h < 24 by omega) hr) rfl rfl ?_
    rintro _ _ ⟨rfl, rfl⟩
    refine zq_go zt_X9_emptyNow 1 [] (if ¬ (nI (zwho np R h r)) = 0 then 26 else 20) [(0, .ref 50), (1, .int (nI r)), (2, .int (nI (zm (fun h => decide (zwho np R h r = 0)) h))), (3, .int (nI h))] [.int (nI (zm (fun h => decide (zwho np R h r = 0)) h))] μ rfl trivial ?_
    refine zq_ite (fun h17 => ?_) (fun h17 => ?_)
    · have hq9 : ¬ zwho np R h r = 0 := by
        rw [show (0 : Int32) = nI 0 from rfl, zn_eq (by omega) (by decide)] at h17
        exact h17
      refine zq_go zt_X9_emptyNow 5 [] 4 [(0, .ref 50), (1, .int (nI r)), (2, .int ((nI (zm (fun h => decide (zwho np R h r = 0)) h)) ||| (nI 0))), (3, .int ((nI h) + (nI 1)))] [] μ rfl trivial ?_
      rw [zn_add h 1]
      rw [zn_or, Nat.or_zero]
      have h9 := ih (h + 1) (by omega)
      rw [zm_f (decide_eq_false hq9)] at h9
      exact h9
    · have hq9 : zwho np R h r = 0 := by
        rw [show (0 : Int32) = nI 0 from rfl, zn_eq (by omega) (by decide)] at h17
        omega
      refine zq_go zt_X9_emptyNow 4 [] 27 [(0, .ref 50), (1, .int (nI r)), (2, .int (nI (zm (fun h => decide (zwho np R h r = 0)) h))), (3, .int (nI h))] [.int ((nI 1) <<< ((nI h) &&& 31)), .int (nI (zm (fun h => decide (zwho np R h r = 0)) h))] μ rfl trivial ?_
      refine zq_go zt_X9_emptyNow 4 [] 4 [(0, .ref 50), (1, .int (nI r)), (2, .int ((nI (zm (fun h => decide (zwho np R h r = 0)) h)) ||| ((nI 1) <<< ((nI h) &&& 31)))), (3, .int ((nI h) + (nI 1)))] [] μ rfl trivial ?_
      rw [zn_add h 1]
      rw [zn_1shl (by omega), zn_or]
      have h9 := ih (h + 1) (by omega)
      rw [zm_t (decide_eq_true hq9)] at h9
      exact h9
set_option maxRecDepth 100000 in
set_option maxHeartbeats 4000000 in
theorem zs_emptyNow {np : Nat} {R : Nat → Nat → Nat} {μ : zq_Me} (hQ : zQm np R μ) {r : Nat} (hr : r < 2 ^ 31) : zq_Wp zn_X9_emptyNow 0 [(0, .ref 50), (1, .int (nI r))] [] μ (zq_pi (nI (zemp np R r)) μ) := by
  refine zq_go zt_X9_emptyNow 4 [] 4 [(0, .ref 50), (1, .int (nI r)), (2, .int (nI 0)), (3, .int (nI 0))] [] μ rfl trivial ?_
  refine zs_emptyNow_l hQ hr ?_ 24 0 (by omega)
  refine zq_go zt_X9_emptyNow 1 [] 36 [(2, .int (nI (zm (fun h => decide (zwho np R h r = 0)) 24)))] [.int (nI (zm (fun h => decide (zwho np R h r = 0)) 24))] μ rfl trivial ?_
  exact zq_retn zt_X9_emptyNow rfl rfl (⟨rfl, rfl⟩)
set_option maxRecDepth 100000 in
set_option maxHeartbeats 4000000 in
theorem zs_isByItself {np : Nat} {R : Nat → Nat → Nat} {μ : zq_Me} (hQ : zQm np R μ) {h k : Nat} (hh : h < 24) (hk : k < np) : zq_Wp zn_X9_isByItself 0 [(0, .ref 50), (1, .int (nI h)), (2, .int (nI k))] [] μ (zq_pi (zB (zbi np R h k)) μ) := by
  have hnp := hQ.1
  have hwl := zwho_lt hnp R h (R k h)
  obtain ⟨hr90, hr8⟩ := hQ.2.2 k h hk hh
  have hr9 : μ.1 66 ((8 * h) + k) = nI (R k h) := hr90
  have hp9 := zn_pow_lt (show k < 8 by omega)
  refine zq_go zt_X9_isByItself 10 [vp_in (((nI 8) * (nI h)) + (nI k)) 192] 13 [(0, .ref 50), (1, .int (nI h)), (2, .int (nI k))] [.int (μ.1 66 ((((nI 8) * (nI h)) + (nI k)).toNatClampNeg)), .int (nI h), .ref 50] μ rfl ⟨zn_in (k := (8 * h) + k) (by rw [zn_mul 8 h, zn_add (8 * h) k]) (by omega) (by decide), trivial⟩ ?_
  rw [zn_mul 8 h, zn_add (8 * h) k, zn_cl (n := (8 * h) + k) (by omega), hr9]
  refine zq_call zt_X9_isByItself [.ref 50, .int (nI h), .int (nI (R k h))] [] (zs_inRoom hQ hh (by omega)) rfl rfl ?_
  rintro _ _ ⟨rfl, rfl⟩
  refine zq_go zt_X9_isByItself 4 [] (if ¬ (nI (zwho np R h (R k h))) = ((nI 1) <<< ((nI k) &&& 31)) then 26 else 22) [(0, .ref 50), (1, .int (nI h)), (2, .int (nI k))] [] μ rfl trivial ?_
  refine zq_ite (fun h10 => ?_) (fun h10 => ?_)
  · rw [zn_1shl (by omega), zn_eq (by omega) (by omega)] at h10
    have hq9 : zbi np R h k = false := decide_eq_false h10
    refine zq_go zt_X9_isByItself 1 [] 27 [(0, .ref 50), (1, .int (nI h)), (2, .int (nI k))] [.int (nI 0)] μ rfl trivial ?_
    rw [hq9]
    exact zq_retz zt_X9_isByItself rfl (Or.inl rfl) (⟨rfl, rfl⟩)
  · rw [zn_1shl (by omega), zn_eq (by omega) (by omega)] at h10
    have hq9 : zbi np R h k = true := decide_eq_true (Classical.not_not.mp h10)
    refine zq_go zt_X9_isByItself 2 [] 27 [(0, .ref 50), (1, .int (nI h)), (2, .int (nI k))] [.int (nI 1)] μ rfl trivial ?_
    rw [hq9]
    exact zq_retz zt_X9_isByItself rfl (Or.inr rfl) (⟨rfl, rfl⟩)
