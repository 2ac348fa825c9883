/-! ===== searches: who finds a child; the reference's aloneNow, hoursByItself, mostAt ===== -/
def zfI (p : Nat → Bool) (n : Nat) : Int32 := if zf p n < n then nI (zf p n) else -1
theorem zfI_t {p : Nat → Bool} {n k : Nat} (hk : k < n) (h : p k = true) (hm : ∀ i, i < k → p i = false) : zfI p n = nI k := by
  have e := zf_eq hk h hm
  unfold zfI
  rw [e, if_pos hk]
theorem zfI_f {p : Nat → Bool} {n : Nat} (h : ∀ i, i < n → p i = false) : zfI p n = -1 := by
  unfold zfI
  rw [zf_none h, if_neg (Nat.lt_irrefl n)]
theorem zfI_m1 {p : Nat → Bool} {n : Nat} (hn : n < 2 ^ 31) : (zfI p n = -1) = ¬ zf p n < n := by
  unfold zfI
  by_cases h : zf p n < n
  · rw [if_pos h]; exact propext ⟨fun e => absurd e (zn_neg1 (by omega)), fun e => absurd h e⟩
  · rw [if_neg h]; exact propext ⟨fun _ => h, fun _ => rfl⟩
theorem zlt_s {p : Nat → Bool} {i : Nat} (h : ∀ j, j < i → p j = false) (hi : p i = false) : ∀ j, j < i + 1 → p j = false := fun j hj => by
  by_cases e : j = i
  · rw [e]; exact hi
  · exact h j (by omega)
def zchw (srt : Nat → Nat) (R : Nat → Nat → Nat) (h k c : Nat) : Bool := decide (srt c = 1) && decide (R c h = R k h)
def zfnd (srt : Nat → Nat) (np : Nat) (R : Nat → Nat → Nat) (h k : Nat) : Bool := decide (srt k = 2) && decide (zf (zchw srt R h k) np < np)
def zfh (srt : Nat → Nat) (np : Nat) (R : Nat → Nat → Nat) (h : Nat) : Bool := decide (zf (zfnd srt np R h) np < np)
set_option maxRecDepth 100000 in
set_option maxHeartbeats 4000000 in
theorem zs_childWith33_l {np : Nat} {srt stt bed : Nat → Nat} {R : Nat → Nat → Nat} {μ : zq_Me} (hP : zP33 np srt stt bed μ) (hQ : zQ33 np R μ) {h k : Nat} (hh : h < 24) (hk : k < np) : ∀ (j c : Nat), c + j = np → (∀ i, i < c → (zchw srt R h k) i = false) → zq_Wp zn_X7_childWith 2 [(0, .ref 33), (1, .int (nI h)), (2, .int (nI k)), (3, .int (nI c))] [] μ (zq_pi (zfI (zchw srt R h k) np) μ) := by
  intro j
  induction j with
  | zero =>
    intro c hij hN9
    have hnp := hQ.1
    have he9 : c = np := by omega
    refine zq_go zt_X7_childWith 5 [] (if (μ.1 6 5) ≤ (nI c) then 45 else 13) [(0, .ref 33), (1, .int (nI h)), (2, .int (nI k)), (3, .int (nI c))] [] μ rfl trivial ?_
    rw [hQ.2.1]
    rw [if_pos (by rw [zn_le (by omega) (by omega)]; omega)]
    refine zq_go zt_X7_childWith 1 [] 46 [(0, .ref 33), (1, .int (nI h)), (2, .int (nI k)), (3, .int (nI c))] [.int (-1)] μ rfl trivial ?_
    have e9 : zfI (zchw srt R h k) np = -1 := zfI_f (fun i hi => hN9 i (by omega))
    rw [e9]
    exact zq_retn zt_X7_childWith rfl rfl (⟨rfl, rfl⟩)
  | succ j ih =>
    intro c hij hN9
    have hnp := hQ.1
    refine zq_go zt_X7_childWith 5 [] (if (μ.1 6 5) ≤ (nI c) then 45 else 13) [(0, .ref 33), (1, .int (nI h)), (2, .int (nI k)), (3, .int (nI c))] [] μ rfl trivial ?_
    rw [hQ.2.1]
    rw [if_neg (by rw [zn_le (by omega) (by omega)]; omega)]
    have hs2 := (hP.2.2 c (by omega)).2.1
    obtain ⟨hr9, hr8⟩ := hQ.2.2 c h (by omega) hh
    obtain ⟨hk9, hk8⟩ := hQ.2.2 k h hk hh
    refine zq_go zt_X7_childWith 2 [] 15 [(0, .ref 33), (1, .int (nI h)), (2, .int (nI k)), (3, .int (nI c))] [.int (nI c), .ref 33] μ rfl trivial ?_
    refine zq_call zt_X7_childWith [.ref 33, .int (nI c)] [] (zs_sortOf33 hP (show c < np by omega)) rfl rfl ?_
    rintro _ _ ⟨rfl, rfl⟩
    refine zq_go zt_X7_childWith 2 [] (if ¬ (nI (srt c)) = (nI 1) then 39 else 22) [(0, .ref 33), (1, .int (nI h)), (2, .int (nI k)), (3, .int (nI c))] [] μ rfl trivial ?_
    refine zq_ite (fun h26 => ?_) (fun h26 => ?_)
    · rw [zn_eq (by omega) (by decide)] at h26
      refine zq_go zt_X7_childWith 2 [] 2 [(0, .ref 33), (1, .int (nI h)), (2, .int (nI k)), (3, .int ((nI c) + (nI 1)))] [] μ rfl trivial ?_
      rw [zn_add c 1]
      exact ih (c + 1) (by omega) (zlt_s hN9 (by unfold zchw; rw [decide_eq_false h26, Bool.false_and]))
    · have h1 : srt c = 1 := by
        rw [zn_eq (by omega) (by decide)] at h26
        omega
      refine zq_go zt_X7_childWith 3 [] 25 [(0, .ref 33), (1, .int (nI h)), (2, .int (nI k)), (3, .int (nI c))] [.int (nI c), .int (nI h), .ref 33] μ rfl trivial ?_
      refine zq_call zt_X7_childWith [.ref 33, .int (nI h), .int (nI c)] [] (zs_roomOf33 hh (show c < 8 by omega) hr9) rfl rfl ?_
      rintro _ _ ⟨rfl, rfl⟩
      refine zq_go zt_X7_childWith 3 [] 31 [(0, .ref 33), (1, .int (nI h)), (2, .int (nI k)), (3, .int (nI c))] [.int (nI k), .int (nI h), .ref 33, .int (nI (R c h))] μ rfl trivial ?_
      refine zq_call zt_X7_childWith [.ref 33, .int (nI h), .int (nI k)] [.int (nI (R c h))] (zs_roomOf33 hh (show k < 8 by omega) hk9) rfl rfl ?_
      rintro _ _ ⟨rfl, rfl⟩
      refine zq_go zt_X7_childWith 1 [] (if ¬ (nI (R c h)) = (nI (R k h)) then 39 else 37) [(0, .ref 33), (1, .int (nI h)), (2, .int (nI k)), (3, .int (nI c))] [] μ rfl trivial ?_
      refine zq_ite (fun h41 => ?_) (fun h41 => ?_)
      · rw [zn_eq (by omega) (by omega)] at h41
        refine zq_go zt_X7_childWith 2 [] 2 [(0, .ref 33), (1, .int (nI h)), (2, .int (nI k)), (3, .int ((nI c) + (nI 1)))] [] μ rfl trivial ?_
        rw [zn_add c 1]
        exact ih (c + 1) (by omega) (zlt_s hN9 (by unfold zchw; rw [decide_eq_false h41, Bool.and_false]))
      · rw [zn_eq (by omega) (by omega)] at h41
        have h7 := Classical.not_not.mp h41
        refine zq_go zt_X7_childWith 1 [] 38 [(0, .ref 33), (1, .int (nI h)), (2, .int (nI k)), (3, .int (nI c))] [.int (nI c)] μ rfl trivial ?_
        rw [zfI_t (p := zchw srt R h k) (n := np) (k := c) (by omega) (by unfold zchw; rw [decide_eq_true h1, decide_eq_true h7]; rfl) hN9]
        exact zq_retn zt_X7_childWith rfl rfl (⟨rfl, rfl⟩)
set_option maxRecDepth 100000 in
set_option maxHeartbeats 4000000 in
theorem zs_childWith33 {np : Nat} {srt stt bed : Nat → Nat} {R : Nat → Nat → Nat} {μ : zq_Me} (hP : zP33 np srt stt bed μ) (hQ : zQ33 np R μ) {h k : Nat} (hh : h < 24) (hk : k < np) : zq_Wp zn_X7_childWith 0 [(0, .ref 33), (1, .int (nI h)), (2, .int (nI k))] [] μ (zq_pi (zfI (zchw srt R h k) np) μ) := by
  refine zq_go zt_X7_childWith 2 [] 2 [(0, .ref 33), (1, .int (nI h)), (2, .int (nI k)), (3, .int (nI 0))] [] μ rfl trivial ?_
  exact zs_childWith33_l hP hQ hh hk np 0 (by omega) (fun i hi => absurd hi (Nat.not_lt_zero i))
set_option maxRecDepth 100000 in
set_option maxHeartbeats 4000000 in
theorem zs_finder33_l {np : Nat} {srt stt bed : Nat → Nat} {R : Nat → Nat → Nat} {μ : zq_Me} (hP : zP33 np srt stt bed μ) (hQ : zQ33 np R μ) {h : Nat} (hh : h < 24) : ∀ (j k : Nat), k + j = np → (∀ i, i < k → (zfnd srt np R h) i = false) → zq_Wp zn_X7_finder 2 [(0, .ref 33), (1, .int (nI h)), (2, .int (nI k))] [] μ (zq_pi (zfI (zfnd srt np R h) np) μ) := by
  intro j
  induction j with
  | zero =>
    intro k hij hN9
    have hnp := hQ.1
    have he9 : k = np := by omega
    refine zq_go zt_X7_finder 5 [] (if (μ.1 6 5) ≤ (nI k) then 40 else 13) [(0, .ref 33), (1, .int (nI h)), (2, .int (nI k))] [] μ rfl trivial ?_
    rw [hQ.2.1]
    rw [if_pos (by rw [zn_le (by omega) (by omega)]; omega)]
    refine zq_go zt_X7_finder 1 [] 41 [(0, .ref 33), (1, .int (nI h)), (2, .int (nI k))] [.int (-1)] μ rfl trivial ?_
    have e9 : zfI (zfnd srt np R h) np = -1 := zfI_f (fun i hi => hN9 i (by omega))
    rw [e9]
    exact zq_retn zt_X7_finder rfl rfl (⟨rfl, rfl⟩)
  | succ j ih =>
    intro k hij hN9
    have hnp := hQ.1
    refine zq_go zt_X7_finder 5 [] (if (μ.1 6 5) ≤ (nI k) then 40 else 13) [(0, .ref 33), (1, .int (nI h)), (2, .int (nI k))] [] μ rfl trivial ?_
    rw [hQ.2.1]
    rw [if_neg (by rw [zn_le (by omega) (by omega)]; omega)]
    have hs2 := (hP.2.2 k (by omega)).2.1
    refine zq_go zt_X7_finder 2 [] 15 [(0, .ref 33), (1, .int (nI h)), (2, .int (nI k))] [.int (nI k), .ref 33] μ rfl trivial ?_
    refine zq_call zt_X7_finder [.ref 33, .int (nI k)] [] (zs_sortOf33 hP (show k < np by omega)) rfl rfl ?_
    rintro _ _ ⟨rfl, rfl⟩
    refine zq_go zt_X7_finder 2 [] (if ¬ (nI (srt k)) = (nI 2) then 34 else 22) [(0, .ref 33), (1, .int (nI h)), (2, .int (nI k))] [] μ rfl trivial ?_
    refine zq_ite (fun h24 => ?_) (fun h24 => ?_)
    · rw [zn_eq (by omega) (by decide)] at h24
      refine zq_go zt_X7_finder 2 [] 2 [(0, .ref 33), (1, .int (nI h)), (2, .int ((nI k) + (nI 1)))] [] μ rfl trivial ?_
      rw [zn_add k 1]
      exact ih (k + 1) (by omega) (zlt_s hN9 (by unfold zfnd; rw [decide_eq_false h24, Bool.false_and]))
    · have h2 : srt k = 2 := by
        rw [zn_eq (by omega) (by decide)] at h24
        omega
      refine zq_go zt_X7_finder 3 [] 25 [(0, .ref 33), (1, .int (nI h)), (2, .int (nI k))] [.int (nI k), .int (nI h), .ref 33] μ rfl trivial ?_
      refine zq_call zt_X7_finder [.ref 33, .int (nI h), .int (nI k)] [] (zs_childWith33 hP hQ hh (show k < np by omega)) rfl rfl ?_
      rintro _ _ ⟨rfl, rfl⟩
      refine zq_go zt_X7_finder 2 [] (if (zfI (zchw srt R h k) np) = (-1) then 34 else 32) [(0, .ref 33), (1, .int (nI h)), (2, .int (nI k))] [] μ rfl trivial ?_
      refine zq_ite (fun h36 => ?_) (fun h36 => ?_)
      · rw [zfI_m1 (by omega)] at h36
        refine zq_go zt_X7_finder 2 [] 2 [(0, .ref 33), (1, .int (nI h)), (2, .int ((nI k) + (nI 1)))] [] μ rfl trivial ?_
        rw [zn_add k 1]
        exact ih (k + 1) (by omega) (zlt_s hN9 (by unfold zfnd; rw [decide_eq_false h36, Bool.and_false]))
      · rw [zfI_m1 (by omega)] at h36
        have h7 := Classical.not_not.mp h36
        refine zq_go zt_X7_finder 1 [] 33 [(0, .ref 33), (1, .int (nI h)), (2, .int (nI k))] [.int (nI k)] μ rfl trivial ?_
        rw [zfI_t (p := zfnd srt np R h) (n := np) (k := k) (by omega) (by unfold zfnd; rw [decide_eq_true h2, decide_eq_true h7]; rfl) hN9]
        exact zq_retn zt_X7_finder rfl rfl (⟨rfl, rfl⟩)
set_option maxRecDepth 100000 in
set_option maxHeartbeats 4000000 in
theorem zs_finder33 {np : Nat} {srt stt bed : Nat → Nat} {R : Nat → Nat → Nat} {μ : zq_Me} (hP : zP33 np srt stt bed μ) (hQ : zQ33 np R μ) {h : Nat} (hh : h < 24) : zq_Wp zn_X7_finder 0 [(0, .ref 33), (1, .int (nI h))] [] μ (zq_pi (zfI (zfnd srt np R h) np) μ) := by
  refine zq_go zt_X7_finder 2 [] 2 [(0, .ref 33), (1, .int (nI h)), (2, .int (nI 0))] [] μ rfl trivial ?_
  exact zs_finder33_l hP hQ hh np 0 (by omega) (fun i hi => absurd hi (Nat.not_lt_zero i))
set_option maxRecDepth 100000 in
set_option maxHeartbeats 4000000 in
theorem zs_findingHour33_l {np : Nat} {srt stt bed : Nat → Nat} {R : Nat → Nat → Nat} {μ : zq_Me} (hP : zP33 np srt stt bed μ) (hQ : zQ33 np R μ) : ∀ (j h : Nat), h + j = 24 → (∀ i, i < h → (zfh srt np R) i = false) → zq_Wp zn_X7_findingHour 2 [(0, .ref 33), (1, .int (nI h))] [] μ (zq_pi (zfI (zfh srt np R) 24) μ) := by
  intro j
  induction j with
  | zero =>
    intro h hij hN9
    have hnp := hQ.1
    obtain rfl : h = 24 := by omega
    refine zq_go zt_X7_findingHour 3 [] (if (nI 24) ≤ (nI 24) then 25 else 8) [(0, .ref 33), (1, .int (nI 24))] [] μ rfl trivial ?_
    rw [if_pos (by decide)]
    refine zq_go zt_X7_findingHour 1 [] 26 [(0, .ref 33), (1, .int (nI 24))] [.int (-1)] μ rfl trivial ?_
    have e9 : zfI (zfh srt np R) 24 = -1 := zfI_f (fun i hi => hN9 i (by omega))
    rw [e9]
    exact zq_retn zt_X7_findingHour rfl rfl (⟨rfl, rfl⟩)
  | succ j ih =>
    intro h hij hN9
    have hnp := hQ.1
    refine zq_go zt_X7_findingHour 3 [] (if (nI 24) ≤ (nI h) then 25 else 8) [(0, .ref 33), (1, .int (nI h))] [] μ rfl trivial ?_
    rw [if_neg (by rw [zn_le (by omega) (by omega)]; omega)]
    refine zq_go zt_X7_findingHour 2 [] 10 [(0, .ref 33), (1, .int (nI h))] [.int (nI h), .ref 33] μ rfl trivial ?_
    refine zq_call zt_X7_findingHour [.ref 33, .int (nI h)] [] (zs_finder33 hP hQ (show h < 24 by omega)) rfl rfl ?_
    rintro _ _ ⟨rfl, rfl⟩
    refine zq_go zt_X7_findingHour 2 [] (if (zfI (zfnd srt np R h) np) = (-1) then 19 else 17) [(0, .ref 33), (1, .int (nI h))] [] μ rfl trivial ?_
    refine zq_ite (fun h21 => ?_) (fun h21 => ?_)
    · rw [zfI_m1 (by omega)] at h21
      refine zq_go zt_X7_findingHour 2 [] 2 [(0, .ref 33), (1, .int ((nI h) + (nI 1)))] [] μ rfl trivial ?_
      rw [zn_add h 1]
      exact ih (h + 1) (by omega) (zlt_s hN9 (by unfold zfh; exact decide_eq_false h21))
    · rw [zfI_m1 (by omega)] at h21
      have h7 := Classical.not_not.mp h21
      refine zq_go zt_X7_findingHour 1 [] 18 [(0, .ref 33), (1, .int (nI h))] [.int (nI h)] μ rfl trivial ?_
      rw [zfI_t (p := zfh srt np R) (n := 24) (k := h) (by omega) (by unfold zfh; exact decide_eq_true h7) hN9]
      exact zq_retn zt_X7_findingHour rfl rfl (⟨rfl, rfl⟩)
set_option maxRecDepth 100000 in
set_option maxHeartbeats 4000000 in
theorem zs_findingHour33 {np : Nat} {srt stt bed : Nat → Nat} {R : Nat → Nat → Nat} {μ : zq_Me} (hP : zP33 np srt stt bed μ) (hQ : zQ33 np R μ) : zq_Wp zn_X7_findingHour 0 [(0, .ref 33)] [] μ (zq_pi (zfI (zfh srt np R) 24) μ) := by
  refine zq_go zt_X7_findingHour 2 [] 2 [(0, .ref 33), (1, .int (nI 0))] [] μ rfl trivial ?_
  exact zs_findingHour33_l hP hQ 24 0 (by omega) (fun i hi => absurd hi (Nat.not_lt_zero i))
set_option maxRecDepth 100000 in
set_option maxHeartbeats 4000000 in
theorem zs_childWith40_l {np : Nat} {srt stt bed : Nat → Nat} {R : Nat → Nat → Nat} {μ : zq_Me} (hP : zP40 np srt stt bed μ) (hQ : zQ40 np R μ) {h k : Nat} (hh : h < 24) (hk : k < np) : ∀ (j c : Nat), c + j = np → (∀ i, i < c → (zchw srt R h k) i = false) → zq_Wp zn_X7_childWith 2 [(0, .ref 40), (1, .int (nI h)), (2, .int (nI k)), (3, .int (nI c))] [] μ (zq_pi (zfI (zchw srt R h k) np) μ) := by
  intro j
  induction j with
  | zero =>
    intro c hij hN9
    have hnp := hQ.1
    have he9 : c = np := by omega
    refine zq_go zt_X7_childWith 5 [] (if (μ.1 6 5) ≤ (nI c) then 45 else 13) [(0, .ref 40), (1, .int (nI h)), (2, .int (nI k)), (3, .int (nI c))] [] μ rfl trivial ?_
    rw [hQ.2.1]
    rw [if_pos (by rw [zn_le (by omega) (by omega)]; omega)]
    refine zq_go zt_X7_childWith 1 [] 46 [(0, .ref 40), (1, .int (nI h)), (2, .int (nI k)), (3, .int (nI c))] [.int (-1)] μ rfl trivial ?_
    have e9 : zfI (zchw srt R h k) np = -1 := zfI_f (fun i hi => hN9 i (by omega))
    rw [e9]
    exact zq_retn zt_X7_childWith rfl rfl (⟨rfl, rfl⟩)
  | succ j ih =>
    intro c hij hN9
    have hnp := hQ.1
    refine zq_go zt_X7_childWith 5 [] (if (μ.1 6 5) ≤ (nI c) then 45 else 13) [(0, .ref 40), (1, .int (nI h)), (2, .int (nI k)), (3, .int (nI c))] [] μ rfl trivial ?_
    rw [hQ.2.1]
    rw [if_neg (by rw [zn_le (by omega) (by omega)]; omega)]
    have hs2 := (hP.2.2 c (by omega)).2.1
    obtain ⟨hr9, hr8⟩ := hQ.2.2 c h (by omega) hh
    obtain ⟨hk9, hk8⟩ := hQ.2.2 k h hk hh
    refine zq_go zt_X7_childWith 2 [] 15 [(0, .ref 40), (1, .int (nI h)), (2, .int (nI k)), (3, .int (nI c))] [.int (nI c), .ref 40] μ rfl trivial ?_
    refine zq_call zt_X7_childWith [.ref 40, .int (nI c)] [] (zs_sortOf40 hP (show c < np by omega)) rfl rfl ?_
    rintro _ _ ⟨rfl, rfl⟩
    refine zq_go zt_X7_childWith 2 [] (if ¬ (nI (srt c)) = (nI 1) then 39 else 22) [(0, .ref 40), (1, .int (nI h)), (2, .int (nI k)), (3, .int (nI c))] [] μ rfl trivial ?_
    refine zq_ite (fun h26 => ?_) (fun h26 => ?_)
    · rw [zn_eq (by omega) (by decide)] at h26
      refine zq_go zt_X7_childWith 2 [] 2 [(0, .ref 40), (1, .int (nI h)), (2, .int (nI k)), (3, .int ((nI c) + (nI 1)))] [] μ rfl trivial ?_
      rw [zn_add c 1]
      exact ih (c + 1) (by omega) (zlt_s hN9 (by unfold zchw; rw [decide_eq_false h26, Bool.false_and]))
    · have h1 : srt c = 1 := by
        rw [zn_eq (by omega) (by decide)] at h26
        omega
      refine zq_go zt_X7_childWith 3 [] 25 [(0, .ref 40), (1, .int (nI h)), (2, .int (nI k)), (3, .int (nI c))] [.int (nI c), .int (nI h), .ref 40] μ rfl trivial ?_
      refine zq_call zt_X7_childWith [.ref 40, .int (nI h), .int (nI c)] [] (zs_roomOf40 hh (show c < 8 by omega) hr9) rfl rfl ?_
      rintro _ _ ⟨rfl, rfl⟩
      refine zq_go zt_X7_childWith 3 [] 31 [(0, .ref 40), (1, .int (nI h)), (2, .int (nI k)), (3, .int (nI c))] [.int (nI k), .int (nI h), .ref 40, .int (nI (R c h))] μ rfl trivial ?_
      refine zq_call zt_X7_childWith [.ref 40, .int (nI h), .int (nI k)] [.int (nI (R c h))] (zs_roomOf40 hh (show k < 8 by omega) hk9) rfl rfl ?_
      rintro _ _ ⟨rfl, rfl⟩
      refine zq_go zt_X7_childWith 1 [] (if ¬ (nI (R c h)) = (nI (R k h)) then 39 else 37) [(0, .ref 40), (1, .int (nI h)), (2, .int (nI k)), (3, .int (nI c))] [] μ rfl trivial ?_
      refine zq_ite (fun h41 => ?_) (fun h41 => ?_)
      · rw [zn_eq (by omega) (by omega)] at h41
        refine zq_go zt_X7_childWith 2 [] 2 [(0, .ref 40), (1, .int (nI h)), (2, .int (nI k)), (3, .int ((nI c) + (nI 1)))] [] μ rfl trivial ?_
        rw [zn_add c 1]
        exact ih (c + 1) (by omega) (zlt_s hN9 (by unfold zchw; rw [decide_eq_false h41, Bool.and_false]))
      · rw [zn_eq (by omega) (by omega)] at h41
        have h7 := Classical.not_not.mp h41
        refine zq_go zt_X7_childWith 1 [] 38 [(0, .ref 40), (1, .int (nI h)), (2, .int (nI k)), (3, .int (nI c))] [.int (nI c)] μ rfl trivial ?_
        rw [zfI_t (p := zchw srt R h k) (n := np) (k := c) (by omega) (by unfold zchw; rw [decide_eq_true h1, decide_eq_true h7]; rfl) hN9]
        exact zq_retn zt_X7_childWith rfl rfl (⟨rfl, rfl⟩)
set_option maxRecDepth 100000 in
set_option maxHeartbeats 4000000 in
theorem zs_childWith40 {np : Nat} {srt stt bed : Nat → Nat} {R : Nat → Nat → Nat} {μ : zq_Me} (hP : zP40 np srt stt bed μ) (hQ : zQ40 np R μ) {h k : Nat} (hh : h < 24) (hk : k < np) : zq_Wp zn_X7_childWith 0 [(0, .ref 40), (1, .int (nI h)), (2, .int (nI k))] [] μ (zq_pi (zfI (zchw srt R h k) np) μ) := by
  refine zq_go zt_X7_childWith 2 [] 2 [(0, .ref 40), (1, .int (nI h)), (2, .int (nI k)), (3, .int (nI 0))] [] μ rfl trivial ?_
  exact zs_childWith40_l hP hQ hh hk np 0 (by omega) (fun i hi => absurd hi (Nat.not_lt_zero i))
set_option maxRecDepth 100000 in
set_option maxHeartbeats 4000000 in
theorem zs_finder40_l {np : Nat} {srt stt bed : Nat → Nat} {R : Nat → Nat → Nat} {μ : zq_Me} (hP : zP40 np srt stt bed μ) (hQ : zQ40 np R μ) {h : Nat} (hh : h < 24) : ∀ (j k : Nat), k + j = np → (∀ i, i < k → (zfnd srt np R h) i = false) → zq_Wp zn_X7_finder 2 [(0, .ref 40), (1, .int (nI h)), (2, .int (nI k))] [] μ (zq_pi (zfI (zfnd srt np R h) np) μ) := by
  intro j
  induction j with
  | zero =>
    intro k hij hN9
    have hnp := hQ.1
    have he9 : k = np := by omega
    refine zq_go zt_X7_finder 5 [] (if (μ.1 6 5) ≤ (nI k) then 40 else 13) [(0, .ref 40), (1, .int (nI h)), (2, .int (nI k))] [] μ rfl trivial ?_
    rw [hQ.2.1]
    rw [if_pos (by rw [zn_le (by omega) (by omega)]; omega)]
    refine zq_go zt_X7_finder 1 [] 41 [(0, .ref 40), (1, .int (nI h)), (2, .int (nI k))] [.int (-1)] μ rfl trivial ?_
    have e9 : zfI (zfnd srt np R h) np = -1 := zfI_f (fun i hi => hN9 i (by omega))
    rw [e9]
    exact zq_retn zt_X7_finder rfl rfl (⟨rfl, rfl⟩)
  | succ j ih =>
    intro k hij hN9
    have hnp := hQ.1
    refine zq_go zt_X7_finder 5 [] (if (μ.1 6 5) ≤ (nI k) then 40 else 13) [(0, .ref 40), (1, .int (nI h)), (2, .int (nI k))] [] μ rfl trivial ?_
    rw [hQ.2.1]
    rw [if_neg (by rw [zn_le (by omega) (by omega)]; omega)]
    have hs2 := (hP.2.2 k (by omega)).2.1
    refine zq_go zt_X7_finder 2 [] 15 [(0, .ref 40), (1, .int (nI h)), (2, .int (nI k))] [.int (nI k), .ref 40] μ rfl trivial ?_
    refine zq_call zt_X7_finder [.ref 40, .int (nI k)] [] (zs_sortOf40 hP (show k < np by omega)) rfl rfl ?_
    rintro _ _ ⟨rfl, rfl⟩
    refine zq_go zt_X7_finder 2 [] (if ¬ (nI (srt k)) = (nI 2) then 34 else 22) [(0, .ref 40), (1, .int (nI h)), (2, .int (nI k))] [] μ rfl trivial ?_
    refine zq_ite (fun h24 => ?_) (fun h24 => ?_)
    · rw [zn_eq (by omega) (by decide)] at h24
      refine zq_go zt_X7_finder 2 [] 2 [(0, .ref 40), (1, .int (nI h)), (2, .int ((nI k) + (nI 1)))] [] μ rfl trivial ?_
      rw [zn_add k 1]
      exact ih (k + 1) (by omega) (zlt_s hN9 (by unfold zfnd; rw [decide_eq_false h24, Bool.false_and]))
    · have h2 : srt k = 2 := by
        rw [zn_eq (by omega) (by decide)] at h24
        omega
      refine zq_go zt_X7_finder 3 [] 25 [(0, .ref 40), (1, .int (nI h)), (2, .int (nI k))] [.int (nI k), .int (nI h), .ref 40] μ rfl trivial ?_
      refine zq_call zt_X7_finder [.ref 40, .int (nI h), .int (nI k)] [] (zs_childWith40 hP hQ hh (show k < np by omega)) rfl rfl ?_
      rintro _ _ ⟨rfl, rfl⟩
      refine zq_go zt_X7_finder 2 [] (if (zfI (zchw srt R h k) np) = (-1) then 34 else 32) [(0, .ref 40), (1, .int (nI h)), (2, .int (nI k))] [] μ rfl trivial ?_
      refine zq_ite (fun h36 => ?_) (fun h36 => ?_)
      · rw [zfI_m1 (by omega)] at h36
        refine zq_go zt_X7_finder 2 [] 2 [(0, .ref 40), (1, .int (nI h)), (2, .int ((nI k) + (nI 1)))] [] μ rfl trivial ?_
        rw [zn_add k 1]
        exact ih (k + 1) (by omega) (zlt_s hN9 (by unfold zfnd; rw [decide_eq_false h36, Bool.and_false]))
      · rw [zfI_m1 (by omega)] at h36
        have h7 := Classical.not_not.mp h36
        refine zq_go zt_X7_finder 1 [] 33 [(0, .ref 40), (1, .int (nI h)), (2, .int (nI k))] [.int (nI k)] μ rfl trivial ?_
        rw [zfI_t (p := zfnd srt np R h) (n := np) (k := k) (by omega) (by unfold zfnd; rw [decide_eq_true h2, decide_eq_true h7]; rfl) hN9]
        exact zq_retn zt_X7_finder rfl rfl (⟨rfl, rfl⟩)
set_option maxRecDepth 100000 in
set_option maxHeartbeats 4000000 in
theorem zs_finder40 {np : Nat} {srt stt bed : Nat → Nat} {R : Nat → Nat → Nat} {μ : zq_Me} (hP : zP40 np srt stt bed μ) (hQ : zQ40 np R μ) {h : Nat} (hh : h < 24) : zq_Wp zn_X7_finder 0 [(0, .ref 40), (1, .int (nI h))] [] μ (zq_pi (zfI (zfnd srt np R h) np) μ) := by
  refine zq_go zt_X7_finder 2 [] 2 [(0, .ref 40), (1, .int (nI h)), (2, .int (nI 0))] [] μ rfl trivial ?_
  exact zs_finder40_l hP hQ hh np 0 (by omega) (fun i hi => absurd hi (Nat.not_lt_zero i))
set_option maxRecDepth 100000 in
set_option maxHeartbeats 4000000 in
theorem zs_findingHour40_l {np : Nat} {srt stt bed : Nat → Nat} {R : Nat → Nat → Nat} {μ : zq_Me} (hP : zP40 np srt stt bed μ) (hQ : zQ40 np R μ) : ∀ (j h : Nat), h + j = 24 → (∀ i, i < h → (zfh srt np R) i = false) → zq_Wp zn_X7_findingHour 2 [(0, .ref 40), (1, .int (nI h))] [] μ (zq_pi (zfI (zfh srt np R) 24) μ) := by
  intro j
  induction j with
  | zero =>
    intro h hij hN9
    have hnp := hQ.1
    obtain rfl : h = 24 := by omega
    refine zq_go zt_X7_findingHour 3 [] (if (nI 24) ≤ (nI 24) then 25 else 8) [(0, .ref 40), (1, .int (nI 24))] [] μ rfl trivial ?_
    rw [if_pos (by decide)]
    refine zq_go zt_X7_findingHour 1 [] 26 [(0, .ref 40), (1, .int (nI 24))] [.int (-1)] μ rfl trivial ?_
    have e9 : zfI (zfh srt np R) 24 = -1 := zfI_f (fun i hi => hN9 i (by omega))
    rw [e9]
    exact zq_retn zt_X7_findingHour rfl rfl (⟨rfl, rfl⟩)
  | succ j ih =>
    intro h hij hN9
    have hnp := hQ.1
    refine zq_go zt_X7_findingHour 3 [] (if (nI 24) ≤ (nI h) then 25 else 8) [(0, .ref 40), (1, .int (nI h))] [] μ rfl trivial ?_
    rw [if_neg (by rw [zn_le (by omega) (by omega)]; omega)]
    refine zq_go zt_X7_findingHour 2 [] 10 [(0, .ref 40), (1, .int (nI h))] [.int (nI h), .ref 40] μ rfl trivial ?_
    refine zq_call zt_X7_findingHour [.ref 40, .int (nI h)] [] (zs_finder40 hP hQ (show h < 24 by omega)) rfl rfl ?_
    rintro _ _ ⟨rfl, rfl⟩
    refine zq_go zt_X7_findingHour 2 [] (if (zfI (zfnd srt np R h) np) = (-1) then 19 else 17) [(0, .ref 40), (1, .int (nI h))] [] μ rfl trivial ?_
    refine zq_ite (fun h21 => ?_) (fun h21 => ?_)
    · rw [zfI_m1 (by omega)] at h21
      refine zq_go zt_X7_findingHour 2 [] 2 [(0, .ref 40), (1, .int ((nI h) + (nI 1)))] [] μ rfl trivial ?_
      rw [zn_add h 1]
      exact ih (h + 1) (by omega) (zlt_s hN9 (by unfold zfh; exact decide_eq_false h21))
    · rw [zfI_m1 (by omega)] at h21
      have h7 := Classical.not_not.mp h21
      refine zq_go zt_X7_findingHour 1 [] 18 [(0, .ref 40), (1, .int (nI h))] [.int (nI h)] μ rfl trivial ?_
      rw [zfI_t (p := zfh srt np R) (n := 24) (k := h) (by omega) (by unfold zfh; exact decide_eq_true h7) hN9]
      exact zq_retn zt_X7_findingHour rfl rfl (⟨rfl, rfl⟩)
set_option maxRecDepth 100000 in
set_option maxHeartbeats 4000000 in
theorem zs_findingHour40 {np : Nat} {srt stt bed : Nat → Nat} {R : Nat → Nat → Nat} {μ : zq_Me} (hP : zP40 np srt stt bed μ) (hQ : zQ40 np R μ) : zq_Wp zn_X7_findingHour 0 [(0, .ref 40)] [] μ (zq_pi (zfI (zfh srt np R) 24) μ) := by
  refine zq_go zt_X7_findingHour 2 [] 2 [(0, .ref 40), (1, .int (nI 0))] [] μ rfl trivial ?_
  exact zs_findingHour40_l hP hQ 24 0 (by omega) (fun i hi => absurd hi (Nat.not_lt_zero i))
set_option maxRecDepth 100000 in
set_option maxHeartbeats 4000000 in
theorem zs_aloneNow_l {Q : zq_Post} {np : Nat} {R : Nat → Nat → Nat} {μ : zq_Me} (hQ : zQm np R μ) (kk : zq_Wp zn_X9_aloneNow 38 [(1, .int (nI (zm (fun p => zbi np R 23 p) np)))] [] μ Q) : ∀ (j k : Nat), k + j = np → zq_Wp zn_X9_aloneNow 4 [(0, .ref 50), (1, .int (nI (zm (fun p => zbi np R 23 p) k))), (2, .int (nI k))] [] μ Q := by
  intro j
  induction j with
  | zero =>
    intro k hij
    have hnp := hQ.1
    have he9 : k = np := by omega
    refine zq_go zt_X9_aloneNow 4 [] (if (μ.1 50 5) ≤ (nI k) then 38 else 12) [(0, .ref 50), (1, .int (nI (zm (fun p => zbi np R 23 p) k))), (2, .int (nI k))] [] μ rfl trivial ?_
    rw [hQ.2.1]
    rw [if_pos (by rw [zn_le (by omega) (by omega)]; omega)]
    rw [he9]
    exact zq_drp [1] [(1, .int (nI (zm (fun p => zbi np R 23 p) np)))] rfl kk
  | succ j ih =>
    intro k hij
    have hnp := hQ.1
    refine zq_go zt_X9_aloneNow 4 [] (if (μ.1 50 5) ≤ (nI k) then 38 else 12) [(0, .ref 50), (1, .int (nI (zm (fun p => zbi np R 23 p) k))), (2, .int (nI k))] [] μ rfl trivial ?_
    rw [hQ.2.1]
    rw [if_neg (by rw [zn_le (by omega) (by omega)]; omega)]
    refine zq_go zt_X9_aloneNow 4 [] 17 [(0, .ref 50), (1, .int (nI (zm (fun p => zbi np R 23 p) k))), (2, .int (nI k))] [.int (nI k), .int (nI 23), .ref 50, .int (nI (zm (fun p => zbi np R 23 p) k))] μ rfl trivial ?_
    refine zq_call zt_X9_aloneNow [.ref 50, .int (nI 23), .int (nI k)] [.int (nI (zm (fun p => zbi np R 23 p) k))] (zs_isByItself hQ (show 23 < 24 by decide) (show k < np by omega)) rfl rfl ?_
    rintro _ _ ⟨rfl, rfl⟩
    refine zq_go zt_X9_aloneNow 1 [] (if (zB (zbi np R 23 k)) = 0 then 29 else 23) [(0, .ref 50), (1, .int (nI (zm (fun p => zbi np R 23 p) k))), (2, .int (nI k))] [.int (nI (zm (fun p => zbi np R 23 p) k))] μ rfl trivial ?_
    refine zq_ite (fun h21 => ?_) (fun h21 => ?_)
    · have hq9 := zB_f h21
      refine zq_go zt_X9_aloneNow 5 [] 4 [(0, .ref 50), (1, .int ((nI (zm (fun p => zbi np R 23 p) k)) ||| (nI 0))), (2, .int ((nI k) + (nI 1)))] [] μ rfl trivial ?_
      rw [zn_add k 1]
      rw [zn_or, Nat.or_zero]
      have h9 := ih (k + 1) (by omega)
      rw [zm_f (p := fun p => zbi np R 23 p) (n := k) hq9] at h9
      exact h9
    · have hq9 := zB_t h21
      refine zq_go zt_X9_aloneNow 4 [] 30 [(0, .ref 50), (1, .int (nI (zm (fun p => zbi np R 23 p) k))), (2, .int (nI k))] [.int ((nI 1) <<< ((nI k) &&& 31)), .int (nI (zm (fun p => zbi np R 23 p) k))] μ rfl trivial ?_
      refine zq_go zt_X9_aloneNow 4 [] 4 [(0, .ref 50), (1, .int ((nI (zm (fun p => zbi np R 23 p) k)) ||| ((nI 1) <<< ((nI k) &&& 31)))), (2, .int ((nI k) + (nI 1)))] [] μ rfl trivial ?_
      rw [zn_add k 1]
      rw [zn_1shl (by omega), zn_or]
      have h9 := ih (k + 1) (by omega)
      rw [zm_t (p := fun p => zbi np R 23 p) (n := k) hq9] at h9
      exact h9
set_option maxRecDepth 100000 in
set_option maxHeartbeats 4000000 in
theorem zs_aloneNow {np : Nat} {R : Nat → Nat → Nat} {μ : zq_Me} (hQ : zQm np R μ) : zq_Wp zn_X9_aloneNow 0 [(0, .ref 50)] [] μ (zq_pi (nI (zal np R 23)) μ) := by
  refine zq_go zt_X9_aloneNow 4 [] 4 [(0, .ref 50), (1, .int (nI 0)), (2, .int (nI 0))] [] μ rfl trivial ?_
  refine zs_aloneNow_l hQ ?_ np 0 (by omega)
  refine zq_go zt_X9_aloneNow 1 [] 39 [(1, .int (nI (zm (fun p => zbi np R 23 p) np)))] [.int (nI (zm (fun p => zbi np R 23 p) np))] μ rfl trivial ?_
  exact zq_retn zt_X9_aloneNow rfl rfl (⟨rfl, rfl⟩)
set_option maxRecDepth 100000 in
set_option maxHeartbeats 4000000 in
theorem zs_hoursByItself_l {Q : zq_Post} {np : Nat} {R : Nat → Nat → Nat} {μ : zq_Me} (hQ : zQm np R μ) {p : Nat} (hp : p < np) (kk : zq_Wp zn_X9_hoursByItself 33 [(2, .int (nI (zc (fun h => zbi np R h p) 24)))] [] μ Q) : ∀ (j h : Nat), h + j = 24 → zq_Wp zn_X9_hoursByItself 4 [(0, .ref 50), (1, .int (nI p)), (2, .int (nI (zc (fun h => zbi np R h p) h))), (3, .int (nI h))] [] μ Q := by
  intro j
  induction j with
  | zero =>
    intro h hij
    obtain rfl : h = 24 := by omega
    refine zq_go zt_X9_hoursByItself 3 [] (if (nI 24) ≤ (nI 24) then 33 else 10) [(0, .ref 50), (1, .int (nI p)), (2, .int (nI (zc (fun h => zbi np R h p) 24))), (3, .int (nI 24))] [] μ rfl trivial ?_
    rw [if_pos (by decide)]
    exact zq_drp [2] [(2, .int (nI (zc (fun h => zbi np R h p) 24)))] rfl kk
  | succ j ih =>
    intro h hij
    refine zq_go zt_X9_hoursByItself 3 [] (if (nI 24) ≤ (nI h) then 33 else 10) [(0, .ref 50), (1, .int (nI p)), (2, .int (nI (zc (fun h => zbi np R h p) h))), (3, .int (nI h))] [] μ rfl trivial ?_
    rw [if_neg (by rw [zn_le (by omega) (by omega)]; omega)]
    refine zq_go zt_X9_hoursByItself 4 [] 14 [(0, .ref 50), (1, .int (nI p)), (2, .int (nI (zc (fun h => zbi np R h p) h))), (3, .int (nI h))] [.int (nI p), .int (nI h), .ref 50, .int (nI (zc (fun h => zbi np R h p) h))] μ rfl trivial ?_
    refine zq_call zt_X9_hoursByItself [.ref 50, .int (nI h), .int (nI p)] [.int (nI (zc (fun h => zbi np R h p) h))] (zs_isByItself hQ (show h < 24 by omega) hp) rfl rfl ?_
    rintro _ _ ⟨rfl, rfl⟩
    refine zq_go zt_X9_hoursByItself 1 [] (if (zB (zbi np R h p)) = 0 then 24 else 20) [(0, .ref 50), (1, .int (nI p)), (2, .int (nI (zc (fun h => zbi np R h p) h))), (3, .int (nI h))] [.int (nI (zc (fun h => zbi np R h p) h))] μ rfl trivial ?_
    refine zq_ite (fun h16 => ?_) (fun h16 => ?_)
    · have hq9 := zB_f h16
      refine zq_go zt_X9_hoursByItself 5 [] 4 [(0, .ref 50), (1, .int (nI p)), (2, .int ((nI (zc (fun h => zbi np R h p) h)) + (nI 0))), (3, .int ((nI h) + (nI 1)))] [] μ rfl trivial ?_
      rw [zn_add (zc (fun h => zbi np R h p) h) 0, zn_add h 1]
      have h9 := ih (h + 1) (by omega)
      rw [show zc (fun h => zbi np R h p) (h + 1) = zc (fun h => zbi np R h p) h + 0 from by show _ + (if zbi np R h p = true then 1 else 0) = _; rw [hq9]; rfl] at h9
      exact h9
    · have hq9 := zB_t h16
      refine zq_go zt_X9_hoursByItself 2 [] 25 [(0, .ref 50), (1, .int (nI p)), (2, .int (nI (zc (fun h => zbi np R h p) h))), (3, .int (nI h))] [.int (nI 1), .int (nI (zc (fun h => zbi np R h p) h))] μ rfl trivial ?_
      refine zq_go zt_X9_hoursByItself 4 [] 4 [(0, .ref 50), (1, .int (nI p)), (2, .int ((nI (zc (fun h => zbi np R h p) h)) + (nI 1))), (3, .int ((nI h) + (nI 1)))] [] μ rfl trivial ?_
      rw [zn_add (zc (fun h => zbi np R h p) h) 1, zn_add h 1]
      have h9 := ih (h + 1) (by omega)
      rw [show zc (fun h => zbi np R h p) (h + 1) = zc (fun h => zbi np R h p) h + 1 from by show _ + (if zbi np R h p = true then 1 else 0) = _; rw [hq9]; rfl] at h9
      exact h9
set_option maxRecDepth 100000 in
set_option maxHeartbeats 4000000 in
theorem zs_hoursByItself {np : Nat} {R : Nat → Nat → Nat} {μ : zq_Me} (hQ : zQm np R μ) {p : Nat} (hp : p < np) : zq_Wp zn_X9_hoursByItself 0 [(0, .ref 50), (1, .int (nI p))] [] μ (zq_pi (nI (zc (fun h => zbi np R h p) 24)) μ) := by
  refine zq_go zt_X9_hoursByItself 4 [] 4 [(0, .ref 50), (1, .int (nI p)), (2, .int (nI 0)), (3, .int (nI 0))] [] μ rfl trivial ?_
  refine zs_hoursByItself_l hQ hp ?_ 24 0 (by omega)
  refine zq_go zt_X9_hoursByItself 1 [] 34 [(2, .int (nI (zc (fun h => zbi np R h p) 24)))] [.int (nI (zc (fun h => zbi np R h p) 24))] μ rfl trivial ?_
  exact zq_retn zt_X9_hoursByItself rfl rfl (⟨rfl, rfl⟩)
set_option maxRecDepth 100000 in
set_option maxHeartbeats 4000000 in
theorem zs_mostAt_l {Q : zq_Post} {np : Nat} {R : Nat → Nat → Nat} {μ : zq_Me} (hQ : zQm np R μ) {h : Nat} (hh : h < 24) (kk : zq_Wp zn_X9_mostAt 41 [(2, .int (nI (zmx (zcnt np R h) 8)))] [] μ Q) : ∀ (j r : Nat), r + j = 8 → zq_Wp zn_X9_mostAt 4 [(0, .ref 50), (1, .int (nI h)), (2, .int (nI (zmx (zcnt np R h) r))), (3, .int (nI r))] [] μ Q := by
  intro j
  induction j with
  | zero =>
    intro r hij
    obtain rfl : r = 8 := by omega
    refine zq_go zt_X9_mostAt 3 [] (if (nI 8) ≤ (nI 8) then 41 else 10) [(0, .ref 50), (1, .int (nI h)), (2, .int (nI (zmx (zcnt np R h) 8))), (3, .int (nI 8))] [] μ rfl trivial ?_
    rw [if_pos (by decide)]
    exact zq_drp [2] [(2, .int (nI (zmx (zcnt np R h) 8)))] rfl kk
  | succ j ih =>
    intro r hij
    refine zq_go zt_X9_mostAt 3 [] (if (nI 8) ≤ (nI r) then 41 else 10) [(0, .ref 50), (1, .int (nI h)), (2, .int (nI (zmx (zcnt np R h) r))), (3, .int (nI r))] [] μ rfl trivial ?_
    rw [if_neg (by rw [zn_le (by omega) (by omega)]; omega)]
    have hm9 := zmx_le (zcnt_le np R h) r
    have hc9 := zcnt_le np R h r
    refine zq_go zt_X9_mostAt 4 [] 14 [(0, .ref 50), (1, .int (nI h)), (2, .int (nI (zmx (zcnt np R h) r))), (3, .int (nI r))] [.int (nI r), .int (nI h), .ref 50, .ref 50] μ rfl trivial ?_
    refine zq_call zt_X9_mostAt [.ref 50, .int (nI h), .int (nI r)] [.ref 50] (zs_inRoom hQ hh (show r < 2 ^ 31 by omega)) rfl rfl ?_
    rintro _ _ ⟨rfl, rfl⟩
    refine zq_call zt_X9_mostAt [.ref 50, .int (nI (zwho np R h r))] [] (zs_many (s := zwho np R h r) (Nat.lt_trans (zwho_lt hQ.1 R h r) (by decide)) μ) rfl rfl ?_
    rintro _ _ ⟨rfl, rfl⟩
    refine zq_go zt_X9_mostAt 4 [] (if (nI (zcnt np R h r)) ≤ (nI (zmx (zcnt np R h) r)) then 33 else 28) [(0, .ref 50), (1, .int (nI h)), (2, .int (nI (zmx (zcnt np R h) r))), (3, .int (nI r)), (4, .int (nI (zcnt np R h r)))] [] μ rfl trivial ?_
    refine zq_ite (fun h20 => ?_) (fun h20 => ?_)
    · rw [zn_le (by omega) (by omega)] at h20
      refine zq_go zt_X9_mostAt 4 [] 4 [(0, .ref 50), (1, .int (nI h)), (2, .int (nI (zmx (zcnt np R h) r))), (3, .int ((nI r) + (nI 1))), (4, .int (nI (zcnt np R h r)))] [] μ rfl trivial ?_
      rw [zn_add r 1]
      have e9 : zmx (zcnt np R h) (r + 1) = zmx (zcnt np R h) r := if_neg (by omega)
      have h9 := ih (r + 1) (by omega)
      rw [e9] at h9
      exact zq_drp [0, 1, 2, 3] _ rfl h9
    · rw [zn_le (by omega) (by omega)] at h20
      refine zq_go zt_X9_mostAt 2 [] 34 [(0, .ref 50), (1, .int (nI h)), (2, .int (nI (zmx (zcnt np R h) r))), (3, .int (nI r)), (4, .int (nI (zcnt np R h r)))] [.int (nI (zcnt np R h r))] μ rfl trivial ?_
      refine zq_go zt_X9_mostAt 3 [] 4 [(0, .ref 50), (1, .int (nI h)), (2, .int (nI (zcnt np R h r))), (3, .int ((nI r) + (nI 1))), (4, .int (nI (zcnt np R h r)))] [] μ rfl trivial ?_
      rw [zn_add r 1]
      have e9 : zmx (zcnt np R h) (r + 1) = zcnt np R h r := if_pos (by omega)
      have h9 := ih (r + 1) (by omega)
      rw [e9] at h9
      exact zq_drp [0, 1, 2, 3] _ rfl h9
set_option maxRecDepth 100000 in
set_option maxHeartbeats 4000000 in
theorem zs_mostAt {np : Nat} {R : Nat → Nat → Nat} {μ : zq_Me} (hQ : zQm np R μ) {h : Nat} (hh : h < 24) : zq_Wp zn_X9_mostAt 0 [(0, .ref 50), (1, .int (nI h))] [] μ (zq_pi (nI (zmo np R h)) μ) := by
  refine zq_go zt_X9_mostAt 4 [] 4 [(0, .ref 50), (1, .int (nI h)), (2, .int (nI 0)), (3, .int (nI 0))] [] μ rfl trivial ?_
  refine zs_mostAt_l hQ hh ?_ 8 0 (by omega)
  refine zq_go zt_X9_mostAt 1 [] 42 [(2, .int (nI (zmx (zcnt np R h) 8)))] [.int (nI (zmx (zcnt np R h) 8))] μ rfl trivial ?_
  exact zq_retn zt_X9_mostAt rfl rfl (⟨rfl, rfl⟩)
