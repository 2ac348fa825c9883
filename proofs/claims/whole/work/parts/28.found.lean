/-! ===== the reference's foundNow; how often the shut doors change ===== -/
def zfv (srt : Nat → Nat) (np : Nat) (R : Nat → Nat → Nat) (what : Int32) : Int32 :=
  if zf (zfh srt np R) 24 < 24 then
    (if what = 0 then nI (zf (zfh srt np R) 24) else if what = 1 then nI (zf (zfnd srt np R (zf (zfh srt np R) 24)) np) else nI (zf (zchw srt R (zf (zfh srt np R) 24) (zf (zfnd srt np R (zf (zfh srt np R) 24)) np)) np))
  else -1
theorem zfv_t {srt : Nat → Nat} {np : Nat} {R : Nat → Nat → Nat} {h k c : Nat} (hh : h < 24) (hk : k < np) (hc : c < np) (h2 : srt k = 2) (h1 : zchw srt R h k c = true) (mh : ∀ i, i < h → zfh srt np R i = false) (mk : ∀ i, i < k → zfnd srt np R h i = false) (mc : ∀ i, i < c → zchw srt R h k i = false) (what : Int32) : zfv srt np R what = if what = 0 then nI h else if what = 1 then nI k else nI c := by
  have e1 : zf (zchw srt R h k) np = c := zf_eq hc h1 mc
  have e2 : zf (zfnd srt np R h) np = k := zf_eq hk (by unfold zfnd; rw [decide_eq_true h2, decide_eq_true (by omega)]; rfl) mk
  have e3 : zf (zfh srt np R) 24 = h := zf_eq hh (by unfold zfh; exact decide_eq_true (by omega)) mh
  unfold zfv
  rw [e3, if_pos hh, e2, e1]
theorem zfv_f {srt : Nat → Nat} {np : Nat} {R : Nat → Nat → Nat} (mh : ∀ i, i < 24 → zfh srt np R i = false) (what : Int32) : zfv srt np R what = -1 := by
  unfold zfv
  rw [if_neg]
  rw [zf_none mh]
  omega
/-- the changes are no more than the events that shut a door -/
theorem zsp_le {ek eh en : Nat → Nat} {wo ne : Nat} : ∀ h, zsp (zSh ek eh en wo ne) h ≤ zc (fun e => decide (ek e ≠ 0) && decide (1 ≤ eh e) && decide (eh e ≤ h)) ne
  | 0 => Nat.zero_le _
  | h + 1 => by
    have ih := zsp_le (ek := ek) (eh := eh) (en := en) (wo := wo) (ne := ne) h
    have hm : zc (fun e => decide (ek e ≠ 0) && decide (1 ≤ eh e) && decide (eh e ≤ h)) ne ≤ zc (fun e => decide (ek e ≠ 0) && decide (1 ≤ eh e) && decide (eh e ≤ h + 1)) ne := zc_mono (fun i _ hi => by
      simp only [Bool.and_eq_true, decide_eq_true_eq] at hi ⊢
      exact ⟨hi.1, by omega⟩)
    show zsp _ h + _ ≤ _
    by_cases hs : zSh ek eh en wo ne (h + 1) = zSh ek eh en wo ne h
    · rw [if_pos hs]; omega
    · rw [if_neg hs]
      have hex : ∃ e, e < ne ∧ eh e = h + 1 ∧ ek e ≠ 0 := by
        refine Classical.byContradiction (fun hno => hs ?_)
        have same : ∀ n, n ≤ ne → (zh_e ek eh en wo (h + 1) n (zh ek eh en wo ne (h + 1))).2 = (zh ek eh en wo ne (h + 1)).2 := by
          intro n
          induction n with
          | zero => exact fun _ => rfl
          | succ n ihn =>
            intro hn
            unfold zh_e
            split
            · rename_i hc
              split
              · exact ihn (by omega)
              · rename_i hk
                exact absurd ⟨n, by omega, hc.1, hk⟩ hno
            · exact ihn (by omega)
        exact same ne (Nat.le_refl _)
      obtain ⟨e, e1, e2, e3⟩ := hex
      have := zc_more (p := fun e => decide (ek e ≠ 0) && decide (1 ≤ eh e) && decide (eh e ≤ h)) (q := fun e => decide (ek e ≠ 0) && decide (1 ≤ eh e) && decide (eh e ≤ h + 1)) (n := ne) (fun i _ hi => by
        simp only [Bool.and_eq_true, decide_eq_true_eq] at hi ⊢
        exact ⟨hi.1, by omega⟩) ⟨e, e1, by simp only [Bool.and_eq_false_iff, decide_eq_false_iff_not]; exact Or.inr (by omega), by simp only [Bool.and_eq_true, decide_eq_true_eq]; exact ⟨⟨e3, by omega⟩, by omega⟩⟩
      omega
theorem zsp_8 {ek eh en : Nat → Nat} {wo ne : Nat} (h : ne ≤ 8 ∨ (ne = 9 ∧ ek 8 = 0)) : zsp (zSh ek eh en wo ne) 23 ≤ 8 := by
  have h1 := zsp_le (ek := ek) (eh := eh) (en := en) (wo := wo) (ne := ne) 23
  rcases h with h | ⟨h, h8⟩
  · have := zc_le (fun e => decide (ek e ≠ 0) && decide (1 ≤ eh e) && decide (eh e ≤ 23)) ne
    omega
  · subst h
    have h2 : zc (fun e => decide (ek e ≠ 0) && decide (1 ≤ eh e) && decide (eh e ≤ 23)) 9 = zc (fun e => decide (ek e ≠ 0) && decide (1 ≤ eh e) && decide (eh e ≤ 23)) 8 + (if (decide (ek 8 ≠ 0) && decide (1 ≤ eh 8) && decide (eh 8 ≤ 23)) = true then 1 else 0) := rfl
    rw [h8] at h2
    have h3 := zc_le (fun e => decide (ek e ≠ 0) && decide (1 ≤ eh e) && decide (eh e ≤ 23)) 8
    have h4 : (if (decide ((0 : Nat) ≠ 0) && decide (1 ≤ eh 8) && decide (eh 8 ≤ 23)) = true then 1 else 0) = 0 := by simp
    omega
set_option maxRecDepth 100000 in
set_option maxHeartbeats 4000000 in
theorem zs_foundNow_c {np : Nat} {srt stt bed : Nat → Nat} {R : Nat → Nat → Nat} {μ : zq_Me} (hP : zPm np srt stt bed μ) (hQ : zQm np R μ) (what : Int32) {h k : Nat} (hh : h < 24) (hk : k < np) (mh : ∀ i, i < h → zfh srt np R i = false) (mk : ∀ i, i < k → zfnd srt np R h i = false) (hk2s : srt k = 2) (kk : (∀ i, i < np → zchw srt R h k i = false) → zq_Wp zn_X9_foundNow 103 [(0, .ref 50), (1, .int what), (2, .int (nI h)), (3, .int (nI k))] [] μ (zq_pi (zfv srt np R what) μ)) : ∀ (j c : Nat), c + j = np → (∀ i, i < c → zchw srt R h k i = false) → zq_Wp zn_X9_foundNow 21 [(0, .ref 50), (1, .int what), (2, .int (nI h)), (3, .int (nI k)), (4, .int (nI c))] [] μ (zq_pi (zfv srt np R what) μ) := by
  intro j
  induction j with
  | zero =>
    intro c hij mc
    have hnp := hQ.1
    have he9 : c = np := by omega
    refine zq_go zt_X9_foundNow 4 [] (if (μ.1 50 5) ≤ (nI c) then 103 else 30) [(0, .ref 50), (1, .int what), (2, .int (nI h)), (3, .int (nI k)), (4, .int (nI c))] [] μ rfl trivial ?_
    rw [hQ.2.1]
    rw [if_pos (by rw [zn_le (by omega) (by omega)]; omega)]
    exact zq_drp [0, 1, 2, 3] [(0, .ref 50), (1, .int what), (2, .int (nI h)), (3, .int (nI k))] rfl (kk (fun i hi => mc i (by omega)))
  | succ j ih =>
    intro c hij mc
    have hnp := hQ.1
    obtain ⟨hk1, hk2, -⟩ := hP.2.2 k hk
    obtain ⟨hc1, hc2, -⟩ := hP.2.2 c (by omega)
    obtain ⟨hrk0, hrk8⟩ := hQ.2.2 k h hk hh
    obtain ⟨hrc0, hrc8⟩ := hQ.2.2 c h (by omega) hh
    have hrk : μ.1 66 ((8 * h) + k) = nI (R k h) := hrk0
    have hrc : μ.1 66 ((8 * h) + c) = nI (R c h) := hrc0
    refine zq_go zt_X9_foundNow 4 [] (if (μ.1 50 5) ≤ (nI c) then 103 else 30) [(0, .ref 50), (1, .int what), (2, .int (nI h)), (3, .int (nI k)), (4, .int (nI c))] [] μ rfl trivial ?_
    rw [hQ.2.1]
    rw [if_neg (by rw [zn_le (by omega) (by omega)]; omega)]
    refine zq_go zt_X9_foundNow 6 [vp_in (nI k) 9] (if ¬ (μ.1 55 ((nI k).toNatClampNeg)) = (nI 2) then 97 else 40) [(0, .ref 50), (1, .int what), (2, .int (nI h)), (3, .int (nI k)), (4, .int (nI c))] [] μ rfl ⟨zn_in (k := k) rfl (by omega) (by decide), trivial⟩ ?_
    rw [zn_cl (n := k) (by omega), hk1]
    refine zq_ite (fun h24 => ?_) (fun h24 => ?_)
    · rw [zn_eq (by omega) (by decide)] at h24
      refine zq_go zt_X9_foundNow 2 [] 21 [(0, .ref 50), (1, .int what), (2, .int (nI h)), (3, .int (nI k)), (4, .int ((nI c) + (nI 1)))] [] μ rfl trivial ?_
      rw [zn_add c 1]
      exact absurd hk2s h24
    · have h2 : srt k = 2 := by
        rw [zn_eq (by omega) (by decide)] at h24
        omega
      refine zq_go zt_X9_foundNow 6 [vp_in (nI c) 9] (if ¬ (μ.1 55 ((nI c).toNatClampNeg)) = (nI 1) then 97 else 51) [(0, .ref 50), (1, .int what), (2, .int (nI h)), (3, .int (nI k)), (4, .int (nI c))] [] μ rfl ⟨zn_in (k := c) rfl (by omega) (by decide), trivial⟩ ?_
      rw [zn_cl (n := c) (by omega), hc1]
      refine zq_ite (fun h34 => ?_) (fun h34 => ?_)
      · rw [zn_eq (by omega) (by decide)] at h34
        refine zq_go zt_X9_foundNow 2 [] 21 [(0, .ref 50), (1, .int what), (2, .int (nI h)), (3, .int (nI k)), (4, .int ((nI c) + (nI 1)))] [] μ rfl trivial ?_
        rw [zn_add c 1]
        exact ih (c + 1) (by omega) (zlt_s mc (by unfold zchw; rw [decide_eq_false h34, Bool.false_and]))
      · have h1 : srt c = 1 := by
          rw [zn_eq (by omega) (by decide)] at h34
          omega
        refine zq_go zt_X9_foundNow 17 [vp_in (((nI 8) * (nI h)) + (nI k)) 192, vp_in (((nI 8) * (nI h)) + (nI c)) 192] (if ¬ (μ.1 66 ((((nI 8) * (nI h)) + (nI k)).toNatClampNeg)) = (μ.1 66 ((((nI 8) * (nI h)) + (nI c)).toNatClampNeg)) then 97 else 77) [(0, .ref 50), (1, .int what), (2, .int (nI h)), (3, .int (nI k)), (4, .int (nI c))] [] μ rfl ⟨zn_in (k := (8 * h) + k) (by rw [zn_mul 8 h, zn_add (8 * h) k]) (by omega) (by decide), ⟨zn_in (k := (8 * h) + c) (by rw [zn_mul 8 h, zn_add (8 * h) c]) (by omega) (by decide), trivial⟩⟩ ?_
        rw [zn_mul 8 h, zn_add (8 * h) k, zn_cl (n := (8 * h) + k) (by omega), hrk, zn_add (8 * h) c, zn_cl (n := (8 * h) + c) (by omega), hrc]
        refine zq_ite (fun h44 => ?_) (fun h44 => ?_)
        · rw [zn_eq (by omega) (by omega)] at h44
          refine zq_go zt_X9_foundNow 2 [] 21 [(0, .ref 50), (1, .int what), (2, .int (nI h)), (3, .int (nI k)), (4, .int ((nI c) + (nI 1)))] [] μ rfl trivial ?_
          rw [zn_add c 1]
          exact ih (c + 1) (by omega) (zlt_s mc (by unfold zchw; rw [decide_eq_false (show ¬ R c h = R k h from fun e => h44 e.symm), Bool.and_false]))
        · have h7 : R k h = R c h := by
            rw [zn_eq (by omega) (by omega)] at h44
            omega
          have hz : zchw srt R h k c = true := by unfold zchw; rw [decide_eq_true h1, decide_eq_true h7.symm]; rfl
          have e9 := zfv_t (np := np) hh hk (show c < np by omega) h2 hz mh mk mc what
          refine zq_go zt_X9_foundNow 2 [] (if ¬ what = 0 then 85 else 81) [(0, .ref 50), (1, .int what), (2, .int (nI h)), (3, .int (nI k)), (4, .int (nI c))] [] μ rfl trivial ?_
          refine zq_ite (fun h55 => ?_) (fun h55 => ?_)
          · refine zq_go zt_X9_foundNow 3 [] (if ¬ what = (nI 1) then 94 else 90) [(0, .ref 50), (1, .int what), (2, .int (nI h)), (3, .int (nI k)), (4, .int (nI c))] [] μ rfl trivial ?_
            refine zq_ite (fun h57 => ?_) (fun h57 => ?_)
            · refine zq_go zt_X9_foundNow 1 [] 96 [(0, .ref 50), (1, .int what), (2, .int (nI h)), (3, .int (nI k)), (4, .int (nI c))] [.int (nI c)] μ rfl trivial ?_
              rw [if_neg h55, if_neg (show ¬ what = 1 from h57)] at e9
              rw [← e9]
              exact zq_retn zt_X9_foundNow rfl rfl (⟨rfl, rfl⟩)
            · refine zq_go zt_X9_foundNow 2 [] 96 [(0, .ref 50), (1, .int what), (2, .int (nI h)), (3, .int (nI k)), (4, .int (nI c))] [.int (nI k)] μ rfl trivial ?_
              rw [if_neg h55, if_pos (show what = 1 from Classical.not_not.mp h57)] at e9
              rw [← e9]
              exact zq_retn zt_X9_foundNow rfl rfl (⟨rfl, rfl⟩)
          · refine zq_go zt_X9_foundNow 2 [] 96 [(0, .ref 50), (1, .int what), (2, .int (nI h)), (3, .int (nI k)), (4, .int (nI c))] [.int (nI h)] μ rfl trivial ?_
            rw [if_pos (Classical.not_not.mp h55)] at e9
            rw [← e9]
            exact zq_retn zt_X9_foundNow rfl rfl (⟨rfl, rfl⟩)
set_option maxRecDepth 100000 in
set_option maxHeartbeats 4000000 in
theorem zs_foundNow_n {np : Nat} {srt stt bed : Nat → Nat} {R : Nat → Nat → Nat} {μ : zq_Me} (hP : zPm np srt stt bed μ) (hQ : zQm np R μ) (what : Int32) {h k : Nat} (hk : k < np) (hk2n : ¬ srt k = 2) (kk : zq_Wp zn_X9_foundNow 103 [(0, .ref 50), (1, .int what), (2, .int (nI h)), (3, .int (nI k))] [] μ (zq_pi (zfv srt np R what) μ)) : ∀ (j c : Nat), c + j = np → zq_Wp zn_X9_foundNow 21 [(0, .ref 50), (1, .int what), (2, .int (nI h)), (3, .int (nI k)), (4, .int (nI c))] [] μ (zq_pi (zfv srt np R what) μ) := by
  intro j
  induction j with
  | zero =>
    intro c hij
    have hnp := hQ.1
    have he9 : c = np := by omega
    refine zq_go zt_X9_foundNow 4 [] (if (μ.1 50 5) ≤ (nI c) then 103 else 30) [(0, .ref 50), (1, .int what), (2, .int (nI h)), (3, .int (nI k)), (4, .int (nI c))] [] μ rfl trivial ?_
    rw [hQ.2.1]
    rw [if_pos (by rw [zn_le (by omega) (by omega)]; omega)]
    exact zq_drp [0, 1, 2, 3] [(0, .ref 50), (1, .int what), (2, .int (nI h)), (3, .int (nI k))] rfl kk
  | succ j ih =>
    intro c hij
    have hnp := hQ.1
    obtain ⟨hk1, hk2, -⟩ := hP.2.2 k hk
    refine zq_go zt_X9_foundNow 4 [] (if (μ.1 50 5) ≤ (nI c) then 103 else 30) [(0, .ref 50), (1, .int what), (2, .int (nI h)), (3, .int (nI k)), (4, .int (nI c))] [] μ rfl trivial ?_
    rw [hQ.2.1]
    rw [if_neg (by rw [zn_le (by omega) (by omega)]; omega)]
    refine zq_go zt_X9_foundNow 6 [vp_in (nI k) 9] (if ¬ (μ.1 55 ((nI k).toNatClampNeg)) = (nI 2) then 97 else 40) [(0, .ref 50), (1, .int what), (2, .int (nI h)), (3, .int (nI k)), (4, .int (nI c))] [] μ rfl ⟨zn_in (k := k) rfl (by omega) (by decide), trivial⟩ ?_
    rw [zn_cl (n := k) (by omega), hk1]
    rw [if_pos (by rw [zn_eq (by omega) (by decide)]; exact hk2n)]
    refine zq_go zt_X9_foundNow 2 [] 21 [(0, .ref 50), (1, .int what), (2, .int (nI h)), (3, .int (nI k)), (4, .int ((nI c) + (nI 1)))] [] μ rfl trivial ?_
    rw [zn_add c 1]
    exact ih (c + 1) (by omega)
set_option maxRecDepth 100000 in
set_option maxHeartbeats 4000000 in
theorem zs_foundNow_k {np : Nat} {srt stt bed : Nat → Nat} {R : Nat → Nat → Nat} {μ : zq_Me} (hP : zPm np srt stt bed μ) (hQ : zQm np R μ) (what : Int32) {h : Nat} (hh : h < 24) (mh : ∀ i, i < h → zfh srt np R i = false) (kk : (∀ i, i < np → zfnd srt np R h i = false) → zq_Wp zn_X9_foundNow 109 [(0, .ref 50), (1, .int what), (2, .int (nI h))] [] μ (zq_pi (zfv srt np R what) μ)) : ∀ (j k : Nat), k + j = np → (∀ i, i < k → zfnd srt np R h i = false) → zq_Wp zn_X9_foundNow 10 [(0, .ref 50), (1, .int what), (2, .int (nI h)), (3, .int (nI k))] [] μ (zq_pi (zfv srt np R what) μ) := by
  intro j
  induction j with
  | zero =>
    intro k hij mk
    have hnp := hQ.1
    have he9 : k = np := by omega
    refine zq_go zt_X9_foundNow 4 [] (if (μ.1 50 5) ≤ (nI k) then 109 else 18) [(0, .ref 50), (1, .int what), (2, .int (nI h)), (3, .int (nI k))] [] μ rfl trivial ?_
    rw [hQ.2.1]
    rw [if_pos (by rw [zn_le (by omega) (by omega)]; omega)]
    exact zq_drp [0, 1, 2] [(0, .ref 50), (1, .int what), (2, .int (nI h))] rfl (kk (fun i hi => mk i (by omega)))
  | succ j ih =>
    intro k hij mk
    have hnp := hQ.1
    have hk : k < np := by omega
    refine zq_go zt_X9_foundNow 4 [] (if (μ.1 50 5) ≤ (nI k) then 109 else 18) [(0, .ref 50), (1, .int what), (2, .int (nI h)), (3, .int (nI k))] [] μ rfl trivial ?_
    rw [hQ.2.1]
    rw [if_neg (by rw [zn_le (by omega) (by omega)]; omega)]
    refine zq_go zt_X9_foundNow 2 [] 21 [(0, .ref 50), (1, .int what), (2, .int (nI h)), (3, .int (nI k)), (4, .int (nI 0))] [] μ rfl trivial ?_
    by_cases h2 : srt k = 2
    · refine zs_foundNow_c hP hQ what hh hk mh mk h2 (fun mc => ?_) np 0 (by omega) (fun i hi => absurd hi (Nat.not_lt_zero i))
      refine zq_go zt_X9_foundNow 2 [] 10 [(0, .ref 50), (1, .int what), (2, .int (nI h)), (3, .int ((nI k) + (nI 1)))] [] μ rfl trivial ?_
      rw [zn_add k 1]
      exact ih (k + 1) (by omega) (zlt_s mk (by unfold zfnd; rw [zf_none mc, decide_eq_false (show ¬ np < np by omega), Bool.and_false]))
    · refine zs_foundNow_n hP hQ what hk h2 ?_ np 0 (by omega)
      refine zq_go zt_X9_foundNow 2 [] 10 [(0, .ref 50), (1, .int what), (2, .int (nI h)), (3, .int ((nI k) + (nI 1)))] [] μ rfl trivial ?_
      rw [zn_add k 1]
      exact ih (k + 1) (by omega) (zlt_s mk (by unfold zfnd; rw [decide_eq_false h2, Bool.false_and]))
set_option maxRecDepth 100000 in
set_option maxHeartbeats 4000000 in
theorem zs_foundNow_h {np : Nat} {srt stt bed : Nat → Nat} {R : Nat → Nat → Nat} {μ : zq_Me} (hP : zPm np srt stt bed μ) (hQ : zQm np R μ) (what : Int32) : ∀ (j h : Nat), h + j = 24 → (∀ i, i < h → zfh srt np R i = false) → zq_Wp zn_X9_foundNow 2 [(0, .ref 50), (1, .int what), (2, .int (nI h))] [] μ (zq_pi (zfv srt np R what) μ) := by
  intro j
  induction j with
  | zero =>
    intro h hij mh
    obtain rfl : h = 24 := by omega
    refine zq_go zt_X9_foundNow 3 [] (if (nI 24) ≤ (nI 24) then 115 else 8) [(0, .ref 50), (1, .int what), (2, .int (nI 24))] [] μ rfl trivial ?_
    rw [if_pos (by decide)]
    refine zq_go zt_X9_foundNow 1 [] 116 [(0, .ref 50), (1, .int what), (2, .int (nI 24))] [.int (-1)] μ rfl trivial ?_
    rw [← zfv_f mh what]
    exact zq_retn zt_X9_foundNow rfl rfl (⟨rfl, rfl⟩)
  | succ j ih =>
    intro h hij mh
    refine zq_go zt_X9_foundNow 3 [] (if (nI 24) ≤ (nI h) then 115 else 8) [(0, .ref 50), (1, .int what), (2, .int (nI h))] [] μ rfl trivial ?_
    rw [if_neg (by rw [zn_le (by omega) (by omega)]; omega)]
    refine zq_go zt_X9_foundNow 2 [] 10 [(0, .ref 50), (1, .int what), (2, .int (nI h)), (3, .int (nI 0))] [] μ rfl trivial ?_
    refine zs_foundNow_k hP hQ what (show h < 24 by omega) mh (fun mk => ?_) np 0 (by omega) (fun i hi => absurd hi (Nat.not_lt_zero i))
    refine zq_go zt_X9_foundNow 2 [] 2 [(0, .ref 50), (1, .int what), (2, .int ((nI h) + (nI 1)))] [] μ rfl trivial ?_
    rw [zn_add h 1]
    exact ih (h + 1) (by omega) (zlt_s mh (by unfold zfh; rw [zf_none mk]; exact decide_eq_false (by omega)))
set_option maxRecDepth 100000 in
set_option maxHeartbeats 4000000 in
theorem zs_foundNow {np : Nat} {srt stt bed : Nat → Nat} {R : Nat → Nat → Nat} {μ : zq_Me} (hP : zPm np srt stt bed μ) (hQ : zQm np R μ) (what : Int32) : zq_Wp zn_X9_foundNow 0 [(0, .ref 50), (1, .int what)] [] μ (zq_pi (zfv srt np R what) μ) := by
  refine zq_go zt_X9_foundNow 2 [] 2 [(0, .ref 50), (1, .int what), (2, .int (nI 0))] [] μ rfl trivial ?_
  exact zs_foundNow_h hP hQ what 24 0 (by omega) (fun i hi => absurd hi (Nat.not_lt_zero i))
