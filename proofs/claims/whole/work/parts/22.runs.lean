/-! ===== the reference: runs ===== -/
/-- what a run of the reference leaves: rooms and far tables -/
def zRm (nd np ld : Nat) (o1 o2 srt stt bed ek eh en : Nat → Nat) (wo ne : Nat) (μ : zq_Me) : Prop := (∀ p h, p < np → h < 24 → μ.1 66 (8 * h + p) = nI (zR (zNx nd o1 o2 (zSh ek eh en wo ne)) srt stt bed (zHm ek eh en wo ne) ld np p h)) ∧ ∀ h, h < 24 → zT (zg_adj o1 o2 (zSh ek eh en wo ne h) nd) (64 * h) μ
set_option maxRecDepth 100000 in
set_option maxHeartbeats 4000000 in
theorem zs_runs_h {Q : zq_Post} {nd ne wo : Nat} {o1 o2 ek eh en : Nat → Nat} {μ0 : zq_Me} (hD0 : zDm nd o1 o2 μ0) (hw : wo < 2 ^ 31) (hE0 : zEv 50 15 61 62 63 ne ek eh en μ0) (hwo0 : μ0.1 50 19 = nI wo) (kk : ∀ μ : zq_Me, (zq_fr [50, 64, 65] μ0 μ ∧ μ.1 50 20 = zdn (zh ek eh en wo ne 24).1 ∧ μ.1 50 21 = nI (zh ek eh en wo ne 24).2 ∧ True ∧ (∀ i, i ≠ 20 → i ≠ 21 → μ.1 50 i = μ0.1 50 i) ∧ ∀ i, i < 24 → μ.1 64 i = zdn (zHm ek eh en wo ne i) ∧ zT (zg_adj o1 o2 (zSh ek eh en wo ne i) nd) (64 * i) μ) → zq_Wp zn_X9_runs 34 [(0, .ref 50)] [] μ Q) : ∀ (j h : Nat) (μ : zq_Me), h + j = 24 → (zq_fr [50, 64, 65] μ0 μ ∧ μ.1 50 20 = zdn (zh ek eh en wo ne h).1 ∧ μ.1 50 21 = nI (zh ek eh en wo ne h).2 ∧ True ∧ (∀ i, i ≠ 20 → i ≠ 21 → μ.1 50 i = μ0.1 50 i) ∧ ∀ i, i < h → μ.1 64 i = zdn (zHm ek eh en wo ne i) ∧ zT (zg_adj o1 o2 (zSh ek eh en wo ne i) nd) (64 * i) μ) → zq_Wp zn_X9_runs 12 [(0, .ref 50), (1, .int (nI h))] [] μ Q := by
  intro j
  induction j with
  | zero =>
    intro h μ hij hI
    obtain rfl : h = 24 := by omega
    refine zq_go zt_X9_runs 3 [] (if (nI 24) ≤ (nI 24) then 34 else 18) [(0, .ref 50), (1, .int (nI 24))] [] μ rfl trivial ?_
    rw [if_pos (by decide)]
    exact zq_drp [0] [(0, .ref 50)] rfl (kk μ hI)
  | succ j ih =>
    intro h μ hij hI
    obtain ⟨hf, h20, h21, hr, hsl, hi9⟩ := hI
    have hE : zEv 50 15 61 62 63 ne ek eh en μ := ⟨hE0.1, by rw [hsl 15 (by decide) (by decide)]; exact hE0.2.1, fun e he => by rw [hf.a (b := 61) (by decide), hf.a (b := 62) (by decide), hf.a (b := 63) (by decide)]; exact hE0.2.2 e he⟩
    have hwo : μ.1 50 19 = nI wo := by rw [hsl 19 (by decide) (by decide)]; exact hwo0
    refine zq_go zt_X9_runs 3 [] (if (nI 24) ≤ (nI h) then 34 else 18) [(0, .ref 50), (1, .int (nI h))] [] μ rfl trivial ?_
    rw [if_neg (by rw [zn_le (by omega) (by omega)]; omega)]
    refine zq_go zt_X9_runs 2 [] 20 [(0, .ref 50), (1, .int (nI h))] [.int (nI h), .ref 50] μ rfl trivial ?_
    refine zq_call zt_X9_runs [.ref 50, .int (nI h)] [] (zs_bef hw hE hwo (show h < 24 by omega) (zh_lt hE.n h) h20 h21) rfl rfl ?_
    rintro _ μ1 ⟨rfl, g1, g20, g21, gr, gsl, gh, gho⟩
    have e9 : zh_e ek eh en wo h ne (zh ek eh en wo ne h) = zh ek eh en wo ne (h + 1) := rfl
    rw [e9] at g20 g21 gh
    have hD1 : zDm nd o1 o2 μ1 := ⟨hD0.1, by rw [gsl 2 (by decide) (by decide), hsl 2 (by decide) (by decide)]; exact hD0.2.1, fun e he => by rw [g1.a (b := 53) (by decide), hf.a (b := 53) (by decide)]; exact hD0.2.2.1 e he, fun e he => by rw [g1.a (b := 54) (by decide), hf.a (b := 54) (by decide)]; exact hD0.2.2.2 e he⟩
    refine zq_go zt_X9_runs 2 [] 25 [(0, .ref 50), (1, .int (nI h))] [.int (nI h), .ref 50] μ1 rfl trivial ?_
    refine zq_call zt_X9_runs [.ref 50, .int (nI h)] [] (zs_measures (show h < 24 by omega) hD1 g21 (Nat.lt_trans (zh_lt (wo := wo) (eh := eh) hE0.n (h + 1)).2 (by decide))) rfl rfl ?_
    rintro _ μ2 ⟨rfl, g2, gm, gmo⟩
    refine zq_go zt_X9_runs 2 [] 12 [(0, .ref 50), (1, .int ((nI h) + (nI 1)))] [] μ2 rfl trivial ?_
    rw [zn_add h 1]
    refine ih (h + 1) μ2 (by omega) ⟨(hf.tr (g1.wk (by simp))).tr (g2.wk (by simp)), by rw [g2.a (b := 50) (by decide)]; exact g20, by rw [g2.a (b := 50) (by decide)]; exact g21, trivial, fun i h20 h21 => by rw [g2.a (b := 50) (by decide), gsl i h20 h21]; exact hsl i h20 h21, fun i hi => ?_⟩
    · by_cases h8 : i = h
      · subst h8
        exact ⟨by rw [g2.a (b := 64) (by decide)]; exact gh, fun x c hx hc => gm x c hx hc⟩
      · obtain ⟨a1, a2⟩ := hi9 i (by omega)
        refine ⟨by rw [g2.a (b := 64) (by decide), gho i h8]; exact a1, fun x c hx hc => ?_⟩
        rw [gmo _ (by omega), g1.a (b := 65) (by decide)]
        exact a2 x c hx hc
set_option maxRecDepth 100000 in
set_option maxHeartbeats 4000000 in
theorem zs_runs_a {Q : zq_Post} {nd np ne wo ld : Nat} {o1 o2 srt stt bed ek eh en : Nat → Nat} {μ0 : zq_Me} (hl9 : ld ≤ 9) (hn : zEn ne ek en) (hP0 : zPm np srt stt bed μ0) (hld0 : μ0.1 50 14 = nI ld) (hH0 : ∀ i, i < 24 → μ0.1 64 i = zdn (zHm ek eh en wo ne i)) (hT0 : ∀ i, i < 24 → zT (zg_adj o1 o2 (zSh ek eh en wo ne i) nd) (64 * i) μ0) (kk : ∀ μ : zq_Me, (zq_fr [66] μ0 μ ∧ ∀ q h, q < np → q < np ∧ srt q ≠ 2 → h < 24 → μ.1 66 (8 * h + q) = nI (zR (zNx nd o1 o2 (zSh ek eh en wo ne)) srt stt bed (zHm ek eh en wo ne) ld np q h)) → zq_Wp zn_X9_runs 71 [(0, .ref 50), (1, .int (zdn (zcx srt np)))] [] μ Q) : ∀ (j n : Nat) (μ : zq_Me), n + j = np → (zq_fr [66] μ0 μ ∧ ∀ q h, q < np → q < n ∧ srt q ≠ 2 → h < 24 → μ.1 66 (8 * h + q) = nI (zR (zNx nd o1 o2 (zSh ek eh en wo ne)) srt stt bed (zHm ek eh en wo ne) ld np q h)) → zq_Wp zn_X9_runs 41 [(0, .ref 50), (1, .int (zdn (zcx srt np))), (2, .int (nI n))] [] μ Q := by
  intro j
  induction j with
  | zero =>
    intro n μ hij hI
    obtain rfl : n = np := by omega
    have hP := hP0.fr hI.1 (by decide)
    have hn9 := hP.1
    refine zq_go zt_X9_runs 4 [] (if (μ.1 50 5) ≤ (nI n) then 71 else 49) [(0, .ref 50), (1, .int (zdn (zcx srt n))), (2, .int (nI n))] [] μ rfl trivial ?_
    rw [hP.2.1]
    rw [if_pos (by rw [zn_le (by omega) (by omega)]; omega)]
    exact zq_drp [0, 1] [(0, .ref 50), (1, .int (zdn (zcx srt n)))] rfl (kk μ hI)
  | succ j ih =>
    intro n μ hij hI
    have hP := hP0.fr hI.1 (by decide)
    have hn9 := hP.1
    obtain ⟨q1, hs2, -⟩ := hP.2.2 n (by omega)
    refine zq_go zt_X9_runs 4 [] (if (μ.1 50 5) ≤ (nI n) then 71 else 49) [(0, .ref 50), (1, .int (zdn (zcx srt np))), (2, .int (nI n))] [] μ rfl trivial ?_
    rw [hP.2.1]
    rw [if_neg (by rw [zn_le (by omega) (by omega)]; omega)]
    refine zq_go zt_X9_runs 6 [vp_in (nI n) 9] (if (μ.1 55 ((nI n).toNatClampNeg)) = (nI 2) then 65 else 59) [(0, .ref 50), (1, .int (zdn (zcx srt np))), (2, .int (nI n))] [] μ rfl ⟨zn_in (k := n) rfl (by omega) (by decide), trivial⟩ ?_
    rw [zn_cl (n := n) (by omega), q1]
    refine zq_ite (fun h21 => ?_) (fun h21 => ?_)
    · have h2 : srt n = 2 := by
        rw [zn_eq (by omega) (by decide)] at h21
        omega
      refine zq_go zt_X9_runs 2 [] 41 [(0, .ref 50), (1, .int (zdn (zcx srt np))), (2, .int ((nI n) + (nI 1)))] [] μ rfl trivial ?_
      rw [zn_add n 1]
      exact ih (n + 1) μ (by omega) ⟨hI.1, fun q h hq hd hh => hI.2 q h hq (⟨by have h7 := hd.1; have h8 : q ≠ n := (fun e => by rw [e] at hd; exact hd.2 h2); omega, hd.2⟩) hh⟩
    · have h2 : ¬ srt n = 2 := by
        rw [zn_eq (by omega) (by decide)] at h21
        exact h21
      refine zq_go zt_X9_runs 3 [] 62 [(0, .ref 50), (1, .int (zdn (zcx srt np))), (2, .int (nI n))] [.int (zdn (zcx srt np)), .int (nI n), .ref 50] μ rfl trivial ?_
      have hcp : ∀ c, zcx srt np = c + 1 → srt n = 2 → c < 8 ∧ c ≠ n ∧ ∀ i, i < 24 → μ.1 66 (8 * i + c) = nI (zcR (zNx nd o1 o2 (zSh ek eh en wo ne)) srt stt bed (zHm ek eh en wo ne) ld np i) := fun c _ h29 => absurd h29 h2
      have hcr : ∀ h, h < 24 → zcR (zNx nd o1 o2 (zSh ek eh en wo ne)) srt stt bed (zHm ek eh en wo ne) ld np h < 8 := zcR_lt zNx_lt (fun p hp => ⟨(hP.2.2 p hp).2.1, (hP.2.2 p hp).2.2.2.1, (hP.2.2 p hp).2.2.2.2.2⟩) (fun i hi => (zh_lt hn (i + 1)).1)
      refine zq_call zt_X9_runs [.ref 50, .int (nI n), .int (zdn (zcx srt np))] [] (zs_goes (hc := decide (¬ zcx srt np = 0)) (cx := zcx srt np) hP (show n < np by omega) (by omega) hl9 (by rw [hI.1.a (b := 50) (by decide)]; exact hld0) (fun i hi => ⟨by rw [hI.1.a (b := 64) (by decide)]; exact hH0 i hi, (zh_lt hn (i + 1)).1⟩) (fun i hi => (hT0 i hi).of (hI.1.a (by decide))) (fun _ _ _ _ _ _ => rfl) zNx_lt hcr (by have := zck_le srt np 0; show zck srt np 0 ≤ 8; omega) rfl hcp) rfl rfl ?_
      rintro _ μ1 ⟨rfl, g1, g2, g3⟩
      refine zq_go zt_X9_runs 2 [] 41 [(0, .ref 50), (1, .int (zdn (zcx srt np))), (2, .int ((nI n) + (nI 1)))] [] μ1 rfl trivial ?_
      rw [zn_add n 1]
      refine ih (n + 1) μ1 (by omega) ⟨hI.1.tr g1, fun q h hq hd hh => ?_⟩
      by_cases h8 : q = n
      · subst h8; exact g2 h hh
      · rw [g3 _ (by omega)]; exact hI.2 q h hq ⟨by omega, hd.2⟩ hh
set_option maxRecDepth 100000 in
set_option maxHeartbeats 4000000 in
theorem zs_runs_b {Q : zq_Post} {nd np ne wo ld : Nat} {o1 o2 srt stt bed ek eh en : Nat → Nat} {μ0 : zq_Me} (hl9 : ld ≤ 9) (hn : zEn ne ek en) (hP0 : zPm np srt stt bed μ0) (hld0 : μ0.1 50 14 = nI ld) (hH0 : ∀ i, i < 24 → μ0.1 64 i = zdn (zHm ek eh en wo ne i)) (hT0 : ∀ i, i < 24 → zT (zg_adj o1 o2 (zSh ek eh en wo ne i) nd) (64 * i) μ0) (kk : ∀ μ : zq_Me, (zq_fr [66] μ0 μ ∧ ∀ q h, q < np → (srt q ≠ 2 ∨ q < np) → h < 24 → μ.1 66 (8 * h + q) = nI (zR (zNx nd o1 o2 (zSh ek eh en wo ne)) srt stt bed (zHm ek eh en wo ne) ld np q h)) → zq_Wp zn_X9_runs 103 [] [] μ Q) : ∀ (j n : Nat) (μ : zq_Me), n + j = np → (zq_fr [66] μ0 μ ∧ ∀ q h, q < np → (srt q ≠ 2 ∨ q < n) → h < 24 → μ.1 66 (8 * h + q) = nI (zR (zNx nd o1 o2 (zSh ek eh en wo ne)) srt stt bed (zHm ek eh en wo ne) ld np q h)) → zq_Wp zn_X9_runs 73 [(0, .ref 50), (1, .int (zdn (zcx srt np))), (2, .int (nI n))] [] μ Q := by
  intro j
  induction j with
  | zero =>
    intro n μ hij hI
    obtain rfl : n = np := by omega
    have hP := hP0.fr hI.1 (by decide)
    have hn9 := hP.1
    refine zq_go zt_X9_runs 4 [] (if (μ.1 50 5) ≤ (nI n) then 103 else 81) [(0, .ref 50), (1, .int (zdn (zcx srt n))), (2, .int (nI n))] [] μ rfl trivial ?_
    rw [hP.2.1]
    rw [if_pos (by rw [zn_le (by omega) (by omega)]; omega)]
    exact zq_drp [] [] rfl (kk μ hI)
  | succ j ih =>
    intro n μ hij hI
    have hP := hP0.fr hI.1 (by decide)
    have hn9 := hP.1
    obtain ⟨q1, hs2, -⟩ := hP.2.2 n (by omega)
    refine zq_go zt_X9_runs 4 [] (if (μ.1 50 5) ≤ (nI n) then 103 else 81) [(0, .ref 50), (1, .int (zdn (zcx srt np))), (2, .int (nI n))] [] μ rfl trivial ?_
    rw [hP.2.1]
    rw [if_neg (by rw [zn_le (by omega) (by omega)]; omega)]
    refine zq_go zt_X9_runs 6 [vp_in (nI n) 9] (if ¬ (μ.1 55 ((nI n).toNatClampNeg)) = (nI 2) then 97 else 91) [(0, .ref 50), (1, .int (zdn (zcx srt np))), (2, .int (nI n))] [] μ rfl ⟨zn_in (k := n) rfl (by omega) (by decide), trivial⟩ ?_
    rw [zn_cl (n := n) (by omega), q1]
    refine zq_ite (fun h21 => ?_) (fun h21 => ?_)
    · have h2 : ¬ srt n = 2 := by
        rw [zn_eq (by omega) (by decide)] at h21
        exact h21
      refine zq_go zt_X9_runs 2 [] 73 [(0, .ref 50), (1, .int (zdn (zcx srt np))), (2, .int ((nI n) + (nI 1)))] [] μ rfl trivial ?_
      rw [zn_add n 1]
      exact ih (n + 1) μ (by omega) ⟨hI.1, fun q h hq hd hh => hI.2 q h hq (hd.elim Or.inl (fun w => if h8 : q = n then Or.inl (by rw [h8]; exact h2) else Or.inr (by omega))) hh⟩
    · have h2 : srt n = 2 := by
        rw [zn_eq (by omega) (by decide)] at h21
        omega
      refine zq_go zt_X9_runs 3 [] 94 [(0, .ref 50), (1, .int (zdn (zcx srt np))), (2, .int (nI n))] [.int (zdn (zcx srt np)), .int (nI n), .ref 50] μ rfl trivial ?_
      have hcp : ∀ c, zcx srt np = c + 1 → srt n = 2 → c < 8 ∧ c ≠ n ∧ ∀ i, i < 24 → μ.1 66 (8 * i + c) = nI (zcR (zNx nd o1 o2 (zSh ek eh en wo ne)) srt stt bed (zHm ek eh en wo ne) ld np i) := fun c hce _ => by
        obtain ⟨c1, c2⟩ := zcx_spec hce
        refine ⟨by omega, fun e => by rw [e] at c2; omega, fun i hi => ?_⟩
        rw [hI.2 c i c1 (Or.inl (by omega)) hi, zcR_c hce]
      have hcr : ∀ h, h < 24 → zcR (zNx nd o1 o2 (zSh ek eh en wo ne)) srt stt bed (zHm ek eh en wo ne) ld np h < 8 := zcR_lt zNx_lt (fun p hp => ⟨(hP.2.2 p hp).2.1, (hP.2.2 p hp).2.2.2.1, (hP.2.2 p hp).2.2.2.2.2⟩) (fun i hi => (zh_lt hn (i + 1)).1)
      refine zq_call zt_X9_runs [.ref 50, .int (nI n), .int (zdn (zcx srt np))] [] (zs_goes (hc := decide (¬ zcx srt np = 0)) (cx := zcx srt np) hP (show n < np by omega) (by omega) hl9 (by rw [hI.1.a (b := 50) (by decide)]; exact hld0) (fun i hi => ⟨by rw [hI.1.a (b := 64) (by decide)]; exact hH0 i hi, (zh_lt hn (i + 1)).1⟩) (fun i hi => (hT0 i hi).of (hI.1.a (by decide))) (fun _ _ _ _ _ _ => rfl) zNx_lt hcr (by have := zck_le srt np 0; show zck srt np 0 ≤ 8; omega) rfl hcp) rfl rfl ?_
      rintro _ μ1 ⟨rfl, g1, g2, g3⟩
      refine zq_go zt_X9_runs 2 [] 73 [(0, .ref 50), (1, .int (zdn (zcx srt np))), (2, .int ((nI n) + (nI 1)))] [] μ1 rfl trivial ?_
      rw [zn_add n 1]
      refine ih (n + 1) μ1 (by omega) ⟨hI.1.tr g1, fun q h hq hd hh => ?_⟩
      by_cases h8 : q = n
      · subst h8; exact g2 h hh
      · rw [g3 _ (by omega)]; exact hI.2 q h hq (hd.imp id (fun w => by omega)) hh
set_option maxRecDepth 100000 in
set_option maxHeartbeats 4000000 in
theorem zs_runs {nd np ne wo ld : Nat} {o1 o2 srt stt bed ek eh en : Nat → Nat} {μ0 : zq_Me} (hD0 : zDm nd o1 o2 μ0) (hw : wo < 2 ^ 31) (hE0 : zEv 50 15 61 62 63 ne ek eh en μ0) (hwo0 : μ0.1 50 19 = nI wo) (hl9 : ld ≤ 9) (hP0 : zPm np srt stt bed μ0) (hld0 : μ0.1 50 14 = nI ld) : zq_Wp zn_X9_runs 0 [(0, .ref 50)] [] μ0 (fun r μ => r = none ∧ zq_fr [50, 64, 65, 66] μ0 μ ∧ (∀ i, i ≠ 20 → i ≠ 21 → μ.1 50 i = μ0.1 50 i) ∧ zRm nd np ld o1 o2 srt stt bed ek eh en wo ne μ) := by
  refine zq_go zt_X9_runs 8 [] 12 [(0, .ref 50), (1, .int (nI 0))] [] (zq_u1 (zq_u1 μ0 50 20 (-1)) 50 21 (nI 0)) rfl trivial ?_
  have f0 : zq_fr [50, 64, 65] μ0 (zq_u1 (zq_u1 μ0 50 20 (-1)) 50 21 (nI 0)) := (zq_fr.rf.u1 (by simp)).u1 (by simp)
  obtain ⟨μ1, hμ1⟩ : ∃ k, k = zq_u1 (zq_u1 μ0 50 20 (-1)) 50 21 (nI 0) := ⟨_, rfl⟩
  rw [← hμ1]
  rw [← hμ1] at f0
  have s0 : ∀ i, i ≠ 20 → i ≠ 21 → μ1.1 50 i = μ0.1 50 i := fun i h20 h21 => by rw [hμ1, zq_u1_o2 h21, zq_u1_o2 h20]
  have hE1 : zEv 50 15 61 62 63 ne ek eh en μ1 := ⟨hE0.1, by rw [s0 15 (by decide) (by decide)]; exact hE0.2.1, fun e he => by rw [f0.a (b := 61) (by decide), f0.a (b := 62) (by decide), f0.a (b := 63) (by decide)]; exact hE0.2.2 e he⟩
  have hD1 : zDm nd o1 o2 μ1 := ⟨hD0.1, by rw [s0 2 (by decide) (by decide)]; exact hD0.2.1, fun e he => by rw [f0.a (b := 53) (by decide)]; exact hD0.2.2.1 e he, fun e he => by rw [f0.a (b := 54) (by decide)]; exact hD0.2.2.2 e he⟩
  refine zs_runs_h hD1 hw hE1 (by rw [s0 19 (by decide) (by decide)]; exact hwo0) (fun μ2 hI => ?_) 24 0 μ1 (by omega) ⟨zq_fr.rf, by rw [hμ1, zq_u1_o2 (by decide), zq_u1_s]; rfl, by rw [hμ1, zq_u1_s]; rfl, trivial, fun _ _ _ => rfl, fun i hi => absurd hi (Nat.not_lt_zero i)⟩
  obtain ⟨f2, -, -, -, s2, hi9⟩ := hI
  have hs2 : ∀ i, i ≠ 20 → i ≠ 21 → μ2.1 50 i = μ0.1 50 i := fun i a b => (s2 i a b).trans (s0 i a b)
  have hP2 : zPm np srt stt bed μ2 := hP0.sl (hs2 5 (by decide) (by decide)) ((f2.a (by decide)).trans (f0.a (by decide))) ((f2.a (by decide)).trans (f0.a (by decide))) ((f2.a (by decide)).trans (f0.a (by decide)))
  have hld2 : μ2.1 50 14 = nI ld := by rw [hs2 14 (by decide) (by decide)]; exact hld0
  refine zq_go zt_X9_runs 1 [] 35 [(0, .ref 50)] [.ref 50] μ2 rfl trivial ?_
  refine zq_call zt_X9_runs [.ref 50] [] (zs_least hP2) rfl rfl ?_
  rintro _ _ ⟨rfl, rfl⟩
  refine zq_go zt_X9_runs 3 [] 41 [(0, .ref 50), (1, .int (zdn (zcx srt np))), (2, .int (nI 0))] [] μ2 rfl trivial ?_
  refine zs_runs_a hl9 hE0.n hP2 hld2 (fun i hi => (hi9 i hi).1) (fun i hi => (hi9 i hi).2) (fun μ3 hJ => ?_) np 0 μ2 (by omega) ⟨zq_fr.rf, fun q h _ hd _ => absurd hd.1 (Nat.not_lt_zero q)⟩
  refine zq_go zt_X9_runs 2 [] 73 [(0, .ref 50), (1, .int (zdn (zcx srt np))), (2, .int (nI 0))] [] μ3 rfl trivial ?_
  refine zs_runs_b hl9 hE0.n (hP2.fr hJ.1 (by decide)) (by rw [hJ.1.a (b := 50) (by decide)]; exact hld2) (fun i hi => by rw [hJ.1.a (b := 64) (by decide)]; exact (hi9 i hi).1) (fun i hi => (hi9 i hi).2.of (hJ.1.a (by decide))) (fun μ4 hK => ?_) np 0 μ3 (by omega) ⟨zq_fr.rf, fun q h hq hd hh => hJ.2 q h hq ⟨hq, hd.resolve_right (Nat.not_lt_zero q)⟩ hh⟩
  exact zq_retn zt_X9_runs rfl rfl ⟨rfl, ((f0.wk (by simp)).tr (f2.wk (by simp))).tr ((hJ.1.tr hK.1).wk (by simp)), fun i a b => by rw [hK.1.a (b := 50) (by decide), hJ.1.a (b := 50) (by decide)]; exact hs2 i a b, fun p h hp hh => hK.2 p h hp (Or.inr hp) hh, fun h hh => (hi9 h hh).2.of ((hK.1.a (by decide)).trans (hJ.1.a (by decide)))⟩
