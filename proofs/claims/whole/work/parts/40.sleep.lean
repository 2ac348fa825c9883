/-! ===== plans: trial runs on both sides; sleep, nice, lens ===== -/
def yub (f : Nat → Nat) (k v : Nat) : Nat → Nat := fun p => if p = k then v else f p
theorem yub_self (f : Nat → Nat) (k : Nat) : yub f k (f k) = f := by
  funext p
  unfold yub
  by_cases q : p = k
  · rw [if_pos q, q]
  · rw [if_neg q]
theorem zs_try11 {τ : zTd} {S : zES} {H : zSH} {μ0 μ : zq_Me} (hC : zIc τ S H μ0) (hf : zq_fr [5, 15, 16, 17, 18, 19, 40, 41, 42, 43, 44, 45, 46, 47, 48] μ0 μ) (hK : zK40 (ynd τ) (yo1 τ) (yo2 τ) μ) {wo ld : Nat} (hw : wo < 2 ^ 31) (hl : ld ≤ 9) {srt bed : Nat → Nat} (hP : zP40 (ynp τ) srt (yst τ) bed μ) : zq_Wp zn_X7_runWith 0 [(0, .ref 40), (1, .ref 11), (2, .int (nI wo)), (3, .int (nI ld))] [] μ (fun r μ1 => r = none ∧ zq_fr [5, 15, 16, 17, 18, 19, 40, 41, 42, 43, 44, 45, 46, 47, 48] μ0 μ1 ∧ zK40 (ynd τ) (yo1 τ) (yo2 τ) μ1 ∧ (∀ i, i ≠ 9 → i ≠ 10 → μ1.1 40 i = μ.1 40 i) ∧ zP40 (ynp τ) srt (yst τ) bed μ1 ∧ zQ40 (ynp τ) (yR τ srt bed (yek τ) (yeh τ) (yen τ) wo (yne τ) ld) μ1) := by
  have hD : zD (ynd τ) (yo1 τ) (yo2 τ) μ := hC.2.1.1.fr hf (by decide)
  have hE : zEv 11 3 12 13 14 (yne τ) (yek τ) (yeh τ) (yen τ) μ := hC.2.2.2.1.1.fr hf (by decide)
  refine zq_Wp_mono (zs_rw40_11 hl hw (zsp_8 (Or.inl hC.2.2.2.1.2)) hD hE hP hK) ?_
  rintro _ μ1 ⟨rfl, f1, s1, k1, w1, r1⟩
  have hn := hE.n
  refine ⟨rfl, hf.tr (f1.wk (by simp +contextual)), k1, s1, hP.sl (f1.a (by decide)) (f1.a (by decide)) (f1.a (by decide)) (f1.a (by decide)) ⟨s1 11 (by decide) (by decide), s1 12 (by decide) (by decide), s1 13 (by decide) (by decide)⟩, hP.1, by rw [f1.a (b := 6) (by decide)]; exact hP.2.1, fun p h hp hh => ⟨r1 p h hp hh, yR_lt hn (fun q hq => ⟨(hP.2.2 q hq).2.1, (hP.2.2 q hq).2.2.2.2.2⟩) hp hh⟩⟩
theorem zs_try15 {τ : zTd} {S : zES} {H : zSH} {μ0 μ : zq_Me} (hC : zIc τ S H μ0) (hf : zq_fr [5, 15, 16, 17, 18, 19, 40, 41, 42, 43, 44, 45, 46, 47, 48] μ0 μ) (hK : zK40 (ynd τ) (yo1 τ) (yo2 τ) μ) {wo ld : Nat} (hw : wo < 2 ^ 31) (hl : ld ≤ 9) {srt bed : Nat → Nat} (hP : zP40 (ynp τ) srt (yst τ) bed μ) {E : zES} (hE : zEv 15 3 16 17 18 E.1 E.2.1 E.2.2.1 E.2.2.2 μ) (h8 : E.1 ≤ 8 ∨ (E.1 = 9 ∧ E.2.1 8 = 0)) : zq_Wp zn_X7_runWith 0 [(0, .ref 40), (1, .ref 15), (2, .int (nI wo)), (3, .int (nI ld))] [] μ (fun r μ1 => r = none ∧ zq_fr [5, 15, 16, 17, 18, 19, 40, 41, 42, 43, 44, 45, 46, 47, 48] μ0 μ1 ∧ zK40 (ynd τ) (yo1 τ) (yo2 τ) μ1 ∧ (∀ i, i ≠ 9 → i ≠ 10 → μ1.1 40 i = μ.1 40 i) ∧ zP40 (ynp τ) srt (yst τ) bed μ1 ∧ zQ40 (ynp τ) (yR τ srt bed E.2.1 E.2.2.1 E.2.2.2 wo E.1 ld) μ1) := by
  have hD : zD (ynd τ) (yo1 τ) (yo2 τ) μ := hC.2.1.1.fr hf (by decide)
  refine zq_Wp_mono (zs_rw40_15 hl hw (zsp_8 h8) hD hE hP hK) ?_
  rintro _ μ1 ⟨rfl, f1, s1, k1, w1, r1⟩
  have hn := hE.n
  refine ⟨rfl, hf.tr (f1.wk (by simp +contextual)), k1, s1, hP.sl (f1.a (by decide)) (f1.a (by decide)) (f1.a (by decide)) (f1.a (by decide)) ⟨s1 11 (by decide) (by decide), s1 12 (by decide) (by decide), s1 13 (by decide) (by decide)⟩, hP.1, by rw [f1.a (b := 6) (by decide)]; exact hP.2.1, fun p h hp hh => ⟨r1 p h hp hh, yR_lt hn (fun q hq => ⟨(hP.2.2 q hq).2.1, (hP.2.2 q hq).2.2.2.2.2⟩) hp hh⟩⟩
def zNr (τ : zTd) (srt bed : Nat → Nat) (ld : Nat) (E : zES) (wo : Nat) (μ : zq_Me) : Prop := zDm (ynd τ) (yo1 τ) (yo2 τ) μ ∧ zPm (ynp τ) srt (yst τ) bed μ ∧ μ.1 50 14 = nI ld ∧ zEv 50 15 61 62 63 E.1 E.2.1 E.2.2.1 E.2.2.2 μ ∧ μ.1 50 19 = nI wo
theorem zNw.r {τ : zTd} {μ : zq_Me} (h : zNw τ μ) : zNr τ (ysr τ) (ybd τ) (yld τ) τ.2.2.2 0 μ := h
theorem zNr.sl {τ : zTd} {srt bed : Nat → Nat} {ld : Nat} {E : zES} {wo : Nat} {μ μ1 : zq_Me} (h : zNr τ srt bed ld E wo μ) (hi : ∀ i, i ∈ [2, 5, 14, 15, 19] → μ1.1 50 i = μ.1 50 i) (hb : ∀ b, b ∈ [53, 54, 55, 56, 57, 61, 62, 63] → μ1.1 b = μ.1 b) : zNr τ srt bed ld E wo μ1 := by
  obtain ⟨d, p, l, e, w⟩ := h
  exact ⟨⟨d.1, by rw [hi 2 (by decide)]; exact d.2.1, by rw [hb 53 (by decide)]; exact d.2.2.1, by rw [hb 54 (by decide)]; exact d.2.2.2⟩, p.sl (hi 5 (by decide)) (hb 55 (by decide)) (hb 56 (by decide)) (hb 57 (by decide)), by rw [hi 14 (by decide)]; exact l, e.sl (hi 15 (by decide)) (hb 61 (by decide)) (hb 62 (by decide)) (hb 63 (by decide)), by rw [hi 19 (by decide)]; exact w⟩
theorem zs_tryM {τ : zTd} {S : zES} {H : zSH} {μ : zq_Me} (hM : zIm τ S H μ) {srt bed : Nat → Nat} {ld : Nat} {E : zES} {wo : Nat} (hN : zNr τ srt bed ld E wo μ) (hl : ld ≤ 9) (hw : wo < 2 ^ 31) : zq_Wp zn_X9_runs 0 [(0, .ref 50)] [] μ (fun r μ1 => r = none ∧ zIm τ S H μ1 ∧ zq_fr [50, 64, 65, 66] μ μ1 ∧ (∀ i, i ≠ 20 → i ≠ 21 → μ1.1 50 i = μ.1 50 i) ∧ zNr τ srt bed ld E wo μ1 ∧ zQm (ynp τ) (yR τ srt bed E.2.1 E.2.2.1 E.2.2.2 wo E.1 ld) μ1) := by
  have hN9 := hN
  obtain ⟨d, p, l, e, w⟩ := hN9
  refine zq_Wp_mono (zs_runs d hw e w hl p l) ?_
  rintro _ μ1 ⟨rfl, f1, s1, r1⟩
  have hn := e.n
  refine ⟨rfl, hM.kp f1 (by decide) (fun i hi => s1 i (by simp at hi; omega) (by simp at hi; omega)), f1, s1, hN.sl (fun i hi => s1 i (by simp at hi; omega) (by simp at hi; omega)) (fun b hb => f1.a (by simp at hb ⊢; omega)), ⟨p.1, by rw [s1 5 (by decide) (by decide)]; exact p.2.1, fun q h hq hh => ⟨r1.1 q h hq hh, yR_lt hn (fun x hx => ⟨(p.2.2 x hx).2.1, (p.2.2 x hx).2.2.2.2.2⟩) hq hh⟩⟩⟩
/-! who is supposed -/
theorem zP40.of {np : Nat} {srt stt bed : Nat → Nat} {μ : zq_Me} (h : zPb np srt stt bed μ) (hw : μ.1 40 11 = -1) : zP40 np srt stt bed μ := by
  refine ⟨h.1, h.2.1, fun p hp => ?_⟩
  have h9 := h.1
  rw [if_neg (fun q => by rw [hw] at q; exact zn_neg1 (by omega) q.1), if_neg (fun q => by rw [hw] at q; exact zn_neg1 (by omega) q.1)]
  exact h.2.2 p hp
theorem zP40.bd {np : Nat} {srt stt bed : Nat → Nat} {μ : zq_Me} (h : zPb np srt stt bed μ) {k v : Nat} (hk : k < np) (hv : v < 8) (h1 : μ.1 40 11 = nI k) (h2 : μ.1 40 12 = -1) (h3 : μ.1 40 13 = nI v) : zP40 np srt stt (yub bed k v) μ := by
  refine ⟨h.1, h.2.1, fun p hp => ?_⟩
  have h9 := h.1
  obtain ⟨a, b, c, d, e, f⟩ := h.2.2 p hp
  rw [if_neg (fun q => q.2 h2), h1, h3]
  unfold yub
  by_cases q : p = k
  · rw [if_pos ⟨by rw [q], zn_neg1 (by omega)⟩, if_pos q]
    exact ⟨a, b, c, d, rfl, hv⟩
  · rw [if_neg (fun x => q (by have x1 := x.1; rw [zn_eq (by omega) (by omega)] at x1; exact x1)), if_neg q]
    exact ⟨a, b, c, d, e, f⟩
theorem zP40.st {np : Nat} {srt stt bed : Nat → Nat} {μ : zq_Me} (h : zPb np srt stt bed μ) {k v : Nat} (hk : k < np) (hv : v ≤ 2) (h1 : μ.1 40 11 = nI k) (h2 : μ.1 40 12 = nI v) (h3 : μ.1 40 13 = -1) : zP40 np (yub srt k v) stt bed μ := by
  refine ⟨h.1, h.2.1, fun p hp => ?_⟩
  have h9 := h.1
  obtain ⟨a, b, c, d, e, f⟩ := h.2.2 p hp
  rw [if_neg (c := nI p = μ.1 40 11 ∧ ¬ μ.1 40 13 = -1) (fun q => q.2 h3), h1, h2]
  unfold yub
  by_cases q : p = k
  · rw [if_pos ⟨by rw [q], zn_neg1 (by omega)⟩, if_pos q]
    exact ⟨rfl, hv, c, d, e, f⟩
  · rw [if_neg (fun x => q (by have x1 := x.1; rw [zn_eq (by omega) (by omega)] at x1; exact x1)), if_neg q]
    exact ⟨a, b, c, d, e, f⟩
theorem zPm.bd {np : Nat} {srt stt bed : Nat → Nat} {μ μ1 : zq_Me} {k b v : Nat} (h : zPm np srt stt (yub bed k b) μ) (hv : v < 8) (h50 : μ1.1 50 5 = μ.1 50 5) (h55 : μ1.1 55 = μ.1 55) (h56 : μ1.1 56 = μ.1 56) (h57 : ∀ p, μ1.1 57 p = if p = k then nI v else μ.1 57 p) : zPm np srt stt (yub bed k v) μ1 := by
  refine ⟨h.1, by rw [h50]; exact h.2.1, fun p hp => ?_⟩
  obtain ⟨a1, a2, a3, a4, a5, a6⟩ := h.2.2 p hp
  rw [h55, h56, h57]
  unfold yub at a5 a6 ⊢
  by_cases q : p = k
  · rw [if_pos q, if_pos q]; exact ⟨a1, a2, a3, a4, rfl, hv⟩
  · rw [if_neg q, if_neg q]; rw [if_neg q] at a5 a6; exact ⟨a1, a2, a3, a4, a5, a6⟩
theorem zPm.st {np : Nat} {srt stt bed : Nat → Nat} {μ μ1 : zq_Me} {k b v : Nat} (h : zPm np (yub srt k b) stt bed μ) (hv : v ≤ 2) (h50 : μ1.1 50 5 = μ.1 50 5) (h57 : μ1.1 57 = μ.1 57) (h56 : μ1.1 56 = μ.1 56) (h55 : ∀ p, μ1.1 55 p = if p = k then nI v else μ.1 55 p) : zPm np (yub srt k v) stt bed μ1 := by
  refine ⟨h.1, by rw [h50]; exact h.2.1, fun p hp => ?_⟩
  obtain ⟨a1, a2, a3, a4, a5, a6⟩ := h.2.2 p hp
  rw [h57, h56, h55]
  unfold yub at a1 a2 ⊢
  by_cases q : p = k
  · rw [if_pos q, if_pos q]; exact ⟨rfl, hv, a3, a4, a5, a6⟩
  · rw [if_neg q, if_neg q]; rw [if_neg q] at a1 a2; exact ⟨a1, a2, a3, a4, a5, a6⟩
/-! the first greatest, from nothing on -/
def ymo (f : Nat → Nat) (n : Nat) : Nat := if n = 0 then 0 else zmx f n + 1
def yam (f : Nat → Nat) (n : Nat) : Nat := if n = 0 then 0 else zam f n + 1
theorem zdn_le {x m : Nat} (hx : x < 2 ^ 30) (hm : m < 2 ^ 30) : (nI x ≤ zdn m) = (x < m) := by
  cases m with
  | zero =>
    refine propext ⟨fun h => absurd (Int32.le_trans (zn_0le (by omega)) h) (by decide), fun h => absurd h (Nat.not_lt_zero x)⟩
  | succ m =>
    show (nI x ≤ nI m) = _
    rw [zn_le (by omega) (by omega)]
    exact propext ⟨fun h => by omega, fun h => by omega⟩
theorem ymo_le {f : Nat → Nat} {c : Nat} (hf : ∀ i, f i ≤ c) (n : Nat) : ymo f n ≤ c + 1 := by
  unfold ymo
  split
  · omega
  · have := zmx_le hf n
    omega
theorem ymo_n {f : Nat → Nat} {n : Nat} (h : f n < ymo f n) : ymo f (n + 1) = ymo f n ∧ zam f (n + 1) = zam f n ∧ yam f (n + 1) = yam f n := by
  unfold ymo yam at *
  by_cases q : n = 0
  · rw [if_pos q] at h; exact absurd h (Nat.not_lt_zero _)
  · rw [if_neg q] at h
    have e1 : zmx f (n + 1) = zmx f n := by rw [zmx_s, if_neg (by omega)]
    have e2 : zam f (n + 1) = zam f n := if_neg (by omega)
    rw [if_neg (Nat.succ_ne_zero n), if_neg (Nat.succ_ne_zero n), if_neg q, if_neg q, e1, e2]
    exact ⟨rfl, rfl, rfl⟩
theorem ymo_y {f : Nat → Nat} {n : Nat} (h : ¬ f n < ymo f n) : ymo f (n + 1) = f n + 1 ∧ zam f (n + 1) = n ∧ yam f (n + 1) = n + 1 := by
  unfold ymo yam at *
  have e : zmx f (n + 1) = f n ∧ zam f (n + 1) = n := by
    rw [zmx_s]
    show (if zmx f n < f n then f n else zmx f n) = f n ∧ (if zmx f n < f n then n else zam f n) = n
    by_cases q : n = 0
    · subst q
      have e0 : zmx f 0 = 0 := rfl
      have e1 : zam f 0 = 0 := rfl
      rw [e0, e1]
      by_cases r : 0 < f 0
      · rw [if_pos r, if_pos r]; exact ⟨rfl, rfl⟩
      · rw [if_neg r, if_neg r]; exact ⟨by omega, rfl⟩
    · rw [if_neg q] at h
      rw [if_pos (by omega), if_pos (by omega)]
      exact ⟨rfl, rfl⟩
  rw [if_neg (Nat.succ_ne_zero n), if_neg (Nat.succ_ne_zero n), e.1, e.2]
  exact ⟨rfl, rfl, rfl⟩
set_option maxRecDepth 100000 in
set_option maxHeartbeats 400000 in
theorem zs_suppose (v1 v2 v3 : Int32) (μ0 : zq_Me) : zq_Wp zn_X7_suppose 0 [(0, .ref 40), (1, .int v1), (2, .int v2), (3, .int v3)] [] μ0 (fun r μ => r = none ∧ zq_fr [40] μ0 μ ∧ μ.1 40 11 = v1 ∧ μ.1 40 12 = v2 ∧ μ.1 40 13 = v3) := by
  refine zq_go zt_X7_suppose 9 [] 15 [(0, .ref 40), (1, .int v1), (2, .int v2), (3, .int v3)] [] (zq_u1 (zq_u1 (zq_u1 μ0 40 11 v1) 40 12 v2) 40 13 v3) rfl trivial ?_
  exact zq_retn zt_X7_suppose rfl rfl (⟨rfl, ((zq_fr.rf.u1 (by simp)).u1 (by simp)).u1 (by simp), by rw [zq_u1_o2 (by decide), zq_u1_o2 (by decide), zq_u1_s], by rw [zq_u1_o2 (by decide), zq_u1_s], zq_u1_s⟩)
def ysf (τ : zTd) (k : Nat) : Nat → Nat := fun v => zc (fun h => zbi (ynp τ) (yR τ (ysr τ) (yub (ybd τ) k v) (yek τ) (yeh τ) (yen τ) 0 (yne τ) (yld τ)) h k) 24
theorem ysf_le (τ : zTd) (k : Nat) : ∀ v, ysf τ k v ≤ 24 := fun v => zc_le _ _
def ySl (f : Nat → Nat) (w : Nat) : Nat := if w = 0 then zam f 8 else zmx f 8
theorem ymo8 (f : Nat → Nat) : zdn (ymo f 8) = nI (zmx f 8) := rfl
theorem yam8 (f : Nat → Nat) : zdn (yam f 8) = nI (zam f 8) := rfl
set_option maxRecDepth 100000 in
set_option maxHeartbeats 400000 in
theorem zs_sleep_l {Q : zq_Post} {τ : zTd} {S : zES} {H : zSH} {μ0 : zq_Me} (hC : zIc τ S H μ0) {k w : Nat} (lk : k < ynp τ) (kk : ∀ μ : zq_Me, (zq_fr [5, 15, 16, 17, 18, 19, 40, 41, 42, 43, 44, 45, 46, 47, 48] μ0 μ ∧ zK40 (ynd τ) (yo1 τ) (yo2 τ) μ) → zq_Wp zn_X8_sleep 92 [(0, .ref 0), (1, .int (nI k)), (2, .int (nI w)), (3, .int (nI (zam (ysf τ k) 8))), (4, .int (zdn (ymo (ysf τ k) 8)))] [] μ Q) : ∀ (j n : Nat) (μ : zq_Me), n + j = 8 → (zq_fr [5, 15, 16, 17, 18, 19, 40, 41, 42, 43, 44, 45, 46, 47, 48] μ0 μ ∧ zK40 (ynd τ) (yo1 τ) (yo2 τ) μ) → zq_Wp zn_X8_sleep 28 [(0, .ref 0), (1, .int (nI k)), (2, .int (nI w)), (3, .int (nI (zam (ysf τ k) n))), (4, .int (zdn (ymo (ysf τ k) n))), (5, .int (nI n))] [] μ Q := by
  have hnp := hC.2.1.2.1
  have hl9 := hC.2.2.1.2.2
  intro j
  induction j with
  | zero =>
    rintro n μ hij hI
    obtain rfl : n = 8 := by omega
    refine zq_go zt_X8_sleep 3 [] (if (nI 8) ≤ (nI 8) then 92 else 35) [(0, .ref 0), (1, .int (nI k)), (2, .int (nI w)), (3, .int (nI (zam (ysf τ k) 8))), (4, .int (zdn (ymo (ysf τ k) 8))), (5, .int (nI 8))] [] μ rfl trivial ?_
    rw [if_pos (by decide)]
    exact zq_drp [0, 1, 2, 3, 4] _ rfl (kk μ hI)
  | succ j ih =>
    rintro n μ hij ⟨hF, hK⟩
    refine zq_go zt_X8_sleep 3 [] (if (nI 8) ≤ (nI n) then 92 else 35) [(0, .ref 0), (1, .int (nI k)), (2, .int (nI w)), (3, .int (nI (zam (ysf τ k) n))), (4, .int (zdn (ymo (ysf τ k) n))), (5, .int (nI n))] [] μ rfl trivial ?_
    rw [if_neg (by rw [zn_le (by omega) (by omega)]; omega)]
    refine zq_go zt_X8_sleep 5 [] 43 [(0, .ref 0), (1, .int (nI k)), (2, .int (nI w)), (3, .int (nI (zam (ysf τ k) n))), (4, .int (zdn (ymo (ysf τ k) n))), (5, .int (nI n))] [.int (nI n), .int (-1), .int (nI k), .ref 40] μ rfl trivial ?_
    refine zq_call zt_X8_sleep [.ref 40, .int (nI k), .int (-1), .int (nI n)] [] (zs_suppose (nI k) (-1) (nI n) μ) rfl rfl ?_
    rintro _ μ1 ⟨rfl, f1, p1, p2, p3⟩
    have hF1 : zq_fr [5, 15, 16, 17, 18, 19, 40, 41, 42, 43, 44, 45, 46, 47, 48] μ0 μ1 := hF.tr (f1.wk (by simp))
    have hK1 : zK40 (ynd τ) (yo1 τ) (yo2 τ) μ1 := by unfold zK40; rw [f1.a (b := 46) (by decide), f1.a (b := 45) (by decide)]; exact hK
    have hP1 : zP40 (ynp τ) (ysr τ) (yst τ) (yub (ybd τ) k n) μ1 := zP40.bd (hC.2.1.2.fr hF1 (by decide)) lk (by omega) p1 p2 p3
    have hld : μ1.1 0 12 = nI (yld τ) := by rw [hF1.a (b := 0) (by decide)]; exact hC.2.2.1.1
    refine zq_go zt_X8_sleep 7 [] 59 [(0, .ref 0), (1, .int (nI k)), (2, .int (nI w)), (3, .int (nI (zam (ysf τ k) n))), (4, .int (zdn (ymo (ysf τ k) n))), (5, .int (nI n))] [.int (μ1.1 0 12), .int (nI 0), .ref 11, .ref 40] μ1 rfl trivial ?_
    rw [hld]
    refine zq_call zt_X8_sleep [.ref 40, .ref 11, .int (nI 0), .int (nI (yld τ))] [] (zs_try11 hC hF1 hK1 (wo := 0) (by decide) hl9 hP1) rfl rfl ?_
    rintro _ μ2 ⟨rfl, hF2, hK2, s2, hP2, q2⟩
    refine zq_go zt_X8_sleep 3 [] 67 [(0, .ref 0), (1, .int (nI k)), (2, .int (nI w)), (3, .int (nI (zam (ysf τ k) n))), (4, .int (zdn (ymo (ysf τ k) n))), (5, .int (nI n))] [.int (nI k), .ref 40] μ2 rfl trivial ?_
    refine zq_call zt_X8_sleep [.ref 40, .int (nI k)] [] (show zq_Wp zn_X7_hoursAlone 0 [(0, .ref 40), (1, .int (nI k))] [] μ2 (zq_pi (nI (ysf τ k n)) μ2) from zs_hoursAlone40 q2 lk) rfl rfl ?_
    rintro _ _ ⟨rfl, rfl⟩
    have b1 := ysf_le τ k n
    have b2 := ymo_le (ysf_le τ k) n
    refine zq_go zt_X8_sleep 4 [] (if (nI (ysf τ k n)) ≤ (zdn (ymo (ysf τ k) n)) then 86 else 79) [(0, .ref 0), (1, .int (nI k)), (2, .int (nI w)), (3, .int (nI (zam (ysf τ k) n))), (4, .int (zdn (ymo (ysf τ k) n))), (5, .int (nI n)), (6, .int (nI (ysf τ k n)))] [] μ2 rfl trivial ?_
    refine zq_ite (fun h31 => ?_) (fun h31 => ?_)
    · rw [zdn_le (by omega) (by omega)] at h31
      obtain ⟨e7, e8, e9⟩ := ymo_n h31
      refine zq_go zt_X8_sleep 2 [] 28 [(0, .ref 0), (1, .int (nI k)), (2, .int (nI w)), (3, .int (nI (zam (ysf τ k) n))), (4, .int (zdn (ymo (ysf τ k) n))), (5, .int ((nI n) + (nI 1))), (6, .int (nI (ysf τ k n)))] [] μ2 rfl trivial ?_
      rw [zn_add n 1]
      have h9 := ih (n + 1) μ2 (by omega) ⟨hF2, hK2⟩
      rw [e7, e8] at h9
      exact zq_drp [0, 1, 2, 3, 4, 5] _ rfl h9
    · rw [zdn_le (by omega) (by omega)] at h31
      obtain ⟨e7, e8, e9⟩ := ymo_y h31
      refine zq_go zt_X8_sleep 6 [] 28 [(0, .ref 0), (1, .int (nI k)), (2, .int (nI w)), (3, .int (nI n)), (4, .int (nI (ysf τ k n))), (5, .int ((nI n) + (nI 1))), (6, .int (nI (ysf τ k n)))] [] μ2 rfl trivial ?_
      rw [zn_add n 1]
      have h9 := ih (n + 1) μ2 (by omega) ⟨hF2, hK2⟩
      rw [e7, e8] at h9
      exact zq_drp [0, 1, 2, 3, 4, 5] _ rfl h9
set_option maxRecDepth 100000 in
set_option maxHeartbeats 400000 in
theorem zs_sleep {τ : zTd} {S : zES} {H : zSH} {μ0 : zq_Me} {k w : Nat} (lk : k < ynp τ) (lw : w ≤ 1) (hC : zIc τ S H μ0) : zq_Wp zn_X8_sleep 0 [(0, .ref 0), (1, .int (nI k)), (2, .int (nI w))] [] μ0 (zRc (.int (nI (ySl (ysf τ k) w))) τ S H μ0) := by
  have hnp := hC.2.1.2.1
  refine zq_go zt_X8_sleep 2 [] 2 [(0, .ref 0), (1, .int (nI k)), (2, .int (nI w))] [.int (nI k), .ref 0] μ0 rfl trivial ?_
  refine zq_call zt_X8_sleep [.ref 0, .int (nI k)] [] (zs_isPerson (nI k) hC) rfl rfl ?_
  rintro _ _ ⟨rfl, rfl⟩
  refine zq_go zt_X8_sleep 1 [] (if (zb (0 ≤ nI k ∧ nI k ≤ nI (ynp τ) - nI 1)) = 0 then 17 else 8) [(0, .ref 0), (1, .int (nI k)), (2, .int (nI w))] [] μ0 rfl trivial ?_
  rw [if_neg (zb_n (yip (by omega) (by omega)))]
  refine zq_go zt_X8_sleep 3 [] 11 [(0, .ref 0), (1, .int (nI k)), (2, .int (nI w))] [.int (nI 1), .int (nI 0), .int (nI w)] μ0 rfl trivial ?_
  refine zq_call zt_X8_sleep [.int (nI w), .int (nI 0), .int (nI 1)] [] (zs_within (nI w) (nI 0) (nI 1) μ0) rfl rfl ?_
  rintro _ _ ⟨rfl, rfl⟩
  refine zq_go zt_X8_sleep 1 [] (if ¬ (zb (0 ≤ nI w ∧ nI w ≤ nI 1)) = 0 then 20 else 17) [(0, .ref 0), (1, .int (nI k)), (2, .int (nI w))] [] μ0 rfl trivial ?_
  rw [if_pos (zb_n (yin (by omega) (by decide)))]
  refine zq_go zt_X8_sleep 6 [] 28 [(0, .ref 0), (1, .int (nI k)), (2, .int (nI w)), (3, .int (nI 0)), (4, .int (-1)), (5, .int (nI 0))] [] μ0 rfl trivial ?_
  refine zs_sleep_l hC lk (fun μ3 h3 => ?_) 8 0 μ0 (by omega) ⟨zq_fr.rf, hC.2.2.2.2.2.1.2⟩
  refine zq_go zt_X8_sleep 5 [] 99 [(0, .ref 0), (1, .int (nI k)), (2, .int (nI w)), (3, .int (nI (zam (ysf τ k) 8))), (4, .int (zdn (ymo (ysf τ k) 8)))] [.int (-1), .int (-1), .int (-1), .ref 40] μ3 rfl trivial ?_
  refine zq_call zt_X8_sleep [.ref 40, .int (-1), .int (-1), .int (-1)] [] (zs_suppose (-1) (-1) (-1) μ3) rfl rfl ?_
  rintro _ μ4 ⟨rfl, f4, p1, p2, p3⟩
  have hF4 : zq_fr [5, 15, 16, 17, 18, 19, 40, 41, 42, 43, 44, 45, 46, 47, 48] μ0 μ4 := h3.1.tr (f4.wk (by simp))
  have hI : zIc τ S H μ4 := hC.tr hF4 ⟨p1, by unfold zK40; rw [f4.a (b := 46) (by decide), f4.a (b := 45) (by decide)]; exact h3.2⟩
  refine zq_go zt_X8_sleep 2 [] (if ¬ (nI w) = 0 then 110 else 106) [(0, .ref 0), (1, .int (nI k)), (2, .int (nI w)), (3, .int (nI (zam (ysf τ k) 8))), (4, .int (zdn (ymo (ysf τ k) 8)))] [] μ4 rfl trivial ?_
  refine zq_ite (fun h19 => ?_) (fun h19 => ?_)
  · rw [show (0 : Int32) = nI 0 from rfl, zn_eq (by omega) (by omega)] at h19
    have e0 : ySl (ysf τ k) w = zmx (ysf τ k) 8 := if_neg (by omega)
    rw [e0]
    refine zq_go zt_X8_sleep 1 [] 112 [(0, .ref 0), (1, .int (nI k)), (2, .int (nI w)), (3, .int (nI (zam (ysf τ k) 8))), (4, .int (zdn (ymo (ysf τ k) 8)))] [.int (zdn (ymo (ysf τ k) 8))] μ4 rfl trivial ?_
    exact zq_retn zt_X8_sleep rfl rfl (⟨rfl, hI, hF4.wk (by simp +contextual [zSC])⟩)
  · rw [show (0 : Int32) = nI 0 from rfl, zn_eq (by omega) (by omega)] at h19
    have e0 : ySl (ysf τ k) w = zam (ysf τ k) 8 := if_pos (by omega)
    rw [e0]
    refine zq_go zt_X8_sleep 2 [] 112 [(0, .ref 0), (1, .int (nI k)), (2, .int (nI w)), (3, .int (nI (zam (ysf τ k) 8))), (4, .int (zdn (ymo (ysf τ k) 8)))] [.int (nI (zam (ysf τ k) 8))] μ4 rfl trivial ?_
    exact zq_retn zt_X8_sleep rfl rfl (⟨rfl, hI, hF4.wk (by simp +contextual [zSC])⟩)
set_option maxRecDepth 100000 in
set_option maxHeartbeats 400000 in
theorem zs_sleepOf_l {Q : zq_Post} {τ : zTd} {S : zES} {H : zSH} {μ0 : zq_Me} {k w : Nat} (lk : k < ynp τ) (kk : ∀ μ : zq_Me, (zIm τ S H μ ∧ zq_fr zSM μ0 μ ∧ ∃ b, b < 8 ∧ zNr τ (ysr τ) (yub (ybd τ) k b) (yld τ) τ.2.2.2 0 μ) → zq_Wp zn_X9_sleepOf 84 [(0, .ref 50), (1, .int (nI k)), (2, .int (nI w)), (3, .int (nI (ybd τ k))), (4, .int (zdn (yam (ysf τ k) 8))), (5, .int (zdn (ymo (ysf τ k) 8)))] [] μ Q) : ∀ (j n : Nat) (μ : zq_Me), n + j = 8 → (zIm τ S H μ ∧ zq_fr zSM μ0 μ ∧ ∃ b, b < 8 ∧ zNr τ (ysr τ) (yub (ybd τ) k b) (yld τ) τ.2.2.2 0 μ) → zq_Wp zn_X9_sleepOf 20 [(0, .ref 50), (1, .int (nI k)), (2, .int (nI w)), (3, .int (nI (ybd τ k))), (4, .int (zdn (yam (ysf τ k) n))), (5, .int (zdn (ymo (ysf τ k) n))), (6, .int (nI n))] [] μ Q := by
  intro j
  induction j with
  | zero =>
    rintro n μ hij hI
    obtain rfl : n = 8 := by omega
    refine zq_go zt_X9_sleepOf 3 [] (if (nI 8) ≤ (nI 8) then 84 else 27) [(0, .ref 50), (1, .int (nI k)), (2, .int (nI w)), (3, .int (nI (ybd τ k))), (4, .int (zdn (yam (ysf τ k) 8))), (5, .int (zdn (ymo (ysf τ k) 8))), (6, .int (nI 8))] [] μ rfl trivial ?_
    rw [if_pos (by decide)]
    exact zq_drp [0, 1, 2, 3, 4, 5] _ rfl (kk μ hI)
  | succ j ih =>
    rintro n μ hij ⟨hM, hF, b0, lb0, hN⟩
    have hnp := hN.2.1.1
    have hl9 := hM.2.1.2.2
    refine zq_go zt_X9_sleepOf 3 [] (if (nI 8) ≤ (nI n) then 84 else 27) [(0, .ref 50), (1, .int (nI k)), (2, .int (nI w)), (3, .int (nI (ybd τ k))), (4, .int (zdn (yam (ysf τ k) n))), (5, .int (zdn (ymo (ysf τ k) n))), (6, .int (nI n))] [] μ rfl trivial ?_
    rw [if_neg (by rw [zn_le (by omega) (by omega)]; omega)]
    refine zq_go zt_X9_sleepOf 6 [vp_in (nI k) 9] 36 [(0, .ref 50), (1, .int (nI k)), (2, .int (nI w)), (3, .int (nI (ybd τ k))), (4, .int (zdn (yam (ysf τ k) n))), (5, .int (zdn (ymo (ysf τ k) n))), (6, .int (nI n))] [.ref 50] (zq_u1 μ 57 ((nI k).toNatClampNeg) (nI n)) rfl ⟨zn_in (k := k) rfl (by omega) (by decide), trivial⟩ ?_
    rw [zn_cl (n := k) (by omega)]
    obtain ⟨μ1, hμ1⟩ : ∃ k9 : zq_Me, k9 = (zq_u1 μ 57 k (nI n)) := ⟨_, rfl⟩
    rw [← hμ1]
    have f1 : zq_fr [57] μ μ1 := by rw [hμ1]; exact zq_fr.rf.u1 (by simp)
    have hM1 : zIm τ S H μ1 := hM.kp f1 (by decide) (fun i hi => by rw [f1.a (b := 50) (by decide)])
    have hN1 : zNr τ (ysr τ) (yub (ybd τ) k n) (yld τ) τ.2.2.2 0 μ1 := by
      obtain ⟨d, p, l, e, w9⟩ := hN
      have q50 : μ1.1 50 = μ.1 50 := f1.a (by decide)
      exact ⟨d.fr f1 (by decide), p.bd (by omega) (by rw [q50]) (f1.a (by decide)) (f1.a (by decide)) (fun q => by rw [hμ1, zq_u1_rd]), by rw [q50]; exact l, e.fr f1 (by decide), by rw [q50]; exact w9⟩
    refine zq_call zt_X9_sleepOf [.ref 50] [] (zs_tryM hM1 hN1 hl9 (by decide)) rfl rfl ?_
    rintro _ μ2 ⟨rfl, hM2, f2, s2, hN2, q2⟩
    refine zq_go zt_X9_sleepOf 2 [] 41 [(0, .ref 50), (1, .int (nI k)), (2, .int (nI w)), (3, .int (nI (ybd τ k))), (4, .int (zdn (yam (ysf τ k) n))), (5, .int (zdn (ymo (ysf τ k) n))), (6, .int (nI n))] [.int (nI k), .ref 50] μ2 rfl trivial ?_
    refine zq_call zt_X9_sleepOf [.ref 50, .int (nI k)] [] (show zq_Wp zn_X9_hoursByItself 0 [(0, .ref 50), (1, .int (nI k))] [] μ2 (zq_pi (nI (ysf τ k n)) μ2) from zs_hoursByItself q2 lk) rfl rfl ?_
    rintro _ _ ⟨rfl, rfl⟩
    have b1 := ysf_le τ k n
    have b2 := ymo_le (ysf_le τ k) n
    refine zq_go zt_X9_sleepOf 4 [] (if (nI (ysf τ k n)) ≤ (zdn (ymo (ysf τ k) n)) then 58 else 53) [(0, .ref 50), (1, .int (nI k)), (2, .int (nI w)), (3, .int (nI (ybd τ k))), (4, .int (zdn (yam (ysf τ k) n))), (5, .int (zdn (ymo (ysf τ k) n))), (6, .int (nI n)), (7, .int (nI (ysf τ k n)))] [] μ2 rfl trivial ?_
    refine zq_ite (fun h32 => ?_) (fun h32 => ?_)
    · have hq9 := h32
      rw [zdn_le (by omega) (by omega)] at h32
      obtain ⟨e7, e8, e9⟩ := ymo_n h32
      refine zq_go zt_X9_sleepOf 5 [] (if (nI (ysf τ k n)) ≤ (zdn (ymo (ysf τ k) n)) then 74 else 69) [(0, .ref 50), (1, .int (nI k)), (2, .int (nI w)), (3, .int (nI (ybd τ k))), (4, .int (zdn (yam (ysf τ k) n))), (5, .int (zdn (ymo (ysf τ k) n))), (6, .int (nI n)), (7, .int (nI (ysf τ k n)))] [] μ2 rfl trivial ?_
      rw [if_pos (hq9)]
      refine zq_go zt_X9_sleepOf 4 [] 20 [(0, .ref 50), (1, .int (nI k)), (2, .int (nI w)), (3, .int (nI (ybd τ k))), (4, .int (zdn (yam (ysf τ k) n))), (5, .int (zdn (ymo (ysf τ k) n))), (6, .int ((nI n) + (nI 1))), (7, .int (nI (ysf τ k n)))] [] μ2 rfl trivial ?_
      rw [zn_add n 1]
      have h9 := ih (n + 1) μ2 (by omega) ⟨hM2, hF.tr ((f1.wk (by simp [zSM])).tr (f2.wk (by simp +contextual [zSM]))), n, by omega, hN2⟩
      rw [e7, e9] at h9
      exact zq_drp [0, 1, 2, 3, 4, 5, 6] _ rfl h9
    · have hq9 := h32
      rw [zdn_le (by omega) (by omega)] at h32
      obtain ⟨e7, e8, e9⟩ := ymo_y h32
      refine zq_go zt_X9_sleepOf 2 [] 60 [(0, .ref 50), (1, .int (nI k)), (2, .int (nI w)), (3, .int (nI (ybd τ k))), (4, .int (zdn (yam (ysf τ k) n))), (5, .int (zdn (ymo (ysf τ k) n))), (6, .int (nI n)), (7, .int (nI (ysf τ k n)))] [.int (nI n)] μ2 rfl trivial ?_
      refine zq_go zt_X9_sleepOf 4 [] (if (nI (ysf τ k n)) ≤ (zdn (ymo (ysf τ k) n)) then 74 else 69) [(0, .ref 50), (1, .int (nI k)), (2, .int (nI w)), (3, .int (nI (ybd τ k))), (4, .int (nI n)), (5, .int (zdn (ymo (ysf τ k) n))), (6, .int (nI n)), (7, .int (nI (ysf τ k n)))] [] μ2 rfl trivial ?_
      rw [if_neg (hq9)]
      refine zq_go zt_X9_sleepOf 2 [] 76 [(0, .ref 50), (1, .int (nI k)), (2, .int (nI w)), (3, .int (nI (ybd τ k))), (4, .int (nI n)), (5, .int (zdn (ymo (ysf τ k) n))), (6, .int (nI n)), (7, .int (nI (ysf τ k n)))] [.int (nI (ysf τ k n))] μ2 rfl trivial ?_
      refine zq_go zt_X9_sleepOf 3 [] 20 [(0, .ref 50), (1, .int (nI k)), (2, .int (nI w)), (3, .int (nI (ybd τ k))), (4, .int (nI n)), (5, .int (nI (ysf τ k n))), (6, .int ((nI n) + (nI 1))), (7, .int (nI (ysf τ k n)))] [] μ2 rfl trivial ?_
      rw [zn_add n 1]
      have h9 := ih (n + 1) μ2 (by omega) ⟨hM2, hF.tr ((f1.wk (by simp [zSM])).tr (f2.wk (by simp +contextual [zSM]))), n, by omega, hN2⟩
      rw [e7, e9] at h9
      exact zq_drp [0, 1, 2, 3, 4, 5, 6] _ rfl h9
set_option maxRecDepth 100000 in
set_option maxHeartbeats 400000 in
theorem zs_sleepOf {τ : zTd} {S : zES} {H : zSH} {μ0 : zq_Me} {k w : Nat} (lk : k < ynp τ) (lw : w ≤ 1) (hM : zIm τ S H μ0) : zq_Wp zn_X9_sleepOf 0 [(0, .ref 50), (1, .int (nI k)), (2, .int (nI w))] [] μ0 (zRm' (.int (nI (ySl (ysf τ k) w))) τ S H μ0) := by
  refine zq_go zt_X9_sleepOf 1 [] 1 [(0, .ref 50), (1, .int (nI k)), (2, .int (nI w))] [.ref 50] μ0 rfl trivial ?_
  refine zq_call zt_X9_sleepOf [.ref 50] [] (zs_asTold hM) rfl rfl ?_
  rintro _ ν1 ⟨rfl, n1, k1, o1⟩
  have hnp := o1.2.1.1
  have hl9 := n1.2.1.2.2
  obtain ⟨c1, c2, c3, c4, c5, c6⟩ := o1.2.1.2.2 k lk
  refine zq_go zt_X9_sleepOf 11 [vp_in (nI k) 9] 20 [(0, .ref 50), (1, .int (nI k)), (2, .int (nI w)), (3, .int (ν1.1 57 ((nI k).toNatClampNeg))), (4, .int (-1)), (5, .int (-1)), (6, .int (nI 0))] [] ν1 rfl ⟨zn_in (k := k) rfl (by omega) (by decide), trivial⟩ ?_
  rw [zn_cl (n := k) (by omega), c5]
  refine zs_sleepOf_l (τ := τ) (S := S) (H := H) (μ0 := μ0) lk (fun μ3 h3 => ?_) 8 0 ν1 (by omega) ⟨n1, k1, ybd τ k, c6, by rw [yub_self]; exact o1.r⟩
  refine zq_go zt_X9_sleepOf 7 [vp_in (nI k) 9] (if ¬ (nI w) = 0 then 100 else 95) [(0, .ref 50), (1, .int (nI k)), (2, .int (nI w)), (3, .int (nI (ybd τ k))), (4, .int (zdn (yam (ysf τ k) 8))), (5, .int (zdn (ymo (ysf τ k) 8)))] [] (zq_u1 μ3 57 ((nI k).toNatClampNeg) (nI (ybd τ k))) rfl ⟨zn_in (k := k) rfl (by omega) (by decide), trivial⟩ ?_
  rw [zn_cl (n := k) (by omega)]
  obtain ⟨hM3, hF3, b0, lb0, hN3⟩ := h3
  refine zq_ite (fun h12 => ?_) (fun h12 => ?_)
  · rw [show (0 : Int32) = nI 0 from rfl, zn_eq (by omega) (by omega)] at h12
    have e0 : ySl (ysf τ k) w = zmx (ysf τ k) 8 := if_neg (by omega)
    rw [e0]
    refine zq_go zt_X9_sleepOf 1 [] 102 [(0, .ref 50), (1, .int (nI k)), (2, .int (nI w)), (3, .int (nI (ybd τ k))), (4, .int (zdn (yam (ysf τ k) 8))), (5, .int (zdn (ymo (ysf τ k) 8)))] [.int (zdn (ymo (ysf τ k) 8))] (zq_u1 μ3 57 k (nI (ybd τ k))) rfl trivial ?_
    obtain ⟨μ4, hμ4⟩ : ∃ k9 : zq_Me, k9 = (zq_u1 μ3 57 k (nI (ybd τ k))) := ⟨_, rfl⟩
    rw [← hμ4]
    have f4 : zq_fr [57] μ3 μ4 := by rw [hμ4]; exact zq_fr.rf.u1 (by simp)
    have hI : zIm τ S H μ4 := hM3.kp f4 (by decide) (fun i hi => by rw [f4.a (b := 50) (by decide)])
    have hF4 : zq_fr zSM μ0 μ4 := hF3.tr (f4.wk (by simp [zSM]))
    exact zq_retn zt_X9_sleepOf rfl rfl (⟨rfl, hI, hF4⟩)
  · rw [show (0 : Int32) = nI 0 from rfl, zn_eq (by omega) (by omega)] at h12
    have e0 : ySl (ysf τ k) w = zam (ysf τ k) 8 := if_pos (by omega)
    rw [e0]
    refine zq_go zt_X9_sleepOf 2 [] 102 [(0, .ref 50), (1, .int (nI k)), (2, .int (nI w)), (3, .int (nI (ybd τ k))), (4, .int (zdn (yam (ysf τ k) 8))), (5, .int (zdn (ymo (ysf τ k) 8)))] [.int (zdn (yam (ysf τ k) 8))] (zq_u1 μ3 57 k (nI (ybd τ k))) rfl trivial ?_
    obtain ⟨μ4, hμ4⟩ : ∃ k9 : zq_Me, k9 = (zq_u1 μ3 57 k (nI (ybd τ k))) := ⟨_, rfl⟩
    rw [← hμ4]
    have f4 : zq_fr [57] μ3 μ4 := by rw [hμ4]; exact zq_fr.rf.u1 (by simp)
    have hI : zIm τ S H μ4 := hM3.kp f4 (by decide) (fun i hi => by rw [f4.a (b := 50) (by decide)])
    have hF4 : zq_fr zSM μ0 μ4 := hF3.tr (f4.wk (by simp [zSM]))
    exact zq_retn zt_X9_sleepOf rfl rfl (⟨rfl, hI, hF4⟩)
set_option maxRecDepth 100000 in
set_option maxHeartbeats 400000 in
theorem zs_sleepm {τ : zTd} {S : zES} {H : zSH} {μ0 : zq_Me} {k w : Nat} (lk : k < ynp τ) (lw : w ≤ 1) (hM : zIm τ S H μ0) : zq_Wp zn_X9_sleep 0 [(0, .ref 50), (1, .int (nI k)), (2, .int (nI w))] [] μ0 (zRm' (.int (nI (ySl (ysf τ k) w))) τ S H μ0) := by
  refine zq_go zt_X9_sleep 2 [] 2 [(0, .ref 50), (1, .int (nI k)), (2, .int (nI w))] [.int (nI k), .ref 50] μ0 rfl trivial ?_
  refine zq_call zt_X9_sleep [.ref 50, .int (nI k)] [] (zs_isPersonm (nI k) hM) rfl rfl ?_
  rintro _ ν0 ⟨rfl, n0, k0, d0, p0⟩
  have hnp := p0.1
  refine zq_go zt_X9_sleep 1 [] (if (zb (0 ≤ (nI k) ∧ (nI k) ≤ nI (ynp τ) - nI 1)) = 0 then 24 else 8) [(0, .ref 50), (1, .int (nI k)), (2, .int (nI w))] [] ν0 rfl trivial ?_
  rw [if_neg (zb_n (yip lk (by omega)))]
  refine zq_go zt_X9_sleep 1 [] 9 [(0, .ref 50), (1, .int (nI k)), (2, .int (nI w))] [.int (nI w)] ν0 rfl trivial ?_
  refine zq_call zt_X9_sleep [.int (nI w)] [] (zs_isTwom (nI w) ν0) rfl rfl ?_
  rintro _ _ ⟨rfl, rfl⟩
  refine zq_go zt_X9_sleep 1 [] (if (zb (0 ≤ (nI w) ∧ (nI w) ≤ nI 1)) = 0 then 24 else 15) [(0, .ref 50), (1, .int (nI k)), (2, .int (nI w))] [] ν0 rfl trivial ?_
  rw [if_neg (zb_n (yin (by omega) (by decide)))]
  refine zq_go zt_X9_sleep 3 [] 18 [(0, .ref 50), (1, .int (nI k)), (2, .int (nI w))] [.int (nI w), .int (nI k), .ref 50] ν0 rfl trivial ?_
  refine zq_call zt_X9_sleep [.ref 50, .int (nI k), .int (nI w)] [] (zs_sleepOf lk lw n0) rfl rfl ?_
  rintro _ ν2 ⟨rfl, n2, k2⟩
  refine zq_go zt_X9_sleep 1 [] 26 [(0, .ref 50), (1, .int (nI k)), (2, .int (nI w))] [.int (nI (ySl (ysf τ k) w))] ν2 rfl trivial ?_
  exact zq_retn zt_X9_sleep rfl rfl (⟨rfl, n2, k0.tr k2⟩)
set_option maxRecDepth 100000 in
set_option maxHeartbeats 400000 in
theorem zs_sleep_b {τ : zTd} {S : zES} {H : zSH} {μ0 : zq_Me} (v1 v2 : Int32) (hg : ¬ ((0 ≤ v1 ∧ v1 ≤ nI (ynp τ) - nI 1) ∧ (0 ≤ v2 ∧ v2 ≤ nI 1))) (hC : zIc τ S H μ0) : zq_Wp zn_X8_sleep 0 [(0, .ref 0), (1, .int v1), (2, .int v2)] [] μ0 (zRc (.int (-2)) τ S H μ0) := by
  refine zq_go zt_X8_sleep 2 [] 2 [(0, .ref 0), (1, .int v1), (2, .int v2)] [.int v1, .ref 0] μ0 rfl trivial ?_
  refine zq_call zt_X8_sleep [.ref 0, .int v1] [] (zs_isPerson v1 hC) rfl rfl ?_
  rintro _ _ ⟨rfl, rfl⟩
  refine zq_go zt_X8_sleep 1 [] (if (zb (0 ≤ v1 ∧ v1 ≤ nI (ynp τ) - nI 1)) = 0 then 17 else 8) [(0, .ref 0), (1, .int v1), (2, .int v2)] [] μ0 rfl trivial ?_
  refine zq_ite (fun h4 => ?_) (fun h4 => ?_)
  · refine zq_go zt_X8_sleep 1 [] 19 [(0, .ref 0), (1, .int v1), (2, .int v2)] [.int (-2)] μ0 rfl trivial ?_
    exact zq_retn zt_X8_sleep rfl rfl (⟨rfl, hC, zq_fr.rf⟩)
  · have g0 := zb_p h4
    refine zq_go zt_X8_sleep 3 [] 11 [(0, .ref 0), (1, .int v1), (2, .int v2)] [.int (nI 1), .int (nI 0), .int v2] μ0 rfl trivial ?_
    refine zq_call zt_X8_sleep [.int v2, .int (nI 0), .int (nI 1)] [] (zs_within v2 (nI 0) (nI 1) μ0) rfl rfl ?_
    rintro _ _ ⟨rfl, rfl⟩
    refine zq_go zt_X8_sleep 1 [] (if ¬ (zb (0 ≤ v2 ∧ v2 ≤ nI 1)) = 0 then 20 else 17) [(0, .ref 0), (1, .int v1), (2, .int v2)] [] μ0 rfl trivial ?_
    refine zq_ite (fun h12 => ?_) (fun h12 => ?_)
    · have g1 := zb_p h12
      exact absurd ⟨g0, g1⟩ hg
    · refine zq_go zt_X8_sleep 1 [] 19 [(0, .ref 0), (1, .int v1), (2, .int v2)] [.int (-2)] μ0 rfl trivial ?_
      exact zq_retn zt_X8_sleep rfl rfl (⟨rfl, hC, zq_fr.rf⟩)
set_option maxRecDepth 100000 in
set_option maxHeartbeats 400000 in
theorem zs_sleepm_b {τ : zTd} {S : zES} {H : zSH} {μ0 : zq_Me} (v1 v2 : Int32) (hg : ¬ ((0 ≤ v1 ∧ v1 ≤ nI (ynp τ) - nI 1) ∧ (0 ≤ v2 ∧ v2 ≤ nI 1))) (hM : zIm τ S H μ0) : zq_Wp zn_X9_sleep 0 [(0, .ref 50), (1, .int v1), (2, .int v2)] [] μ0 (zRm' (.int (-2)) τ S H μ0) := by
  refine zq_go zt_X9_sleep 2 [] 2 [(0, .ref 50), (1, .int v1), (2, .int v2)] [.int v1, .ref 50] μ0 rfl trivial ?_
  refine zq_call zt_X9_sleep [.ref 50, .int v1] [] (zs_isPersonm v1 hM) rfl rfl ?_
  rintro _ μ1 ⟨rfl, m1, f1, d1, p1⟩
  refine zq_go zt_X9_sleep 1 [] (if (zb (0 ≤ v1 ∧ v1 ≤ nI (ynp τ) - nI 1)) = 0 then 24 else 8) [(0, .ref 50), (1, .int v1), (2, .int v2)] [] μ1 rfl trivial ?_
  refine zq_ite (fun h4 => ?_) (fun h4 => ?_)
  · refine zq_go zt_X9_sleep 1 [] 26 [(0, .ref 50), (1, .int v1), (2, .int v2)] [.int (-2)] μ1 rfl trivial ?_
    exact zq_retn zt_X9_sleep rfl rfl (⟨rfl, m1, f1⟩)
  · have g0 := zb_p h4
    refine zq_go zt_X9_sleep 1 [] 9 [(0, .ref 50), (1, .int v1), (2, .int v2)] [.int v2] μ1 rfl trivial ?_
    refine zq_call zt_X9_sleep [.int v2] [] (zs_isTwom v2 μ1) rfl rfl ?_
    rintro _ _ ⟨rfl, rfl⟩
    refine zq_go zt_X9_sleep 1 [] (if (zb (0 ≤ v2 ∧ v2 ≤ nI 1)) = 0 then 24 else 15) [(0, .ref 50), (1, .int v1), (2, .int v2)] [] μ1 rfl trivial ?_
    refine zq_ite (fun h12 => ?_) (fun h12 => ?_)
    · refine zq_go zt_X9_sleep 1 [] 26 [(0, .ref 50), (1, .int v1), (2, .int v2)] [.int (-2)] μ1 rfl trivial ?_
      exact zq_retn zt_X9_sleep rfl rfl (⟨rfl, m1, f1⟩)
    · have g1 := zb_p h12
      exact absurd ⟨g0, g1⟩ hg
theorem zo_sleep (v1 v2 : Int32) : zop zn_X8_sleep [(0, .ref 0), (1, .int v1), (2, .int v2)] zn_X9_sleep [(0, .ref 50), (1, .int v1), (2, .int v2)] := by
  intro τ S H μ hC hM
  by_cases hg : (0 ≤ v1 ∧ v1 ≤ nI (ynp τ) - nI 1) ∧ (0 ≤ v2 ∧ v2 ≤ nI 1)
  · have h9 := hC.2.1.2.1
    obtain ⟨k, lk, rfl⟩ := ypx (by omega) hg.1
    obtain ⟨w, lw, rfl⟩ := yix (by decide) hg.2
    exact ⟨_, τ, S, H, zs_sleep lk lw hC, fun _ h => zs_sleepm lk lw h⟩
  · exact ⟨_, τ, S, H, zs_sleep_b v1 v2 hg hC, fun _ h => zs_sleepm_b v1 v2 hg h⟩
