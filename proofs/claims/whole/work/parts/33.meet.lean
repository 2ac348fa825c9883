/-! ===== meet, found, crowd ===== -/
set_option maxRecDepth 100000 in
set_option maxHeartbeats 400000 in
theorem zs_meet_l {τ : zTd} {S : zES} {H : zSH} {μ0 μ : zq_Me} (hI : zIc τ S H μ) (hf : zq_fr zSC μ0 μ) (hQ : zQ33 (ynp τ) (yRt τ 0) μ) {a b : Nat} (la : a < ynp τ) (lb : b < ynp τ) : ∀ (j h : Nat), h + j = 24 → (∀ i, i < h → (fun h => decide (yRt τ 0 a h = yRt τ 0 b h)) i = false) → zq_Wp zn_X8_meet 32 [(0, .ref 0), (1, .int (nI a)), (2, .int (nI b)), (3, .ref 33), (4, .int (nI h))] [] μ (zRc (.int (yMeet τ a b)) τ S H μ0) := by
  intro j
  induction j with
  | zero =>
    intro h hij hN9
    have hnp := hQ.1
    refine zq_go zt_X8_meet 3 [] (if (nI 24) ≤ (nI h) then 65 else 39) [(0, .ref 0), (1, .int (nI a)), (2, .int (nI b)), (3, .ref 33), (4, .int (nI h))] [] μ rfl trivial ?_
    rw [if_pos (by rw [zn_le (by omega) (by omega)]; omega)]
    refine zq_go zt_X8_meet 1 [] 66 [(0, .ref 0), (1, .int (nI a)), (2, .int (nI b)), (3, .ref 33), (4, .int (nI h))] [.int (-1)] μ rfl trivial ?_
    have e9 : yMeet τ a b = -1 := zfI_f (fun i hi => hN9 i (by omega))
    rw [e9]
    exact zq_retn zt_X8_meet rfl rfl (⟨rfl, hI, hf⟩)
  | succ j ih =>
    intro h hij hN9
    have hnp := hQ.1
    refine zq_go zt_X8_meet 3 [] (if (nI 24) ≤ (nI h) then 65 else 39) [(0, .ref 0), (1, .int (nI a)), (2, .int (nI b)), (3, .ref 33), (4, .int (nI h))] [] μ rfl trivial ?_
    rw [if_neg (by rw [zn_le (by omega) (by omega)]; omega)]
    refine zq_go zt_X8_meet 3 [] 43 [(0, .ref 0), (1, .int (nI a)), (2, .int (nI b)), (3, .ref 33), (4, .int (nI h))] [.int (nI a), .int (nI h), .ref 33] μ rfl trivial ?_
    obtain ⟨ra, ra8⟩ := hQ.2.2 a h la (by omega)
    obtain ⟨rb, rb8⟩ := hQ.2.2 b h lb (by omega)
    refine zq_call zt_X8_meet [.ref 33, .int (nI h), .int (nI a)] [] (zs_roomOf33 (show h < 24 by omega) (show a < 8 by omega) ra) rfl rfl ?_
    rintro _ _ ⟨rfl, rfl⟩
    refine zq_go zt_X8_meet 3 [] 50 [(0, .ref 0), (1, .int (nI a)), (2, .int (nI b)), (3, .ref 33), (4, .int (nI h))] [.int (nI b), .int (nI h), .ref 33, .int (nI (yRt τ 0 a h))] μ rfl trivial ?_
    refine zq_call zt_X8_meet [.ref 33, .int (nI h), .int (nI b)] [.int (nI (yRt τ 0 a h))] (zs_roomOf33 (show h < 24 by omega) (show b < 8 by omega) rb) rfl rfl ?_
    rintro _ _ ⟨rfl, rfl⟩
    refine zq_go zt_X8_meet 1 [] (if ¬ (nI (yRt τ 0 a h)) = (nI (yRt τ 0 b h)) then 59 else 56) [(0, .ref 0), (1, .int (nI a)), (2, .int (nI b)), (3, .ref 33), (4, .int (nI h))] [] μ rfl trivial ?_
    refine zq_ite (fun h25 => ?_) (fun h25 => ?_)
    · rw [zn_eq (by omega) (by omega)] at h25
      refine zq_go zt_X8_meet 2 [] 32 [(0, .ref 0), (1, .int (nI a)), (2, .int (nI b)), (3, .ref 33), (4, .int ((nI h) + (nI 1)))] [] μ rfl trivial ?_
      rw [zn_add h 1]
      exact ih (h + 1) (by omega) (zlt_s hN9 (decide_eq_false h25))
    · rw [zn_eq (by omega) (by omega)] at h25
      have h7 := Classical.not_not.mp h25
      refine zq_go zt_X8_meet 1 [] 58 [(0, .ref 0), (1, .int (nI a)), (2, .int (nI b)), (3, .ref 33), (4, .int (nI h))] [.int (nI h)] μ rfl trivial ?_
      have e9 : yMeet τ a b = nI h := zfI_t (by omega) (decide_eq_true h7) hN9
      rw [e9]
      exact zq_retn zt_X8_meet rfl rfl (⟨rfl, hI, hf⟩)
def vMeet (τ : zTd) (v1 v2 : Int32) : Int32 := if (0 ≤ v1 ∧ v1 ≤ nI (ynp τ) - nI 1) ∧ (0 ≤ v2 ∧ v2 ≤ nI (ynp τ) - nI 1) ∧ ¬ v1 = v2 then yMeet τ v1.toNatClampNeg v2.toNatClampNeg else -2
theorem vMeet_eq {τ : zTd} {a b : Nat} (h1 : a < ynp τ) (h2 : b < ynp τ) (hn : ¬ a = b) (hp : ynp τ ≤ 8) : vMeet τ (nI a) (nI b) = yMeet τ a b := by
  unfold vMeet
  rw [if_pos ⟨yip h1 (by omega), yip h2 (by omega), fun q => hn (by rw [zn_eq (by omega) (by omega)] at q; exact q)⟩, zn_cl (by omega), zn_cl (by omega)]
set_option maxRecDepth 100000 in
set_option maxHeartbeats 400000 in
theorem zs_meet {τ : zTd} {S : zES} {H : zSH} {μ0 : zq_Me} (v1 v2 : Int32) (hC : zIc τ S H μ0) : zq_Wp zn_X8_meet 0 [(0, .ref 0), (1, .int v1), (2, .int v2)] [] μ0 (zRc (.int (vMeet τ v1 v2)) τ S H μ0) := by
  have hnp := hC.2.1.2.1
  refine zq_go zt_X8_meet 2 [] 2 [(0, .ref 0), (1, .int v1), (2, .int v2)] [.int v1, .ref 0] μ0 rfl trivial ?_
  refine zq_call zt_X8_meet [.ref 0, .int v1] [] (zs_isPerson v1 hC) rfl rfl ?_
  rintro _ _ ⟨rfl, rfl⟩
  refine zq_go zt_X8_meet 1 [] (if (zb (0 ≤ v1 ∧ v1 ≤ nI (ynp τ) - nI 1)) = 0 then 21 else 8) [(0, .ref 0), (1, .int v1), (2, .int v2)] [] μ0 rfl trivial ?_
  refine zq_ite (fun h5 => ?_) (fun h5 => ?_)
  · rw [show vMeet τ v1 v2 = -2 from if_neg (fun q => zb_0.mp h5 q.1)]
    refine zq_go zt_X8_meet 1 [] 23 [(0, .ref 0), (1, .int v1), (2, .int v2)] [.int (-2)] μ0 rfl trivial ?_
    exact zq_retn zt_X8_meet rfl rfl (⟨rfl, hC, zq_fr.rf⟩)
  · have g0 := zb_p h5
    refine zq_go zt_X8_meet 2 [] 10 [(0, .ref 0), (1, .int v1), (2, .int v2)] [.int v2, .ref 0] μ0 rfl trivial ?_
    refine zq_call zt_X8_meet [.ref 0, .int v2] [] (zs_isPerson v2 hC) rfl rfl ?_
    rintro _ _ ⟨rfl, rfl⟩
    refine zq_go zt_X8_meet 1 [] (if (zb (0 ≤ v2 ∧ v2 ≤ nI (ynp τ) - nI 1)) = 0 then 21 else 16) [(0, .ref 0), (1, .int v1), (2, .int v2)] [] μ0 rfl trivial ?_
    refine zq_ite (fun h14 => ?_) (fun h14 => ?_)
    · rw [show vMeet τ v1 v2 = -2 from if_neg (fun q => zb_0.mp h14 q.2.1)]
      refine zq_go zt_X8_meet 1 [] 23 [(0, .ref 0), (1, .int v1), (2, .int v2)] [.int (-2)] μ0 rfl trivial ?_
      exact zq_retn zt_X8_meet rfl rfl (⟨rfl, hC, zq_fr.rf⟩)
    · have g1 := zb_p h14
      refine zq_go zt_X8_meet 3 [] (if ¬ v1 = v2 then 24 else 21) [(0, .ref 0), (1, .int v1), (2, .int v2)] [] μ0 rfl trivial ?_
      refine zq_ite (fun h20 => ?_) (fun h20 => ?_)
      · obtain ⟨a, la, ea⟩ := ypx (by have := hnp; omega) g0
        subst ea
        obtain ⟨b, lb, eb⟩ := ypx (by have := hnp; omega) g1
        subst eb
        have hn9 : ¬ a = b := fun q => h20 (by rw [q])
        rw [vMeet_eq la lb hn9 hnp]
        refine zq_go zt_X8_meet 1 [] 25 [(0, .ref 0), (1, .int (nI a)), (2, .int (nI b))] [.ref 0] μ0 rfl trivial ?_
        refine zq_call zt_X8_meet [.ref 0] [] (zs_weekAsTold hC) rfl rfl ?_
        rintro _ μ1 ⟨rfl, hC1, f1, hs1⟩
        refine zq_go zt_X8_meet 3 [] 32 [(0, .ref 0), (1, .int (nI a)), (2, .int (nI b)), (3, .ref 33), (4, .int (nI 0))] [] μ1 rfl trivial ?_
        exact zs_meet_l hC1 (f1.wk (by simp +contextual [zSC])) hs1.2 la lb 24 0 (by omega) (fun i hi => absurd hi (Nat.not_lt_zero i))
      · rw [show vMeet τ v1 v2 = -2 from if_neg (fun q => q.2.2 (Classical.not_not.mp h20))]
        refine zq_go zt_X8_meet 1 [] 23 [(0, .ref 0), (1, .int v1), (2, .int v2)] [.int (-2)] μ0 rfl trivial ?_
        exact zq_retn zt_X8_meet rfl rfl (⟨rfl, hC, zq_fr.rf⟩)
def zfr (p : Nat → Bool) (n : Nat) : Int32 := zfI (fun h => decide (n ≤ h) && p h) 24
theorem zfr_0 (p : Nat → Bool) : zfr p 0 = zfI p 24 := by
  unfold zfr
  congr 1
theorem zfr_24 (p : Nat → Bool) : zfr p 24 = -1 := zfI_f (fun i hi => by rw [decide_eq_false (by omega), Bool.false_and])
theorem zfr_t {p : Nat → Bool} {n : Nat} (hn : n < 24) (h : p n = true) : zfr p n = nI n := zfI_t hn (by rw [decide_eq_true (Nat.le_refl n), h]; rfl) (fun i hi => by rw [decide_eq_false (by omega), Bool.false_and])
theorem zfr_f {p : Nat → Bool} {n : Nat} (h : p n = false) : zfr p n = zfr p (n + 1) := by
  unfold zfr
  congr 1
  funext i
  by_cases e : i = n
  · subst e; rw [h, Bool.and_false, Bool.and_false]
  · rw [show decide (n ≤ i) = decide (n + 1 ≤ i) from decide_eq_decide.mpr (by omega)]
set_option maxRecDepth 100000 in
set_option maxHeartbeats 400000 in
theorem zs_metOf_l {Q : zq_Post} {τ : zTd} {μ : zq_Me} (hQ : zQm (ynp τ) (yRt τ 0) μ) {a b : Nat} (la : a < ynp τ) (lb : b < ynp τ) (kk : zq_Wp zn_X9_metOf 55 [(3, .int (yMeet τ a b))] [] μ Q) : ∀ (n : Nat), n ≤ 24 → zq_Wp zn_X9_metOf 10 [(0, .ref 50), (1, .int (nI a)), (2, .int (nI b)), (3, .int (zfr (fun h => decide (yRt τ 0 a h = yRt τ 0 b h)) n)), (4, .int (zdn n))] [] μ Q := by
  intro n
  induction n with
  | zero =>
    intro _
    have hnp := hQ.1
    refine zq_go zt_X9_metOf 2 [] (if (zdn 0) < 0 then 55 else 15) [(0, .ref 50), (1, .int (nI a)), (2, .int (nI b)), (3, .int (zfr (fun h => decide (yRt τ 0 a h = yRt τ 0 b h)) 0)), (4, .int (zdn 0))] [] μ rfl trivial ?_
    rw [if_pos (zdn_neg)]
    rw [zfr_0]
    exact zq_drp [3] _ rfl kk
  | succ n ih =>
    intro hn
    have hnp := hQ.1
    have ez : zdn (n + 1) = nI n := rfl
    rw [ez]
    obtain ⟨ra, ra8⟩ := hQ.2.2 a n la (by omega)
    obtain ⟨rb, rb8⟩ := hQ.2.2 b n lb (by omega)
    refine zq_go zt_X9_metOf 2 [] (if (nI n) < 0 then 55 else 15) [(0, .ref 50), (1, .int (nI a)), (2, .int (nI b)), (3, .int (zfr (fun h => decide (yRt τ 0 a h = yRt τ 0 b h)) (n + 1))), (4, .int (nI n))] [] μ rfl trivial ?_
    rw [if_neg (zn_notneg (by omega))]
    refine zq_go zt_X9_metOf 17 [vp_in (((nI 8) * (nI n)) + (nI a)) 192, vp_in (((nI 8) * (nI n)) + (nI b)) 192] (if ¬ (μ.1 66 ((((nI 8) * (nI n)) + (nI a)).toNatClampNeg)) = (μ.1 66 ((((nI 8) * (nI n)) + (nI b)).toNatClampNeg)) then 47 else 42) [(0, .ref 50), (1, .int (nI a)), (2, .int (nI b)), (3, .int (zfr (fun h => decide (yRt τ 0 a h = yRt τ 0 b h)) (n + 1))), (4, .int (nI n))] [] μ rfl ⟨zn_in (k := (8 * n) + a) (by rw [zn_mul 8 n, zn_add (8 * n) a]) (by omega) (by decide), ⟨zn_in (k := (8 * n) + b) (by rw [zn_mul 8 n, zn_add (8 * n) b]) (by omega) (by decide), trivial⟩⟩ ?_
    rw [zn_mul 8 n, zn_add (8 * n) a, zn_cl (n := (8 * n) + a) (by omega), ra, zn_add (8 * n) b, zn_cl (n := (8 * n) + b) (by omega), rb]
    refine zq_ite (fun h20 => ?_) (fun h20 => ?_)
    · rw [zn_eq (by omega) (by omega)] at h20
      have e9 : zfr (fun h => decide (yRt τ 0 a h = yRt τ 0 b h)) n = zfr (fun h => decide (yRt τ 0 a h = yRt τ 0 b h)) (n + 1) := zfr_f (decide_eq_false h20)
      rw [← e9]
      refine zq_go zt_X9_metOf 4 [] 10 [(0, .ref 50), (1, .int (nI a)), (2, .int (nI b)), (3, .int (zfr (fun h => decide (yRt τ 0 a h = yRt τ 0 b h)) n)), (4, .int ((nI n) + (-1)))] [] μ rfl trivial ?_
      rw [zdn_dec]
      exact ih (by omega)
    · rw [zn_eq (by omega) (by omega)] at h20
      have h7 := Classical.not_not.mp h20
      have e9 : zfr (fun h => decide (yRt τ 0 a h = yRt τ 0 b h)) n = nI n := zfr_t (by omega) (decide_eq_true h7)
      refine zq_go zt_X9_metOf 2 [] 48 [(0, .ref 50), (1, .int (nI a)), (2, .int (nI b)), (3, .int (zfr (fun h => decide (yRt τ 0 a h = yRt τ 0 b h)) (n + 1))), (4, .int (nI n))] [.int (nI n)] μ rfl trivial ?_
      refine zq_go zt_X9_metOf 3 [] 10 [(0, .ref 50), (1, .int (nI a)), (2, .int (nI b)), (3, .int (nI n)), (4, .int ((nI n) + (-1)))] [] μ rfl trivial ?_
      rw [zdn_dec, ← e9]
      exact ih (by omega)
set_option maxRecDepth 100000 in
set_option maxHeartbeats 400000 in
theorem zs_metOf {τ : zTd} {S : zES} {H : zSH} {μ0 : zq_Me} {a b : Nat} (la : a < ynp τ) (lb : b < ynp τ) (hM : zIm τ S H μ0) : zq_Wp zn_X9_metOf 0 [(0, .ref 50), (1, .int (nI a)), (2, .int (nI b))] [] μ0 (zRm' (.int (yMeet τ a b)) τ S H μ0) := by
  refine zq_go zt_X9_metOf 1 [] 1 [(0, .ref 50), (1, .int (nI a)), (2, .int (nI b))] [.ref 50] μ0 rfl trivial ?_
  refine zq_call zt_X9_metOf [.ref 50] [] (zs_runsTold hM) rfl rfl ?_
  rintro _ ν1 ⟨rfl, n1, k1, o1, r1, q1⟩
  refine zq_go zt_X9_metOf 4 [] 10 [(0, .ref 50), (1, .int (nI a)), (2, .int (nI b)), (3, .int (-1)), (4, .int (nI 23))] [] ν1 rfl trivial ?_
  rw [show (-1 : Int32) = zfr (fun h => decide (yRt τ 0 a h = yRt τ 0 b h)) 24 from (zfr_24 _).symm]
  refine zs_metOf_l q1 la lb ?_ 24 (by omega)
  refine zq_go zt_X9_metOf 1 [] 56 [(3, .int (yMeet τ a b))] [.int (yMeet τ a b)] ν1 rfl trivial ?_
  exact zq_retn zt_X9_metOf rfl rfl (⟨rfl, n1, k1⟩)
set_option maxRecDepth 100000 in
set_option maxHeartbeats 400000 in
theorem zs_meetm {τ : zTd} {S : zES} {H : zSH} {μ0 : zq_Me} (v1 v2 : Int32) (hM : zIm τ S H μ0) : zq_Wp zn_X9_meet 0 [(0, .ref 50), (1, .int v1), (2, .int v2)] [] μ0 (zRm' (.int (vMeet τ v1 v2)) τ S H μ0) := by
  refine zq_go zt_X9_meet 2 [] 2 [(0, .ref 50), (1, .int v1), (2, .int v2)] [.int v1, .ref 50] μ0 rfl trivial ?_
  refine zq_call zt_X9_meet [.ref 50, .int v1] [] (zs_isPersonm v1 hM) rfl rfl ?_
  rintro _ μ1 ⟨rfl, m1, f1, d1, p1⟩
  refine zq_go zt_X9_meet 1 [] (if (zb (0 ≤ v1 ∧ v1 ≤ nI (ynp τ) - nI 1)) = 0 then 30 else 8) [(0, .ref 50), (1, .int v1), (2, .int v2)] [] μ1 rfl trivial ?_
  refine zq_ite (fun h4 => ?_) (fun h4 => ?_)
  · rw [show vMeet τ v1 v2 = -2 from if_neg (fun q => zb_0.mp h4 q.1)]
    refine zq_go zt_X9_meet 1 [] 32 [(0, .ref 50), (1, .int v1), (2, .int v2)] [.int (-2)] μ1 rfl trivial ?_
    exact zq_retn zt_X9_meet rfl rfl (⟨rfl, m1, f1⟩)
  · have g0 := zb_p h4
    refine zq_go zt_X9_meet 2 [] 10 [(0, .ref 50), (1, .int v1), (2, .int v2)] [.int v2, .ref 50] μ1 rfl trivial ?_
    refine zq_call zt_X9_meet [.ref 50, .int v2] [] (zs_isPersonm v2 m1) rfl rfl ?_
    rintro _ μ10 ⟨rfl, m10, f10, d10, p10⟩
    refine zq_go zt_X9_meet 1 [] (if (zb (0 ≤ v2 ∧ v2 ≤ nI (ynp τ) - nI 1)) = 0 then 30 else 16) [(0, .ref 50), (1, .int v1), (2, .int v2)] [] μ10 rfl trivial ?_
    refine zq_ite (fun h13 => ?_) (fun h13 => ?_)
    · rw [show vMeet τ v1 v2 = -2 from if_neg (fun q => zb_0.mp h13 q.2.1)]
      refine zq_go zt_X9_meet 1 [] 32 [(0, .ref 50), (1, .int v1), (2, .int v2)] [.int (-2)] μ10 rfl trivial ?_
      exact zq_retn zt_X9_meet rfl rfl (⟨rfl, m10, (f1.tr f10)⟩)
    · have g1 := zb_p h13
      refine zq_go zt_X9_meet 3 [] (if v1 = v2 then 30 else 21) [(0, .ref 50), (1, .int v1), (2, .int v2)] [] μ10 rfl trivial ?_
      refine zq_ite (fun h19 => ?_) (fun h19 => ?_)
      · rw [show vMeet τ v1 v2 = -2 from if_neg (fun q => q.2.2 h19)]
        refine zq_go zt_X9_meet 1 [] 32 [(0, .ref 50), (1, .int v1), (2, .int v2)] [.int (-2)] μ10 rfl trivial ?_
        exact zq_retn zt_X9_meet rfl rfl (⟨rfl, m10, (f1.tr f10)⟩)
      · have hnp := p10.1
        obtain ⟨a, la, ea⟩ := ypx (by have := hnp; omega) g0
        subst ea
        obtain ⟨b, lb, eb⟩ := ypx (by have := hnp; omega) g1
        subst eb
        have hn9 : ¬ a = b := fun q => h19 (by rw [q])
        rw [vMeet_eq la lb hn9 hnp]
        refine zq_go zt_X9_meet 3 [] 24 [(0, .ref 50), (1, .int (nI a)), (2, .int (nI b))] [.int (nI b), .int (nI a), .ref 50] μ10 rfl trivial ?_
        refine zq_call zt_X9_meet [.ref 50, .int (nI a), .int (nI b)] [] (zs_metOf la lb m10) rfl rfl ?_
        rintro _ ν1 ⟨rfl, n1, k1⟩
        refine zq_go zt_X9_meet 1 [] 32 [(0, .ref 50), (1, .int (nI a)), (2, .int (nI b))] [.int (yMeet τ a b)] ν1 rfl trivial ?_
        exact zq_retn zt_X9_meet rfl rfl (⟨rfl, n1, (f1.tr f10).tr k1⟩)
set_option maxRecDepth 100000 in
set_option maxHeartbeats 400000 in
theorem zs_found {τ : zTd} {S : zES} {H : zSH} {μ0 : zq_Me} (v1 : Int32) (hC : zIc τ S H μ0) : zq_Wp zn_X8_found 0 [(0, .ref 0), (1, .int v1)] [] μ0 (zRc (.int (vFound τ v1)) τ S H μ0) := by
  refine zq_go zt_X8_found 3 [] 3 [(0, .ref 0), (1, .int v1)] [.int (nI 2), .int (nI 0), .int v1] μ0 rfl trivial ?_
  refine zq_call zt_X8_found [.int v1, .int (nI 0), .int (nI 2)] [] (zs_within v1 (nI 0) (nI 2) μ0) rfl rfl ?_
  rintro _ _ ⟨rfl, rfl⟩
  refine zq_go zt_X8_found 1 [] (if ¬ (zb (0 ≤ v1 ∧ v1 ≤ nI 2)) = 0 then 12 else 9) [(0, .ref 0), (1, .int v1)] [] μ0 rfl trivial ?_
  refine zq_ite (fun h4 => ?_) (fun h4 => ?_)
  · have g0 := zb_p h4
    obtain ⟨x, lx, ex⟩ := yix (by decide) g0
    subst ex
    rw [vFound_eq lx]
    refine zq_go zt_X8_found 1 [] 13 [(0, .ref 0), (1, .int (nI x))] [.ref 0] μ0 rfl trivial ?_
    refine zq_call zt_X8_found [.ref 0] [] (zs_weekAsTold hC) rfl rfl ?_
    rintro _ μ1 ⟨rfl, hC1, f1, hs1⟩
    refine zq_go zt_X8_found 2 [] 18 [(0, .ref 0), (1, .int (nI x)), (2, .ref 33)] [.ref 33] μ1 rfl trivial ?_
    have hP1 := zP33.of hC1.2.1.2 hC1.2.2.2.2.1.1
    have hnp := hs1.2.1
    refine zq_call zt_X8_found [.ref 33] [] (zs_findingHour33 hP1 hs1.2) rfl rfl ?_
    rintro _ _ ⟨rfl, rfl⟩
    by_cases hf : zf (zfh (ysr τ) (ynp τ) (yRt τ 0)) 24 < 24
    · have e1 : zfI (zfh (ysr τ) (ynp τ) (yRt τ 0)) 24 = nI (zf (zfh (ysr τ) (ynp τ) (yRt τ 0)) 24) := if_pos hf
      rw [e1]
      obtain ⟨k, hk⟩ : ∃ k9, k9 = zf (zfnd (ysr τ) (ynp τ) (yRt τ 0) (zf (zfh (ysr τ) (ynp τ) (yRt τ 0)) 24)) (ynp τ) := ⟨_, rfl⟩
      have hk1 : k < ynp τ := by rw [hk]; exact of_decide_eq_true (zf_hit _ _ hf)
      have hk2 := zf_hit _ _ (show zf (zfnd (ysr τ) (ynp τ) (yRt τ 0) (zf (zfh (ysr τ) (ynp τ) (yRt τ 0)) 24)) (ynp τ) < ynp τ by omega)
      rw [← hk] at hk2
      unfold zfnd at hk2
      rw [Bool.and_eq_true] at hk2
      have hc1 := of_decide_eq_true hk2.2
      have e0 : zfv (ysr τ) (ynp τ) (yRt τ 0) (nI x) = if nI x = 0 then nI (zf (zfh (ysr τ) (ynp τ) (yRt τ 0)) 24) else if nI x = nI 1 then nI k else nI (zf (zchw (ysr τ) (yRt τ 0) (zf (zfh (ysr τ) (ynp τ) (yRt τ 0)) 24) k) (ynp τ)) := by
        unfold zfv
        rw [if_pos hf, ← hk]
        rfl
      rw [e0]
      refine zq_go zt_X8_found 3 [] (if (nI x) = 0 then 31 else 26) [(0, .ref 0), (1, .int (nI x)), (2, .ref 33), (3, .int (nI (zf (zfh (ysr τ) (ynp τ) (yRt τ 0)) 24)))] [] μ1 rfl trivial ?_
      refine zq_ite (fun h33 => ?_) (fun h33 => ?_)
      · rw [if_pos h33]
        refine zq_go zt_X8_found 1 [] 32 [(0, .ref 0), (1, .int (nI x)), (2, .ref 33), (3, .int (nI (zf (zfh (ysr τ) (ynp τ) (yRt τ 0)) 24)))] [.int (nI (zf (zfh (ysr τ) (ynp τ) (yRt τ 0)) 24))] μ1 rfl trivial ?_
        exact zq_retn zt_X8_found rfl rfl (⟨rfl, hC1, f1.wk (by simp +contextual [zSC])⟩)
      · rw [if_neg h33]
        refine zq_go zt_X8_found 3 [] (if ¬ (nI (zf (zfh (ysr τ) (ynp τ) (yRt τ 0)) 24)) = (-1) then 33 else 31) [(0, .ref 0), (1, .int (nI x)), (2, .ref 33), (3, .int (nI (zf (zfh (ysr τ) (ynp τ) (yRt τ 0)) 24)))] [] μ1 rfl trivial ?_
        rw [if_pos (zn_neg1 (by omega))]
        refine zq_go zt_X8_found 2 [] 35 [(0, .ref 0), (1, .int (nI x)), (2, .ref 33), (3, .int (nI (zf (zfh (ysr τ) (ynp τ) (yRt τ 0)) 24)))] [.int (nI (zf (zfh (ysr τ) (ynp τ) (yRt τ 0)) 24)), .ref 33] μ1 rfl trivial ?_
        refine zq_call zt_X8_found [.ref 33, .int (nI (zf (zfh (ysr τ) (ynp τ) (yRt τ 0)) 24))] [] (zs_finder33 hP1 hs1.2 hf) rfl rfl ?_
        rintro _ _ ⟨rfl, rfl⟩
        have e2 : zfI (zfnd (ysr τ) (ynp τ) (yRt τ 0) (zf (zfh (ysr τ) (ynp τ) (yRt τ 0)) 24)) (ynp τ) = nI k := by
          unfold zfI
          rw [← hk]
          exact if_pos hk1
        rw [e2]
        refine zq_go zt_X8_found 4 [] (if ¬ (nI x) = (nI 1) then 50 else 45) [(0, .ref 0), (1, .int (nI x)), (2, .ref 33), (3, .int (nI (zf (zfh (ysr τ) (ynp τ) (yRt τ 0)) 24))), (4, .int (nI k))] [] μ1 rfl trivial ?_
        refine zq_ite (fun h49 => ?_) (fun h49 => ?_)
        · rw [if_neg h49]
          refine zq_go zt_X8_found 3 [] 54 [(0, .ref 0), (1, .int (nI x)), (2, .ref 33), (3, .int (nI (zf (zfh (ysr τ) (ynp τ) (yRt τ 0)) 24))), (4, .int (nI k))] [.int (nI k), .int (nI (zf (zfh (ysr τ) (ynp τ) (yRt τ 0)) 24)), .ref 33] μ1 rfl trivial ?_
          refine zq_call zt_X8_found [.ref 33, .int (nI (zf (zfh (ysr τ) (ynp τ) (yRt τ 0)) 24)), .int (nI k)] [] (zs_childWith33 hP1 hs1.2 hf hk1) rfl rfl ?_
          rintro _ _ ⟨rfl, rfl⟩
          have e3 : zfI (zchw (ysr τ) (yRt τ 0) (zf (zfh (ysr τ) (ynp τ) (yRt τ 0)) 24) k) (ynp τ) = nI (zf (zchw (ysr τ) (yRt τ 0) (zf (zfh (ysr τ) (ynp τ) (yRt τ 0)) 24) k) (ynp τ)) := if_pos hc1
          rw [e3]
          exact zq_retn zt_X8_found rfl rfl (⟨rfl, hC1, f1.wk (by simp +contextual [zSC])⟩)
        · rw [if_pos (Classical.not_not.mp h49)]
          refine zq_go zt_X8_found 2 [] 57 [(0, .ref 0), (1, .int (nI x)), (2, .ref 33), (3, .int (nI (zf (zfh (ysr τ) (ynp τ) (yRt τ 0)) 24))), (4, .int (nI k))] [.int (nI k)] μ1 rfl trivial ?_
          exact zq_retn zt_X8_found rfl rfl (⟨rfl, hC1, f1.wk (by simp +contextual [zSC])⟩)
    · have e1 : zfI (zfh (ysr τ) (ynp τ) (yRt τ 0)) 24 = -1 := if_neg hf
      have e0 : zfv (ysr τ) (ynp τ) (yRt τ 0) (nI x) = -1 := if_neg hf
      rw [e1, e0]
      refine zq_go zt_X8_found 3 [] (if (nI x) = 0 then 31 else 26) [(0, .ref 0), (1, .int (nI x)), (2, .ref 33), (3, .int (-1))] [] μ1 rfl trivial ?_
      refine zq_ite (fun h64 => ?_) (fun h64 => ?_)
      · refine zq_go zt_X8_found 1 [] 32 [(0, .ref 0), (1, .int (nI x)), (2, .ref 33), (3, .int (-1))] [.int (-1)] μ1 rfl trivial ?_
        exact zq_retn zt_X8_found rfl rfl (⟨rfl, hC1, f1.wk (by simp +contextual [zSC])⟩)
      · refine zq_go zt_X8_found 3 [] (if ¬ (-1) = (-1) then 33 else 31) [(0, .ref 0), (1, .int (nI x)), (2, .ref 33), (3, .int (-1))] [] μ1 rfl trivial ?_
        rw [if_neg (fun q => q rfl)]
        refine zq_go zt_X8_found 1 [] 32 [(0, .ref 0), (1, .int (nI x)), (2, .ref 33), (3, .int (-1))] [.int (-1)] μ1 rfl trivial ?_
        exact zq_retn zt_X8_found rfl rfl (⟨rfl, hC1, f1.wk (by simp +contextual [zSC])⟩)
  · rw [show vFound τ v1 = -2 from if_neg (fun q => zb_0.mp (Classical.not_not.mp h4) q)]
    refine zq_go zt_X8_found 1 [] 11 [(0, .ref 0), (1, .int v1)] [.int (-2)] μ0 rfl trivial ?_
    exact zq_retn zt_X8_found rfl rfl (⟨rfl, hC, zq_fr.rf⟩)
set_option maxRecDepth 100000 in
set_option maxHeartbeats 400000 in
theorem zs_crowd_l {Q : zq_Post} {τ : zTd} {μ : zq_Me} (hQ : zQ33 (ynp τ) (yRt τ 0) μ) {x : Nat} (kk : zq_Wp zn_X8_crowd 52 [(0, .ref 0), (1, .int (nI x)), (2, .ref 33), (3, .int (nI (zam (zmo (ynp τ) (yRt τ 0)) 24)))] [] μ Q) : ∀ (j h : Nat), h + j = 24 → 0 < h → zq_Wp zn_X8_crowd 22 [(0, .ref 0), (1, .int (nI x)), (2, .ref 33), (3, .int (nI (zam (zmo (ynp τ) (yRt τ 0)) h))), (4, .int (nI h))] [] μ Q := by
  intro j
  induction j with
  | zero =>
    intro h hij h0
    obtain rfl : h = 24 := by omega
    refine zq_go zt_X8_crowd 3 [] (if (nI 24) ≤ (nI 24) then 52 else 29) [(0, .ref 0), (1, .int (nI x)), (2, .ref 33), (3, .int (nI (zam (zmo (ynp τ) (yRt τ 0)) 24))), (4, .int (nI 24))] [] μ rfl trivial ?_
    rw [if_pos (by decide)]
    exact zq_drp [0, 1, 2, 3] _ rfl kk
  | succ j ih =>
    intro h hij h0
    obtain ⟨e9, l9⟩ := zam_at (f := zmo (ynp τ) (yRt τ 0)) (n := h) h0
    have b9 : ∀ h, zmo (ynp τ) (yRt τ 0) h ≤ 24 := fun h => zmx_le (zcnt_le _ _ h) 8
    have b1 := b9 h
    have b2 := b9 (zam (zmo (ynp τ) (yRt τ 0)) h)
    refine zq_go zt_X8_crowd 3 [] (if (nI 24) ≤ (nI h) then 52 else 29) [(0, .ref 0), (1, .int (nI x)), (2, .ref 33), (3, .int (nI (zam (zmo (ynp τ) (yRt τ 0)) h))), (4, .int (nI h))] [] μ rfl trivial ?_
    rw [if_neg (by rw [zn_le (by omega) (by omega)]; omega)]
    refine zq_go zt_X8_crowd 2 [] 32 [(0, .ref 0), (1, .int (nI x)), (2, .ref 33), (3, .int (nI (zam (zmo (ynp τ) (yRt τ 0)) h))), (4, .int (nI h))] [.int (nI h), .ref 33] μ rfl trivial ?_
    refine zq_call zt_X8_crowd [.ref 33, .int (nI h)] [] (zs_mostIn33 hQ (show h < 24 by omega)) rfl rfl ?_
    rintro _ _ ⟨rfl, rfl⟩
    refine zq_go zt_X8_crowd 2 [] 37 [(0, .ref 0), (1, .int (nI x)), (2, .ref 33), (3, .int (nI (zam (zmo (ynp τ) (yRt τ 0)) h))), (4, .int (nI h))] [.int (nI (zam (zmo (ynp τ) (yRt τ 0)) h)), .ref 33, .int (nI (zmo (ynp τ) (yRt τ 0) h))] μ rfl trivial ?_
    refine zq_call zt_X8_crowd [.ref 33, .int (nI (zam (zmo (ynp τ) (yRt τ 0)) h))] [.int (nI (zmo (ynp τ) (yRt τ 0) h))] (zs_mostIn33 hQ (show zam (zmo (ynp τ) (yRt τ 0)) h < 24 by omega)) rfl rfl ?_
    rintro _ _ ⟨rfl, rfl⟩
    refine zq_go zt_X8_crowd 1 [] (if (nI (zmo (ynp τ) (yRt τ 0) h)) ≤ (nI (zmo (ynp τ) (yRt τ 0) (zam (zmo (ynp τ) (yRt τ 0)) h))) then 46 else 43) [(0, .ref 0), (1, .int (nI x)), (2, .ref 33), (3, .int (nI (zam (zmo (ynp τ) (yRt τ 0)) h))), (4, .int (nI h))] [] μ rfl trivial ?_
    refine zq_ite (fun h23 => ?_) (fun h23 => ?_)
    · rw [zn_le (by omega) (by omega)] at h23
      have e8 : zam (zmo (ynp τ) (yRt τ 0)) (h + 1) = zam (zmo (ynp τ) (yRt τ 0)) h := if_neg (by omega)
      refine zq_go zt_X8_crowd 2 [] 22 [(0, .ref 0), (1, .int (nI x)), (2, .ref 33), (3, .int (nI (zam (zmo (ynp τ) (yRt τ 0)) h))), (4, .int ((nI h) + (nI 1)))] [] μ rfl trivial ?_
      rw [zn_add h 1]
      have h9 := ih (h + 1) (by omega) (by omega)
      rw [e8] at h9
      exact h9
    · rw [zn_le (by omega) (by omega)] at h23
      have e8 : zam (zmo (ynp τ) (yRt τ 0)) (h + 1) = h := if_pos (by omega)
      refine zq_go zt_X8_crowd 4 [] 22 [(0, .ref 0), (1, .int (nI x)), (2, .ref 33), (3, .int (nI h)), (4, .int ((nI h) + (nI 1)))] [] μ rfl trivial ?_
      rw [zn_add h 1]
      have h9 := ih (h + 1) (by omega) (by omega)
      rw [e8] at h9
      exact h9
set_option maxRecDepth 100000 in
set_option maxHeartbeats 400000 in
theorem zs_crowd {τ : zTd} {S : zES} {H : zSH} {μ0 : zq_Me} (v1 : Int32) (hC : zIc τ S H μ0) : zq_Wp zn_X8_crowd 0 [(0, .ref 0), (1, .int v1)] [] μ0 (zRc (.int (vCrowd τ v1)) τ S H μ0) := by
  refine zq_go zt_X8_crowd 3 [] 3 [(0, .ref 0), (1, .int v1)] [.int (nI 2), .int (nI 0), .int v1] μ0 rfl trivial ?_
  refine zq_call zt_X8_crowd [.int v1, .int (nI 0), .int (nI 2)] [] (zs_within v1 (nI 0) (nI 2) μ0) rfl rfl ?_
  rintro _ _ ⟨rfl, rfl⟩
  refine zq_go zt_X8_crowd 1 [] (if ¬ (zb (0 ≤ v1 ∧ v1 ≤ nI 2)) = 0 then 12 else 9) [(0, .ref 0), (1, .int v1)] [] μ0 rfl trivial ?_
  refine zq_ite (fun h4 => ?_) (fun h4 => ?_)
  · have g0 := zb_p h4
    obtain ⟨x, lx, ex⟩ := yix (by decide) g0
    subst ex
    rw [vCrowd_eq lx]
    refine zq_go zt_X8_crowd 1 [] 13 [(0, .ref 0), (1, .int (nI x))] [.ref 0] μ0 rfl trivial ?_
    refine zq_call zt_X8_crowd [.ref 0] [] (zs_weekAsTold hC) rfl rfl ?_
    rintro _ μ1 ⟨rfl, hC1, f1, hs1⟩
    refine zq_go zt_X8_crowd 5 [] 22 [(0, .ref 0), (1, .int (nI x)), (2, .ref 33), (3, .int (nI 0)), (4, .int (nI 1))] [] μ1 rfl trivial ?_
    have e1 : zam (zmo (ynp τ) (yRt τ 0)) 1 = 0 := by
      show (if zmx (zmo (ynp τ) (yRt τ 0)) 0 < zmo (ynp τ) (yRt τ 0) 0 then 0 else 0) = 0
      split <;> rfl
    rw [show nI 0 = nI (zam (zmo (ynp τ) (yRt τ 0)) 1) from congrArg nI e1.symm]
    refine zs_crowd_l hs1.2 ?_ 23 1 (by omega) (by decide)
    obtain ⟨e9, l9⟩ := zam_at (f := zmo (ynp τ) (yRt τ 0)) (n := 24) (by decide)
    have b9 : zmo (ynp τ) (yRt τ 0) (zam (zmo (ynp τ) (yRt τ 0)) 24) ≤ 24 := zmx_le (zcnt_le _ _ _) 8
    obtain ⟨r1, r2, r3⟩ := ycr_spec (ynp τ) (yRt τ 0)
    refine zq_go zt_X8_crowd 2 [] (if ¬ (nI x) = 0 then 58 else 56) [(0, .ref 0), (1, .int (nI x)), (2, .ref 33), (3, .int (nI (zam (zmo (ynp τ) (yRt τ 0)) 24)))] [] μ1 rfl trivial ?_
    refine zq_ite (fun h22 => ?_) (fun h22 => ?_)
    · rw [show (0 : Int32) = nI 0 from rfl, zn_eq (by omega) (by omega)] at h22
      refine zq_go zt_X8_crowd 2 [] 60 [(0, .ref 0), (1, .int (nI x)), (2, .ref 33), (3, .int (nI (zam (zmo (ynp τ) (yRt τ 0)) 24)))] [.int (nI (zam (zmo (ynp τ) (yRt τ 0)) 24)), .ref 33] μ1 rfl trivial ?_
      refine zq_call zt_X8_crowd [.ref 33, .int (nI (zam (zmo (ynp τ) (yRt τ 0)) 24))] [] (zs_mostIn33 hs1.2 l9) rfl rfl ?_
      rintro _ _ ⟨rfl, rfl⟩
      refine zq_go zt_X8_crowd 4 [] (if ¬ (nI x) = (nI 2) then 75 else 70) [(0, .ref 0), (1, .int (nI x)), (2, .ref 33), (3, .int (nI (zam (zmo (ynp τ) (yRt τ 0)) 24))), (4, .int (nI (zmo (ynp τ) (yRt τ 0) (zam (zmo (ynp τ) (yRt τ 0)) 24))))] [] μ1 rfl trivial ?_
      refine zq_ite (fun h28 => ?_) (fun h28 => ?_)
      · rw [zn_eq (by omega) (by omega)] at h28
        have h7 : x = 1 := by omega
        have e0 : yCrowd τ x = ycr (ynp τ) (yRt τ 0) := by subst h7; unfold yCrowd; rw [if_neg (by decide), if_pos rfl]
        rw [e0]
        refine zq_go zt_X8_crowd 3 [] 79 [(0, .ref 0), (1, .int (nI x)), (2, .ref 33), (3, .int (nI (zam (zmo (ynp τ) (yRt τ 0)) 24))), (4, .int (nI (zmo (ynp τ) (yRt τ 0) (zam (zmo (ynp τ) (yRt τ 0)) 24))))] [.int (nI (zmo (ynp τ) (yRt τ 0) (zam (zmo (ynp τ) (yRt τ 0)) 24))), .int (nI (zam (zmo (ynp τ) (yRt τ 0)) 24)), .ref 33] μ1 rfl trivial ?_
        refine zq_call zt_X8_crowd [.ref 33, .int (nI (zam (zmo (ynp τ) (yRt τ 0)) 24)), .int (nI (zmo (ynp τ) (yRt τ 0) (zam (zmo (ynp τ) (yRt τ 0)) 24)))] [] (zs_firstRoom33 hs1.2 l9 (n := zmo (ynp τ) (yRt τ 0) (zam (zmo (ynp τ) (yRt τ 0)) 24)) (by omega)) rfl rfl ?_
        rintro _ _ ⟨rfl, rfl⟩
        have e5 : zfI (fun r => decide (zcnt (ynp τ) (yRt τ 0) (zam (zmo (ynp τ) (yRt τ 0)) 24) r = zmo (ynp τ) (yRt τ 0) (zam (zmo (ynp τ) (yRt τ 0)) 24))) 8 = nI (ycr (ynp τ) (yRt τ 0)) := if_pos r1
        rw [e5]
        exact zq_retn zt_X8_crowd rfl rfl (⟨rfl, hC1, f1.wk (by simp +contextual [zSC])⟩)
      · rw [zn_eq (by omega) (by omega)] at h28
        have h7 : x = 2 := by omega
        have e0 : yCrowd τ x = zmo (ynp τ) (yRt τ 0) (zam (zmo (ynp τ) (yRt τ 0)) 24) := by subst h7; unfold yCrowd; rw [if_neg (by decide), if_neg (by decide)]
        rw [e0]
        refine zq_go zt_X8_crowd 2 [] 82 [(0, .ref 0), (1, .int (nI x)), (2, .ref 33), (3, .int (nI (zam (zmo (ynp τ) (yRt τ 0)) 24))), (4, .int (nI (zmo (ynp τ) (yRt τ 0) (zam (zmo (ynp τ) (yRt τ 0)) 24))))] [.int (nI (zmo (ynp τ) (yRt τ 0) (zam (zmo (ynp τ) (yRt τ 0)) 24)))] μ1 rfl trivial ?_
        exact zq_retn zt_X8_crowd rfl rfl (⟨rfl, hC1, f1.wk (by simp +contextual [zSC])⟩)
    · rw [show (0 : Int32) = nI 0 from rfl, zn_eq (by omega) (by omega)] at h22
      have h7 : x = 0 := by omega
      have e0 : yCrowd τ x = zam (zmo (ynp τ) (yRt τ 0)) 24 := if_pos h7
      rw [e0]
      refine zq_go zt_X8_crowd 1 [] 57 [(0, .ref 0), (1, .int (nI x)), (2, .ref 33), (3, .int (nI (zam (zmo (ynp τ) (yRt τ 0)) 24)))] [.int (nI (zam (zmo (ynp τ) (yRt τ 0)) 24))] μ1 rfl trivial ?_
      exact zq_retn zt_X8_crowd rfl rfl (⟨rfl, hC1, f1.wk (by simp +contextual [zSC])⟩)
  · rw [show vCrowd τ v1 = -2 from if_neg (fun q => zb_0.mp (Classical.not_not.mp h4) q)]
    refine zq_go zt_X8_crowd 1 [] 11 [(0, .ref 0), (1, .int v1)] [.int (-2)] μ0 rfl trivial ?_
    exact zq_retn zt_X8_crowd rfl rfl (⟨rfl, hC, zq_fr.rf⟩)
theorem zn_div8 {c : Nat} (h : c < 2 ^ 20) : nI c / nI 8 = nI (c / 8) := pk_div (by omega) (by decide) (by decide)
theorem zn_mod8 {c : Nat} (h : c < 2 ^ 20) : nI c - nI c / nI 8 * nI 8 = nI (c % 8) := by
  rw [zn_div8 h, zn_mul, zn_sub (by omega)]
  congr 1
  omega
set_option maxRecDepth 100000 in
set_option maxHeartbeats 400000 in
theorem zs_crowdOf_l {Q : zq_Post} {τ : zTd} {μ : zq_Me} (hQ : zQm (ynp τ) (yRt τ 0) μ) {x : Nat} (kk : zq_Wp zn_X9_crowdOf 71 [(1, .int (nI x)), (2, .int (nI (zam (ycc (ynp τ) (yRt τ 0)) 192))), (3, .int (nI (zmx (ycc (ynp τ) (yRt τ 0)) 192)))] [] μ Q) : ∀ (j c : Nat), c + j = 192 → zq_Wp zn_X9_crowdOf 11 [(0, .ref 50), (1, .int (nI x)), (2, .int (nI (zam (ycc (ynp τ) (yRt τ 0)) c))), (3, .int (nI (zmx (ycc (ynp τ) (yRt τ 0)) c))), (4, .int (nI c))] [] μ Q := by
  intro j
  induction j with
  | zero =>
    intro c hij
    obtain rfl : c = 192 := by omega
    refine zq_go zt_X9_crowdOf 3 [] (if (nI 192) ≤ (nI 192) then 71 else 19) [(0, .ref 50), (1, .int (nI x)), (2, .int (nI (zam (ycc (ynp τ) (yRt τ 0)) 192))), (3, .int (nI (zmx (ycc (ynp τ) (yRt τ 0)) 192))), (4, .int (nI 192))] [] μ rfl trivial ?_
    rw [if_pos (by decide)]
    exact zq_drp [1, 2, 3] _ rfl kk
  | succ j ih =>
    intro c hij
    have b1 : zmx (ycc (ynp τ) (yRt τ 0)) c ≤ 24 := zmx_le (fun i => zcnt_le _ _ _ _) c
    have b2 : ycc (ynp τ) (yRt τ 0) c ≤ 24 := zcnt_le _ _ _ _
    refine zq_go zt_X9_crowdOf 3 [] (if (nI 192) ≤ (nI c) then 71 else 19) [(0, .ref 50), (1, .int (nI x)), (2, .int (nI (zam (ycc (ynp τ) (yRt τ 0)) c))), (3, .int (nI (zmx (ycc (ynp τ) (yRt τ 0)) c))), (4, .int (nI c))] [] μ rfl trivial ?_
    rw [if_neg (by rw [zn_le (by omega) (by omega)]; omega)]
    refine zq_go zt_X9_crowdOf 8 [¬ (nI 8) = 0, ¬ (nI 8) = 0] 31 [(0, .ref 50), (1, .int (nI x)), (2, .int (nI (zam (ycc (ynp τ) (yRt τ 0)) c))), (3, .int (nI (zmx (ycc (ynp τ) (yRt τ 0)) c))), (4, .int (nI c))] [.int ((nI c) - (nI c) / (nI 8) * (nI 8)), .int ((nI c) / (nI 8)), .ref 50, .ref 50] μ rfl ⟨by decide, ⟨by decide, trivial⟩⟩ ?_
    rw [zn_mod8 (show c < 2 ^ 20 by omega), zn_div8 (show c < 2 ^ 20 by omega)]
    refine zq_call zt_X9_crowdOf [.ref 50, .int (nI (c / 8)), .int (nI (c % 8))] [.ref 50] (zs_inRoom hQ (show c / 8 < 24 by omega) (show c % 8 < 2 ^ 31 by omega)) rfl rfl ?_
    rintro _ _ ⟨rfl, rfl⟩
    refine zq_call zt_X9_crowdOf [.ref 50, .int (nI (zwho (ynp τ) (yRt τ 0) (c / 8) (c % 8)))] [] (zs_many (s := zwho (ynp τ) (yRt τ 0) (c / 8) (c % 8)) (Nat.lt_trans (zwho_lt hQ.1 _ _ _) (by decide)) μ) rfl rfl ?_
    rintro _ _ ⟨rfl, rfl⟩
    refine zq_go zt_X9_crowdOf 4 [] (if (nI (ycc (ynp τ) (yRt τ 0) c)) ≤ (nI (zmx (ycc (ynp τ) (yRt τ 0)) c)) then 50 else 45) [(0, .ref 50), (1, .int (nI x)), (2, .int (nI (zam (ycc (ynp τ) (yRt τ 0)) c))), (3, .int (nI (zmx (ycc (ynp τ) (yRt τ 0)) c))), (4, .int (nI c)), (5, .int (nI (ycc (ynp τ) (yRt τ 0) c)))] [] μ rfl trivial ?_
    refine zq_ite (fun h21 => ?_) (fun h21 => ?_)
    · rw [zn_le (by omega) (by omega)] at h21
      have e8 : zam (ycc (ynp τ) (yRt τ 0)) (c + 1) = zam (ycc (ynp τ) (yRt τ 0)) c := if_neg (by omega)
      have e7 : zmx (ycc (ynp τ) (yRt τ 0)) (c + 1) = zmx (ycc (ynp τ) (yRt τ 0)) c := if_neg (by omega)
      refine zq_go zt_X9_crowdOf 5 [] (if (nI (ycc (ynp τ) (yRt τ 0) c)) ≤ (nI (zmx (ycc (ynp τ) (yRt τ 0)) c)) then 63 else 58) [(0, .ref 50), (1, .int (nI x)), (2, .int (nI (zam (ycc (ynp τ) (yRt τ 0)) c))), (3, .int (nI (zmx (ycc (ynp τ) (yRt τ 0)) c))), (4, .int (nI c)), (5, .int (nI (ycc (ynp τ) (yRt τ 0) c)))] [] μ rfl trivial ?_
      rw [if_pos (by rw [zn_le (by omega) (by omega)]; omega)]
      refine zq_go zt_X9_crowdOf 4 [] 11 [(0, .ref 50), (1, .int (nI x)), (2, .int (nI (zam (ycc (ynp τ) (yRt τ 0)) c))), (3, .int (nI (zmx (ycc (ynp τ) (yRt τ 0)) c))), (4, .int ((nI c) + (nI 1))), (5, .int (nI (ycc (ynp τ) (yRt τ 0) c)))] [] μ rfl trivial ?_
      rw [zn_add c 1]
      have h9 := ih (c + 1) (by omega)
      rw [e8, e7] at h9
      exact zq_drp [0, 1, 2, 3, 4] _ rfl h9
    · rw [zn_le (by omega) (by omega)] at h21
      have e8 : zam (ycc (ynp τ) (yRt τ 0)) (c + 1) = c := if_pos (by omega)
      have e7 : zmx (ycc (ynp τ) (yRt τ 0)) (c + 1) = ycc (ynp τ) (yRt τ 0) c := if_pos (by omega)
      refine zq_go zt_X9_crowdOf 2 [] 51 [(0, .ref 50), (1, .int (nI x)), (2, .int (nI (zam (ycc (ynp τ) (yRt τ 0)) c))), (3, .int (nI (zmx (ycc (ynp τ) (yRt τ 0)) c))), (4, .int (nI c)), (5, .int (nI (ycc (ynp τ) (yRt τ 0) c)))] [.int (nI c)] μ rfl trivial ?_
      refine zq_go zt_X9_crowdOf 4 [] (if (nI (ycc (ynp τ) (yRt τ 0) c)) ≤ (nI (zmx (ycc (ynp τ) (yRt τ 0)) c)) then 63 else 58) [(0, .ref 50), (1, .int (nI x)), (2, .int (nI c)), (3, .int (nI (zmx (ycc (ynp τ) (yRt τ 0)) c))), (4, .int (nI c)), (5, .int (nI (ycc (ynp τ) (yRt τ 0) c)))] [] μ rfl trivial ?_
      rw [if_neg (by rw [zn_le (by omega) (by omega)]; omega)]
      refine zq_go zt_X9_crowdOf 2 [] 64 [(0, .ref 50), (1, .int (nI x)), (2, .int (nI c)), (3, .int (nI (zmx (ycc (ynp τ) (yRt τ 0)) c))), (4, .int (nI c)), (5, .int (nI (ycc (ynp τ) (yRt τ 0) c)))] [.int (nI (ycc (ynp τ) (yRt τ 0) c))] μ rfl trivial ?_
      refine zq_go zt_X9_crowdOf 3 [] 11 [(0, .ref 50), (1, .int (nI x)), (2, .int (nI c)), (3, .int (nI (ycc (ynp τ) (yRt τ 0) c))), (4, .int ((nI c) + (nI 1))), (5, .int (nI (ycc (ynp τ) (yRt τ 0) c)))] [] μ rfl trivial ?_
      rw [zn_add c 1]
      have h9 := ih (c + 1) (by omega)
      rw [e8, e7] at h9
      exact zq_drp [0, 1, 2, 3, 4] _ rfl h9
set_option maxRecDepth 100000 in
set_option maxHeartbeats 400000 in
theorem zs_crowdOf {τ : zTd} {S : zES} {H : zSH} {μ0 : zq_Me} {x : Nat} (lx : x ≤ 2) (hM : zIm τ S H μ0) : zq_Wp zn_X9_crowdOf 0 [(0, .ref 50), (1, .int (nI x))] [] μ0 (zRm' (.int (nI (yCrowd τ x))) τ S H μ0) := by
  refine zq_go zt_X9_crowdOf 1 [] 1 [(0, .ref 50), (1, .int (nI x))] [.ref 50] μ0 rfl trivial ?_
  refine zq_call zt_X9_crowdOf [.ref 50] [] (zs_runsTold hM) rfl rfl ?_
  rintro _ ν1 ⟨rfl, n1, k1, o1, r1, q1⟩
  refine zq_go zt_X9_crowdOf 6 [] 11 [(0, .ref 50), (1, .int (nI x)), (2, .int (nI 0)), (3, .int (nI 0)), (4, .int (nI 0))] [] ν1 rfl trivial ?_
  refine zs_crowdOf_l q1 ?_ 192 0 (by omega)
  obtain ⟨a1, a2⟩ := ycc_am (ynp τ) (yRt τ 0)
  obtain ⟨r1, r2, r3⟩ := ycr_spec (ynp τ) (yRt τ 0)
  obtain ⟨e9, l9⟩ := zam_at (f := zmo (ynp τ) (yRt τ 0)) (n := 24) (by decide)
  refine zq_go zt_X9_crowdOf 2 [] (if ¬ (nI x) = 0 then 82 else 75) [(1, .int (nI x)), (2, .int (nI (zam (ycc (ynp τ) (yRt τ 0)) 192))), (3, .int (nI (zmx (ycc (ynp τ) (yRt τ 0)) 192)))] [] ν1 rfl trivial ?_
  refine zq_ite (fun h9 => ?_) (fun h9 => ?_)
  · rw [show (0 : Int32) = nI 0 from rfl, zn_eq (by omega) (by omega)] at h9
    refine zq_go zt_X9_crowdOf 3 [] (if ¬ (nI x) = (nI 1) then 94 else 87) [(1, .int (nI x)), (2, .int (nI (zam (ycc (ynp τ) (yRt τ 0)) 192))), (3, .int (nI (zmx (ycc (ynp τ) (yRt τ 0)) 192)))] [] ν1 rfl trivial ?_
    refine zq_ite (fun h12 => ?_) (fun h12 => ?_)
    · rw [zn_eq (by omega) (by omega)] at h12
      have h7 : x = 2 := by omega
      have e0 : yCrowd τ x = zmx (ycc (ynp τ) (yRt τ 0)) 192 := by
        have : yCrowd τ x = zmo (ynp τ) (yRt τ 0) (zam (zmo (ynp τ) (yRt τ 0)) 24) := by subst h7; unfold yCrowd; rw [if_neg (by decide), if_neg (by decide)]
        omega
      rw [e0]
      refine zq_go zt_X9_crowdOf 1 [] 95 [(1, .int (nI x)), (2, .int (nI (zam (ycc (ynp τ) (yRt τ 0)) 192))), (3, .int (nI (zmx (ycc (ynp τ) (yRt τ 0)) 192)))] [.int (nI (zmx (ycc (ynp τ) (yRt τ 0)) 192))] ν1 rfl trivial ?_
      exact zq_retn zt_X9_crowdOf rfl rfl (⟨rfl, n1, k1⟩)
    · rw [zn_eq (by omega) (by omega)] at h12
      have h7 : x = 1 := by omega
      have e0 : yCrowd τ x = zam (ycc (ynp τ) (yRt τ 0)) 192 % 8 := by
        have : yCrowd τ x = ycr (ynp τ) (yRt τ 0) := by subst h7; unfold yCrowd; rw [if_neg (by decide), if_pos rfl]
        omega
      rw [e0]
      refine zq_go zt_X9_crowdOf 4 [¬ (nI 8) = 0] 95 [(1, .int (nI x)), (2, .int (nI (zam (ycc (ynp τ) (yRt τ 0)) 192))), (3, .int (nI (zmx (ycc (ynp τ) (yRt τ 0)) 192)))] [.int ((nI (zam (ycc (ynp τ) (yRt τ 0)) 192)) - (nI (zam (ycc (ynp τ) (yRt τ 0)) 192)) / (nI 8) * (nI 8))] ν1 rfl ⟨by decide, trivial⟩ ?_
      rw [zn_mod8 (by omega)]
      exact zq_retn zt_X9_crowdOf rfl rfl (⟨rfl, n1, k1⟩)
  · rw [show (0 : Int32) = nI 0 from rfl, zn_eq (by omega) (by omega)] at h9
    have h7 : x = 0 := by omega
    have e0 : yCrowd τ x = zam (ycc (ynp τ) (yRt τ 0)) 192 / 8 := by
      have : yCrowd τ x = zam (zmo (ynp τ) (yRt τ 0)) 24 := if_pos h7
      omega
    rw [e0]
    refine zq_go zt_X9_crowdOf 4 [¬ (nI 8) = 0] 95 [(1, .int (nI x)), (2, .int (nI (zam (ycc (ynp τ) (yRt τ 0)) 192))), (3, .int (nI (zmx (ycc (ynp τ) (yRt τ 0)) 192)))] [.int ((nI (zam (ycc (ynp τ) (yRt τ 0)) 192)) / (nI 8))] ν1 rfl ⟨by decide, trivial⟩ ?_
    rw [zn_div8 (by omega)]
    exact zq_retn zt_X9_crowdOf rfl rfl (⟨rfl, n1, k1⟩)
set_option maxRecDepth 100000 in
set_option maxHeartbeats 400000 in
theorem zs_crowdm {τ : zTd} {S : zES} {H : zSH} {μ0 : zq_Me} (v1 : Int32) (hM : zIm τ S H μ0) : zq_Wp zn_X9_crowd 0 [(0, .ref 50), (1, .int v1)] [] μ0 (zRm' (.int (vCrowd τ v1)) τ S H μ0) := by
  refine zq_go zt_X9_crowd 1 [] 1 [(0, .ref 50), (1, .int v1)] [.int v1] μ0 rfl trivial ?_
  refine zq_call zt_X9_crowd [.int v1] [] (zs_isThreem v1 μ0) rfl rfl ?_
  rintro _ _ ⟨rfl, rfl⟩
  refine zq_go zt_X9_crowd 1 [] (if (zb (0 ≤ v1 ∧ v1 ≤ nI 2)) = 0 then 15 else 7) [(0, .ref 50), (1, .int v1)] [] μ0 rfl trivial ?_
  refine zq_ite (fun h4 => ?_) (fun h4 => ?_)
  · rw [show vCrowd τ v1 = -2 from if_neg (fun q => zb_0.mp h4 q)]
    refine zq_go zt_X9_crowd 1 [] 17 [(0, .ref 50), (1, .int v1)] [.int (-2)] μ0 rfl trivial ?_
    exact zq_retn zt_X9_crowd rfl rfl (⟨rfl, hM, zq_fr.rf⟩)
  · have g0 := zb_p h4
    obtain ⟨x, lx, ex⟩ := yix (by decide) g0
    subst ex
    rw [vCrowd_eq lx]
    refine zq_go zt_X9_crowd 2 [] 9 [(0, .ref 50), (1, .int (nI x))] [.int (nI x), .ref 50] μ0 rfl trivial ?_
    refine zq_call zt_X9_crowd [.ref 50, .int (nI x)] [] (zs_crowdOf lx hM) rfl rfl ?_
    rintro _ ν1 ⟨rfl, n1, k1⟩
    refine zq_go zt_X9_crowd 1 [] 17 [(0, .ref 50), (1, .int (nI x))] [.int (nI (yCrowd τ x))] ν1 rfl trivial ?_
    exact zq_retn zt_X9_crowd rfl rfl (⟨rfl, n1, k1⟩)
theorem zo_at (v1 v2 v3 : Int32) : zop zn_X8_at [(0, .ref 0), (1, .int v1), (2, .int v2), (3, .int v3)] zn_X9_at [(0, .ref 50), (1, .int v1), (2, .int v2), (3, .int v3)] := fun τ S H μ hC _ => ⟨_, τ, S, H, zs_at v1 v2 v3 hC, fun _ h => zs_atm v1 v2 v3 h⟩
theorem zo_room (v1 v2 : Int32) : zop zn_X8_room [(0, .ref 0), (1, .int v1), (2, .int v2)] zn_X9_room [(0, .ref 50), (1, .int v1), (2, .int v2)] := fun τ S H μ hC _ => ⟨_, τ, S, H, zs_room v1 v2 hC, fun _ h => zs_roomm v1 v2 h⟩
theorem zo_far (v1 v2 v3 : Int32) : zop zn_X8_far [(0, .ref 0), (1, .int v1), (2, .int v2), (3, .int v3)] zn_X9_far [(0, .ref 50), (1, .int v1), (2, .int v2), (3, .int v3)] := fun τ S H μ hC _ => ⟨_, τ, S, H, zs_far v1 v2 v3 hC, fun _ h => zs_farm v1 v2 v3 h⟩
theorem zo_meet (v1 v2 : Int32) : zop zn_X8_meet [(0, .ref 0), (1, .int v1), (2, .int v2)] zn_X9_meet [(0, .ref 50), (1, .int v1), (2, .int v2)] := fun τ S H μ hC _ => ⟨_, τ, S, H, zs_meet v1 v2 hC, fun _ h => zs_meetm v1 v2 h⟩
theorem zo_empty (v1 : Int32) : zop zn_X8_empty [(0, .ref 0), (1, .int v1)] zn_X9_empty [(0, .ref 50), (1, .int v1)] := fun τ S H μ hC _ => ⟨_, τ, S, H, zs_empty v1 hC, fun _ h => zs_emptym v1 h⟩
theorem zo_found (v1 : Int32) : zop zn_X8_found [(0, .ref 0), (1, .int v1)] zn_X9_found [(0, .ref 50), (1, .int v1)] := fun τ S H μ hC _ => ⟨_, τ, S, H, zs_found v1 hC, fun _ h => zs_foundm v1 h⟩
theorem zo_crowd (v1 : Int32) : zop zn_X8_crowd [(0, .ref 0), (1, .int v1)] zn_X9_crowd [(0, .ref 50), (1, .int v1)] := fun τ S H μ hC _ => ⟨_, τ, S, H, zs_crowd v1 hC, fun _ h => zs_crowdm v1 h⟩
theorem zo_alone : zop zn_X8_alone [(0, .ref 0)] zn_X9_alone [(0, .ref 50)] := fun τ S H μ hC _ => ⟨_, τ, S, H, zs_alone  hC, fun _ h => zs_alonem  h⟩
