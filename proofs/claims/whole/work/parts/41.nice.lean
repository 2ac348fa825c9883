/-! ===== nice, lens ===== -/
theorem zEv.ap {cs sl ck ch cn i : Nat} {ek eh en : Nat → Nat} {μ μ1 : zq_Me} (h : zEv cs sl ck ch cn i ek eh en μ) (hi : i < 9) (hk : yek9 (ek i) (eh i) (en i)) (h1 : μ1.1 cs sl = nI (i + 1)) (h2 : ∀ j, μ1.1 ck j = if j = i then nI (ek i) else μ.1 ck j) (h3 : ∀ j, μ1.1 ch j = if j = i then nI (eh i) else μ.1 ch j) (h4 : ∀ j, μ1.1 cn j = if j = i then nI (en i) else μ.1 cn j) : zEv cs sl ck ch cn (i + 1) ek eh en μ1 := by
  refine ⟨by omega, h1, fun e he => ?_⟩
  rw [h2, h3, h4]
  by_cases q : e = i
  · rw [if_pos q, if_pos q, if_pos q, q]; exact ⟨rfl, rfl, rfl, hk⟩
  · rw [if_neg q, if_neg q, if_neg q]; exact h.2.2 e (by omega)
set_option maxRecDepth 100000 in
set_option maxHeartbeats 400000 in
theorem zs_become_l {Q : zq_Post} {ne : Nat} {ek eh en : Nat → Nat} {μ0 : zq_Me} (hE : zEv 11 3 12 13 14 ne ek eh en μ0) (kk : ∀ μ : zq_Me, (zq_fr [15, 16, 17, 18] μ0 μ ∧ zEv 15 3 16 17 18 ne ek eh en μ) → zq_Wp zn_X1_become 43 [] [] μ Q) : ∀ (j i : Nat) (μ : zq_Me), i + j = ne → (zq_fr [15, 16, 17, 18] μ0 μ ∧ zEv 15 3 16 17 18 i ek eh en μ) → zq_Wp zn_X1_become 7 [(0, .ref 15), (1, .ref 11), (2, .int (nI i))] [] μ Q := by
  intro j
  induction j with
  | zero =>
    rintro i μ hij hI
    obtain rfl : i = ne := by omega
    have hs : μ.1 11 3 = nI i := by rw [hI.1.a (b := 11) (by decide)]; exact hE.2.1
    have h9 := hE.1
    refine zq_go zt_X1_become 4 [] (if (μ.1 11 3) ≤ (nI i) then 43 else 15) [(0, .ref 15), (1, .ref 11), (2, .int (nI i))] [] μ rfl trivial ?_
    rw [hs]
    rw [if_pos (by rw [zn_le (by omega) (by omega)]; omega)]
    exact zq_drp [] _ rfl (kk μ hI)
  | succ j ih =>
    rintro i μ hij ⟨hF, hA⟩
    have h9 := hE.1
    have hs : μ.1 11 3 = nI ne := by rw [hF.a (b := 11) (by decide)]; exact hE.2.1
    obtain ⟨a1, a2, a3, a4⟩ := hE.2.2 i (by omega)
    have e1 : μ.1 12 i = nI (ek i) := by rw [hF.a (b := 12) (by decide)]; exact a1
    have e2 : μ.1 13 i = nI (eh i) := by rw [hF.a (b := 13) (by decide)]; exact a2
    have e3 : μ.1 14 i = nI (en i) := by rw [hF.a (b := 14) (by decide)]; exact a3
    refine zq_go zt_X1_become 4 [] (if (μ.1 11 3) ≤ (nI i) then 43 else 15) [(0, .ref 15), (1, .ref 11), (2, .int (nI i))] [] μ rfl trivial ?_
    rw [hs]
    rw [if_neg (by rw [zn_le (by omega) (by omega)]; omega)]
    refine zq_go zt_X1_become 13 [vp_in (nI i) 9, vp_in (nI i) 9, vp_in (nI i) 9] 34 [(0, .ref 15), (1, .ref 11), (2, .int (nI i))] [.int (μ.1 14 ((nI i).toNatClampNeg)), .int (μ.1 13 ((nI i).toNatClampNeg)), .int (μ.1 12 ((nI i).toNatClampNeg)), .ref 15] μ rfl ⟨zn_in (k := i) rfl (by omega) (by decide), ⟨zn_in (k := i) rfl (by omega) (by decide), ⟨zn_in (k := i) rfl (by omega) (by decide), trivial⟩⟩⟩ ?_
    rw [zn_cl (n := i) (by omega), e3, e2, e1]
    refine zq_call zt_X1_become [.ref 15, .int (nI (ek i)), .int (nI (eh i)), .int (nI (en i))] [] (zs_add15 (nI (ek i)) (nI (eh i)) (nI (en i)) (n := i) (by omega) hA.2.1) rfl rfl ?_
    rintro _ μ1 ⟨rfl, f1, s1, i1, b1, b2, b3⟩
    refine zq_go zt_X1_become 2 [] 7 [(0, .ref 15), (1, .ref 11), (2, .int ((nI i) + (nI 1)))] [] μ1 rfl trivial ?_
    rw [zn_add i 1]
    exact ih (i + 1) μ1 (by omega) ⟨hF.tr f1, hA.ap (by omega) a4 s1 b1 b2 b3⟩
set_option maxRecDepth 100000 in
set_option maxHeartbeats 400000 in
theorem zs_become15 {ne : Nat} {ek eh en : Nat → Nat} {μ0 : zq_Me} (hE : zEv 11 3 12 13 14 ne ek eh en μ0) : zq_Wp zn_X1_become 0 [(0, .ref 15), (1, .ref 11)] [] μ0 (fun r μ => r = none ∧ zq_fr [15, 16, 17, 18] μ0 μ ∧ zEv 15 3 16 17 18 ne ek eh en μ) := by
  refine zq_go zt_X1_become 5 [] 7 [(0, .ref 15), (1, .ref 11), (2, .int (nI 0))] [] (zq_u1 μ0 15 3 (nI 0)) rfl trivial ?_
  obtain ⟨μ1, hμ1⟩ : ∃ k9 : zq_Me, k9 = (zq_u1 μ0 15 3 (nI 0)) := ⟨_, rfl⟩
  rw [← hμ1]
  have f1 : zq_fr [15, 16, 17, 18] μ0 μ1 := by rw [hμ1]; exact zq_fr.rf.u1 (by simp)
  refine zs_become_l (hE.fr f1 (by decide)) (fun μ2 h2 => ?_) ne 0 μ1 (by omega) ⟨zq_fr.rf, by omega, by rw [hμ1, zq_u1_s], fun e he => absurd he (Nat.not_lt_zero e)⟩
  exact zq_retn zt_X1_become rfl rfl (⟨rfl, f1.tr h2.1, h2.2⟩)
def ynf (τ : zTd) (k : Nat) : Nat → Nat := fun r => zmo (ynp τ) (yR τ (ysr τ) (ybd τ) (ypu τ.2.2.2 0 k r).2.1 (ypu τ.2.2.2 0 k r).2.2.1 (ypu τ.2.2.2 0 k r).2.2.2 0 (ypu τ.2.2.2 0 k r).1 (yld τ)) 23
theorem ynf_le (τ : zTd) (k : Nat) : ∀ r, ynf τ k r ≤ 24 := fun r => zmx_le (zcnt_le _ _ _) 8
theorem ypu8 {τ : zTd} (h : yne τ ≤ 8) (k r : Nat) : (ypu τ.2.2.2 0 k r).1 ≤ 8 ∨ ((ypu τ.2.2.2 0 k r).1 = 9 ∧ (ypu τ.2.2.2 0 k r).2.1 8 = 0) := by
  by_cases q : yne τ = 8
  · refine Or.inr ⟨?_, ?_⟩
    · show yne τ + 1 = 9; omega
    · show (if 8 = yne τ then 0 else yek τ 8) = 0; rw [if_pos q.symm]
  · refine Or.inl ?_
    show yne τ + 1 ≤ 8; omega
set_option maxRecDepth 100000 in
set_option maxHeartbeats 400000 in
theorem zs_nice_l {Q : zq_Post} {τ : zTd} {S : zES} {H : zSH} {μ0 : zq_Me} (hC : zIc τ S H μ0) {k w : Nat} (lk : k < 24) (kk : ∀ μ : zq_Me, (zq_fr [5, 15, 16, 17, 18, 19, 40, 41, 42, 43, 44, 45, 46, 47, 48] μ0 μ ∧ zK40 (ynd τ) (yo1 τ) (yo2 τ) μ ∧ μ.1 40 11 = -1) → zq_Wp zn_X8_nice 103 [(0, .ref 0), (1, .int (nI k)), (2, .int (nI w)), (3, .int (nI (zam (ynf τ k) 8))), (4, .int (zdn (ymo (ynf τ k) 8)))] [] μ Q) : ∀ (j n : Nat) (μ : zq_Me), n + j = 8 → (zq_fr [5, 15, 16, 17, 18, 19, 40, 41, 42, 43, 44, 45, 46, 47, 48] μ0 μ ∧ zK40 (ynd τ) (yo1 τ) (yo2 τ) μ ∧ μ.1 40 11 = -1) → zq_Wp zn_X8_nice 27 [(0, .ref 0), (1, .int (nI k)), (2, .int (nI w)), (3, .int (nI (zam (ynf τ k) n))), (4, .int (zdn (ymo (ynf τ k) n))), (5, .int (nI n))] [] μ Q := by
  have hne := hC.2.2.2.1.2
  have hl9 := hC.2.2.1.2.2
  intro j
  induction j with
  | zero =>
    rintro n μ hij hI
    obtain rfl : n = 8 := by omega
    refine zq_go zt_X8_nice 3 [] (if (nI 8) ≤ (nI 8) then 103 else 34) [(0, .ref 0), (1, .int (nI k)), (2, .int (nI w)), (3, .int (nI (zam (ynf τ k) 8))), (4, .int (zdn (ymo (ynf τ k) 8))), (5, .int (nI 8))] [] μ rfl trivial ?_
    rw [if_pos (by decide)]
    exact zq_drp [0, 1, 2, 3, 4] _ rfl (kk μ hI)
  | succ j ih =>
    rintro n μ hij ⟨hF, hK, hw11⟩
    refine zq_go zt_X8_nice 3 [] (if (nI 8) ≤ (nI n) then 103 else 34) [(0, .ref 0), (1, .int (nI k)), (2, .int (nI w)), (3, .int (nI (zam (ynf τ k) n))), (4, .int (zdn (ymo (ynf τ k) n))), (5, .int (nI n))] [] μ rfl trivial ?_
    rw [if_neg (by rw [zn_le (by omega) (by omega)]; omega)]
    refine zq_go zt_X8_nice 4 [] 42 [(0, .ref 0), (1, .int (nI k)), (2, .int (nI w)), (3, .int (nI (zam (ynf τ k) n))), (4, .int (zdn (ymo (ynf τ k) n))), (5, .int (nI n))] [.ref 11, .ref 15] μ rfl trivial ?_
    have hE0 : zEv 11 3 12 13 14 (yne τ) (yek τ) (yeh τ) (yen τ) μ := hC.2.2.2.1.1.fr hF (by decide)
    refine zq_call zt_X8_nice [.ref 15, .ref 11] [] (zs_become15 hE0) rfl rfl ?_
    rintro _ μ1 ⟨rfl, f1, e1⟩
    refine zq_go zt_X8_nice 5 [] 53 [(0, .ref 0), (1, .int (nI k)), (2, .int (nI w)), (3, .int (nI (zam (ynf τ k) n))), (4, .int (zdn (ymo (ynf τ k) n))), (5, .int (nI n))] [.int (nI n), .int (nI k), .int (nI 0), .ref 15] μ1 rfl trivial ?_
    refine zq_call zt_X8_nice [.ref 15, .int (nI 0), .int (nI k), .int (nI n)] [] (zs_add15 (nI 0) (nI k) (nI n) (n := yne τ) (by omega) e1.2.1) rfl rfl ?_
    rintro _ μ2 ⟨rfl, f2, s2, i2, b1, b2, b3⟩
    have hE2 : zEv 15 3 16 17 18 (ypu τ.2.2.2 0 k n).1 (ypu τ.2.2.2 0 k n).2.1 (ypu τ.2.2.2 0 k n).2.2.1 (ypu τ.2.2.2 0 k n).2.2.2 μ2 := zEv.pu (E := τ.2.2.2) e1 (show yne τ < 9 by omega) ⟨by omega, lk, by omega, fun _ => by omega⟩ s2 b1 b2 b3
    have f12 : zq_fr [15, 16, 17, 18] μ μ2 := f1.tr f2
    have hF2 : zq_fr [5, 15, 16, 17, 18, 19, 40, 41, 42, 43, 44, 45, 46, 47, 48] μ0 μ2 := hF.tr (f12.wk (by simp +contextual))
    have hK2 : zK40 (ynd τ) (yo1 τ) (yo2 τ) μ2 := by unfold zK40; rw [f12.a (b := 46) (by decide), f12.a (b := 45) (by decide)]; exact hK
    have hP2 : zP40 (ynp τ) (ysr τ) (yst τ) (ybd τ) μ2 := zP40.of (hC.2.1.2.fr hF2 (by decide)) (by rw [f12.a (b := 40) (by decide)]; exact hw11)
    have hld : μ2.1 0 12 = nI (yld τ) := by rw [hF2.a (b := 0) (by decide)]; exact hC.2.2.1.1
    refine zq_go zt_X8_nice 7 [] 69 [(0, .ref 0), (1, .int (nI k)), (2, .int (nI w)), (3, .int (nI (zam (ynf τ k) n))), (4, .int (zdn (ymo (ynf τ k) n))), (5, .int (nI n))] [.int (μ2.1 0 12), .int (nI 0), .ref 15, .ref 40] μ2 rfl trivial ?_
    rw [hld]
    refine zq_call zt_X8_nice [.ref 40, .ref 15, .int (nI 0), .int (nI (yld τ))] [] (zs_try15 hC hF2 hK2 (wo := 0) (by decide) hl9 hP2 hE2 (ypu8 hne k n)) rfl rfl ?_
    rintro _ μ3 ⟨rfl, hF3, hK3, s3, hP3, q3⟩
    refine zq_go zt_X8_nice 3 [] 78 [(0, .ref 0), (1, .int (nI k)), (2, .int (nI w)), (3, .int (nI (zam (ynf τ k) n))), (4, .int (zdn (ymo (ynf τ k) n))), (5, .int (nI n))] [.int (nI 23), .ref 40] μ3 rfl trivial ?_
    refine zq_call zt_X8_nice [.ref 40, .int (nI 23)] [] (show zq_Wp zn_X7_mostIn 0 [(0, .ref 40), (1, .int (nI 23))] [] μ3 (zq_pi (nI (ynf τ k n)) μ3) from zs_mostIn40 q3 (by decide)) rfl rfl ?_
    rintro _ _ ⟨rfl, rfl⟩
    have b1 := ynf_le τ k n
    have b2 := ymo_le (ynf_le τ k) n
    have w3 : μ3.1 40 11 = -1 := by rw [s3 11 (by decide) (by decide), f12.a (b := 40) (by decide)]; exact hw11
    refine zq_go zt_X8_nice 4 [] (if (nI (ynf τ k n)) ≤ (zdn (ymo (ynf τ k) n)) then 97 else 90) [(0, .ref 0), (1, .int (nI k)), (2, .int (nI w)), (3, .int (nI (zam (ynf τ k) n))), (4, .int (zdn (ymo (ynf τ k) n))), (5, .int (nI n)), (6, .int (nI (ynf τ k n)))] [] μ3 rfl trivial ?_
    refine zq_ite (fun h38 => ?_) (fun h38 => ?_)
    · rw [zdn_le (by omega) (by omega)] at h38
      obtain ⟨e7, e8, e9⟩ := ymo_n h38
      refine zq_go zt_X8_nice 2 [] 27 [(0, .ref 0), (1, .int (nI k)), (2, .int (nI w)), (3, .int (nI (zam (ynf τ k) n))), (4, .int (zdn (ymo (ynf τ k) n))), (5, .int ((nI n) + (nI 1))), (6, .int (nI (ynf τ k n)))] [] μ3 rfl trivial ?_
      rw [zn_add n 1]
      have h9 := ih (n + 1) μ3 (by omega) ⟨hF3, hK3, w3⟩
      rw [e7, e8] at h9
      exact zq_drp [0, 1, 2, 3, 4, 5] _ rfl h9
    · rw [zdn_le (by omega) (by omega)] at h38
      obtain ⟨e7, e8, e9⟩ := ymo_y h38
      refine zq_go zt_X8_nice 6 [] 27 [(0, .ref 0), (1, .int (nI k)), (2, .int (nI w)), (3, .int (nI n)), (4, .int (nI (ynf τ k n))), (5, .int ((nI n) + (nI 1))), (6, .int (nI (ynf τ k n)))] [] μ3 rfl trivial ?_
      rw [zn_add n 1]
      have h9 := ih (n + 1) μ3 (by omega) ⟨hF3, hK3, w3⟩
      rw [e7, e8] at h9
      exact zq_drp [0, 1, 2, 3, 4, 5] _ rfl h9
set_option maxRecDepth 100000 in
set_option maxHeartbeats 400000 in
theorem zs_nice {τ : zTd} {S : zES} {H : zSH} {μ0 : zq_Me} {k w : Nat} (lk : k ≤ 23) (lw : w ≤ 1) (hC : zIc τ S H μ0) : zq_Wp zn_X8_nice 0 [(0, .ref 0), (1, .int (nI k)), (2, .int (nI w))] [] μ0 (zRc (.int (nI (ySl (ynf τ k) w))) τ S H μ0) := by
  refine zq_go zt_X8_nice 1 [] 1 [(0, .ref 0), (1, .int (nI k)), (2, .int (nI w))] [.int (nI k)] μ0 rfl trivial ?_
  refine zq_call zt_X8_nice [.int (nI k)] [] (zs_isHour (nI k) μ0) rfl rfl ?_
  rintro _ _ ⟨rfl, rfl⟩
  refine zq_go zt_X8_nice 1 [] (if (zb (0 ≤ nI k ∧ nI k ≤ nI 23)) = 0 then 16 else 7) [(0, .ref 0), (1, .int (nI k)), (2, .int (nI w))] [] μ0 rfl trivial ?_
  rw [if_neg (zb_n (yin (by omega) (by decide)))]
  refine zq_go zt_X8_nice 3 [] 10 [(0, .ref 0), (1, .int (nI k)), (2, .int (nI w))] [.int (nI 1), .int (nI 0), .int (nI w)] μ0 rfl trivial ?_
  refine zq_call zt_X8_nice [.int (nI w), .int (nI 0), .int (nI 1)] [] (zs_within (nI w) (nI 0) (nI 1) μ0) rfl rfl ?_
  rintro _ _ ⟨rfl, rfl⟩
  refine zq_go zt_X8_nice 1 [] (if ¬ (zb (0 ≤ nI w ∧ nI w ≤ nI 1)) = 0 then 19 else 16) [(0, .ref 0), (1, .int (nI k)), (2, .int (nI w))] [] μ0 rfl trivial ?_
  rw [if_pos (zb_n (yin (by omega) (by decide)))]
  refine zq_go zt_X8_nice 6 [] 27 [(0, .ref 0), (1, .int (nI k)), (2, .int (nI w)), (3, .int (nI 0)), (4, .int (-1)), (5, .int (nI 0))] [] μ0 rfl trivial ?_
  refine zs_nice_l hC (show k < 24 by omega) (fun μ3 h3 => ?_) 8 0 μ0 (by omega) ⟨zq_fr.rf, hC.2.2.2.2.2.1.2, hC.2.2.2.2.2.1.1⟩
  have hI : zIc τ S H μ3 := hC.tr h3.1 ⟨h3.2.2, h3.2.1⟩
  refine zq_go zt_X8_nice 2 [] (if ¬ (nI w) = 0 then 111 else 107) [(0, .ref 0), (1, .int (nI k)), (2, .int (nI w)), (3, .int (nI (zam (ynf τ k) 8))), (4, .int (zdn (ymo (ynf τ k) 8)))] [] μ3 rfl trivial ?_
  refine zq_ite (fun h14 => ?_) (fun h14 => ?_)
  · rw [show (0 : Int32) = nI 0 from rfl, zn_eq (by omega) (by omega)] at h14
    have e0 : ySl (ynf τ k) w = zmx (ynf τ k) 8 := if_neg (by omega)
    rw [e0]
    refine zq_go zt_X8_nice 1 [] 113 [(0, .ref 0), (1, .int (nI k)), (2, .int (nI w)), (3, .int (nI (zam (ynf τ k) 8))), (4, .int (zdn (ymo (ynf τ k) 8)))] [.int (zdn (ymo (ynf τ k) 8))] μ3 rfl trivial ?_
    exact zq_retn zt_X8_nice rfl rfl (⟨rfl, hI, h3.1.wk (by simp +contextual [zSC])⟩)
  · rw [show (0 : Int32) = nI 0 from rfl, zn_eq (by omega) (by omega)] at h14
    have e0 : ySl (ynf τ k) w = zam (ynf τ k) 8 := if_pos (by omega)
    rw [e0]
    refine zq_go zt_X8_nice 2 [] 113 [(0, .ref 0), (1, .int (nI k)), (2, .int (nI w)), (3, .int (nI (zam (ynf τ k) 8))), (4, .int (zdn (ymo (ynf τ k) 8)))] [.int (nI (zam (ynf τ k) 8))] μ3 rfl trivial ?_
    exact zq_retn zt_X8_nice rfl rfl (⟨rfl, hI, h3.1.wk (by simp +contextual [zSC])⟩)
set_option maxRecDepth 100000 in
set_option maxHeartbeats 400000 in
theorem zs_niceOf_l {Q : zq_Post} {τ : zTd} {S : zES} {H : zSH} {μ0 ν1 : zq_Me} (hE0 : zEv 50 15 61 62 63 (yne τ) (yek τ) (yeh τ) (yen τ) ν1) {k w : Nat} (lk : k < 24) (kk : ∀ μ : zq_Me, (zIm τ S H μ ∧ zq_fr zSM μ0 μ ∧ (zDm (ynd τ) (yo1 τ) (yo2 τ) μ ∧ zPm (ynp τ) (ysr τ) (yst τ) (ybd τ) μ ∧ μ.1 50 14 = nI (yld τ) ∧ μ.1 50 19 = nI 0 ∧ μ.1 50 15 = nI (yne τ + 1)) ∧ (∀ i, μ.1 61 i = if i = yne τ then nI 0 else ν1.1 61 i) ∧ (∀ i, μ.1 62 i = if i = yne τ then nI k else ν1.1 62 i) ∧ (∀ i, i ≠ yne τ → μ.1 63 i = ν1.1 63 i)) → zq_Wp zn_X9_niceOf 108 [(0, .ref 50), (1, .int (nI k)), (2, .int (nI w)), (3, .int (zdn (yam (ynf τ k) 8))), (4, .int (zdn (ymo (ynf τ k) 8)))] [] μ Q) : ∀ (j n : Nat) (μ : zq_Me), n + j = 8 → (zIm τ S H μ ∧ zq_fr zSM μ0 μ ∧ (zDm (ynd τ) (yo1 τ) (yo2 τ) μ ∧ zPm (ynp τ) (ysr τ) (yst τ) (ybd τ) μ ∧ μ.1 50 14 = nI (yld τ) ∧ μ.1 50 19 = nI 0 ∧ μ.1 50 15 = nI (yne τ + 1)) ∧ (∀ i, μ.1 61 i = if i = yne τ then nI 0 else ν1.1 61 i) ∧ (∀ i, μ.1 62 i = if i = yne τ then nI k else ν1.1 62 i) ∧ (∀ i, i ≠ yne τ → μ.1 63 i = ν1.1 63 i)) → zq_Wp zn_X9_niceOf 42 [(0, .ref 50), (1, .int (nI k)), (2, .int (nI w)), (3, .int (zdn (yam (ynf τ k) n))), (4, .int (zdn (ymo (ynf τ k) n))), (5, .int (nI n))] [] μ Q := by
  intro j
  induction j with
  | zero =>
    rintro n μ hij hI
    obtain rfl : n = 8 := by omega
    refine zq_go zt_X9_niceOf 3 [] (if (nI 8) ≤ (nI 8) then 108 else 49) [(0, .ref 50), (1, .int (nI k)), (2, .int (nI w)), (3, .int (zdn (yam (ynf τ k) 8))), (4, .int (zdn (ymo (ynf τ k) 8))), (5, .int (nI 8))] [] μ rfl trivial ?_
    rw [if_pos (by decide)]
    exact zq_drp [0, 1, 2, 3, 4] _ rfl (kk μ hI)
  | succ j ih =>
    rintro n μ hij ⟨hM, hF, ⟨d, p, l, w9, e15⟩, t1, t2, t3⟩
    have hnp := p.1
    have hl9 := hM.2.1.2.2
    have hne := hM.2.2.1.2
    refine zq_go zt_X9_niceOf 3 [] (if (nI 8) ≤ (nI n) then 108 else 49) [(0, .ref 50), (1, .int (nI k)), (2, .int (nI w)), (3, .int (zdn (yam (ynf τ k) n))), (4, .int (zdn (ymo (ynf τ k) n))), (5, .int (nI n))] [] μ rfl trivial ?_
    rw [if_neg (by rw [zn_le (by omega) (by omega)]; omega)]
    refine zq_go zt_X9_niceOf 7 [vp_in (μ.1 50 10) 9] 61 [(0, .ref 50), (1, .int (nI k)), (2, .int (nI w)), (3, .int (zdn (yam (ynf τ k) n))), (4, .int (zdn (ymo (ynf τ k) n))), (5, .int (nI n))] [.ref 50] (zq_u1 μ 63 ((μ.1 50 10).toNatClampNeg) (nI n)) rfl ⟨zn_in (k := yne τ) (by rw [hM.2.2.1.1.2.1]) (by omega) (by decide), trivial⟩ ?_
    rw [hM.2.2.1.1.2.1, zn_cl (n := yne τ) (by omega)]
    obtain ⟨μ1, hμ1⟩ : ∃ k9 : zq_Me, k9 = (zq_u1 μ 63 (yne τ) (nI n)) := ⟨_, rfl⟩
    rw [← hμ1]
    have f1 : zq_fr [63] μ μ1 := by rw [hμ1]; exact zq_fr.rf.u1 (by simp)
    have q50 : μ1.1 50 = μ.1 50 := f1.a (by decide)
    have hM1 : zIm τ S H μ1 := hM.kp f1 (by decide) (fun i hi => by rw [q50])
    have hE1 : zEv 50 15 61 62 63 (ypu τ.2.2.2 0 k n).1 (ypu τ.2.2.2 0 k n).2.1 (ypu τ.2.2.2 0 k n).2.2.1 (ypu τ.2.2.2 0 k n).2.2.2 μ1 := zEv.pu (E := τ.2.2.2) hE0 (show yne τ < 9 by omega) ⟨by omega, lk, by omega, fun _ => by omega⟩ (by rw [q50]; exact e15) (fun i => by rw [f1.a (b := 61) (by decide)]; exact t1 i) (fun i => by rw [f1.a (b := 62) (by decide)]; exact t2 i) (fun i => by
      rw [hμ1, zq_u1_rd]
      show (if i = yne τ then nI n else μ.1 63 i) = (if i = yne τ then nI n else ν1.1 63 i)
      by_cases q : i = yne τ
      · rw [if_pos q, if_pos q]
      · rw [if_neg q, if_neg q]; exact t3 i q)
    have hN1 : zNr τ (ysr τ) (ybd τ) (yld τ) (ypu τ.2.2.2 0 k n) 0 μ1 := ⟨d.fr f1 (by decide), p.sl (by rw [q50]) (f1.a (by decide)) (f1.a (by decide)) (f1.a (by decide)), by rw [q50]; exact l, hE1, by rw [q50]; exact w9⟩
    refine zq_call zt_X9_niceOf [.ref 50] [] (zs_tryM hM1 hN1 hl9 (by decide)) rfl rfl ?_
    rintro _ μ2 ⟨rfl, hM2, f2, s2, hN2, q2⟩
    refine zq_go zt_X9_niceOf 2 [] 67 [(0, .ref 50), (1, .int (nI k)), (2, .int (nI w)), (3, .int (zdn (yam (ynf τ k) n))), (4, .int (zdn (ymo (ynf τ k) n))), (5, .int (nI n))] [.int (nI 23), .ref 50] μ2 rfl trivial ?_
    refine zq_call zt_X9_niceOf [.ref 50, .int (nI 23)] [] (show zq_Wp zn_X9_mostAt 0 [(0, .ref 50), (1, .int (nI 23))] [] μ2 (zq_pi (nI (ynf τ k n)) μ2) from zs_mostAt q2 (by decide)) rfl rfl ?_
    rintro _ _ ⟨rfl, rfl⟩
    have b1 := ynf_le τ k n
    have b2 := ymo_le (ynf_le τ k) n
    obtain ⟨d2, p2, l2, e2, w2⟩ := hN2
    have g63 : ∀ i, i ≠ yne τ → μ2.1 63 i = ν1.1 63 i := fun i hi => by rw [f2.a (b := 63) (by decide), hμ1, zq_u1_o2 hi]; exact t3 i hi
    refine zq_go zt_X9_niceOf 4 [] (if (nI (ynf τ k n)) ≤ (zdn (ymo (ynf τ k) n)) then 84 else 79) [(0, .ref 50), (1, .int (nI k)), (2, .int (nI w)), (3, .int (zdn (yam (ynf τ k) n))), (4, .int (zdn (ymo (ynf τ k) n))), (5, .int (nI n)), (6, .int (nI (ynf τ k n)))] [] μ2 rfl trivial ?_
    refine zq_ite (fun h39 => ?_) (fun h39 => ?_)
    · have hq9 := h39
      rw [zdn_le (by omega) (by omega)] at h39
      obtain ⟨e7, e8, e9⟩ := ymo_n h39
      refine zq_go zt_X9_niceOf 5 [] (if (nI (ynf τ k n)) ≤ (zdn (ymo (ynf τ k) n)) then 98 else 93) [(0, .ref 50), (1, .int (nI k)), (2, .int (nI w)), (3, .int (zdn (yam (ynf τ k) n))), (4, .int (zdn (ymo (ynf τ k) n))), (5, .int (nI n)), (6, .int (nI (ynf τ k n)))] [] μ2 rfl trivial ?_
      rw [if_pos (hq9)]
      refine zq_go zt_X9_niceOf 4 [] 42 [(0, .ref 50), (1, .int (nI k)), (2, .int (nI w)), (3, .int (zdn (yam (ynf τ k) n))), (4, .int (zdn (ymo (ynf τ k) n))), (5, .int ((nI n) + (nI 1))), (6, .int (nI (ynf τ k n)))] [] μ2 rfl trivial ?_
      rw [zn_add n 1]
      have h9 := ih (n + 1) μ2 (by omega) ⟨hM2, hF.tr ((f1.wk (by simp [zSM])).tr (f2.wk (by simp +contextual [zSM]))), ⟨d2, p2, l2, w2, e2.2.1⟩, fun i => by rw [f2.a (b := 61) (by decide), f1.a (b := 61) (by decide)]; exact t1 i, fun i => by rw [f2.a (b := 62) (by decide), f1.a (b := 62) (by decide)]; exact t2 i, g63⟩
      rw [e7, e9] at h9
      exact zq_drp [0, 1, 2, 3, 4, 5] _ rfl h9
    · have hq9 := h39
      rw [zdn_le (by omega) (by omega)] at h39
      obtain ⟨e7, e8, e9⟩ := ymo_y h39
      refine zq_go zt_X9_niceOf 2 [] 85 [(0, .ref 50), (1, .int (nI k)), (2, .int (nI w)), (3, .int (zdn (yam (ynf τ k) n))), (4, .int (zdn (ymo (ynf τ k) n))), (5, .int (nI n)), (6, .int (nI (ynf τ k n)))] [.int (nI n)] μ2 rfl trivial ?_
      refine zq_go zt_X9_niceOf 4 [] (if (nI (ynf τ k n)) ≤ (zdn (ymo (ynf τ k) n)) then 98 else 93) [(0, .ref 50), (1, .int (nI k)), (2, .int (nI w)), (3, .int (nI n)), (4, .int (zdn (ymo (ynf τ k) n))), (5, .int (nI n)), (6, .int (nI (ynf τ k n)))] [] μ2 rfl trivial ?_
      rw [if_neg (hq9)]
      refine zq_go zt_X9_niceOf 2 [] 100 [(0, .ref 50), (1, .int (nI k)), (2, .int (nI w)), (3, .int (nI n)), (4, .int (zdn (ymo (ynf τ k) n))), (5, .int (nI n)), (6, .int (nI (ynf τ k n)))] [.int (nI (ynf τ k n))] μ2 rfl trivial ?_
      refine zq_go zt_X9_niceOf 3 [] 42 [(0, .ref 50), (1, .int (nI k)), (2, .int (nI w)), (3, .int (nI n)), (4, .int (nI (ynf τ k n))), (5, .int ((nI n) + (nI 1))), (6, .int (nI (ynf τ k n)))] [] μ2 rfl trivial ?_
      rw [zn_add n 1]
      have h9 := ih (n + 1) μ2 (by omega) ⟨hM2, hF.tr ((f1.wk (by simp [zSM])).tr (f2.wk (by simp +contextual [zSM]))), ⟨d2, p2, l2, w2, e2.2.1⟩, fun i => by rw [f2.a (b := 61) (by decide), f1.a (b := 61) (by decide)]; exact t1 i, fun i => by rw [f2.a (b := 62) (by decide), f1.a (b := 62) (by decide)]; exact t2 i, g63⟩
      rw [e7, e9] at h9
      exact zq_drp [0, 1, 2, 3, 4, 5] _ rfl h9
set_option maxRecDepth 100000 in
set_option maxHeartbeats 400000 in
theorem zs_niceOf {τ : zTd} {S : zES} {H : zSH} {μ0 : zq_Me} {k w : Nat} (lk : k ≤ 23) (lw : w ≤ 1) (hM : zIm τ S H μ0) : zq_Wp zn_X9_niceOf 0 [(0, .ref 50), (1, .int (nI k)), (2, .int (nI w))] [] μ0 (zRm' (.int (nI (ySl (ynf τ k) w))) τ S H μ0) := by
  refine zq_go zt_X9_niceOf 1 [] 1 [(0, .ref 50), (1, .int (nI k)), (2, .int (nI w))] [.ref 50] μ0 rfl trivial ?_
  refine zq_call zt_X9_niceOf [.ref 50] [] (zs_asTold hM) rfl rfl ?_
  rintro _ ν1 ⟨rfl, n1, k1, o1⟩
  have hne := n1.2.2.1.2
  have h10 : ν1.1 50 10 = nI (yne τ) := n1.2.2.1.1.2.1
  refine zq_go zt_X9_niceOf 24 [vp_in (ν1.1 50 10) 9, vp_in (ν1.1 50 10) 9] 42 [(0, .ref 50), (1, .int (nI k)), (2, .int (nI w)), (3, .int (-1)), (4, .int (-1)), (5, .int (nI 0))] [] (zq_u1 (zq_u1 (zq_u1 ν1 50 15 ((ν1.1 50 10) + (nI 1))) 61 ((ν1.1 50 10).toNatClampNeg) (nI 0)) 62 ((ν1.1 50 10).toNatClampNeg) (nI k)) rfl ⟨zn_in (k := yne τ) (by rw [h10]) (by omega) (by decide), ⟨zn_in (k := yne τ) (by rw [h10]) (by omega) (by decide), trivial⟩⟩ ?_
  rw [h10, zn_add (yne τ) 1, zn_cl (n := yne τ) (by omega)]
  obtain ⟨ν2, hν2⟩ : ∃ k9 : zq_Me, k9 = (zq_u1 (zq_u1 (zq_u1 ν1 50 15 (nI ((yne τ) + 1))) 61 (yne τ) (nI 0)) 62 (yne τ) (nI k)) := ⟨_, rfl⟩
  rw [← hν2]
  have f2 : zq_fr [50, 61, 62] ν1 ν2 := by rw [hν2]; exact ((zq_fr.rf.u1 (by simp)).u1 (by simp)).u1 (by simp)
  have s2 : ∀ i, i ≠ 15 → ν2.1 50 i = ν1.1 50 i := fun i hi => by rw [hν2, zq_u1_ne (by decide), zq_u1_ne (by decide), zq_u1_o2 hi]
  have n2 : zIm τ S H ν2 := n1.kp f2 (by decide) (fun i hi => s2 i (by simp at hi; omega))
  have d2 : zDm (ynd τ) (yo1 τ) (yo2 τ) ν2 := ⟨o1.1.1, by rw [s2 2 (by decide)]; exact o1.1.2.1, by rw [f2.a (b := 53) (by decide)]; exact o1.1.2.2.1, by rw [f2.a (b := 54) (by decide)]; exact o1.1.2.2.2⟩
  have p2 := o1.2.1.sl (μ1 := ν2) (s2 5 (by decide)) (f2.a (by decide)) (f2.a (by decide)) (f2.a (by decide))
  refine zs_niceOf_l (τ := τ) (S := S) (H := H) (μ0 := μ0) (ν1 := ν1) o1.2.2.2.1 (show k < 24 by omega) (fun μ3 h3 => ?_) 8 0 ν2 (by omega) ⟨n2, k1.tr (f2.wk (by simp +contextual [zSM])), ⟨d2, p2, by rw [s2 14 (by decide)]; exact o1.2.2.1, by rw [s2 19 (by decide)]; exact o1.2.2.2.2, by rw [hν2, zq_u1_ne (by decide), zq_u1_ne (by decide), zq_u1_s]⟩, fun i => by rw [hν2, zq_u1_ne (by decide), zq_u1_rd, zq_u1_ne (by decide)], fun i => by rw [hν2, zq_u1_rd, zq_u1_ne (by decide), zq_u1_ne (by decide)], fun i _ => by rw [hν2, zq_u1_ne (by decide), zq_u1_ne (by decide), zq_u1_ne (by decide)]⟩
  refine zq_go zt_X9_niceOf 2 [] (if ¬ (nI w) = 0 then 116 else 112) [(0, .ref 50), (1, .int (nI k)), (2, .int (nI w)), (3, .int (zdn (yam (ynf τ k) 8))), (4, .int (zdn (ymo (ynf τ k) 8)))] [] μ3 rfl trivial ?_
  refine zq_ite (fun h16 => ?_) (fun h16 => ?_)
  · rw [show (0 : Int32) = nI 0 from rfl, zn_eq (by omega) (by omega)] at h16
    have e0 : ySl (ynf τ k) w = zmx (ynf τ k) 8 := if_neg (by omega)
    rw [e0]
    refine zq_go zt_X9_niceOf 1 [] 118 [(0, .ref 50), (1, .int (nI k)), (2, .int (nI w)), (3, .int (zdn (yam (ynf τ k) 8))), (4, .int (zdn (ymo (ynf τ k) 8)))] [.int (zdn (ymo (ynf τ k) 8))] μ3 rfl trivial ?_
    exact zq_retn zt_X9_niceOf rfl rfl (⟨rfl, h3.1, h3.2.1⟩)
  · rw [show (0 : Int32) = nI 0 from rfl, zn_eq (by omega) (by omega)] at h16
    have e0 : ySl (ynf τ k) w = zam (ynf τ k) 8 := if_pos (by omega)
    rw [e0]
    refine zq_go zt_X9_niceOf 2 [] 118 [(0, .ref 50), (1, .int (nI k)), (2, .int (nI w)), (3, .int (zdn (yam (ynf τ k) 8))), (4, .int (zdn (ymo (ynf τ k) 8)))] [.int (zdn (yam (ynf τ k) 8))] μ3 rfl trivial ?_
    exact zq_retn zt_X9_niceOf rfl rfl (⟨rfl, h3.1, h3.2.1⟩)
set_option maxRecDepth 100000 in
set_option maxHeartbeats 400000 in
theorem zs_nicem {τ : zTd} {S : zES} {H : zSH} {μ0 : zq_Me} {k w : Nat} (lk : k ≤ 23) (lw : w ≤ 1) (hM : zIm τ S H μ0) : zq_Wp zn_X9_nice 0 [(0, .ref 50), (1, .int (nI k)), (2, .int (nI w))] [] μ0 (zRm' (.int (nI (ySl (ynf τ k) w))) τ S H μ0) := by
  refine zq_go zt_X9_nice 1 [] 1 [(0, .ref 50), (1, .int (nI k)), (2, .int (nI w))] [.int (nI k)] μ0 rfl trivial ?_
  refine zq_call zt_X9_nice [.int (nI k)] [] (zs_isHourm (nI k) μ0) rfl rfl ?_
  rintro _ _ ⟨rfl, rfl⟩
  refine zq_go zt_X9_nice 1 [] (if (zb (0 ≤ (nI k) ∧ (nI k) ≤ nI 23)) = 0 then 23 else 7) [(0, .ref 50), (1, .int (nI k)), (2, .int (nI w))] [] μ0 rfl trivial ?_
  rw [if_neg (zb_n (yin (by omega) (by decide)))]
  refine zq_go zt_X9_nice 1 [] 8 [(0, .ref 50), (1, .int (nI k)), (2, .int (nI w))] [.int (nI w)] μ0 rfl trivial ?_
  refine zq_call zt_X9_nice [.int (nI w)] [] (zs_isTwom (nI w) μ0) rfl rfl ?_
  rintro _ _ ⟨rfl, rfl⟩
  refine zq_go zt_X9_nice 1 [] (if (zb (0 ≤ (nI w) ∧ (nI w) ≤ nI 1)) = 0 then 23 else 14) [(0, .ref 50), (1, .int (nI k)), (2, .int (nI w))] [] μ0 rfl trivial ?_
  rw [if_neg (zb_n (yin (by omega) (by decide)))]
  refine zq_go zt_X9_nice 3 [] 17 [(0, .ref 50), (1, .int (nI k)), (2, .int (nI w))] [.int (nI w), .int (nI k), .ref 50] μ0 rfl trivial ?_
  refine zq_call zt_X9_nice [.ref 50, .int (nI k), .int (nI w)] [] (zs_niceOf lk lw hM) rfl rfl ?_
  rintro _ ν2 ⟨rfl, n2, k2⟩
  refine zq_go zt_X9_nice 1 [] 25 [(0, .ref 50), (1, .int (nI k)), (2, .int (nI w))] [.int (nI (ySl (ynf τ k) w))] ν2 rfl trivial ?_
  exact zq_retn zt_X9_nice rfl rfl (⟨rfl, n2, k2⟩)
set_option maxRecDepth 100000 in
set_option maxHeartbeats 400000 in
theorem zs_nice_b (v1 v2 : Int32) (hg : ¬ ((0 ≤ v1 ∧ v1 ≤ nI 23) ∧ (0 ≤ v2 ∧ v2 ≤ nI 1))) {τ : zTd} {S : zES} {H : zSH} {μ0 : zq_Me} (hC : zIc τ S H μ0) : zq_Wp zn_X8_nice 0 [(0, .ref 0), (1, .int v1), (2, .int v2)] [] μ0 (zRc (.int (-2)) τ S H μ0) := by
  refine zq_go zt_X8_nice 1 [] 1 [(0, .ref 0), (1, .int v1), (2, .int v2)] [.int v1] μ0 rfl trivial ?_
  refine zq_call zt_X8_nice [.int v1] [] (zs_isHour v1 μ0) rfl rfl ?_
  rintro _ _ ⟨rfl, rfl⟩
  refine zq_go zt_X8_nice 1 [] (if (zb (0 ≤ v1 ∧ v1 ≤ nI 23)) = 0 then 16 else 7) [(0, .ref 0), (1, .int v1), (2, .int v2)] [] μ0 rfl trivial ?_
  refine zq_ite (fun h4 => ?_) (fun h4 => ?_)
  · refine zq_go zt_X8_nice 1 [] 18 [(0, .ref 0), (1, .int v1), (2, .int v2)] [.int (-2)] μ0 rfl trivial ?_
    exact zq_retn zt_X8_nice rfl rfl (⟨rfl, hC, zq_fr.rf⟩)
  · have g0 := zb_p h4
    refine zq_go zt_X8_nice 3 [] 10 [(0, .ref 0), (1, .int v1), (2, .int v2)] [.int (nI 1), .int (nI 0), .int v2] μ0 rfl trivial ?_
    refine zq_call zt_X8_nice [.int v2, .int (nI 0), .int (nI 1)] [] (zs_within v2 (nI 0) (nI 1) μ0) rfl rfl ?_
    rintro _ _ ⟨rfl, rfl⟩
    refine zq_go zt_X8_nice 1 [] (if ¬ (zb (0 ≤ v2 ∧ v2 ≤ nI 1)) = 0 then 19 else 16) [(0, .ref 0), (1, .int v1), (2, .int v2)] [] μ0 rfl trivial ?_
    refine zq_ite (fun h12 => ?_) (fun h12 => ?_)
    · have g1 := zb_p h12
      exact absurd ⟨g0, g1⟩ hg
    · refine zq_go zt_X8_nice 1 [] 18 [(0, .ref 0), (1, .int v1), (2, .int v2)] [.int (-2)] μ0 rfl trivial ?_
      exact zq_retn zt_X8_nice rfl rfl (⟨rfl, hC, zq_fr.rf⟩)
set_option maxRecDepth 100000 in
set_option maxHeartbeats 400000 in
theorem zs_nicem_b (v1 v2 : Int32) (hg : ¬ ((0 ≤ v1 ∧ v1 ≤ nI 23) ∧ (0 ≤ v2 ∧ v2 ≤ nI 1))) {τ : zTd} {S : zES} {H : zSH} {μ0 : zq_Me} (hM : zIm τ S H μ0) : zq_Wp zn_X9_nice 0 [(0, .ref 50), (1, .int v1), (2, .int v2)] [] μ0 (zRm' (.int (-2)) τ S H μ0) := by
  refine zq_go zt_X9_nice 1 [] 1 [(0, .ref 50), (1, .int v1), (2, .int v2)] [.int v1] μ0 rfl trivial ?_
  refine zq_call zt_X9_nice [.int v1] [] (zs_isHourm v1 μ0) rfl rfl ?_
  rintro _ _ ⟨rfl, rfl⟩
  refine zq_go zt_X9_nice 1 [] (if (zb (0 ≤ v1 ∧ v1 ≤ nI 23)) = 0 then 23 else 7) [(0, .ref 50), (1, .int v1), (2, .int v2)] [] μ0 rfl trivial ?_
  refine zq_ite (fun h4 => ?_) (fun h4 => ?_)
  · refine zq_go zt_X9_nice 1 [] 25 [(0, .ref 50), (1, .int v1), (2, .int v2)] [.int (-2)] μ0 rfl trivial ?_
    exact zq_retn zt_X9_nice rfl rfl (⟨rfl, hM, zq_fr.rf⟩)
  · have g0 := zb_p h4
    refine zq_go zt_X9_nice 1 [] 8 [(0, .ref 50), (1, .int v1), (2, .int v2)] [.int v2] μ0 rfl trivial ?_
    refine zq_call zt_X9_nice [.int v2] [] (zs_isTwom v2 μ0) rfl rfl ?_
    rintro _ _ ⟨rfl, rfl⟩
    refine zq_go zt_X9_nice 1 [] (if (zb (0 ≤ v2 ∧ v2 ≤ nI 1)) = 0 then 23 else 14) [(0, .ref 50), (1, .int v1), (2, .int v2)] [] μ0 rfl trivial ?_
    refine zq_ite (fun h12 => ?_) (fun h12 => ?_)
    · refine zq_go zt_X9_nice 1 [] 25 [(0, .ref 50), (1, .int v1), (2, .int v2)] [.int (-2)] μ0 rfl trivial ?_
      exact zq_retn zt_X9_nice rfl rfl (⟨rfl, hM, zq_fr.rf⟩)
    · have g1 := zb_p h12
      exact absurd ⟨g0, g1⟩ hg
theorem zo_nice (v1 v2 : Int32) : zop zn_X8_nice [(0, .ref 0), (1, .int v1), (2, .int v2)] zn_X9_nice [(0, .ref 50), (1, .int v1), (2, .int v2)] := by
  intro τ S H μ hC hM
  by_cases hg : (0 ≤ v1 ∧ v1 ≤ nI 23) ∧ (0 ≤ v2 ∧ v2 ≤ nI 1)
  · have h9 := hC.2.1.2.1
    obtain ⟨k, lk, rfl⟩ := yix (by decide) hg.1
    obtain ⟨w, lw, rfl⟩ := yix (by decide) hg.2
    exact ⟨_, τ, S, H, zs_nice lk lw hC, fun _ h => zs_nicem lk lw h⟩
  · exact ⟨_, τ, S, H, zs_nice_b v1 v2 hg hC, fun _ h => zs_nicem_b v1 v2 hg h⟩
def ygf (τ : zTd) : Nat → Nat := fun v => zf (zfh (ysr τ) (ynp τ) (yR τ (ysr τ) (ybd τ) (yek τ) (yeh τ) (yen τ) 0 (yne τ) v)) 24
def y24 (m : Nat) : Int32 := if m < 24 then nI m else -1
def yln (g : Nat → Nat) : Nat → Nat × Nat
  | 0 => (24, 0)
  | v + 1 => if v = 0 then (24, 0) else if g v < (yln g v).1 then (g v, v + 1) else yln g v
theorem yln_s (g : Nat → Nat) {v : Nat} (h : ¬ v = 0) : yln g (v + 1) = if g v < (yln g v).1 then (g v, v + 1) else yln g v := if_neg h
theorem yln_le (g : Nat → Nat) : ∀ v, (yln g v).1 ≤ 24 ∧ (yln g v).2 ≤ v ∧ ((yln g v).2 = 0 ↔ (yln g v).1 = 24)
  | 0 => ⟨Nat.le_refl _, Nat.le_refl _, fun _ => rfl, fun _ => rfl⟩
  | v + 1 => by
    by_cases h : v = 0
    · subst h
      exact ⟨Nat.le_refl _, by show 0 ≤ 1; omega, fun _ => rfl, fun _ => rfl⟩
    · obtain ⟨a, b, c⟩ := yln_le g v
      rw [yln_s g h]
      by_cases q : g v < (yln g v).1
      · rw [if_pos q]
        exact ⟨by show g v ≤ 24; omega, by show v + 1 ≤ v + 1; omega, fun x => absurd x (by show ¬ v + 1 = 0; omega), fun x => absurd x (by show ¬ g v = 24; omega)⟩
      · rw [if_neg q]
        exact ⟨a, by omega, c⟩
theorem y24_m1 {m : Nat} (h : m ≤ 24) : (y24 m = -1) = (m = 24) := by
  unfold y24
  by_cases q : m < 24
  · rw [if_pos q]; exact propext ⟨fun x => absurd x (zn_neg1 (by omega)), fun x => by omega⟩
  · rw [if_neg q]; exact propext ⟨fun _ => by omega, fun _ => rfl⟩
theorem y24_t {m : Nat} (h : m < 24) : y24 m = nI m := if_pos h
theorem ygf_le (τ : zTd) (v : Nat) : ygf τ v ≤ 24 := zf_le _ _
theorem zfv_0 (srt : Nat → Nat) (np : Nat) (R : Nat → Nat → Nat) : zfv srt np R (nI 0) = y24 (zf (zfh srt np R) 24) := by
  unfold zfv y24
  by_cases q : zf (zfh srt np R) 24 < 24
  · rw [if_pos q, if_pos q, if_pos (show nI 0 = 0 from rfl)]
  · rw [if_neg q, if_neg q]
def yLe (τ : zTd) (w : Nat) : Int32 := if w = 0 then zdn (yln (ygf τ) 10).2 else y24 (yln (ygf τ) 10).1
set_option maxRecDepth 100000 in
set_option maxHeartbeats 400000 in
theorem zs_lens_l {Q : zq_Post} {τ : zTd} {S : zES} {H : zSH} {μ0 : zq_Me} (hC : zIc τ S H μ0) {w : Nat} (kk : ∀ μ : zq_Me, (zq_fr [5, 15, 16, 17, 18, 19, 40, 41, 42, 43, 44, 45, 46, 47, 48] μ0 μ ∧ zK40 (ynd τ) (yo1 τ) (yo2 τ) μ ∧ μ.1 40 11 = -1) → zq_Wp zn_X8_lens 78 [(0, .ref 0), (1, .int (nI w)), (2, .int (zdn (yln (ygf τ) 10).2)), (3, .int (y24 (yln (ygf τ) 10).1))] [] μ Q) : ∀ (j v : Nat) (μ : zq_Me), v + j = 10 → 1 ≤ v → (zq_fr [5, 15, 16, 17, 18, 19, 40, 41, 42, 43, 44, 45, 46, 47, 48] μ0 μ ∧ zK40 (ynd τ) (yo1 τ) (yo2 τ) μ ∧ μ.1 40 11 = -1) → zq_Wp zn_X8_lens 19 [(0, .ref 0), (1, .int (nI w)), (2, .int (zdn (yln (ygf τ) v).2)), (3, .int (y24 (yln (ygf τ) v).1)), (4, .int (nI v))] [] μ Q := by
  intro j
  induction j with
  | zero =>
    rintro v μ hij h1 hI
    obtain rfl : v = 10 := by omega
    refine zq_go zt_X8_lens 3 [] (if (nI 9) < (nI 10) then 78 else 26) [(0, .ref 0), (1, .int (nI w)), (2, .int (zdn (yln (ygf τ) 10).2)), (3, .int (y24 (yln (ygf τ) 10).1)), (4, .int (nI 10))] [] μ rfl trivial ?_
    rw [if_pos (by decide)]
    exact zq_drp [0, 1, 2, 3] _ rfl (kk μ hI)
  | succ j ih =>
    rintro v μ hij h1 ⟨hF, hK, hw11⟩
    obtain ⟨l1, l2, l3⟩ := yln_le (ygf τ) v
    have g1 := ygf_le τ v
    have es := yln_s (ygf τ) (show ¬ v = 0 by omega)
    refine zq_go zt_X8_lens 3 [] (if (nI 9) < (nI v) then 78 else 26) [(0, .ref 0), (1, .int (nI w)), (2, .int (zdn (yln (ygf τ) v).2)), (3, .int (y24 (yln (ygf τ) v).1)), (4, .int (nI v))] [] μ rfl trivial ?_
    rw [if_neg (by rw [zn_lt (by omega) (by omega)]; omega)]
    refine zq_go zt_X8_lens 6 [] 37 [(0, .ref 0), (1, .int (nI w)), (2, .int (zdn (yln (ygf τ) v).2)), (3, .int (y24 (yln (ygf τ) v).1)), (4, .int (nI v))] [.int (nI v), .int (nI 0), .ref 11, .ref 40] μ rfl trivial ?_
    have hP : zP40 (ynp τ) (ysr τ) (yst τ) (ybd τ) μ := zP40.of (hC.2.1.2.fr hF (by decide)) hw11
    refine zq_call zt_X8_lens [.ref 40, .ref 11, .int (nI 0), .int (nI v)] [] (zs_try11 hC hF hK (wo := 0) (by decide) (show v ≤ 9 by omega) hP) rfl rfl ?_
    rintro _ μ2 ⟨rfl, hF2, hK2, s2, hP2, q2⟩
    refine zq_go zt_X8_lens 2 [] 44 [(0, .ref 0), (1, .int (nI w)), (2, .int (zdn (yln (ygf τ) v).2)), (3, .int (y24 (yln (ygf τ) v).1)), (4, .int (nI v))] [.ref 40] μ2 rfl trivial ?_
    refine zq_call zt_X8_lens [.ref 40] [] (show zq_Wp zn_X7_findingHour 0 [(0, .ref 40)] [] μ2 (zq_pi (y24 (ygf τ v)) μ2) from zs_findingHour40 hP2 q2) rfl rfl ?_
    rintro _ _ ⟨rfl, rfl⟩
    have w2 : μ2.1 40 11 = -1 := by rw [s2 11 (by decide) (by decide)]; exact hw11
    refine zq_go zt_X8_lens 4 [] (if (y24 (ygf τ v)) = (-1) then 72 else 55) [(0, .ref 0), (1, .int (nI w)), (2, .int (zdn (yln (ygf τ) v).2)), (3, .int (y24 (yln (ygf τ) v).1)), (4, .int (nI v)), (5, .int (y24 (ygf τ v)))] [] μ2 rfl trivial ?_
    refine zq_ite (fun h24 => ?_) (fun h24 => ?_)
    · rw [y24_m1 g1] at h24
      refine zq_go zt_X8_lens 2 [] 19 [(0, .ref 0), (1, .int (nI w)), (2, .int (zdn (yln (ygf τ) v).2)), (3, .int (y24 (yln (ygf τ) v).1)), (4, .int ((nI v) + (nI 1))), (5, .int (y24 (ygf τ v)))] [] μ2 rfl trivial ?_
      rw [zn_add v 1]
      have h9 := ih (v + 1) μ2 (by omega) (by omega) ⟨hF2, hK2, w2⟩
      rw [es, if_neg (by omega)] at h9
      exact zq_drp [0, 1, 2, 3, 4] _ rfl h9
    · rw [y24_m1 g1] at h24
      refine zq_go zt_X8_lens 3 [] (if (y24 (yln (ygf τ) v).1) = (-1) then 66 else 60) [(0, .ref 0), (1, .int (nI w)), (2, .int (zdn (yln (ygf τ) v).2)), (3, .int (y24 (yln (ygf τ) v).1)), (4, .int (nI v)), (5, .int (y24 (ygf τ v)))] [] μ2 rfl trivial ?_
      refine zq_ite (fun h33 => ?_) (fun h33 => ?_)
      · rw [y24_m1 l1] at h33
        refine zq_go zt_X8_lens 6 [] 19 [(0, .ref 0), (1, .int (nI w)), (2, .int (nI v)), (3, .int (y24 (ygf τ v))), (4, .int ((nI v) + (nI 1))), (5, .int (y24 (ygf τ v)))] [] μ2 rfl trivial ?_
        rw [zn_add v 1]
        have h9 := ih (v + 1) μ2 (by omega) (by omega) ⟨hF2, hK2, w2⟩
        rw [es, if_pos (by omega)] at h9
        dsimp only at h9
        rw [show zdn (v + 1) = nI v from rfl] at h9
        exact zq_drp [0, 1, 2, 3, 4] _ rfl h9
      · rw [y24_m1 l1] at h33
        refine zq_go zt_X8_lens 3 [] (if (y24 (yln (ygf τ) v).1) ≤ (y24 (ygf τ v)) then 72 else 66) [(0, .ref 0), (1, .int (nI w)), (2, .int (zdn (yln (ygf τ) v).2)), (3, .int (y24 (yln (ygf τ) v).1)), (4, .int (nI v)), (5, .int (y24 (ygf τ v)))] [] μ2 rfl trivial ?_
        refine zq_ite (fun h44 => ?_) (fun h44 => ?_)
        · rw [y24_t (m := (yln (ygf τ) v).1) (by omega), y24_t (m := ygf τ v) (by omega), zn_le (by omega) (by omega)] at h44
          refine zq_go zt_X8_lens 2 [] 19 [(0, .ref 0), (1, .int (nI w)), (2, .int (zdn (yln (ygf τ) v).2)), (3, .int (y24 (yln (ygf τ) v).1)), (4, .int ((nI v) + (nI 1))), (5, .int (y24 (ygf τ v)))] [] μ2 rfl trivial ?_
          rw [zn_add v 1]
          have h9 := ih (v + 1) μ2 (by omega) (by omega) ⟨hF2, hK2, w2⟩
          rw [es, if_neg (by omega)] at h9
          exact zq_drp [0, 1, 2, 3, 4] _ rfl h9
        · rw [y24_t (m := (yln (ygf τ) v).1) (by omega), y24_t (m := ygf τ v) (by omega), zn_le (by omega) (by omega)] at h44
          refine zq_go zt_X8_lens 6 [] 19 [(0, .ref 0), (1, .int (nI w)), (2, .int (nI v)), (3, .int (y24 (ygf τ v))), (4, .int ((nI v) + (nI 1))), (5, .int (y24 (ygf τ v)))] [] μ2 rfl trivial ?_
          rw [zn_add v 1]
          have h9 := ih (v + 1) μ2 (by omega) (by omega) ⟨hF2, hK2, w2⟩
          rw [es, if_pos (by omega)] at h9
          dsimp only at h9
          rw [show zdn (v + 1) = nI v from rfl] at h9
          exact zq_drp [0, 1, 2, 3, 4] _ rfl h9
set_option maxRecDepth 100000 in
set_option maxHeartbeats 400000 in
theorem zs_lens {τ : zTd} {S : zES} {H : zSH} {μ0 : zq_Me} {w : Nat} (lw : w ≤ 1) (hC : zIc τ S H μ0) : zq_Wp zn_X8_lens 0 [(0, .ref 0), (1, .int (nI w))] [] μ0 (zRc (.int (yLe τ w)) τ S H μ0) := by
  refine zq_go zt_X8_lens 3 [] 3 [(0, .ref 0), (1, .int (nI w))] [.int (nI 1), .int (nI 0), .int (nI w)] μ0 rfl trivial ?_
  refine zq_call zt_X8_lens [.int (nI w), .int (nI 0), .int (nI 1)] [] (zs_within (nI w) (nI 0) (nI 1) μ0) rfl rfl ?_
  rintro _ _ ⟨rfl, rfl⟩
  refine zq_go zt_X8_lens 1 [] (if ¬ (zb (0 ≤ nI w ∧ nI w ≤ nI 1)) = 0 then 12 else 9) [(0, .ref 0), (1, .int (nI w))] [] μ0 rfl trivial ?_
  rw [if_pos (zb_n (yin (by omega) (by decide)))]
  refine zq_go zt_X8_lens 6 [] 19 [(0, .ref 0), (1, .int (nI w)), (2, .int (-1)), (3, .int (-1)), (4, .int (nI 1))] [] μ0 rfl trivial ?_
  refine zs_lens_l hC (fun μ3 h3 => ?_) 9 1 μ0 (by omega) (by omega) ⟨zq_fr.rf, hC.2.2.2.2.2.1.2, hC.2.2.2.2.2.1.1⟩
  have hI : zIc τ S H μ3 := hC.tr h3.1 ⟨h3.2.2, h3.2.1⟩
  refine zq_go zt_X8_lens 2 [] (if ¬ (nI w) = 0 then 86 else 82) [(0, .ref 0), (1, .int (nI w)), (2, .int (zdn (yln (ygf τ) 10).2)), (3, .int (y24 (yln (ygf τ) 10).1))] [] μ3 rfl trivial ?_
  refine zq_ite (fun h9 => ?_) (fun h9 => ?_)
  · rw [show (0 : Int32) = nI 0 from rfl, zn_eq (by omega) (by omega)] at h9
    have e0 : yLe τ w = y24 (yln (ygf τ) 10).1 := if_neg (by omega)
    rw [e0]
    refine zq_go zt_X8_lens 1 [] 87 [(0, .ref 0), (1, .int (nI w)), (2, .int (zdn (yln (ygf τ) 10).2)), (3, .int (y24 (yln (ygf τ) 10).1))] [.int (y24 (yln (ygf τ) 10).1)] μ3 rfl trivial ?_
    exact zq_retn zt_X8_lens rfl rfl (⟨rfl, hI, h3.1.wk (by simp +contextual [zSC])⟩)
  · rw [show (0 : Int32) = nI 0 from rfl, zn_eq (by omega) (by omega)] at h9
    have e0 : yLe τ w = zdn (yln (ygf τ) 10).2 := if_pos (by omega)
    rw [e0]
    refine zq_go zt_X8_lens 2 [] 87 [(0, .ref 0), (1, .int (nI w)), (2, .int (zdn (yln (ygf τ) 10).2)), (3, .int (y24 (yln (ygf τ) 10).1))] [.int (zdn (yln (ygf τ) 10).2)] μ3 rfl trivial ?_
    exact zq_retn zt_X8_lens rfl rfl (⟨rfl, hI, h3.1.wk (by simp +contextual [zSC])⟩)
set_option maxRecDepth 100000 in
set_option maxHeartbeats 400000 in
theorem zs_lensOf_l {Q : zq_Post} {τ : zTd} {S : zES} {H : zSH} {μ0 : zq_Me} {w : Nat} (kk : ∀ μ : zq_Me, (zIm τ S H μ ∧ zq_fr zSM μ0 μ ∧ ∃ l, zNr τ (ysr τ) (ybd τ) l τ.2.2.2 0 μ) → zq_Wp zn_X9_lensOf 85 [(0, .ref 50), (1, .int (nI w)), (2, .int (zdn (yln (ygf τ) 10).2)), (3, .int (nI ((yln (ygf τ) 10).1)))] [] μ Q) : ∀ (j v : Nat) (μ : zq_Me), v + j = 10 → 1 ≤ v → (zIm τ S H μ ∧ zq_fr zSM μ0 μ ∧ ∃ l, zNr τ (ysr τ) (ybd τ) l τ.2.2.2 0 μ) → zq_Wp zn_X9_lensOf 12 [(0, .ref 50), (1, .int (nI w)), (2, .int (zdn (yln (ygf τ) v).2)), (3, .int (nI ((yln (ygf τ) v).1))), (4, .int (nI v))] [] μ Q := by
  intro j
  induction j with
  | zero =>
    rintro v μ hij h1 hI
    obtain rfl : v = 10 := by omega
    refine zq_go zt_X9_lensOf 3 [] (if (nI 10) ≤ (nI 10) then 85 else 19) [(0, .ref 50), (1, .int (nI w)), (2, .int (zdn (yln (ygf τ) 10).2)), (3, .int (nI ((yln (ygf τ) 10).1))), (4, .int (nI 10))] [] μ rfl trivial ?_
    rw [if_pos (by decide)]
    exact zq_drp [0, 1, 2, 3] _ rfl (kk μ hI)
  | succ j ih =>
    rintro v μ hij h1 ⟨hM, hF, l0, hN⟩
    obtain ⟨l1, l2, l3⟩ := yln_le (ygf τ) v
    have g1 := ygf_le τ v
    have es := yln_s (ygf τ) (show ¬ v = 0 by omega)
    refine zq_go zt_X9_lensOf 3 [] (if (nI 10) ≤ (nI v) then 85 else 19) [(0, .ref 50), (1, .int (nI w)), (2, .int (zdn (yln (ygf τ) v).2)), (3, .int (nI ((yln (ygf τ) v).1))), (4, .int (nI v))] [] μ rfl trivial ?_
    rw [if_neg (by rw [zn_le (by omega) (by omega)]; omega)]
    refine zq_go zt_X9_lensOf 4 [] 26 [(0, .ref 50), (1, .int (nI w)), (2, .int (zdn (yln (ygf τ) v).2)), (3, .int (nI ((yln (ygf τ) v).1))), (4, .int (nI v))] [.ref 50] (zq_u1 μ 50 14 (nI v)) rfl trivial ?_
    obtain ⟨μ1, hμ1⟩ : ∃ k9 : zq_Me, k9 = (zq_u1 μ 50 14 (nI v)) := ⟨_, rfl⟩
    rw [← hμ1]
    have f1 : zq_fr [50] μ μ1 := by rw [hμ1]; exact zq_fr.rf.u1 (by simp)
    have s1 : ∀ i, i ≠ 14 → μ1.1 50 i = μ.1 50 i := fun i hi => by rw [hμ1, zq_u1_o2 hi]
    have hM1 : zIm τ S H μ1 := hM.kp f1 (by decide) (fun i hi => s1 i (by simp at hi; omega))
    have hN1 : zNr τ (ysr τ) (ybd τ) v τ.2.2.2 0 μ1 := by
      obtain ⟨d, p, l, e, w9⟩ := hN
      exact ⟨⟨d.1, by rw [s1 2 (by decide)]; exact d.2.1, by rw [f1.a (b := 53) (by decide)]; exact d.2.2.1, by rw [f1.a (b := 54) (by decide)]; exact d.2.2.2⟩, p.sl (s1 5 (by decide)) (f1.a (by decide)) (f1.a (by decide)) (f1.a (by decide)), by rw [hμ1, zq_u1_s], e.sl (s1 15 (by decide)) (f1.a (by decide)) (f1.a (by decide)) (f1.a (by decide)), by rw [s1 19 (by decide)]; exact w9⟩
    refine zq_call zt_X9_lensOf [.ref 50] [] (zs_tryM hM1 hN1 (show v ≤ 9 by omega) (by decide)) rfl rfl ?_
    rintro _ μ2 ⟨rfl, hM2, f2, s2, hN2, q2⟩
    refine zq_go zt_X9_lensOf 2 [] 31 [(0, .ref 50), (1, .int (nI w)), (2, .int (zdn (yln (ygf τ) v).2)), (3, .int (nI ((yln (ygf τ) v).1))), (4, .int (nI v))] [.int (nI 0), .ref 50] μ2 rfl trivial ?_
    refine zq_call zt_X9_lensOf [.ref 50, .int (nI 0)] [] (show zq_Wp zn_X9_foundNow 0 [(0, .ref 50), (1, .int (nI 0))] [] μ2 (zq_pi (y24 (ygf τ v)) μ2) from (zfv_0 (ysr τ) (ynp τ) (yR τ (ysr τ) (ybd τ) (yek τ) (yeh τ) (yen τ) 0 (yne τ) v)) ▸ zs_foundNow hN2.2.1 q2 (nI 0)) rfl rfl ?_
    rintro _ _ ⟨rfl, rfl⟩
    refine zq_go zt_X9_lensOf 4 [] (if (y24 (ygf τ v)) = (-1) then 52 else 42) [(0, .ref 50), (1, .int (nI w)), (2, .int (zdn (yln (ygf τ) v).2)), (3, .int (nI ((yln (ygf τ) v).1))), (4, .int (nI v)), (5, .int (y24 (ygf τ v)))] [] μ2 rfl trivial ?_
    refine zq_ite (fun h30 => ?_) (fun h30 => ?_)
    · rw [y24_m1 g1] at h30
      refine zq_go zt_X9_lensOf 4 [] (if (nI 0) = 0 then 65 else 60) [(0, .ref 50), (1, .int (nI w)), (2, .int (zdn (yln (ygf τ) v).2)), (3, .int (nI ((yln (ygf τ) v).1))), (4, .int (nI v)), (5, .int (y24 (ygf τ v))), (6, .int (nI 0))] [] μ2 rfl trivial ?_
      rw [if_pos (by decide)]
      refine zq_go zt_X9_lensOf 4 [] (if (nI 0) = 0 then 77 else 72) [(0, .ref 50), (1, .int (nI w)), (2, .int (zdn (yln (ygf τ) v).2)), (3, .int (nI ((yln (ygf τ) v).1))), (4, .int (nI v)), (5, .int (y24 (ygf τ v))), (6, .int (nI 0))] [] μ2 rfl trivial ?_
      rw [if_pos (by decide)]
      refine zq_go zt_X9_lensOf 4 [] 12 [(0, .ref 50), (1, .int (nI w)), (2, .int (zdn (yln (ygf τ) v).2)), (3, .int (nI ((yln (ygf τ) v).1))), (4, .int ((nI v) + (nI 1))), (5, .int (y24 (ygf τ v))), (6, .int (nI 0))] [] μ2 rfl trivial ?_
      rw [zn_add v 1]
      have h9 := ih (v + 1) μ2 (by omega) (by omega) ⟨hM2, hF.tr ((f1.wk (by simp [zSM])).tr (f2.wk (by simp +contextual [zSM]))), v, hN2⟩
      rw [es, if_neg (by omega)] at h9
      exact zq_drp [0, 1, 2, 3, 4] _ rfl h9
    · rw [y24_m1 g1] at h30
      have e24 := y24_t (m := ygf τ v) (by omega)
      rw [e24]
      refine zq_go zt_X9_lensOf 3 [] (if (nI ((yln (ygf τ) v).1)) ≤ (nI (ygf τ v)) then 52 else 48) [(0, .ref 50), (1, .int (nI w)), (2, .int (zdn (yln (ygf τ) v).2)), (3, .int (nI ((yln (ygf τ) v).1))), (4, .int (nI v)), (5, .int (nI (ygf τ v)))] [] μ2 rfl trivial ?_
      refine zq_ite (fun h45 => ?_) (fun h45 => ?_)
      · rw [zn_le (by omega) (by omega)] at h45
        refine zq_go zt_X9_lensOf 4 [] (if (nI 0) = 0 then 65 else 60) [(0, .ref 50), (1, .int (nI w)), (2, .int (zdn (yln (ygf τ) v).2)), (3, .int (nI ((yln (ygf τ) v).1))), (4, .int (nI v)), (5, .int (nI (ygf τ v))), (6, .int (nI 0))] [] μ2 rfl trivial ?_
        rw [if_pos (by decide)]
        refine zq_go zt_X9_lensOf 4 [] (if (nI 0) = 0 then 77 else 72) [(0, .ref 50), (1, .int (nI w)), (2, .int (zdn (yln (ygf τ) v).2)), (3, .int (nI ((yln (ygf τ) v).1))), (4, .int (nI v)), (5, .int (nI (ygf τ v))), (6, .int (nI 0))] [] μ2 rfl trivial ?_
        rw [if_pos (by decide)]
        refine zq_go zt_X9_lensOf 4 [] 12 [(0, .ref 50), (1, .int (nI w)), (2, .int (zdn (yln (ygf τ) v).2)), (3, .int (nI ((yln (ygf τ) v).1))), (4, .int ((nI v) + (nI 1))), (5, .int (nI (ygf τ v))), (6, .int (nI 0))] [] μ2 rfl trivial ?_
        rw [zn_add v 1]
        have h9 := ih (v + 1) μ2 (by omega) (by omega) ⟨hM2, hF.tr ((f1.wk (by simp [zSM])).tr (f2.wk (by simp +contextual [zSM]))), v, hN2⟩
        rw [es, if_neg (by omega)] at h9
        exact zq_drp [0, 1, 2, 3, 4] _ rfl h9
      · rw [zn_le (by omega) (by omega)] at h45
        refine zq_go zt_X9_lensOf 2 [] 53 [(0, .ref 50), (1, .int (nI w)), (2, .int (zdn (yln (ygf τ) v).2)), (3, .int (nI ((yln (ygf τ) v).1))), (4, .int (nI v)), (5, .int (nI (ygf τ v)))] [.int (nI 1)] μ2 rfl trivial ?_
        refine zq_go zt_X9_lensOf 3 [] (if (nI 1) = 0 then 65 else 60) [(0, .ref 50), (1, .int (nI w)), (2, .int (zdn (yln (ygf τ) v).2)), (3, .int (nI ((yln (ygf τ) v).1))), (4, .int (nI v)), (5, .int (nI (ygf τ v))), (6, .int (nI 1))] [] μ2 rfl trivial ?_
        rw [if_neg (by decide)]
        refine zq_go zt_X9_lensOf 2 [] 66 [(0, .ref 50), (1, .int (nI w)), (2, .int (zdn (yln (ygf τ) v).2)), (3, .int (nI ((yln (ygf τ) v).1))), (4, .int (nI v)), (5, .int (nI (ygf τ v))), (6, .int (nI 1))] [.int (nI v)] μ2 rfl trivial ?_
        refine zq_go zt_X9_lensOf 3 [] (if (nI 1) = 0 then 77 else 72) [(0, .ref 50), (1, .int (nI w)), (2, .int (nI v)), (3, .int (nI ((yln (ygf τ) v).1))), (4, .int (nI v)), (5, .int (nI (ygf τ v))), (6, .int (nI 1))] [] μ2 rfl trivial ?_
        rw [if_neg (by decide)]
        refine zq_go zt_X9_lensOf 2 [] 78 [(0, .ref 50), (1, .int (nI w)), (2, .int (nI v)), (3, .int (nI ((yln (ygf τ) v).1))), (4, .int (nI v)), (5, .int (nI (ygf τ v))), (6, .int (nI 1))] [.int (nI (ygf τ v))] μ2 rfl trivial ?_
        refine zq_go zt_X9_lensOf 3 [] 12 [(0, .ref 50), (1, .int (nI w)), (2, .int (nI v)), (3, .int (nI (ygf τ v))), (4, .int ((nI v) + (nI 1))), (5, .int (nI (ygf τ v))), (6, .int (nI 1))] [] μ2 rfl trivial ?_
        rw [zn_add v 1]
        have h9 := ih (v + 1) μ2 (by omega) (by omega) ⟨hM2, hF.tr ((f1.wk (by simp [zSM])).tr (f2.wk (by simp +contextual [zSM]))), v, hN2⟩
        rw [es, if_pos (by omega)] at h9
        dsimp only at h9
        rw [show zdn (v + 1) = nI v from rfl] at h9
        exact zq_drp [0, 1, 2, 3, 4] _ rfl h9
set_option maxRecDepth 100000 in
set_option maxHeartbeats 400000 in
theorem zs_lensOf {τ : zTd} {S : zES} {H : zSH} {μ0 : zq_Me} {w : Nat} (lw : w ≤ 1) (hM : zIm τ S H μ0) : zq_Wp zn_X9_lensOf 0 [(0, .ref 50), (1, .int (nI w))] [] μ0 (zRm' (.int (yLe τ w)) τ S H μ0) := by
  refine zq_go zt_X9_lensOf 1 [] 1 [(0, .ref 50), (1, .int (nI w))] [.ref 50] μ0 rfl trivial ?_
  refine zq_call zt_X9_lensOf [.ref 50] [] (zs_asTold hM) rfl rfl ?_
  rintro _ ν1 ⟨rfl, n1, k1, o1⟩
  refine zq_go zt_X9_lensOf 6 [] 12 [(0, .ref 50), (1, .int (nI w)), (2, .int (-1)), (3, .int (nI 24)), (4, .int (nI 1))] [] ν1 rfl trivial ?_
  refine zs_lensOf_l (τ := τ) (S := S) (H := H) (μ0 := μ0) (fun μ3 h3 => ?_) 9 1 ν1 (by omega) (by omega) ⟨n1, k1, yld τ, o1.r⟩
  obtain ⟨l1, l2, l3⟩ := yln_le (ygf τ) 10
  refine zq_go zt_X9_lensOf 3 [] (if (zdn (yln (ygf τ) 10).2) = (-1) then 94 else 90) [(0, .ref 50), (1, .int (nI w)), (2, .int (zdn (yln (ygf τ) 10).2)), (3, .int (nI ((yln (ygf τ) 10).1)))] [] μ3 rfl trivial ?_
  refine zq_ite (fun h7 => ?_) (fun h7 => ?_)
  · rw [zdn_m1 (by omega)] at h7
    have e0 : yLe τ w = zdn (yln (ygf τ) 10).2 := by
      unfold yLe y24
      rw [if_neg (c := (yln (ygf τ) 10).1 < 24) (by omega), h7]
      split <;> rfl
    rw [e0]
    refine zq_go zt_X9_lensOf 2 [] 99 [(0, .ref 50), (1, .int (nI w)), (2, .int (zdn (yln (ygf τ) 10).2)), (3, .int (nI ((yln (ygf τ) 10).1)))] [.int (zdn (yln (ygf τ) 10).2)] μ3 rfl trivial ?_
    exact zq_retn zt_X9_lensOf rfl rfl (⟨rfl, h3.1, h3.2.1⟩)
  · rw [zdn_m1 (by omega)] at h7
    refine zq_go zt_X9_lensOf 2 [] (if ¬ (nI w) = 0 then 98 else 94) [(0, .ref 50), (1, .int (nI w)), (2, .int (zdn (yln (ygf τ) 10).2)), (3, .int (nI ((yln (ygf τ) 10).1)))] [] μ3 rfl trivial ?_
    refine zq_ite (fun h18 => ?_) (fun h18 => ?_)
    · rw [show (0 : Int32) = nI 0 from rfl, zn_eq (by omega) (by omega)] at h18
      have e0 : yLe τ w = nI (yln (ygf τ) 10).1 := by
        unfold yLe
        rw [if_neg (by omega), y24_t (by omega)]
      rw [e0]
      refine zq_go zt_X9_lensOf 1 [] 99 [(0, .ref 50), (1, .int (nI w)), (2, .int (zdn (yln (ygf τ) 10).2)), (3, .int (nI ((yln (ygf τ) 10).1)))] [.int (nI ((yln (ygf τ) 10).1))] μ3 rfl trivial ?_
      exact zq_retn zt_X9_lensOf rfl rfl (⟨rfl, h3.1, h3.2.1⟩)
    · rw [show (0 : Int32) = nI 0 from rfl, zn_eq (by omega) (by omega)] at h18
      have e0 : yLe τ w = zdn (yln (ygf τ) 10).2 := if_pos (by omega)
      rw [e0]
      refine zq_go zt_X9_lensOf 2 [] 99 [(0, .ref 50), (1, .int (nI w)), (2, .int (zdn (yln (ygf τ) 10).2)), (3, .int (nI ((yln (ygf τ) 10).1)))] [.int (zdn (yln (ygf τ) 10).2)] μ3 rfl trivial ?_
      exact zq_retn zt_X9_lensOf rfl rfl (⟨rfl, h3.1, h3.2.1⟩)
set_option maxRecDepth 100000 in
set_option maxHeartbeats 400000 in
theorem zs_lensm {τ : zTd} {S : zES} {H : zSH} {μ0 : zq_Me} {w : Nat} (lw : w ≤ 1) (hM : zIm τ S H μ0) : zq_Wp zn_X9_lens 0 [(0, .ref 50), (1, .int (nI w))] [] μ0 (zRm' (.int (yLe τ w)) τ S H μ0) := by
  refine zq_go zt_X9_lens 1 [] 1 [(0, .ref 50), (1, .int (nI w))] [.int (nI w)] μ0 rfl trivial ?_
  refine zq_call zt_X9_lens [.int (nI w)] [] (zs_isTwom (nI w) μ0) rfl rfl ?_
  rintro _ _ ⟨rfl, rfl⟩
  refine zq_go zt_X9_lens 1 [] (if (zb (0 ≤ (nI w) ∧ (nI w) ≤ nI 1)) = 0 then 15 else 7) [(0, .ref 50), (1, .int (nI w))] [] μ0 rfl trivial ?_
  rw [if_neg (zb_n (yin (by omega) (by decide)))]
  refine zq_go zt_X9_lens 2 [] 9 [(0, .ref 50), (1, .int (nI w))] [.int (nI w), .ref 50] μ0 rfl trivial ?_
  refine zq_call zt_X9_lens [.ref 50, .int (nI w)] [] (zs_lensOf lw hM) rfl rfl ?_
  rintro _ ν2 ⟨rfl, n2, k2⟩
  refine zq_go zt_X9_lens 1 [] 17 [(0, .ref 50), (1, .int (nI w))] [.int (yLe τ w)] ν2 rfl trivial ?_
  exact zq_retn zt_X9_lens rfl rfl (⟨rfl, n2, k2⟩)
set_option maxRecDepth 100000 in
set_option maxHeartbeats 400000 in
theorem zs_lens_b (v1 : Int32) (hg : ¬ (0 ≤ v1 ∧ v1 ≤ nI 1)) {τ : zTd} {S : zES} {H : zSH} {μ0 : zq_Me} (hC : zIc τ S H μ0) : zq_Wp zn_X8_lens 0 [(0, .ref 0), (1, .int v1)] [] μ0 (zRc (.int (-2)) τ S H μ0) := by
  refine zq_go zt_X8_lens 3 [] 3 [(0, .ref 0), (1, .int v1)] [.int (nI 1), .int (nI 0), .int v1] μ0 rfl trivial ?_
  refine zq_call zt_X8_lens [.int v1, .int (nI 0), .int (nI 1)] [] (zs_within v1 (nI 0) (nI 1) μ0) rfl rfl ?_
  rintro _ _ ⟨rfl, rfl⟩
  refine zq_go zt_X8_lens 1 [] (if ¬ (zb (0 ≤ v1 ∧ v1 ≤ nI 1)) = 0 then 12 else 9) [(0, .ref 0), (1, .int v1)] [] μ0 rfl trivial ?_
  refine zq_ite (fun h4 => ?_) (fun h4 => ?_)
  · have g0 := zb_p h4
    exact absurd g0 hg
  · refine zq_go zt_X8_lens 1 [] 11 [(0, .ref 0), (1, .int v1)] [.int (-2)] μ0 rfl trivial ?_
    exact zq_retn zt_X8_lens rfl rfl (⟨rfl, hC, zq_fr.rf⟩)
set_option maxRecDepth 100000 in
set_option maxHeartbeats 400000 in
theorem zs_lensm_b (v1 : Int32) (hg : ¬ (0 ≤ v1 ∧ v1 ≤ nI 1)) {τ : zTd} {S : zES} {H : zSH} {μ0 : zq_Me} (hM : zIm τ S H μ0) : zq_Wp zn_X9_lens 0 [(0, .ref 50), (1, .int v1)] [] μ0 (zRm' (.int (-2)) τ S H μ0) := by
  refine zq_go zt_X9_lens 1 [] 1 [(0, .ref 50), (1, .int v1)] [.int v1] μ0 rfl trivial ?_
  refine zq_call zt_X9_lens [.int v1] [] (zs_isTwom v1 μ0) rfl rfl ?_
  rintro _ _ ⟨rfl, rfl⟩
  refine zq_go zt_X9_lens 1 [] (if (zb (0 ≤ v1 ∧ v1 ≤ nI 1)) = 0 then 15 else 7) [(0, .ref 50), (1, .int v1)] [] μ0 rfl trivial ?_
  refine zq_ite (fun h4 => ?_) (fun h4 => ?_)
  · refine zq_go zt_X9_lens 1 [] 17 [(0, .ref 50), (1, .int v1)] [.int (-2)] μ0 rfl trivial ?_
    exact zq_retn zt_X9_lens rfl rfl (⟨rfl, hM, zq_fr.rf⟩)
  · have g0 := zb_p h4
    exact absurd g0 hg
theorem zo_lens (v1 : Int32) : zop zn_X8_lens [(0, .ref 0), (1, .int v1)] zn_X9_lens [(0, .ref 50), (1, .int v1)] := by
  intro τ S H μ hC hM
  by_cases hg : 0 ≤ v1 ∧ v1 ≤ nI 1
  · obtain ⟨w, lw, rfl⟩ := yix (by decide) hg
    exact ⟨_, τ, S, H, zs_lens lw hC, fun _ h => zs_lensm lw h⟩
  · exact ⟨_, τ, S, H, zs_lens_b v1 hg hC, fun _ h => zs_lensm_b v1 hg h⟩
