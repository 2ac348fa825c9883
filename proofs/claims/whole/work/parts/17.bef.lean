/-! ===== the reference's hours: befalls ===== -/
set_option maxRecDepth 100000 in
set_option maxHeartbeats 4000000 in
theorem zs_bef_e {Q : zq_Post} {ne wo : Nat} {ek eh en : Nat → Nat} (hw : wo < 2 ^ 31) {μ0 : zq_Me} (hE0 : zEv 50 15 61 62 63 ne ek eh en μ0) (hwo0 : μ0.1 50 19 = nI wo) {h : Nat} (hh : h < 24) {s0 : Nat × Nat} (hs : s0.1 ≤ 8 ∧ s0.2 < 2 ^ 12) (kk : ∀ μ : zq_Me, (zq_fr [50] μ0 μ ∧ μ.1 50 20 = zdn (zh_e ek eh en wo h ne s0).1 ∧ μ.1 50 21 = nI (zh_e ek eh en wo h ne s0).2 ∧ μ.2.2.1 = μ0.2.2.1 ∧ ∀ i, i ≠ 20 → i ≠ 21 → μ.1 50 i = μ0.1 50 i) → zq_Wp zn_X9_befalls 94 [(0, .ref 50), (1, .int (nI h))] [] μ Q) : ∀ (j e : Nat) (μ : zq_Me), e + j = ne → (zq_fr [50] μ0 μ ∧ μ.1 50 20 = zdn (zh_e ek eh en wo h e s0).1 ∧ μ.1 50 21 = nI (zh_e ek eh en wo h e s0).2 ∧ μ.2.2.1 = μ0.2.2.1 ∧ ∀ i, i ≠ 20 → i ≠ 21 → μ.1 50 i = μ0.1 50 i) → zq_Wp zn_X9_befalls 2 [(0, .ref 50), (1, .int (nI h)), (2, .int (nI e))] [] μ Q := by
  intro j
  induction j with
  | zero =>
    intro e μ hij hI
    have he9 : e = ne := by omega
    subst he9
    have hn9 := hE0.1
    have hE9 : μ.1 50 15 = nI e := by rw [hI.2.2.2.2 15 (by decide) (by decide)]; exact hE0.2.1
    refine zq_go zt_X9_befalls 4 [] (if (μ.1 50 15) ≤ (nI e) then 94 else 10) [(0, .ref 50), (1, .int (nI h)), (2, .int (nI e))] [] μ rfl trivial ?_
    rw [hE9]
    rw [if_pos (by rw [zn_le (by omega) (by omega)]; omega)]
    exact zq_drp [0, 1] [(0, .ref 50), (1, .int (nI h))] rfl (kk μ hI)
  | succ j ih =>
    intro e μ hij hI
    have hn9 := hE0.1
    have hE9 : μ.1 50 15 = nI ne := by rw [hI.2.2.2.2 15 (by decide) (by decide)]; exact hE0.2.1
    have hwo : μ.1 50 19 = nI wo := by rw [hI.2.2.2.2 19 (by decide) (by decide)]; exact hwo0
    obtain ⟨q1, q2, q3, q4, q5, q6, q7⟩ := hE0.2.2 e (by omega)
    rw [← hI.1.a (b := 61) (by decide)] at q1
    rw [← hI.1.a (b := 62) (by decide)] at q2
    rw [← hI.1.a (b := 63) (by decide)] at q3
    have hb9 := (zh_e_lt hE0.n hs (wo := wo) (h := h) (eh := eh) e (by omega)).2
    refine zq_go zt_X9_befalls 4 [] (if (μ.1 50 15) ≤ (nI e) then 94 else 10) [(0, .ref 50), (1, .int (nI h)), (2, .int (nI e))] [] μ rfl trivial ?_
    rw [hE9]
    rw [if_neg (by rw [zn_le (by omega) (by omega)]; omega)]
    refine zq_go zt_X9_befalls 6 [vp_in (nI e) 9] (if ¬ (μ.1 62 ((nI e).toNatClampNeg)) = (nI h) then 88 else 20) [(0, .ref 50), (1, .int (nI h)), (2, .int (nI e))] [] μ rfl ⟨zn_in (k := e) rfl (by omega) (by decide), trivial⟩ ?_
    rw [zn_cl (n := e) (by omega), q2]
    refine zq_ite (fun h27 => ?_) (fun h27 => ?_)
    · rw [zn_eq (by omega) (by omega)] at h27
      have e9 : zh_e ek eh en wo h (e + 1) s0 = zh_e ek eh en wo h e s0 := if_neg (fun q => h27 q.1)
      refine zq_go zt_X9_befalls 2 [] 2 [(0, .ref 50), (1, .int (nI h)), (2, .int ((nI e) + (nI 1)))] [] μ rfl trivial ?_
      rw [zn_add e 1]
      exact ih (e + 1) μ (by omega) (by rw [e9]; exact hI)
    · have hh9 : eh e = h := by
        rw [zn_eq (by omega) (by omega)] at h27
        omega
      refine zq_go zt_X9_befalls 3 [] 25 [(0, .ref 50), (1, .int (nI h)), (2, .int (nI e))] [.int (nI e), .int (μ.1 50 19)] μ rfl trivial ?_
      rw [hwo]
      refine zq_call zt_X9_befalls [.int (nI wo), .int (nI e)] [] (zs_isIn wo e hw (by omega) μ) rfl rfl ?_
      rintro _ _ ⟨rfl, rfl⟩
      refine zq_go zt_X9_befalls 1 [] (if ¬ (zB (wo.testBit e)) = 0 then 88 else 31) [(0, .ref 50), (1, .int (nI h)), (2, .int (nI e))] [] μ rfl trivial ?_
      refine zq_ite (fun h41 => ?_) (fun h41 => ?_)
      · have hm9 := zB_t h41
        have e9 : zh_e ek eh en wo h (e + 1) s0 = zh_e ek eh en wo h e s0 := if_neg (fun q => by rw [hm9] at q; cases q.2)
        refine zq_go zt_X9_befalls 2 [] 2 [(0, .ref 50), (1, .int (nI h)), (2, .int ((nI e) + (nI 1)))] [] μ rfl trivial ?_
        rw [zn_add e 1]
        exact ih (e + 1) μ (by omega) (by rw [e9]; exact hI)
      · have hm9 := zB_f (Classical.not_not.mp h41)
        refine zq_go zt_X9_befalls 6 [vp_in (nI e) 9] (if ¬ (μ.1 61 ((nI e).toNatClampNeg)) = 0 then 50 else 41) [(0, .ref 50), (1, .int (nI h)), (2, .int (nI e))] [.ref 50] μ rfl ⟨zn_in (k := e) rfl (by omega) (by decide), trivial⟩ ?_
        rw [zn_cl (n := e) (by omega), q1]
        refine zq_ite (fun h50 => ?_) (fun h50 => ?_)
        · have hk9 : ¬ ek e = 0 := by
            rw [show (0 : Int32) = nI 0 from rfl, zn_eq (by omega) (by omega)] at h50
            exact h50
          have e9 : zh_e ek eh en wo h (e + 1) s0 = ((zh_e ek eh en wo h e s0).1, (zh_e ek eh en wo h e s0).2 ||| 2 ^ en e) := by
            show (if _ then _ else _) = _
            rw [if_pos ⟨hh9, hm9⟩, if_neg hk9]
          refine zq_go zt_X9_befalls 12 [vp_in (nI e) 9] (if ¬ (μ.1 61 ((nI e).toNatClampNeg)) = (nI 1) then 83 else 72) [(0, .ref 50), (1, .int (nI h)), (2, .int (nI e))] [.int (μ.1 50 21), .ref 50] (zq_u1 μ 50 20 (μ.1 50 20)) rfl ⟨zn_in (k := e) rfl (by omega) (by decide), trivial⟩ ?_
          rw [hI.2.2.1, zn_cl (n := e) (by omega), q1, hI.2.1]
          rw [if_neg (by rw [zn_eq (by omega) (by omega)]; omega)]
          refine zq_go zt_X9_befalls 7 [vp_in (nI e) 9] 84 [(0, .ref 50), (1, .int (nI h)), (2, .int (nI e))] [.int ((nI 1) <<< ((μ.1 63 ((nI e).toNatClampNeg)) &&& 31)), .int (nI ((zh_e ek eh en wo h e s0).2)), .ref 50] (zq_u1 μ 50 20 (zdn (zh_e ek eh en wo h e s0).1)) rfl ⟨zn_in (k := e) rfl (by omega) (by decide), trivial⟩ ?_
          rw [zn_cl (n := e) (by omega), q3]
          refine zq_go zt_X9_befalls 4 [] 2 [(0, .ref 50), (1, .int (nI h)), (2, .int ((nI e) + (nI 1)))] [] (zq_u1 (zq_u1 μ 50 20 (zdn (zh_e ek eh en wo h e s0).1)) 50 21 ((nI ((zh_e ek eh en wo h e s0).2)) ||| ((nI 1) <<< ((nI (en e)) &&& 31)))) rfl trivial ?_
          rw [zn_add e 1]
          rw [zn_1shl (k := en e) (by omega), zn_or]
          refine ih (e + 1) _ (by omega) ⟨(hI.1.u1 (by simp)).u1 (by simp), ?_, ?_, hI.2.2.2.1, fun i h20 h21 => ?_⟩
          · rw [e9, zq_u1_o2 (by decide), zq_u1_s]
          · rw [e9, zq_u1_s]
          · rw [zq_u1_o2 h21, zq_u1_o2 h20]; exact hI.2.2.2.2 i h20 h21
        · have hk9 : ek e = 0 := by
            rw [show (0 : Int32) = nI 0 from rfl, zn_eq (by omega) (by omega)] at h50
            omega
          have e9 : zh_e ek eh en wo h (e + 1) s0 = (en e + 1, (zh_e ek eh en wo h e s0).2) := by
            show (if _ then _ else _) = _
            rw [if_pos ⟨hh9, hm9⟩, if_pos hk9]
          refine zq_go zt_X9_befalls 5 [vp_in (nI e) 9] 54 [(0, .ref 50), (1, .int (nI h)), (2, .int (nI e))] [.int (μ.1 63 ((nI e).toNatClampNeg)), .ref 50] μ rfl ⟨zn_in (k := e) rfl (by omega) (by decide), trivial⟩ ?_
          rw [zn_cl (n := e) (by omega), q3]
          refine zq_go zt_X9_befalls 10 [vp_in (nI e) 9] (if ¬ (μ.1 61 ((nI e).toNatClampNeg)) = (nI 1) then 83 else 72) [(0, .ref 50), (1, .int (nI h)), (2, .int (nI e))] [.int (μ.1 50 21), .ref 50] (zq_u1 μ 50 20 (nI (en e))) rfl ⟨zn_in (k := e) rfl (by omega) (by decide), trivial⟩ ?_
          rw [hI.2.2.1, zn_cl (n := e) (by omega), q1]
          rw [if_pos (by rw [zn_eq (by omega) (by omega)]; omega)]
          refine zq_go zt_X9_befalls 5 [] 2 [(0, .ref 50), (1, .int (nI h)), (2, .int ((nI e) + (nI 1)))] [] (zq_u1 (zq_u1 μ 50 20 (nI (en e))) 50 21 ((nI ((zh_e ek eh en wo h e s0).2)) ||| (nI 0))) rfl trivial ?_
          rw [zn_add e 1]
          rw [zn_or, Nat.or_zero]
          refine ih (e + 1) _ (by omega) ⟨(hI.1.u1 (by simp)).u1 (by simp), ?_, ?_, hI.2.2.2.1, fun i h20 h21 => ?_⟩
          · rw [e9, zq_u1_o2 (by decide), zq_u1_s]
            rfl
          · rw [e9, zq_u1_s]
          · rw [zq_u1_o2 h21, zq_u1_o2 h20]; exact hI.2.2.2.2 i h20 h21
set_option maxRecDepth 100000 in
set_option maxHeartbeats 4000000 in
theorem zs_bef {ne wo : Nat} {ek eh en : Nat → Nat} (hw : wo < 2 ^ 31) {μ0 : zq_Me} (hE0 : zEv 50 15 61 62 63 ne ek eh en μ0) (hwo0 : μ0.1 50 19 = nI wo) {h : Nat} (hh : h < 24) {s0 : Nat × Nat} (hs : s0.1 ≤ 8 ∧ s0.2 < 2 ^ 12) (h20 : μ0.1 50 20 = zdn s0.1) (h21 : μ0.1 50 21 = nI s0.2) : zq_Wp zn_X9_befalls 0 [(0, .ref 50), (1, .int (nI h))] [] μ0 (fun r μ => r = none ∧ zq_fr [50, 64] μ0 μ ∧ μ.1 50 20 = zdn (zh_e ek eh en wo h ne s0).1 ∧ μ.1 50 21 = nI (zh_e ek eh en wo h ne s0).2 ∧ μ.2.2.1 = μ0.2.2.1 ∧ (∀ i, i ≠ 20 → i ≠ 21 → μ.1 50 i = μ0.1 50 i) ∧ μ.1 64 h = zdn (zh_e ek eh en wo h ne s0).1 ∧ ∀ i, i ≠ h → μ.1 64 i = μ0.1 64 i) := by
  refine zq_go zt_X9_befalls 2 [] 2 [(0, .ref 50), (1, .int (nI h)), (2, .int (nI 0))] [] μ0 rfl trivial ?_
  refine zs_bef_e hw hE0 hwo0 hh hs (fun μ1 hI => ?_) ne 0 μ0 (by omega) ⟨zq_fr.rf, h20, h21, rfl, fun _ _ _ => rfl⟩
  refine zq_go zt_X9_befalls 6 [vp_in (nI h) 24] 104 [(0, .ref 50), (1, .int (nI h))] [] (zq_u1 μ1 64 ((nI h).toNatClampNeg) (μ1.1 50 20)) rfl ⟨zn_in (k := h) rfl (by omega) (by decide), trivial⟩ ?_
  rw [hI.2.1, zn_cl (n := h) (by omega)]
  exact zq_retn zt_X9_befalls rfl rfl (⟨rfl, (hI.1.wk (by simp)).u1 (by simp), by rw [zq_u1_ne (by decide)]; exact hI.2.1, by rw [zq_u1_ne (by decide)]; exact hI.2.2.1, hI.2.2.2.1, fun i a b => by rw [zq_u1_ne (by decide)]; exact hI.2.2.2.2 i a b, zq_u1_s, fun i hi => by rw [zq_u1_o2 hi, hI.1.a (b := 64) (by decide)]⟩)
