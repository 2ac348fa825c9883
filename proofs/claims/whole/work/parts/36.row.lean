/-! ===== sheets of the reference ===== -/
theorem nI_of9 {x : Int32} (h : ¬ x < 0) : ∃ j : Nat, j < 2 ^ 31 ∧ x = nI j := nI_of h
theorem zl_le {a c m : Nat} (ha : a < 2 ^ 31) (hc : c < 2 ^ 31) (hm : m < 2 ^ 31) : (lg_cmp ((nI a).toInt64 + (nI c).toInt64) (nI m).toInt64 ≤ 0) = (a + c ≤ m) := by
  rw [nI_l ha, nI_l hc, nI_l hm]
  exact propext ((lg_cmp_le _ _).trans (by rw [show lN a + lN c = lN (a + c) from (Int64.ofNat_add a c).symm]; exact pk_lLE (by omega) (by omega)))
theorem zl_gt {a c m : Nat} (ha : a < 2 ^ 31) (hc : c < 2 ^ 31) (hm : m < 2 ^ 31) : (0 < lg_cmp ((nI a).toInt64 + (nI c).toInt64) (nI m).toInt64) = (m < a + c) := by
  rw [nI_l ha, nI_l hc, nI_l hm]
  exact propext ((lg_cmp_gt _ _).trans (by rw [show lN a + lN c = lN (a + c) from (Int64.ofNat_add a c).symm]; exact pk_lLT (by omega) (by omega)))
set_option maxRecDepth 100000 in
set_option maxHeartbeats 400000 in
theorem zs_lacks {τ : zTd} {S : zES} {H : zSH} {μ0 : zq_Me} {s f : Nat} (ls : s ≤ 3) (lf : f ≤ 2) (i : Int32) (hM : zIm τ S H μ0) : zq_Wp zn_X9_lacks 0 [(0, .ref 50), (1, .int (nI s)), (2, .int (nI f)), (3, .int i)] [] μ0 (zq_pi (nI (ylk H s f i)) μ0) := by
  by_cases ht : H.1 s = true
  · have hz := (hM.2.2.2.2.2 s (by omega)).2
    have hfm := (hM.2.2.2.2.2 s (by omega)).1
    have h72 : μ0.1 72 s = nI 1 := by rw [(hM.2.2.2.2.1.1 s (by omega)).1, if_pos ht]; rfl
    have h73 : μ0.1 73 s = nI (H.2.1 s) := ((hM.2.2.2.2.1.1 s (by omega)).2.1 ht).1
    have h74 : μ0.1 74 s = nI (H.2.2.1 s) := ((hM.2.2.2.2.1.1 s (by omega)).2.1 ht).2
    have h75 : ∀ i, i < 60 → μ0.1 75 (60 * s + i) = H.2.2.2.1 s i := (hM.2.2.2.2.1.1 s (by omega)).2.2
    refine zq_go zt_X9_lacks 5 [vp_in (nI s) 4] (if ¬ (μ0.1 72 ((nI s).toNatClampNeg)) = 0 then 13 else 9) [(0, .ref 50), (1, .int (nI s)), (2, .int (nI f)), (3, .int i)] [] μ0 rfl ⟨zn_in (k := s) rfl (by omega) (by decide), trivial⟩ ?_
    rw [zn_cl (n := s) (by omega), h72]
    rw [if_pos (by decide)]
    refine zq_go zt_X9_lacks 6 [vp_in (nI s) 4] (if (μ0.1 73 ((nI s).toNatClampNeg)) = (nI f) then 27 else 23) [(0, .ref 50), (1, .int (nI s)), (2, .int (nI f)), (3, .int i)] [] μ0 rfl ⟨zn_in (k := s) rfl (by omega) (by decide), trivial⟩ ?_
    rw [zn_cl (n := s) (by omega), h73]
    by_cases hq : H.2.1 s = f
    · rw [if_pos (by rw [hq])]
      refine zq_go zt_X9_lacks 8 [vp_in (nI s) 4] 37 [(0, .ref 50), (1, .int (nI s)), (2, .int (nI f)), (3, .int i)] [.int ((μ0.1 74 ((nI s).toNatClampNeg)) - (nI 1)), .int (nI 0), .int i] μ0 rfl ⟨zn_in (k := s) rfl (by omega) (by decide), trivial⟩ ?_
      rw [zn_cl (n := s) (by omega), h74]
      refine zq_call zt_X9_lacks [.int i, .int (nI 0), .int ((nI (H.2.2.1 s)) - (nI 1))] [] (zs_in i (nI 0) (nI (H.2.2.1 s) - nI 1) μ0) rfl rfl ?_
      rintro _ _ ⟨rfl, rfl⟩
      refine zq_go zt_X9_lacks 1 [] (if (zb (0 ≤ i ∧ i ≤ nI (H.2.2.1 s) - nI 1)) = 0 then 47 else 43) [(0, .ref 50), (1, .int (nI s)), (2, .int (nI f)), (3, .int i)] [] μ0 rfl trivial ?_
      by_cases hy : 0 ≤ i ∧ i ≤ nI (H.2.2.1 s) - nI 1
      · rw [show ylk H s f i = 0 by unfold ylk; rw [if_pos ht, if_pos hq, if_pos ((yfit1 hz).mpr hy)]]
        rw [if_neg (zb_n hy)]
        refine zq_go zt_X9_lacks 2 [] 48 [(0, .ref 50), (1, .int (nI s)), (2, .int (nI f)), (3, .int i)] [.int (nI 0)] μ0 rfl trivial ?_
        exact zq_retn zt_X9_lacks rfl rfl (⟨rfl, rfl⟩)
      · rw [show ylk H s f i = 2 by unfold ylk; rw [if_pos ht, if_pos hq, if_neg (fun q => hy ((yfit1 hz).mp q))]]
        rw [if_pos (zb_f hy)]
        refine zq_go zt_X9_lacks 1 [] 48 [(0, .ref 50), (1, .int (nI s)), (2, .int (nI f)), (3, .int i)] [.int (nI 2)] μ0 rfl trivial ?_
        exact zq_retn zt_X9_lacks rfl rfl (⟨rfl, rfl⟩)
    · rw [show ylk H s f i = 3 by unfold ylk; rw [if_pos ht, if_neg hq]]
      rw [if_neg (fun q => hq (by rw [zn_eq (by omega) (by omega)] at q; exact q))]
      refine zq_go zt_X9_lacks 2 [] 48 [(0, .ref 50), (1, .int (nI s)), (2, .int (nI f)), (3, .int i)] [.int (nI 3)] μ0 rfl trivial ?_
      exact zq_retn zt_X9_lacks rfl rfl (⟨rfl, rfl⟩)
  · have h72 : μ0.1 72 s = nI 0 := by rw [(hM.2.2.2.2.1.1 s (by omega)).1, if_neg ht]; rfl
    rw [show ylk H s f i = 1 from if_neg ht]
    refine zq_go zt_X9_lacks 5 [vp_in (nI s) 4] (if ¬ (μ0.1 72 ((nI s).toNatClampNeg)) = 0 then 13 else 9) [(0, .ref 50), (1, .int (nI s)), (2, .int (nI f)), (3, .int i)] [] μ0 rfl ⟨zn_in (k := s) rfl (by omega) (by decide), trivial⟩ ?_
    rw [zn_cl (n := s) (by omega), h72]
    rw [if_neg (by decide)]
    refine zq_go zt_X9_lacks 2 [] 48 [(0, .ref 50), (1, .int (nI s)), (2, .int (nI f)), (3, .int i)] [.int (nI 1)] μ0 rfl trivial ?_
    exact zq_retn zt_X9_lacks rfl rfl (⟨rfl, rfl⟩)
set_option maxRecDepth 100000 in
set_option maxHeartbeats 400000 in
theorem zs_keep {τ : zTd} {S : zES} {H : zSH} {μ0 : zq_Me} {s k : Nat} (ls : s ≤ 3) (ht : H.1 s = true) (lk : k < 60) (v : Int32) (hM : zIm τ S H μ0) : zq_Wp zn_X9_keep 0 [(0, .ref 50), (1, .int (nI s)), (2, .int (nI k)), (3, .int v)] [] μ0 (fun r μ => r = none ∧ μ = zq_u1 μ0 75 (60 * s + k) (znr (H.2.1 s) v)) := by
  have hz := (hM.2.2.2.2.2 s (by omega)).2
  have hfm := (hM.2.2.2.2.2 s (by omega)).1
  have h72 : μ0.1 72 s = nI 1 := by rw [(hM.2.2.2.2.1.1 s (by omega)).1, if_pos ht]; rfl
  have h73 : μ0.1 73 s = nI (H.2.1 s) := ((hM.2.2.2.2.1.1 s (by omega)).2.1 ht).1
  have h74 : μ0.1 74 s = nI (H.2.2.1 s) := ((hM.2.2.2.2.1.1 s (by omega)).2.1 ht).2
  have h75 : ∀ i, i < 60 → μ0.1 75 (60 * s + i) = H.2.2.2.1 s i := (hM.2.2.2.2.1.1 s (by omega)).2.2
  refine zq_go zt_X9_keep 12 [vp_in (nI s) 4] (if ¬ (μ0.1 73 ((nI s).toNatClampNeg)) = 0 then 24 else 19) [(0, .ref 50), (1, .int (nI s)), (2, .int (nI k)), (3, .int v)] [.int (((nI 60) * (nI s)) + (nI k)), .ref 75] μ0 rfl ⟨zn_in (k := s) rfl (by omega) (by decide), trivial⟩ ?_
  rw [zn_mul 60 s, zn_add (60 * s) k, zn_cl (n := s) (by omega), h73]
  refine zq_ite (fun h8 => ?_) (fun h8 => ?_)
  · have h7 : ¬ H.2.1 s = 0 := by
      rw [show (0 : Int32) = nI 0 from rfl, zn_eq (by omega) (by omega)] at h8
      exact h8
    refine zq_go zt_X9_keep 6 [vp_in (nI s) 4] (if ¬ (μ0.1 73 ((nI s).toNatClampNeg)) = (nI 1) then 39 else 34) [(0, .ref 50), (1, .int (nI s)), (2, .int (nI k)), (3, .int v)] [.int (nI ((60 * s) + k)), .ref 75] μ0 rfl ⟨zn_in (k := s) rfl (by omega) (by decide), trivial⟩ ?_
    rw [zn_cl (n := s) (by omega), h73]
    refine zq_ite (fun h14 => ?_) (fun h14 => ?_)
    · have e0 : znr (H.2.1 s) v = v := by
        unfold znr
        rw [if_neg h7, if_neg (by rw [zn_eq (by omega) (by omega)] at h14; omega)]
      rw [e0]
      refine zq_go zt_X9_keep 2 [vp_in (nI ((60 * s) + k)) 240] 41 [(0, .ref 50), (1, .int (nI s)), (2, .int (nI k)), (3, .int v)] [] (zq_u1 μ0 75 ((nI ((60 * s) + k)).toNatClampNeg) v) rfl ⟨zn_in (k := (60 * s) + k) rfl (by omega) (by decide), trivial⟩ ?_
      rw [zn_cl (n := (60 * s) + k) (by omega)]
      exact zq_retn zt_X9_keep rfl rfl (⟨rfl, rfl⟩)
    · have e0 : znr (H.2.1 s) v = v.toInt16.toInt32 := by
        unfold znr
        rw [if_neg h7, if_pos (by rw [zn_eq (by omega) (by omega)] at h14; omega)]
      rw [e0]
      refine zq_go zt_X9_keep 3 [] 40 [(0, .ref 50), (1, .int (nI s)), (2, .int (nI k)), (3, .int v)] [.int v.toInt16.toInt32, .int (nI ((60 * s) + k)), .ref 75] μ0 rfl trivial ?_
      refine zq_go zt_X9_keep 1 [vp_in (nI ((60 * s) + k)) 240] 41 [(0, .ref 50), (1, .int (nI s)), (2, .int (nI k)), (3, .int v)] [] (zq_u1 μ0 75 ((nI ((60 * s) + k)).toNatClampNeg) v.toInt16.toInt32) rfl ⟨zn_in (k := (60 * s) + k) rfl (by omega) (by decide), trivial⟩ ?_
      rw [zn_cl (n := (60 * s) + k) (by omega)]
      exact zq_retn zt_X9_keep rfl rfl (⟨rfl, rfl⟩)
  · have e0 : znr (H.2.1 s) v = v.toInt8.toInt32 := if_pos (by rw [show (0 : Int32) = nI 0 from rfl, zn_eq (by omega) (by omega)] at h8; omega)
    rw [e0]
    refine zq_go zt_X9_keep 3 [] 40 [(0, .ref 50), (1, .int (nI s)), (2, .int (nI k)), (3, .int v)] [.int v.toInt8.toInt32, .int (nI ((60 * s) + k)), .ref 75] μ0 rfl trivial ?_
    refine zq_go zt_X9_keep 1 [vp_in (nI ((60 * s) + k)) 240] 41 [(0, .ref 50), (1, .int (nI s)), (2, .int (nI k)), (3, .int v)] [] (zq_u1 μ0 75 ((nI ((60 * s) + k)).toNatClampNeg) v.toInt8.toInt32) rfl ⟨zn_in (k := (60 * s) + k) rfl (by omega) (by decide), trivial⟩ ?_
    rw [zn_cl (n := (60 * s) + k) (by omega)]
    exact zq_retn zt_X9_keep rfl rfl (⟨rfl, rfl⟩)
set_option maxRecDepth 100000 in
set_option maxHeartbeats 400000 in
theorem zs_putm {τ : zTd} {S : zES} {H : zSH} {μ0 : zq_Me} {s f k : Nat} (ls : s ≤ 3) (lf : f ≤ 2) (ht : H.1 s = true) (lk : k < H.2.2.1 s) (hl : ylk H s f (nI k) = 0) (v : Int32) (hM : zIm τ S H μ0) : zq_Wp zn_X9_put 0 [(0, .ref 50), (1, .int (nI s)), (2, .int (nI f)), (3, .int (nI k)), (4, .int v)] [] μ0 (zRm' (.int (nI 1)) τ S (yhi H s (fun j => if j = k then znr (H.2.1 s) v else H.2.2.2.1 s j)) μ0) := by
  refine zq_go zt_X9_put 1 [] 1 [(0, .ref 50), (1, .int (nI s)), (2, .int (nI f)), (3, .int (nI k)), (4, .int v)] [.int (nI s)] μ0 rfl trivial ?_
  refine zq_call zt_X9_put [.int (nI s)] [] (zs_isSheetm (nI s) μ0) rfl rfl ?_
  rintro _ _ ⟨rfl, rfl⟩
  refine zq_go zt_X9_put 1 [] (if (zb (0 ≤ nI s ∧ nI s ≤ nI 3)) = 0 then 16 else 7) [(0, .ref 50), (1, .int (nI s)), (2, .int (nI f)), (3, .int (nI k)), (4, .int v)] [] μ0 rfl trivial ?_
  rw [if_neg (zb_n (yin (by omega) (by decide)))]
  refine zq_go zt_X9_put 3 [] 10 [(0, .ref 50), (1, .int (nI s)), (2, .int (nI f)), (3, .int (nI k)), (4, .int v)] [.int (nI 2), .int (nI 0), .int (nI f)] μ0 rfl trivial ?_
  refine zq_call zt_X9_put [.int (nI f), .int (nI 0), .int (nI 2)] [] (zs_in (nI f) (nI 0) (nI 2) μ0) rfl rfl ?_
  rintro _ _ ⟨rfl, rfl⟩
  refine zq_go zt_X9_put 1 [] (if ¬ (zb (0 ≤ nI f ∧ nI f ≤ nI 2)) = 0 then 19 else 16) [(0, .ref 50), (1, .int (nI s)), (2, .int (nI f)), (3, .int (nI k)), (4, .int v)] [] μ0 rfl trivial ?_
  rw [if_pos (zb_n (yin (by omega) (by decide)))]
  have l4 := ylk_4 H s f (nI k)
  refine zq_go zt_X9_put 4 [] 23 [(0, .ref 50), (1, .int (nI s)), (2, .int (nI f)), (3, .int (nI k)), (4, .int v)] [.int (nI k), .int (nI f), .int (nI s), .ref 50] μ0 rfl trivial ?_
  refine zq_call zt_X9_put [.ref 50, .int (nI s), .int (nI f), .int (nI k)] [] (zs_lacks ls lf (nI k) hM) rfl rfl ?_
  rintro _ _ ⟨rfl, rfl⟩
  refine zq_go zt_X9_put 3 [] (if (nI (ylk H s f (nI k))) ≤ 0 then 40 else 33) [(0, .ref 50), (1, .int (nI s)), (2, .int (nI f)), (3, .int (nI k)), (4, .int v), (5, .int (nI (ylk H s f (nI k))))] [] μ0 rfl trivial ?_
  rw [if_pos (by rw [hl]; decide)]
  refine zq_go zt_X9_put 4 [] 45 [(0, .ref 50), (1, .int (nI s)), (2, .int (nI f)), (3, .int (nI k)), (4, .int v), (5, .int (nI (ylk H s f (nI k))))] [.int v, .int (nI k), .int (nI s), .ref 50] μ0 rfl trivial ?_
  have hz := (hM.2.2.2.2.2 s (by omega)).2
  refine zq_call zt_X9_put [.ref 50, .int (nI s), .int (nI k), .int v] [] (zs_keep ls ht (show k < 60 by omega) v hM) rfl rfl ?_
  rintro _ μ2 ⟨rfl, e2⟩
  have f2 : zq_fr [75, 76] μ0 μ2 := by rw [e2]; exact zq_fr.rf.u1 (by simp)
  have hI := hM.it (s := s) (by omega) (fun j => if j = k then znr (H.2.1 s) v else H.2.2.2.1 s j) f2 (fun j hj => by rw [e2, zq_u1_o2 (by omega)]) (fun j hj => by
    rw [e2, zq_u1_rd, (hM.2.2.2.2.1.1 s (by omega)).2.2 j hj]
    by_cases q : j = k
    · rw [if_pos q, if_pos (by omega)]
    · rw [if_neg q, if_neg (by omega)])
  refine zq_go zt_X9_put 1 [] 49 [(0, .ref 50), (1, .int (nI s)), (2, .int (nI f)), (3, .int (nI k)), (4, .int v), (5, .int (nI (ylk H s f (nI k))))] [.int (nI 1)] μ2 rfl trivial ?_
  exact zq_retn zt_X9_put rfl rfl (⟨rfl, hI, f2.wk (by simp [zSM])⟩)
set_option maxRecDepth 100000 in
set_option maxHeartbeats 400000 in
theorem zs_putm_n {τ : zTd} {S : zES} {H : zSH} {μ0 : zq_Me} {s f : Nat} (ls : s ≤ 3) (lf : f ≤ 2) (i : Int32) (hl : ylk H s f i ≠ 0) (v : Int32) (hM : zIm τ S H μ0) : zq_Wp zn_X9_put 0 [(0, .ref 50), (1, .int (nI s)), (2, .int (nI f)), (3, .int i), (4, .int v)] [] μ0 (zRm' (.int (yan (ylk H s f i))) τ S (yhk H (ylk H s f i)) μ0) := by
  have e9 : yan (ylk H s f i) = -10 - nI (ylk H s f i) := if_neg hl
  have e8 : yhk H (ylk H s f i) = yhf H (nI (ylk H s f i)) := if_neg hl
  rw [e8]
  rw [e9]
  refine zq_go zt_X9_put 1 [] 1 [(0, .ref 50), (1, .int (nI s)), (2, .int (nI f)), (3, .int i), (4, .int v)] [.int (nI s)] μ0 rfl trivial ?_
  refine zq_call zt_X9_put [.int (nI s)] [] (zs_isSheetm (nI s) μ0) rfl rfl ?_
  rintro _ _ ⟨rfl, rfl⟩
  refine zq_go zt_X9_put 1 [] (if (zb (0 ≤ nI s ∧ nI s ≤ nI 3)) = 0 then 16 else 7) [(0, .ref 50), (1, .int (nI s)), (2, .int (nI f)), (3, .int i), (4, .int v)] [] μ0 rfl trivial ?_
  rw [if_neg (zb_n (yin (by omega) (by decide)))]
  refine zq_go zt_X9_put 3 [] 10 [(0, .ref 50), (1, .int (nI s)), (2, .int (nI f)), (3, .int i), (4, .int v)] [.int (nI 2), .int (nI 0), .int (nI f)] μ0 rfl trivial ?_
  refine zq_call zt_X9_put [.int (nI f), .int (nI 0), .int (nI 2)] [] (zs_in (nI f) (nI 0) (nI 2) μ0) rfl rfl ?_
  rintro _ _ ⟨rfl, rfl⟩
  refine zq_go zt_X9_put 1 [] (if ¬ (zb (0 ≤ nI f ∧ nI f ≤ nI 2)) = 0 then 19 else 16) [(0, .ref 50), (1, .int (nI s)), (2, .int (nI f)), (3, .int i), (4, .int v)] [] μ0 rfl trivial ?_
  rw [if_pos (zb_n (yin (by omega) (by decide)))]
  have l4 := ylk_4 H s f (i)
  refine zq_go zt_X9_put 4 [] 23 [(0, .ref 50), (1, .int (nI s)), (2, .int (nI f)), (3, .int i), (4, .int v)] [.int i, .int (nI f), .int (nI s), .ref 50] μ0 rfl trivial ?_
  refine zq_call zt_X9_put [.ref 50, .int (nI s), .int (nI f), .int i] [] (zs_lacks ls lf (i) hM) rfl rfl ?_
  rintro _ _ ⟨rfl, rfl⟩
  refine zq_go zt_X9_put 3 [] (if (nI (ylk H s f (i))) ≤ 0 then 40 else 33) [(0, .ref 50), (1, .int (nI s)), (2, .int (nI f)), (3, .int i), (4, .int v), (5, .int (nI (ylk H s f (i))))] [] μ0 rfl trivial ?_
  rw [if_neg (by rw [show (0 : Int32) = nI 0 from rfl, zn_le (by omega) (by omega)]; omega)]
  refine zq_go zt_X9_put 2 [] 36 [(0, .ref 50), (1, .int (nI s)), (2, .int (nI f)), (3, .int i), (4, .int v), (5, .int (nI (ylk H s f (i))))] [.int (nI (ylk H s f (i))), .ref 50] μ0 rfl trivial ?_
  refine zq_call zt_X9_put [.ref 50, .int (nI (ylk H s f (i)))] [] (zs_meets (ylk H s f i) hM) rfl rfl ?_
  rintro _ μ1 ⟨rfl, hM1, f1⟩
  exact zq_retn zt_X9_put rfl rfl (⟨rfl, hM1, f1⟩)
set_option maxRecDepth 100000 in
set_option maxHeartbeats 400000 in
theorem zs_putm_b (v1 v2 v3 v4 : Int32) (hg : ¬ ((0 ≤ v1 ∧ v1 ≤ nI 3) ∧ (0 ≤ v2 ∧ v2 ≤ nI 2))) {τ : zTd} {S : zES} {H : zSH} {μ0 : zq_Me} (hM : zIm τ S H μ0) : zq_Wp zn_X9_put 0 [(0, .ref 50), (1, .int v1), (2, .int v2), (3, .int v3), (4, .int v4)] [] μ0 (zRm' (.int (-2)) τ S H μ0) := by
  refine zq_go zt_X9_put 1 [] 1 [(0, .ref 50), (1, .int v1), (2, .int v2), (3, .int v3), (4, .int v4)] [.int v1] μ0 rfl trivial ?_
  refine zq_call zt_X9_put [.int v1] [] (zs_isSheetm v1 μ0) rfl rfl ?_
  rintro _ _ ⟨rfl, rfl⟩
  refine zq_go zt_X9_put 1 [] (if (zb (0 ≤ v1 ∧ v1 ≤ nI 3)) = 0 then 16 else 7) [(0, .ref 50), (1, .int v1), (2, .int v2), (3, .int v3), (4, .int v4)] [] μ0 rfl trivial ?_
  refine zq_ite (fun h4 => ?_) (fun h4 => ?_)
  · refine zq_go zt_X9_put 1 [] 18 [(0, .ref 50), (1, .int v1), (2, .int v2), (3, .int v3), (4, .int v4)] [.int (-2)] μ0 rfl trivial ?_
    exact zq_retn zt_X9_put rfl rfl (⟨rfl, hM, zq_fr.rf⟩)
  · have g0 := zb_p h4
    refine zq_go zt_X9_put 3 [] 10 [(0, .ref 50), (1, .int v1), (2, .int v2), (3, .int v3), (4, .int v4)] [.int (nI 2), .int (nI 0), .int v2] μ0 rfl trivial ?_
    refine zq_call zt_X9_put [.int v2, .int (nI 0), .int (nI 2)] [] (zs_in v2 (nI 0) (nI 2) μ0) rfl rfl ?_
    rintro _ _ ⟨rfl, rfl⟩
    refine zq_go zt_X9_put 1 [] (if ¬ (zb (0 ≤ v2 ∧ v2 ≤ nI 2)) = 0 then 19 else 16) [(0, .ref 50), (1, .int v1), (2, .int v2), (3, .int v3), (4, .int v4)] [] μ0 rfl trivial ?_
    refine zq_ite (fun h12 => ?_) (fun h12 => ?_)
    · have g1 := zb_p h12
      exact absurd ⟨g0, g1⟩ hg
    · refine zq_go zt_X9_put 1 [] 18 [(0, .ref 50), (1, .int v1), (2, .int v2), (3, .int v3), (4, .int v4)] [.int (-2)] μ0 rfl trivial ?_
      exact zq_retn zt_X9_put rfl rfl (⟨rfl, hM, zq_fr.rf⟩)
set_option maxRecDepth 100000 in
set_option maxHeartbeats 400000 in
theorem zs_getm_b (v1 v2 v3 : Int32) (hg : ¬ ((0 ≤ v1 ∧ v1 ≤ nI 3) ∧ (0 ≤ v2 ∧ v2 ≤ nI 2))) {τ : zTd} {S : zES} {H : zSH} {μ0 : zq_Me} (hM : zIm τ S H μ0) : zq_Wp zn_X9_get 0 [(0, .ref 50), (1, .int v1), (2, .int v2), (3, .int v3)] [] μ0 (zRm' (.int (-2147483648)) τ S H μ0) := by
  refine zq_go zt_X9_get 1 [] 1 [(0, .ref 50), (1, .int v1), (2, .int v2), (3, .int v3)] [.int v1] μ0 rfl trivial ?_
  refine zq_call zt_X9_get [.int v1] [] (zs_isSheetm v1 μ0) rfl rfl ?_
  rintro _ _ ⟨rfl, rfl⟩
  refine zq_go zt_X9_get 1 [] (if (zb (0 ≤ v1 ∧ v1 ≤ nI 3)) = 0 then 16 else 7) [(0, .ref 50), (1, .int v1), (2, .int v2), (3, .int v3)] [] μ0 rfl trivial ?_
  refine zq_ite (fun h4 => ?_) (fun h4 => ?_)
  · refine zq_go zt_X9_get 1 [] 19 [(0, .ref 50), (1, .int v1), (2, .int v2), (3, .int v3)] [.int (-2147483648)] μ0 rfl trivial ?_
    exact zq_retn zt_X9_get rfl rfl (⟨rfl, hM, zq_fr.rf⟩)
  · have g0 := zb_p h4
    refine zq_go zt_X9_get 3 [] 10 [(0, .ref 50), (1, .int v1), (2, .int v2), (3, .int v3)] [.int (nI 2), .int (nI 0), .int v2] μ0 rfl trivial ?_
    refine zq_call zt_X9_get [.int v2, .int (nI 0), .int (nI 2)] [] (zs_in v2 (nI 0) (nI 2) μ0) rfl rfl ?_
    rintro _ _ ⟨rfl, rfl⟩
    refine zq_go zt_X9_get 1 [] (if ¬ (zb (0 ≤ v2 ∧ v2 ≤ nI 2)) = 0 then 20 else 16) [(0, .ref 50), (1, .int v1), (2, .int v2), (3, .int v3)] [] μ0 rfl trivial ?_
    refine zq_ite (fun h12 => ?_) (fun h12 => ?_)
    · have g1 := zb_p h12
      exact absurd ⟨g0, g1⟩ hg
    · refine zq_go zt_X9_get 1 [] 19 [(0, .ref 50), (1, .int v1), (2, .int v2), (3, .int v3)] [.int (-2147483648)] μ0 rfl trivial ?_
      exact zq_retn zt_X9_get rfl rfl (⟨rfl, hM, zq_fr.rf⟩)
set_option maxRecDepth 100000 in
set_option maxHeartbeats 400000 in
theorem zs_getm {τ : zTd} {S : zES} {H : zSH} {μ0 : zq_Me} {s f k : Nat} (ls : s ≤ 3) (lf : f ≤ 2) (ht : H.1 s = true) (lk : k < H.2.2.1 s) (hl : ylk H s f (nI k) = 0) (hM : zIm τ S H μ0) : zq_Wp zn_X9_get 0 [(0, .ref 50), (1, .int (nI s)), (2, .int (nI f)), (3, .int (nI k))] [] μ0 (zRm' (.int (H.2.2.2.1 s k)) τ S H μ0) := by
  refine zq_go zt_X9_get 1 [] 1 [(0, .ref 50), (1, .int (nI s)), (2, .int (nI f)), (3, .int (nI k))] [.int (nI s)] μ0 rfl trivial ?_
  refine zq_call zt_X9_get [.int (nI s)] [] (zs_isSheetm (nI s) μ0) rfl rfl ?_
  rintro _ _ ⟨rfl, rfl⟩
  refine zq_go zt_X9_get 1 [] (if (zb (0 ≤ nI s ∧ nI s ≤ nI 3)) = 0 then 16 else 7) [(0, .ref 50), (1, .int (nI s)), (2, .int (nI f)), (3, .int (nI k))] [] μ0 rfl trivial ?_
  rw [if_neg (zb_n (yin (by omega) (by decide)))]
  refine zq_go zt_X9_get 3 [] 10 [(0, .ref 50), (1, .int (nI s)), (2, .int (nI f)), (3, .int (nI k))] [.int (nI 2), .int (nI 0), .int (nI f)] μ0 rfl trivial ?_
  refine zq_call zt_X9_get [.int (nI f), .int (nI 0), .int (nI 2)] [] (zs_in (nI f) (nI 0) (nI 2) μ0) rfl rfl ?_
  rintro _ _ ⟨rfl, rfl⟩
  refine zq_go zt_X9_get 1 [] (if ¬ (zb (0 ≤ nI f ∧ nI f ≤ nI 2)) = 0 then 20 else 16) [(0, .ref 50), (1, .int (nI s)), (2, .int (nI f)), (3, .int (nI k))] [] μ0 rfl trivial ?_
  rw [if_pos (zb_n (yin (by omega) (by decide)))]
  have l4 := ylk_4 H s f (nI k)
  refine zq_go zt_X9_get 4 [] 24 [(0, .ref 50), (1, .int (nI s)), (2, .int (nI f)), (3, .int (nI k))] [.int (nI k), .int (nI f), .int (nI s), .ref 50] μ0 rfl trivial ?_
  refine zq_call zt_X9_get [.ref 50, .int (nI s), .int (nI f), .int (nI k)] [] (zs_lacks ls lf (nI k) hM) rfl rfl ?_
  rintro _ _ ⟨rfl, rfl⟩
  refine zq_go zt_X9_get 3 [] (if (nI (ylk H s f (nI k))) ≤ 0 then 44 else 34) [(0, .ref 50), (1, .int (nI s)), (2, .int (nI f)), (3, .int (nI k)), (4, .int (nI (ylk H s f (nI k))))] [] μ0 rfl trivial ?_
  rw [if_pos (by rw [hl]; decide)]
  have hz := (hM.2.2.2.2.2 s (by omega)).2
  have hfm := (hM.2.2.2.2.2 s (by omega)).1
  have h72 : μ0.1 72 s = nI 1 := by rw [(hM.2.2.2.2.1.1 s (by omega)).1, if_pos ht]; rfl
  have h73 : μ0.1 73 s = nI (H.2.1 s) := ((hM.2.2.2.2.1.1 s (by omega)).2.1 ht).1
  have h74 : μ0.1 74 s = nI (H.2.2.1 s) := ((hM.2.2.2.2.1.1 s (by omega)).2.1 ht).2
  have h75 : ∀ i, i < 60 → μ0.1 75 (60 * s + i) = H.2.2.2.1 s i := (hM.2.2.2.2.1.1 s (by omega)).2.2
  refine zq_go zt_X9_get 8 [vp_in (((nI 60) * (nI s)) + (nI k)) 240] 55 [(0, .ref 50), (1, .int (nI s)), (2, .int (nI f)), (3, .int (nI k)), (4, .int (nI (ylk H s f (nI k))))] [.int (μ0.1 75 ((((nI 60) * (nI s)) + (nI k)).toNatClampNeg))] μ0 rfl ⟨zn_in (k := (60 * s) + k) (by rw [zn_mul 60 s, zn_add (60 * s) k]) (by omega) (by decide), trivial⟩ ?_
  rw [zn_mul 60 s, zn_add (60 * s) k, zn_cl (n := (60 * s) + k) (by omega), h75 k (by omega)]
  exact zq_retn zt_X9_get rfl rfl (⟨rfl, hM, zq_fr.rf⟩)
set_option maxRecDepth 100000 in
set_option maxHeartbeats 400000 in
theorem zs_getm_n {τ : zTd} {S : zES} {H : zSH} {μ0 : zq_Me} {s f : Nat} (ls : s ≤ 3) (lf : f ≤ 2) (i : Int32) (hl : ylk H s f i ≠ 0) (hM : zIm τ S H μ0) : zq_Wp zn_X9_get 0 [(0, .ref 50), (1, .int (nI s)), (2, .int (nI f)), (3, .int i)] [] μ0 (zRm' (.int (-2147483648)) τ S (yhk H (ylk H s f i)) μ0) := by
  have e9 : yan (ylk H s f i) = -10 - nI (ylk H s f i) := if_neg hl
  have e8 : yhk H (ylk H s f i) = yhf H (nI (ylk H s f i)) := if_neg hl
  rw [e8]
  refine zq_go zt_X9_get 1 [] 1 [(0, .ref 50), (1, .int (nI s)), (2, .int (nI f)), (3, .int i)] [.int (nI s)] μ0 rfl trivial ?_
  refine zq_call zt_X9_get [.int (nI s)] [] (zs_isSheetm (nI s) μ0) rfl rfl ?_
  rintro _ _ ⟨rfl, rfl⟩
  refine zq_go zt_X9_get 1 [] (if (zb (0 ≤ nI s ∧ nI s ≤ nI 3)) = 0 then 16 else 7) [(0, .ref 50), (1, .int (nI s)), (2, .int (nI f)), (3, .int i)] [] μ0 rfl trivial ?_
  rw [if_neg (zb_n (yin (by omega) (by decide)))]
  refine zq_go zt_X9_get 3 [] 10 [(0, .ref 50), (1, .int (nI s)), (2, .int (nI f)), (3, .int i)] [.int (nI 2), .int (nI 0), .int (nI f)] μ0 rfl trivial ?_
  refine zq_call zt_X9_get [.int (nI f), .int (nI 0), .int (nI 2)] [] (zs_in (nI f) (nI 0) (nI 2) μ0) rfl rfl ?_
  rintro _ _ ⟨rfl, rfl⟩
  refine zq_go zt_X9_get 1 [] (if ¬ (zb (0 ≤ nI f ∧ nI f ≤ nI 2)) = 0 then 20 else 16) [(0, .ref 50), (1, .int (nI s)), (2, .int (nI f)), (3, .int i)] [] μ0 rfl trivial ?_
  rw [if_pos (zb_n (yin (by omega) (by decide)))]
  have l4 := ylk_4 H s f (i)
  refine zq_go zt_X9_get 4 [] 24 [(0, .ref 50), (1, .int (nI s)), (2, .int (nI f)), (3, .int i)] [.int i, .int (nI f), .int (nI s), .ref 50] μ0 rfl trivial ?_
  refine zq_call zt_X9_get [.ref 50, .int (nI s), .int (nI f), .int i] [] (zs_lacks ls lf (i) hM) rfl rfl ?_
  rintro _ _ ⟨rfl, rfl⟩
  refine zq_go zt_X9_get 3 [] (if (nI (ylk H s f (i))) ≤ 0 then 44 else 34) [(0, .ref 50), (1, .int (nI s)), (2, .int (nI f)), (3, .int i), (4, .int (nI (ylk H s f (i))))] [] μ0 rfl trivial ?_
  rw [if_neg (by rw [show (0 : Int32) = nI 0 from rfl, zn_le (by omega) (by omega)]; omega)]
  refine zq_go zt_X9_get 4 [] 43 [(0, .ref 50), (1, .int (nI s)), (2, .int (nI f)), (3, .int i), (4, .int (nI (ylk H s f (i))))] [.int (-2147483648)] (zq_u1 μ0 50 36 (nI (ylk H s f (i)))) rfl trivial ?_
  obtain ⟨μ1, hμ1⟩ : ∃ k9 : zq_Me, k9 = (zq_u1 μ0 50 36 (nI (ylk H s f (i)))) := ⟨_, rfl⟩
  rw [← hμ1]
  have f1 : zq_fr [50] μ0 μ1 := by rw [hμ1]; exact zq_fr.rf.u1 (by simp)
  have hI := hM.rf (nI (ylk H s f i)) f1 (fun i hi => by rw [hμ1, zq_u1_o2 hi]) (by rw [hμ1, zq_u1_s])
  exact zq_retn zt_X9_get rfl rfl (⟨rfl, hI, f1.wk (by simp [zSM])⟩)
set_option maxRecDepth 100000 in
set_option maxHeartbeats 400000 in
theorem zs_losem {τ : zTd} {S : zES} {H : zSH} {μ0 : zq_Me} {s : Nat} (ls : s ≤ 3) (ht : H.1 s = true) (hM : zIm τ S H μ0) : zq_Wp zn_X9_lose 0 [(0, .ref 50), (1, .int (nI s))] [] μ0 (zRm' (.int (nI (H.2.2.1 s))) τ S (yhl H s) μ0) := by
  have hz := (hM.2.2.2.2.2 s (by omega)).2
  have hfm := (hM.2.2.2.2.2 s (by omega)).1
  have h72 : μ0.1 72 s = nI 1 := by rw [(hM.2.2.2.2.1.1 s (by omega)).1, if_pos ht]; rfl
  have h73 : μ0.1 73 s = nI (H.2.1 s) := ((hM.2.2.2.2.1.1 s (by omega)).2.1 ht).1
  have h74 : μ0.1 74 s = nI (H.2.2.1 s) := ((hM.2.2.2.2.1.1 s (by omega)).2.1 ht).2
  have h75 : ∀ i, i < 60 → μ0.1 75 (60 * s + i) = H.2.2.2.1 s i := (hM.2.2.2.2.1.1 s (by omega)).2.2
  refine zq_go zt_X9_lose 1 [] 1 [(0, .ref 50), (1, .int (nI s))] [.int (nI s)] μ0 rfl trivial ?_
  refine zq_call zt_X9_lose [.int (nI s)] [] (zs_isSheetm (nI s) μ0) rfl rfl ?_
  rintro _ _ ⟨rfl, rfl⟩
  refine zq_go zt_X9_lose 1 [] (if ¬ (zb (0 ≤ nI s ∧ nI s ≤ nI 3)) = 0 then 10 else 7) [(0, .ref 50), (1, .int (nI s))] [] μ0 rfl trivial ?_
  rw [if_pos (zb_n (yin (by omega) (by decide)))]
  refine zq_go zt_X9_lose 5 [vp_in (nI s) 4] (if ¬ (μ0.1 72 ((nI s).toNatClampNeg)) = 0 then 25 else 19) [(0, .ref 50), (1, .int (nI s))] [] μ0 rfl ⟨zn_in (k := s) rfl (by omega) (by decide), trivial⟩ ?_
  rw [zn_cl (n := s) (by omega), h72]
  rw [if_pos (by decide)]
  refine zq_go zt_X9_lose 9 [vp_in (nI s) 4, vp_in (nI s) 4] 38 [(0, .ref 50), (1, .int (nI s))] [.int (μ0.1 74 ((nI s).toNatClampNeg))] (zq_u1 μ0 72 ((nI s).toNatClampNeg) (vp_nar .boolean (nI 0))) rfl ⟨zn_in (k := s) rfl (by omega) (by decide), ⟨zn_in (k := s) rfl (by omega) (by decide), trivial⟩⟩ ?_
  rw [zn_cl (n := s) (by omega), h74]
  obtain ⟨μ1, hμ1⟩ : ∃ k9 : zq_Me, k9 = (zq_u1 μ0 72 s (vp_nar .boolean (nI 0))) := ⟨_, rfl⟩
  rw [← hμ1]
  have f1 : zq_fr [72] μ0 μ1 := by rw [hμ1]; exact zq_fr.rf.u1 (by simp)
  have hI := hM.ls (s := s) (by omega) f1 (fun a => by rw [hμ1, zq_u1_rd]; rfl)
  exact zq_retn zt_X9_lose rfl rfl (⟨rfl, hI, f1.wk (by simp [zSM])⟩)
set_option maxRecDepth 100000 in
set_option maxHeartbeats 400000 in
theorem zs_losem_n {τ : zTd} {S : zES} {H : zSH} {μ0 : zq_Me} {s : Nat} (ls : s ≤ 3) (ht : ¬ H.1 s = true) (hM : zIm τ S H μ0) : zq_Wp zn_X9_lose 0 [(0, .ref 50), (1, .int (nI s))] [] μ0 (zRm' (.int (-10 - nI 1)) τ S (yhf H (nI 1)) μ0) := by
  have h72 : μ0.1 72 s = nI 0 := by rw [(hM.2.2.2.2.1.1 s (by omega)).1, if_neg ht]; rfl
  refine zq_go zt_X9_lose 1 [] 1 [(0, .ref 50), (1, .int (nI s))] [.int (nI s)] μ0 rfl trivial ?_
  refine zq_call zt_X9_lose [.int (nI s)] [] (zs_isSheetm (nI s) μ0) rfl rfl ?_
  rintro _ _ ⟨rfl, rfl⟩
  refine zq_go zt_X9_lose 1 [] (if ¬ (zb (0 ≤ nI s ∧ nI s ≤ nI 3)) = 0 then 10 else 7) [(0, .ref 50), (1, .int (nI s))] [] μ0 rfl trivial ?_
  rw [if_pos (zb_n (yin (by omega) (by decide)))]
  refine zq_go zt_X9_lose 5 [vp_in (nI s) 4] (if ¬ (μ0.1 72 ((nI s).toNatClampNeg)) = 0 then 25 else 19) [(0, .ref 50), (1, .int (nI s))] [] μ0 rfl ⟨zn_in (k := s) rfl (by omega) (by decide), trivial⟩ ?_
  rw [zn_cl (n := s) (by omega), h72]
  rw [if_neg (by decide)]
  refine zq_go zt_X9_lose 2 [] 21 [(0, .ref 50), (1, .int (nI s))] [.int (nI 1), .ref 50] μ0 rfl trivial ?_
  refine zq_call zt_X9_lose [.ref 50, .int (nI 1)] [] (zs_meets 1 hM) rfl rfl ?_
  rintro _ μ1 ⟨rfl, hM1, f1⟩
  exact zq_retn zt_X9_lose rfl rfl (⟨rfl, hM1, f1⟩)
set_option maxRecDepth 100000 in
set_option maxHeartbeats 400000 in
theorem zs_losem_b (v1 : Int32) (hg : ¬ (0 ≤ v1 ∧ v1 ≤ nI 3)) {τ : zTd} {S : zES} {H : zSH} {μ0 : zq_Me} (hM : zIm τ S H μ0) : zq_Wp zn_X9_lose 0 [(0, .ref 50), (1, .int v1)] [] μ0 (zRm' (.int (-2)) τ S H μ0) := by
  refine zq_go zt_X9_lose 1 [] 1 [(0, .ref 50), (1, .int v1)] [.int v1] μ0 rfl trivial ?_
  refine zq_call zt_X9_lose [.int v1] [] (zs_isSheetm v1 μ0) rfl rfl ?_
  rintro _ _ ⟨rfl, rfl⟩
  refine zq_go zt_X9_lose 1 [] (if ¬ (zb (0 ≤ v1 ∧ v1 ≤ nI 3)) = 0 then 10 else 7) [(0, .ref 50), (1, .int v1)] [] μ0 rfl trivial ?_
  refine zq_ite (fun h4 => ?_) (fun h4 => ?_)
  · have g0 := zb_p h4
    exact absurd g0 hg
  · refine zq_go zt_X9_lose 1 [] 9 [(0, .ref 50), (1, .int v1)] [.int (-2)] μ0 rfl trivial ?_
    exact zq_retn zt_X9_lose rfl rfl (⟨rfl, hM, zq_fr.rf⟩)
set_option maxRecDepth 100000 in
set_option maxHeartbeats 400000 in
theorem zs_sheetm_l {Q : zq_Post} {s f n : Nat} (ls : s ≤ 3) {μ0 : zq_Me} (kk : ∀ μ : zq_Me, (zq_fr [75] μ0 μ ∧ ∀ j, μ.1 75 j = if 60 * s ≤ j ∧ j < 60 * s + 60 then 0 else μ0.1 75 j) → zq_Wp zn_X9_sheet 85 [(0, .ref 50), (1, .int (nI s)), (2, .int (nI f)), (3, .int (nI n))] [] μ Q) : ∀ (j i : Nat) (μ : zq_Me), i + j = 60 → (zq_fr [75] μ0 μ ∧ ∀ j, μ.1 75 j = if 60 * s ≤ j ∧ j < 60 * s + i then 0 else μ0.1 75 j) → zq_Wp zn_X9_sheet 59 [(0, .ref 50), (1, .int (nI s)), (2, .int (nI f)), (3, .int (nI n)), (4, .int (nI i))] [] μ Q := by
  intro j
  induction j with
  | zero =>
    rintro i μ hij hI
    obtain rfl : i = 60 := by omega
    refine zq_go zt_X9_sheet 3 [] (if (nI 60) ≤ (nI 60) then 85 else 66) [(0, .ref 50), (1, .int (nI s)), (2, .int (nI f)), (3, .int (nI n)), (4, .int (nI 60))] [] μ rfl trivial ?_
    rw [if_pos (by decide)]
    exact zq_drp [0, 1, 2, 3] _ rfl (kk μ hI)
  | succ j ih =>
    rintro i μ hij ⟨hF, hA⟩
    refine zq_go zt_X9_sheet 3 [] (if (nI 60) ≤ (nI i) then 85 else 66) [(0, .ref 50), (1, .int (nI s)), (2, .int (nI f)), (3, .int (nI n)), (4, .int (nI i))] [] μ rfl trivial ?_
    rw [if_neg (by rw [zn_le (by omega) (by omega)]; omega)]
    refine zq_go zt_X9_sheet 11 [vp_in (((nI 60) * (nI s)) + (nI i)) 240] 59 [(0, .ref 50), (1, .int (nI s)), (2, .int (nI f)), (3, .int (nI n)), (4, .int ((nI i) + (nI 1)))] [] (zq_u1 μ 75 ((((nI 60) * (nI s)) + (nI i)).toNatClampNeg) (nI 0)) rfl ⟨zn_in (k := (60 * s) + i) (by rw [zn_mul 60 s, zn_add (60 * s) i]) (by omega) (by decide), trivial⟩ ?_
    rw [zn_add i 1, zn_mul 60 s, zn_add (60 * s) i, zn_cl (n := (60 * s) + i) (by omega)]
    refine ih (i + 1) _ (by omega) ⟨hF.u1 (by simp), fun j => ?_⟩
    rw [zq_u1_rd, hA]
    by_cases q : j = 60 * s + i
    · rw [if_pos q, if_pos (by omega)]; rfl
    · rw [if_neg q]
      by_cases q2 : 60 * s ≤ j ∧ j < 60 * s + i
      · rw [if_pos q2, if_pos (by omega)]
      · rw [if_neg q2, if_neg (by omega)]
set_option maxRecDepth 100000 in
set_option maxHeartbeats 400000 in
theorem zs_sheetm {τ : zTd} {S : zES} {H : zSH} {μ0 : zq_Me} {s f n : Nat} (ls : s ≤ 3) (lf : f ≤ 2) (ln : n ≤ 60) (hM : zIm τ S H μ0) : zq_Wp zn_X9_sheet 0 [(0, .ref 50), (1, .int (nI s)), (2, .int (nI f)), (3, .int (nI n))] [] μ0 (zRm' (.int (nI n)) τ S (yhn H s f n) μ0) := by
  refine zq_go zt_X9_sheet 1 [] 1 [(0, .ref 50), (1, .int (nI s)), (2, .int (nI f)), (3, .int (nI n))] [.int (nI s)] μ0 rfl trivial ?_
  refine zq_call zt_X9_sheet [.int (nI s)] [] (zs_isSheetm (nI s) μ0) rfl rfl ?_
  rintro _ _ ⟨rfl, rfl⟩
  refine zq_go zt_X9_sheet 1 [] (if (zb (0 ≤ nI s ∧ nI s ≤ nI 3)) = 0 then 22 else 7) [(0, .ref 50), (1, .int (nI s)), (2, .int (nI f)), (3, .int (nI n))] [] μ0 rfl trivial ?_
  rw [if_neg (zb_n (yin (by omega) (by decide)))]
  refine zq_go zt_X9_sheet 3 [] 10 [(0, .ref 50), (1, .int (nI s)), (2, .int (nI f)), (3, .int (nI n))] [.int (nI 2), .int (nI 0), .int (nI f)] μ0 rfl trivial ?_
  refine zq_call zt_X9_sheet [.int (nI f), .int (nI 0), .int (nI 2)] [] (zs_in (nI f) (nI 0) (nI 2) μ0) rfl rfl ?_
  rintro _ _ ⟨rfl, rfl⟩
  refine zq_go zt_X9_sheet 1 [] (if (zb (0 ≤ nI f ∧ nI f ≤ nI 2)) = 0 then 22 else 16) [(0, .ref 50), (1, .int (nI s)), (2, .int (nI f)), (3, .int (nI n))] [] μ0 rfl trivial ?_
  rw [if_neg (zb_n (yin (by omega) (by decide)))]
  refine zq_go zt_X9_sheet 3 [] (if (nI n) ≤ (nI 60) then 25 else 22) [(0, .ref 50), (1, .int (nI s)), (2, .int (nI f)), (3, .int (nI n))] [] μ0 rfl trivial ?_
  rw [if_pos (by rw [zn_le (by omega) (by omega)]; omega)]
  refine zq_go zt_X9_sheet 2 [] (if 0 ≤ (nI n) then 35 else 29) [(0, .ref 50), (1, .int (nI s)), (2, .int (nI f)), (3, .int (nI n))] [] μ0 rfl trivial ?_
  rw [if_pos (zn_0le (by omega))]
  refine zq_go zt_X9_sheet 17 [vp_in (nI s) 4, vp_in (nI s) 4, vp_in (nI s) 4] 59 [(0, .ref 50), (1, .int (nI s)), (2, .int (nI f)), (3, .int (nI n)), (4, .int (nI 0))] [] (zq_u1 (zq_u1 (zq_u1 μ0 72 ((nI s).toNatClampNeg) (vp_nar .boolean (nI 1))) 73 ((nI s).toNatClampNeg) (nI f)) 74 ((nI s).toNatClampNeg) (nI n)) rfl ⟨zn_in (k := s) rfl (by omega) (by decide), ⟨zn_in (k := s) rfl (by omega) (by decide), ⟨zn_in (k := s) rfl (by omega) (by decide), trivial⟩⟩⟩ ?_
  rw [zn_cl (n := s) (by omega)]
  obtain ⟨μ1, hμ1⟩ : ∃ k9 : zq_Me, k9 = (zq_u1 (zq_u1 (zq_u1 μ0 72 s (vp_nar .boolean (nI 1))) 73 s (nI f)) 74 s (nI n)) := ⟨_, rfl⟩
  rw [← hμ1]
  refine zs_sheetm_l ls (μ0 := μ1) (fun μ2 h2 => ?_) 60 0 μ1 (by omega) ⟨zq_fr.rf, fun j => by rw [if_neg (by omega)]⟩
  obtain ⟨f2, a2⟩ := h2
  have f1 : zq_fr [72, 73, 74] μ0 μ1 := by rw [hμ1]; exact ((zq_fr.rf.u1 (by simp)).u1 (by simp)).u1 (by simp)
  have f9 : zq_fr [72, 73, 74, 75] μ0 μ2 := (f1.wk (by simp +contextual)).tr (f2.wk (by simp))
  have hI := hM.nw (s := s) (by omega) lf ln f9 (fun a => by rw [f2.a (b := 72) (by decide), hμ1, zq_u1_ne (by decide), zq_u1_ne (by decide), zq_u1_rd]; rfl) (fun a => by rw [f2.a (b := 73) (by decide), hμ1, zq_u1_ne (by decide), zq_u1_rd, zq_u1_ne (by decide)]) (fun a => by rw [f2.a (b := 74) (by decide), hμ1, zq_u1_rd, zq_u1_ne (by decide), zq_u1_ne (by decide)]) (fun j hj => by rw [a2, if_neg hj, hμ1, zq_u1_ne (by decide), zq_u1_ne (by decide), zq_u1_ne (by decide)]) (fun i hi => by rw [a2, if_pos (by omega)])
  refine zq_go zt_X9_sheet 1 [] 86 [(0, .ref 50), (1, .int (nI s)), (2, .int (nI f)), (3, .int (nI n))] [.int (nI n)] μ2 rfl trivial ?_
  exact zq_retn zt_X9_sheet rfl rfl (⟨rfl, hI, f9.wk (by simp +contextual [zSM])⟩)
set_option maxRecDepth 100000 in
set_option maxHeartbeats 400000 in
theorem zs_sheetm_n {τ : zTd} {S : zES} {H : zSH} {μ0 : zq_Me} {s f : Nat} (ls : s ≤ 3) (lf : f ≤ 2) (n : Int32) (h60 : n ≤ nI 60) (hn : n < 0) (hM : zIm τ S H μ0) : zq_Wp zn_X9_sheet 0 [(0, .ref 50), (1, .int (nI s)), (2, .int (nI f)), (3, .int n)] [] μ0 (zRm' (.int (-10 - nI 5)) τ S (yhf H (nI 5)) μ0) := by
  refine zq_go zt_X9_sheet 1 [] 1 [(0, .ref 50), (1, .int (nI s)), (2, .int (nI f)), (3, .int n)] [.int (nI s)] μ0 rfl trivial ?_
  refine zq_call zt_X9_sheet [.int (nI s)] [] (zs_isSheetm (nI s) μ0) rfl rfl ?_
  rintro _ _ ⟨rfl, rfl⟩
  refine zq_go zt_X9_sheet 1 [] (if (zb (0 ≤ nI s ∧ nI s ≤ nI 3)) = 0 then 22 else 7) [(0, .ref 50), (1, .int (nI s)), (2, .int (nI f)), (3, .int n)] [] μ0 rfl trivial ?_
  rw [if_neg (zb_n (yin (by omega) (by decide)))]
  refine zq_go zt_X9_sheet 3 [] 10 [(0, .ref 50), (1, .int (nI s)), (2, .int (nI f)), (3, .int n)] [.int (nI 2), .int (nI 0), .int (nI f)] μ0 rfl trivial ?_
  refine zq_call zt_X9_sheet [.int (nI f), .int (nI 0), .int (nI 2)] [] (zs_in (nI f) (nI 0) (nI 2) μ0) rfl rfl ?_
  rintro _ _ ⟨rfl, rfl⟩
  refine zq_go zt_X9_sheet 1 [] (if (zb (0 ≤ nI f ∧ nI f ≤ nI 2)) = 0 then 22 else 16) [(0, .ref 50), (1, .int (nI s)), (2, .int (nI f)), (3, .int n)] [] μ0 rfl trivial ?_
  rw [if_neg (zb_n (yin (by omega) (by decide)))]
  refine zq_go zt_X9_sheet 3 [] (if n ≤ (nI 60) then 25 else 22) [(0, .ref 50), (1, .int (nI s)), (2, .int (nI f)), (3, .int n)] [] μ0 rfl trivial ?_
  rw [if_pos (h60)]
  refine zq_go zt_X9_sheet 2 [] (if 0 ≤ n then 35 else 29) [(0, .ref 50), (1, .int (nI s)), (2, .int (nI f)), (3, .int n)] [] μ0 rfl trivial ?_
  rw [if_neg (Int32.not_le.mpr hn)]
  refine zq_go zt_X9_sheet 2 [] 31 [(0, .ref 50), (1, .int (nI s)), (2, .int (nI f)), (3, .int n)] [.int (nI 5), .ref 50] μ0 rfl trivial ?_
  refine zq_call zt_X9_sheet [.ref 50, .int (nI 5)] [] (zs_meets 5 hM) rfl rfl ?_
  rintro _ μ1 ⟨rfl, hM1, f1⟩
  exact zq_retn zt_X9_sheet rfl rfl (⟨rfl, hM1, f1⟩)
set_option maxRecDepth 100000 in
set_option maxHeartbeats 400000 in
theorem zs_sheetm_b (v1 v2 v3 : Int32) (hg : ¬ ((0 ≤ v1 ∧ v1 ≤ nI 3) ∧ (0 ≤ v2 ∧ v2 ≤ nI 2) ∧ v3 ≤ nI 60)) {τ : zTd} {S : zES} {H : zSH} {μ0 : zq_Me} (hM : zIm τ S H μ0) : zq_Wp zn_X9_sheet 0 [(0, .ref 50), (1, .int v1), (2, .int v2), (3, .int v3)] [] μ0 (zRm' (.int (-2)) τ S H μ0) := by
  refine zq_go zt_X9_sheet 1 [] 1 [(0, .ref 50), (1, .int v1), (2, .int v2), (3, .int v3)] [.int v1] μ0 rfl trivial ?_
  refine zq_call zt_X9_sheet [.int v1] [] (zs_isSheetm v1 μ0) rfl rfl ?_
  rintro _ _ ⟨rfl, rfl⟩
  refine zq_go zt_X9_sheet 1 [] (if (zb (0 ≤ v1 ∧ v1 ≤ nI 3)) = 0 then 22 else 7) [(0, .ref 50), (1, .int v1), (2, .int v2), (3, .int v3)] [] μ0 rfl trivial ?_
  refine zq_ite (fun h4 => ?_) (fun h4 => ?_)
  · refine zq_go zt_X9_sheet 1 [] 24 [(0, .ref 50), (1, .int v1), (2, .int v2), (3, .int v3)] [.int (-2)] μ0 rfl trivial ?_
    exact zq_retn zt_X9_sheet rfl rfl (⟨rfl, hM, zq_fr.rf⟩)
  · have g0 := zb_p h4
    refine zq_go zt_X9_sheet 3 [] 10 [(0, .ref 50), (1, .int v1), (2, .int v2), (3, .int v3)] [.int (nI 2), .int (nI 0), .int v2] μ0 rfl trivial ?_
    refine zq_call zt_X9_sheet [.int v2, .int (nI 0), .int (nI 2)] [] (zs_in v2 (nI 0) (nI 2) μ0) rfl rfl ?_
    rintro _ _ ⟨rfl, rfl⟩
    refine zq_go zt_X9_sheet 1 [] (if (zb (0 ≤ v2 ∧ v2 ≤ nI 2)) = 0 then 22 else 16) [(0, .ref 50), (1, .int v1), (2, .int v2), (3, .int v3)] [] μ0 rfl trivial ?_
    refine zq_ite (fun h12 => ?_) (fun h12 => ?_)
    · refine zq_go zt_X9_sheet 1 [] 24 [(0, .ref 50), (1, .int v1), (2, .int v2), (3, .int v3)] [.int (-2)] μ0 rfl trivial ?_
      exact zq_retn zt_X9_sheet rfl rfl (⟨rfl, hM, zq_fr.rf⟩)
    · have g1 := zb_p h12
      refine zq_go zt_X9_sheet 3 [] (if v3 ≤ (nI 60) then 25 else 22) [(0, .ref 50), (1, .int v1), (2, .int v2), (3, .int v3)] [] μ0 rfl trivial ?_
      refine zq_ite (fun h17 => ?_) (fun h17 => ?_)
      · exact absurd ⟨g0, g1, h17⟩ hg
      · refine zq_go zt_X9_sheet 1 [] 24 [(0, .ref 50), (1, .int v1), (2, .int v2), (3, .int v3)] [.int (-2)] μ0 rfl trivial ?_
        exact zq_retn zt_X9_sheet rfl rfl (⟨rfl, hM, zq_fr.rf⟩)
theorem zo_sheet (v1 v2 v3 : Int32) : zop zn_X8_sheet [(0, .ref 0), (1, .int v1), (2, .int v2), (3, .int v3)] zn_X9_sheet [(0, .ref 50), (1, .int v1), (2, .int v2), (3, .int v3)] := by
  intro τ S H μ hC hM
  by_cases hg : (0 ≤ v1 ∧ v1 ≤ nI 3) ∧ (0 ≤ v2 ∧ v2 ≤ nI 2) ∧ v3 ≤ nI 60
  · obtain ⟨s, ls, rfl⟩ := yix (by decide) hg.1
    obtain ⟨f, lf, rfl⟩ := yix (by decide) hg.2.1
    by_cases hn : v3 < 0
    · exact ⟨_, τ, S, _, zs_sheet_n ls lf v3 hg.2.2 hn hC, fun _ h => zs_sheetm_n ls lf v3 hg.2.2 hn h⟩
    · obtain ⟨n, ln, rfl⟩ := yix (by decide) ⟨Int32.not_lt.mp hn, hg.2.2⟩
      exact ⟨_, τ, S, _, zs_sheet ls lf ln hC, fun _ h => zs_sheetm ls lf ln h⟩
  · exact ⟨_, τ, S, H, zs_sheet_b v1 v2 v3 hg hC, fun _ h => zs_sheetm_b v1 v2 v3 hg h⟩
theorem zo_lose (v1 : Int32) : zop zn_X8_lose [(0, .ref 0), (1, .int v1)] zn_X9_lose [(0, .ref 50), (1, .int v1)] := by
  intro τ S H μ hC hM
  by_cases hg : 0 ≤ v1 ∧ v1 ≤ nI 3
  · obtain ⟨s, ls, rfl⟩ := yix (by decide) hg
    by_cases ht : H.1 s = true
    · exact ⟨_, τ, S, _, zs_lose ls ht hC, fun _ h => zs_losem ls ht h⟩
    · exact ⟨_, τ, S, _, zs_lose_n ls (yfalse ht) hC, fun _ h => zs_losem_n ls ht h⟩
  · exact ⟨_, τ, S, H, zs_lose_b v1 hg hC, fun _ h => zs_losem_b v1 hg h⟩
theorem zo_put (v1 v2 v3 v4 : Int32) : zop zn_X8_put [(0, .ref 0), (1, .int v1), (2, .int v2), (3, .int v3), (4, .int v4)] zn_X9_put [(0, .ref 50), (1, .int v1), (2, .int v2), (3, .int v3), (4, .int v4)] := by
  intro τ S H μ hC hM
  by_cases hg : (0 ≤ v1 ∧ v1 ≤ nI 3) ∧ (0 ≤ v2 ∧ v2 ≤ nI 2)
  · obtain ⟨s, ls, rfl⟩ := yix (by decide) hg.1
    obtain ⟨f, lf, rfl⟩ := yix (by decide) hg.2
    by_cases hl : ylk H s f v3 = 0
    · obtain ⟨ht, _, k, lk, rfl⟩ := ylk_0 (hC.2.2.2.2.2.2.2.2.2 s (by omega)).2 hl
      exact ⟨_, τ, S, _, zs_put ls lf ht lk hl v4 hC, fun _ h => zs_putm ls lf ht lk hl v4 h⟩
    · exact ⟨_, τ, S, _, zs_put_n ls lf v3 hl v4 hC, fun _ h => zs_putm_n ls lf v3 hl v4 h⟩
  · exact ⟨_, τ, S, H, zs_put_b v1 v2 v3 v4 hg hC, fun _ h => zs_putm_b v1 v2 v3 v4 hg h⟩
theorem zo_get (v1 v2 v3 : Int32) : zop zn_X8_get [(0, .ref 0), (1, .int v1), (2, .int v2), (3, .int v3)] zn_X9_get [(0, .ref 50), (1, .int v1), (2, .int v2), (3, .int v3)] := by
  intro τ S H μ hC hM
  by_cases hg : (0 ≤ v1 ∧ v1 ≤ nI 3) ∧ (0 ≤ v2 ∧ v2 ≤ nI 2)
  · obtain ⟨s, ls, rfl⟩ := yix (by decide) hg.1
    obtain ⟨f, lf, rfl⟩ := yix (by decide) hg.2
    by_cases hl : ylk H s f v3 = 0
    · obtain ⟨ht, _, k, lk, rfl⟩ := ylk_0 (hC.2.2.2.2.2.2.2.2.2 s (by omega)).2 hl
      exact ⟨_, τ, S, H, zs_get ls lf ht lk hl hC, fun _ h => zs_getm ls lf ht lk hl h⟩
    · exact ⟨_, τ, S, _, zs_get_n ls lf v3 hl hC, fun _ h => zs_getm_n ls lf v3 hl h⟩
  · exact ⟨_, τ, S, H, zs_get_b v1 v2 v3 hg hC, fun _ h => zs_getm_b v1 v2 v3 hg h⟩
