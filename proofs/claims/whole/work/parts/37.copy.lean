/-! ===== copy ===== -/
theorem yfit_n {z a c : Nat} (hz : z ≤ 60) (h : a + c ≤ z) : yfit z (nI a) (nI c) := ⟨zn_0le (by omega), zn_0le (by omega), by rw [zn_le (by omega) (by omega)]; omega, by rw [zn_sub (by omega), zn_le (by omega) (by omega)]; omega⟩
theorem yfit_e {z : Nat} (hz : z ≤ 60) {i n : Int32} (h : yfit z i n) : ∃ a c, i = nI a ∧ n = nI c ∧ a + c ≤ z := by
  obtain ⟨h1, h2, h3, h4⟩ := h
  obtain ⟨a, ha, rfl⟩ := yix (by omega) ⟨h1, h3⟩
  rw [zn_sub ha] at h4
  obtain ⟨c, hc, rfl⟩ := yix (by omega) ⟨h2, h4⟩
  exact ⟨a, c, rfl, rfl, by omega⟩
set_option maxRecDepth 100000 in
set_option maxHeartbeats 400000 in
theorem zs_copy_l_0_0 {τ : zTd} {S : zES} {H : zSH} {μ0 : zq_Me} (h : H.1 0 = false ∨ H.1 0 = false) (i j n : Int32) (hC : zIc τ S H μ0) : zq_Wp zn_X8_copy 0 [(0, .ref 0), (1, .int (nI 0)), (2, .int i), (3, .int (nI 0)), (4, .int j), (5, .int n)] [] μ0 (zRc (.int (-10 - nI 1)) τ S (yhf H (nI 1)) μ0) := by
  refine zq_go zt_X8_copy 1 [] 1 [(0, .ref 0), (1, .int (nI 0)), (2, .int i), (3, .int (nI 0)), (4, .int j), (5, .int n)] [.int (nI 0)] μ0 rfl trivial ?_
  refine zq_call zt_X8_copy [.int (nI 0)] [] (zs_isSheet (nI 0) μ0) rfl rfl ?_
  rintro _ _ ⟨rfl, rfl⟩
  refine zq_go zt_X8_copy 1 [] (if (zb (0 ≤ nI 0 ∧ nI 0 ≤ nI 3)) = 0 then 14 else 7) [(0, .ref 0), (1, .int (nI 0)), (2, .int i), (3, .int (nI 0)), (4, .int j), (5, .int n)] [] μ0 rfl trivial ?_
  rw [if_neg (zb_n (yin (by omega) (by decide)))]
  refine zq_go zt_X8_copy 1 [] 8 [(0, .ref 0), (1, .int (nI 0)), (2, .int i), (3, .int (nI 0)), (4, .int j), (5, .int n)] [.int (nI 0)] μ0 rfl trivial ?_
  refine zq_call zt_X8_copy [.int (nI 0)] [] (zs_isSheet (nI 0) μ0) rfl rfl ?_
  rintro _ _ ⟨rfl, rfl⟩
  refine zq_go zt_X8_copy 1 [] (if ¬ (zb (0 ≤ nI 0 ∧ nI 0 ≤ nI 3)) = 0 then 17 else 14) [(0, .ref 0), (1, .int (nI 0)), (2, .int i), (3, .int (nI 0)), (4, .int j), (5, .int n)] [] μ0 rfl trivial ?_
  rw [if_pos (zb_n (yin (by omega) (by decide)))]
  by_cases hs : H.1 0 = false
  · refine zq_go zt_X8_copy 11 [vp_in (nI 0) 4, vp_in (nI 0) 4] 35 [(0, .ref 0), (1, .int (nI 0)), (2, .int i), (3, .int (nI 0)), (4, .int j), (5, .int n), (6, .ref 25), (7, .ref 25)] [.ref 25] μ0 rfl ⟨zn_in rfl (by decide) (by decide), ⟨zn_in rfl (by decide) (by decide), trivial⟩⟩ ?_
    refine zq_call zt_X8_copy [.ref 25] [] (zs_isLostN_0 hs hC) rfl rfl ?_
    rintro _ _ ⟨rfl, rfl⟩
    refine zq_go zt_X8_copy 1 [] (if ¬ (nI 1) = 0 then 49 else 41) [(0, .ref 0), (1, .int (nI 0)), (2, .int i), (3, .int (nI 0)), (4, .int j), (5, .int n), (6, .ref 25), (7, .ref 25)] [] μ0 rfl trivial ?_
    rw [if_pos (by decide)]
    refine zq_go zt_X8_copy 2 [] 51 [(0, .ref 0), (1, .int (nI 0)), (2, .int i), (3, .int (nI 0)), (4, .int j), (5, .int n), (6, .ref 25), (7, .ref 25)] [.int (nI 1), .ref 0] μ0 rfl trivial ?_
    refine zq_call zt_X8_copy [.ref 0, .int (nI 1)] [] (zs_refuse 1 hC) rfl rfl ?_
    rintro _ μ1 ⟨rfl, hC1, f1⟩
    exact zq_retn zt_X8_copy rfl rfl (⟨rfl, hC1, f1⟩)
  · have ht : H.1 0 = true := by
      cases q : H.1 0
      · exact absurd q hs
      · rfl
    have hu : H.1 0 = false := h.resolve_left hs
    refine zq_go zt_X8_copy 11 [vp_in (nI 0) 4, vp_in (nI 0) 4] 35 [(0, .ref 0), (1, .int (nI 0)), (2, .int i), (3, .int (nI 0)), (4, .int j), (5, .int n), (6, .ref 25), (7, .ref 25)] [.ref 25] μ0 rfl ⟨zn_in rfl (by decide) (by decide), ⟨zn_in rfl (by decide) (by decide), trivial⟩⟩ ?_
    refine zq_call zt_X8_copy [.ref 25] [] (zs_isLost_0 ht hC) rfl rfl ?_
    rintro _ _ ⟨rfl, rfl⟩
    refine zq_go zt_X8_copy 1 [] (if ¬ (nI 0) = 0 then 49 else 41) [(0, .ref 0), (1, .int (nI 0)), (2, .int i), (3, .int (nI 0)), (4, .int j), (5, .int n), (6, .ref 25), (7, .ref 25)] [] μ0 rfl trivial ?_
    rw [if_neg (by decide)]
    refine zq_go zt_X8_copy 1 [] 43 [(0, .ref 0), (1, .int (nI 0)), (2, .int i), (3, .int (nI 0)), (4, .int j), (5, .int n), (6, .ref 25), (7, .ref 25)] [.ref 25] μ0 rfl trivial ?_
    refine zq_call zt_X8_copy [.ref 25] [] (zs_isLostN_0 hu hC) rfl rfl ?_
    rintro _ _ ⟨rfl, rfl⟩
    refine zq_go zt_X8_copy 1 [] (if (nI 1) = 0 then 55 else 49) [(0, .ref 0), (1, .int (nI 0)), (2, .int i), (3, .int (nI 0)), (4, .int j), (5, .int n), (6, .ref 25), (7, .ref 25)] [] μ0 rfl trivial ?_
    rw [if_neg (by decide)]
    refine zq_go zt_X8_copy 2 [] 51 [(0, .ref 0), (1, .int (nI 0)), (2, .int i), (3, .int (nI 0)), (4, .int j), (5, .int n), (6, .ref 25), (7, .ref 25)] [.int (nI 1), .ref 0] μ0 rfl trivial ?_
    refine zq_call zt_X8_copy [.ref 0, .int (nI 1)] [] (zs_refuse 1 hC) rfl rfl ?_
    rintro _ μ1 ⟨rfl, hC1, f1⟩
    exact zq_retn zt_X8_copy rfl rfl (⟨rfl, hC1, f1⟩)
set_option maxRecDepth 100000 in
set_option maxHeartbeats 400000 in
theorem zs_copy_l_0_1 {τ : zTd} {S : zES} {H : zSH} {μ0 : zq_Me} (h : H.1 0 = false ∨ H.1 1 = false) (i j n : Int32) (hC : zIc τ S H μ0) : zq_Wp zn_X8_copy 0 [(0, .ref 0), (1, .int (nI 0)), (2, .int i), (3, .int (nI 1)), (4, .int j), (5, .int n)] [] μ0 (zRc (.int (-10 - nI 1)) τ S (yhf H (nI 1)) μ0) := by
  refine zq_go zt_X8_copy 1 [] 1 [(0, .ref 0), (1, .int (nI 0)), (2, .int i), (3, .int (nI 1)), (4, .int j), (5, .int n)] [.int (nI 0)] μ0 rfl trivial ?_
  refine zq_call zt_X8_copy [.int (nI 0)] [] (zs_isSheet (nI 0) μ0) rfl rfl ?_
  rintro _ _ ⟨rfl, rfl⟩
  refine zq_go zt_X8_copy 1 [] (if (zb (0 ≤ nI 0 ∧ nI 0 ≤ nI 3)) = 0 then 14 else 7) [(0, .ref 0), (1, .int (nI 0)), (2, .int i), (3, .int (nI 1)), (4, .int j), (5, .int n)] [] μ0 rfl trivial ?_
  rw [if_neg (zb_n (yin (by omega) (by decide)))]
  refine zq_go zt_X8_copy 1 [] 8 [(0, .ref 0), (1, .int (nI 0)), (2, .int i), (3, .int (nI 1)), (4, .int j), (5, .int n)] [.int (nI 1)] μ0 rfl trivial ?_
  refine zq_call zt_X8_copy [.int (nI 1)] [] (zs_isSheet (nI 1) μ0) rfl rfl ?_
  rintro _ _ ⟨rfl, rfl⟩
  refine zq_go zt_X8_copy 1 [] (if ¬ (zb (0 ≤ nI 1 ∧ nI 1 ≤ nI 3)) = 0 then 17 else 14) [(0, .ref 0), (1, .int (nI 0)), (2, .int i), (3, .int (nI 1)), (4, .int j), (5, .int n)] [] μ0 rfl trivial ?_
  rw [if_pos (zb_n (yin (by omega) (by decide)))]
  by_cases hs : H.1 0 = false
  · refine zq_go zt_X8_copy 11 [vp_in (nI 0) 4, vp_in (nI 1) 4] 35 [(0, .ref 0), (1, .int (nI 0)), (2, .int i), (3, .int (nI 1)), (4, .int j), (5, .int n), (6, .ref 25), (7, .ref 27)] [.ref 25] μ0 rfl ⟨zn_in rfl (by decide) (by decide), ⟨zn_in rfl (by decide) (by decide), trivial⟩⟩ ?_
    refine zq_call zt_X8_copy [.ref 25] [] (zs_isLostN_0 hs hC) rfl rfl ?_
    rintro _ _ ⟨rfl, rfl⟩
    refine zq_go zt_X8_copy 1 [] (if ¬ (nI 1) = 0 then 49 else 41) [(0, .ref 0), (1, .int (nI 0)), (2, .int i), (3, .int (nI 1)), (4, .int j), (5, .int n), (6, .ref 25), (7, .ref 27)] [] μ0 rfl trivial ?_
    rw [if_pos (by decide)]
    refine zq_go zt_X8_copy 2 [] 51 [(0, .ref 0), (1, .int (nI 0)), (2, .int i), (3, .int (nI 1)), (4, .int j), (5, .int n), (6, .ref 25), (7, .ref 27)] [.int (nI 1), .ref 0] μ0 rfl trivial ?_
    refine zq_call zt_X8_copy [.ref 0, .int (nI 1)] [] (zs_refuse 1 hC) rfl rfl ?_
    rintro _ μ1 ⟨rfl, hC1, f1⟩
    exact zq_retn zt_X8_copy rfl rfl (⟨rfl, hC1, f1⟩)
  · have ht : H.1 0 = true := by
      cases q : H.1 0
      · exact absurd q hs
      · rfl
    have hu : H.1 1 = false := h.resolve_left hs
    refine zq_go zt_X8_copy 11 [vp_in (nI 0) 4, vp_in (nI 1) 4] 35 [(0, .ref 0), (1, .int (nI 0)), (2, .int i), (3, .int (nI 1)), (4, .int j), (5, .int n), (6, .ref 25), (7, .ref 27)] [.ref 25] μ0 rfl ⟨zn_in rfl (by decide) (by decide), ⟨zn_in rfl (by decide) (by decide), trivial⟩⟩ ?_
    refine zq_call zt_X8_copy [.ref 25] [] (zs_isLost_0 ht hC) rfl rfl ?_
    rintro _ _ ⟨rfl, rfl⟩
    refine zq_go zt_X8_copy 1 [] (if ¬ (nI 0) = 0 then 49 else 41) [(0, .ref 0), (1, .int (nI 0)), (2, .int i), (3, .int (nI 1)), (4, .int j), (5, .int n), (6, .ref 25), (7, .ref 27)] [] μ0 rfl trivial ?_
    rw [if_neg (by decide)]
    refine zq_go zt_X8_copy 1 [] 43 [(0, .ref 0), (1, .int (nI 0)), (2, .int i), (3, .int (nI 1)), (4, .int j), (5, .int n), (6, .ref 25), (7, .ref 27)] [.ref 27] μ0 rfl trivial ?_
    refine zq_call zt_X8_copy [.ref 27] [] (zs_isLostN_1 hu hC) rfl rfl ?_
    rintro _ _ ⟨rfl, rfl⟩
    refine zq_go zt_X8_copy 1 [] (if (nI 1) = 0 then 55 else 49) [(0, .ref 0), (1, .int (nI 0)), (2, .int i), (3, .int (nI 1)), (4, .int j), (5, .int n), (6, .ref 25), (7, .ref 27)] [] μ0 rfl trivial ?_
    rw [if_neg (by decide)]
    refine zq_go zt_X8_copy 2 [] 51 [(0, .ref 0), (1, .int (nI 0)), (2, .int i), (3, .int (nI 1)), (4, .int j), (5, .int n), (6, .ref 25), (7, .ref 27)] [.int (nI 1), .ref 0] μ0 rfl trivial ?_
    refine zq_call zt_X8_copy [.ref 0, .int (nI 1)] [] (zs_refuse 1 hC) rfl rfl ?_
    rintro _ μ1 ⟨rfl, hC1, f1⟩
    exact zq_retn zt_X8_copy rfl rfl (⟨rfl, hC1, f1⟩)
set_option maxRecDepth 100000 in
set_option maxHeartbeats 400000 in
theorem zs_copy_l_0_2 {τ : zTd} {S : zES} {H : zSH} {μ0 : zq_Me} (h : H.1 0 = false ∨ H.1 2 = false) (i j n : Int32) (hC : zIc τ S H μ0) : zq_Wp zn_X8_copy 0 [(0, .ref 0), (1, .int (nI 0)), (2, .int i), (3, .int (nI 2)), (4, .int j), (5, .int n)] [] μ0 (zRc (.int (-10 - nI 1)) τ S (yhf H (nI 1)) μ0) := by
  refine zq_go zt_X8_copy 1 [] 1 [(0, .ref 0), (1, .int (nI 0)), (2, .int i), (3, .int (nI 2)), (4, .int j), (5, .int n)] [.int (nI 0)] μ0 rfl trivial ?_
  refine zq_call zt_X8_copy [.int (nI 0)] [] (zs_isSheet (nI 0) μ0) rfl rfl ?_
  rintro _ _ ⟨rfl, rfl⟩
  refine zq_go zt_X8_copy 1 [] (if (zb (0 ≤ nI 0 ∧ nI 0 ≤ nI 3)) = 0 then 14 else 7) [(0, .ref 0), (1, .int (nI 0)), (2, .int i), (3, .int (nI 2)), (4, .int j), (5, .int n)] [] μ0 rfl trivial ?_
  rw [if_neg (zb_n (yin (by omega) (by decide)))]
  refine zq_go zt_X8_copy 1 [] 8 [(0, .ref 0), (1, .int (nI 0)), (2, .int i), (3, .int (nI 2)), (4, .int j), (5, .int n)] [.int (nI 2)] μ0 rfl trivial ?_
  refine zq_call zt_X8_copy [.int (nI 2)] [] (zs_isSheet (nI 2) μ0) rfl rfl ?_
  rintro _ _ ⟨rfl, rfl⟩
  refine zq_go zt_X8_copy 1 [] (if ¬ (zb (0 ≤ nI 2 ∧ nI 2 ≤ nI 3)) = 0 then 17 else 14) [(0, .ref 0), (1, .int (nI 0)), (2, .int i), (3, .int (nI 2)), (4, .int j), (5, .int n)] [] μ0 rfl trivial ?_
  rw [if_pos (zb_n (yin (by omega) (by decide)))]
  by_cases hs : H.1 0 = false
  · refine zq_go zt_X8_copy 11 [vp_in (nI 0) 4, vp_in (nI 2) 4] 35 [(0, .ref 0), (1, .int (nI 0)), (2, .int i), (3, .int (nI 2)), (4, .int j), (5, .int n), (6, .ref 25), (7, .ref 29)] [.ref 25] μ0 rfl ⟨zn_in rfl (by decide) (by decide), ⟨zn_in rfl (by decide) (by decide), trivial⟩⟩ ?_
    refine zq_call zt_X8_copy [.ref 25] [] (zs_isLostN_0 hs hC) rfl rfl ?_
    rintro _ _ ⟨rfl, rfl⟩
    refine zq_go zt_X8_copy 1 [] (if ¬ (nI 1) = 0 then 49 else 41) [(0, .ref 0), (1, .int (nI 0)), (2, .int i), (3, .int (nI 2)), (4, .int j), (5, .int n), (6, .ref 25), (7, .ref 29)] [] μ0 rfl trivial ?_
    rw [if_pos (by decide)]
    refine zq_go zt_X8_copy 2 [] 51 [(0, .ref 0), (1, .int (nI 0)), (2, .int i), (3, .int (nI 2)), (4, .int j), (5, .int n), (6, .ref 25), (7, .ref 29)] [.int (nI 1), .ref 0] μ0 rfl trivial ?_
    refine zq_call zt_X8_copy [.ref 0, .int (nI 1)] [] (zs_refuse 1 hC) rfl rfl ?_
    rintro _ μ1 ⟨rfl, hC1, f1⟩
    exact zq_retn zt_X8_copy rfl rfl (⟨rfl, hC1, f1⟩)
  · have ht : H.1 0 = true := by
      cases q : H.1 0
      · exact absurd q hs
      · rfl
    have hu : H.1 2 = false := h.resolve_left hs
    refine zq_go zt_X8_copy 11 [vp_in (nI 0) 4, vp_in (nI 2) 4] 35 [(0, .ref 0), (1, .int (nI 0)), (2, .int i), (3, .int (nI 2)), (4, .int j), (5, .int n), (6, .ref 25), (7, .ref 29)] [.ref 25] μ0 rfl ⟨zn_in rfl (by decide) (by decide), ⟨zn_in rfl (by decide) (by decide), trivial⟩⟩ ?_
    refine zq_call zt_X8_copy [.ref 25] [] (zs_isLost_0 ht hC) rfl rfl ?_
    rintro _ _ ⟨rfl, rfl⟩
    refine zq_go zt_X8_copy 1 [] (if ¬ (nI 0) = 0 then 49 else 41) [(0, .ref 0), (1, .int (nI 0)), (2, .int i), (3, .int (nI 2)), (4, .int j), (5, .int n), (6, .ref 25), (7, .ref 29)] [] μ0 rfl trivial ?_
    rw [if_neg (by decide)]
    refine zq_go zt_X8_copy 1 [] 43 [(0, .ref 0), (1, .int (nI 0)), (2, .int i), (3, .int (nI 2)), (4, .int j), (5, .int n), (6, .ref 25), (7, .ref 29)] [.ref 29] μ0 rfl trivial ?_
    refine zq_call zt_X8_copy [.ref 29] [] (zs_isLostN_2 hu hC) rfl rfl ?_
    rintro _ _ ⟨rfl, rfl⟩
    refine zq_go zt_X8_copy 1 [] (if (nI 1) = 0 then 55 else 49) [(0, .ref 0), (1, .int (nI 0)), (2, .int i), (3, .int (nI 2)), (4, .int j), (5, .int n), (6, .ref 25), (7, .ref 29)] [] μ0 rfl trivial ?_
    rw [if_neg (by decide)]
    refine zq_go zt_X8_copy 2 [] 51 [(0, .ref 0), (1, .int (nI 0)), (2, .int i), (3, .int (nI 2)), (4, .int j), (5, .int n), (6, .ref 25), (7, .ref 29)] [.int (nI 1), .ref 0] μ0 rfl trivial ?_
    refine zq_call zt_X8_copy [.ref 0, .int (nI 1)] [] (zs_refuse 1 hC) rfl rfl ?_
    rintro _ μ1 ⟨rfl, hC1, f1⟩
    exact zq_retn zt_X8_copy rfl rfl (⟨rfl, hC1, f1⟩)
set_option maxRecDepth 100000 in
set_option maxHeartbeats 400000 in
theorem zs_copy_l_0_3 {τ : zTd} {S : zES} {H : zSH} {μ0 : zq_Me} (h : H.1 0 = false ∨ H.1 3 = false) (i j n : Int32) (hC : zIc τ S H μ0) : zq_Wp zn_X8_copy 0 [(0, .ref 0), (1, .int (nI 0)), (2, .int i), (3, .int (nI 3)), (4, .int j), (5, .int n)] [] μ0 (zRc (.int (-10 - nI 1)) τ S (yhf H (nI 1)) μ0) := by
  refine zq_go zt_X8_copy 1 [] 1 [(0, .ref 0), (1, .int (nI 0)), (2, .int i), (3, .int (nI 3)), (4, .int j), (5, .int n)] [.int (nI 0)] μ0 rfl trivial ?_
  refine zq_call zt_X8_copy [.int (nI 0)] [] (zs_isSheet (nI 0) μ0) rfl rfl ?_
  rintro _ _ ⟨rfl, rfl⟩
  refine zq_go zt_X8_copy 1 [] (if (zb (0 ≤ nI 0 ∧ nI 0 ≤ nI 3)) = 0 then 14 else 7) [(0, .ref 0), (1, .int (nI 0)), (2, .int i), (3, .int (nI 3)), (4, .int j), (5, .int n)] [] μ0 rfl trivial ?_
  rw [if_neg (zb_n (yin (by omega) (by decide)))]
  refine zq_go zt_X8_copy 1 [] 8 [(0, .ref 0), (1, .int (nI 0)), (2, .int i), (3, .int (nI 3)), (4, .int j), (5, .int n)] [.int (nI 3)] μ0 rfl trivial ?_
  refine zq_call zt_X8_copy [.int (nI 3)] [] (zs_isSheet (nI 3) μ0) rfl rfl ?_
  rintro _ _ ⟨rfl, rfl⟩
  refine zq_go zt_X8_copy 1 [] (if ¬ (zb (0 ≤ nI 3 ∧ nI 3 ≤ nI 3)) = 0 then 17 else 14) [(0, .ref 0), (1, .int (nI 0)), (2, .int i), (3, .int (nI 3)), (4, .int j), (5, .int n)] [] μ0 rfl trivial ?_
  rw [if_pos (zb_n (yin (by omega) (by decide)))]
  by_cases hs : H.1 0 = false
  · refine zq_go zt_X8_copy 11 [vp_in (nI 0) 4, vp_in (nI 3) 4] 35 [(0, .ref 0), (1, .int (nI 0)), (2, .int i), (3, .int (nI 3)), (4, .int j), (5, .int n), (6, .ref 25), (7, .ref 31)] [.ref 25] μ0 rfl ⟨zn_in rfl (by decide) (by decide), ⟨zn_in rfl (by decide) (by decide), trivial⟩⟩ ?_
    refine zq_call zt_X8_copy [.ref 25] [] (zs_isLostN_0 hs hC) rfl rfl ?_
    rintro _ _ ⟨rfl, rfl⟩
    refine zq_go zt_X8_copy 1 [] (if ¬ (nI 1) = 0 then 49 else 41) [(0, .ref 0), (1, .int (nI 0)), (2, .int i), (3, .int (nI 3)), (4, .int j), (5, .int n), (6, .ref 25), (7, .ref 31)] [] μ0 rfl trivial ?_
    rw [if_pos (by decide)]
    refine zq_go zt_X8_copy 2 [] 51 [(0, .ref 0), (1, .int (nI 0)), (2, .int i), (3, .int (nI 3)), (4, .int j), (5, .int n), (6, .ref 25), (7, .ref 31)] [.int (nI 1), .ref 0] μ0 rfl trivial ?_
    refine zq_call zt_X8_copy [.ref 0, .int (nI 1)] [] (zs_refuse 1 hC) rfl rfl ?_
    rintro _ μ1 ⟨rfl, hC1, f1⟩
    exact zq_retn zt_X8_copy rfl rfl (⟨rfl, hC1, f1⟩)
  · have ht : H.1 0 = true := by
      cases q : H.1 0
      · exact absurd q hs
      · rfl
    have hu : H.1 3 = false := h.resolve_left hs
    refine zq_go zt_X8_copy 11 [vp_in (nI 0) 4, vp_in (nI 3) 4] 35 [(0, .ref 0), (1, .int (nI 0)), (2, .int i), (3, .int (nI 3)), (4, .int j), (5, .int n), (6, .ref 25), (7, .ref 31)] [.ref 25] μ0 rfl ⟨zn_in rfl (by decide) (by decide), ⟨zn_in rfl (by decide) (by decide), trivial⟩⟩ ?_
    refine zq_call zt_X8_copy [.ref 25] [] (zs_isLost_0 ht hC) rfl rfl ?_
    rintro _ _ ⟨rfl, rfl⟩
    refine zq_go zt_X8_copy 1 [] (if ¬ (nI 0) = 0 then 49 else 41) [(0, .ref 0), (1, .int (nI 0)), (2, .int i), (3, .int (nI 3)), (4, .int j), (5, .int n), (6, .ref 25), (7, .ref 31)] [] μ0 rfl trivial ?_
    rw [if_neg (by decide)]
    refine zq_go zt_X8_copy 1 [] 43 [(0, .ref 0), (1, .int (nI 0)), (2, .int i), (3, .int (nI 3)), (4, .int j), (5, .int n), (6, .ref 25), (7, .ref 31)] [.ref 31] μ0 rfl trivial ?_
    refine zq_call zt_X8_copy [.ref 31] [] (zs_isLostN_3 hu hC) rfl rfl ?_
    rintro _ _ ⟨rfl, rfl⟩
    refine zq_go zt_X8_copy 1 [] (if (nI 1) = 0 then 55 else 49) [(0, .ref 0), (1, .int (nI 0)), (2, .int i), (3, .int (nI 3)), (4, .int j), (5, .int n), (6, .ref 25), (7, .ref 31)] [] μ0 rfl trivial ?_
    rw [if_neg (by decide)]
    refine zq_go zt_X8_copy 2 [] 51 [(0, .ref 0), (1, .int (nI 0)), (2, .int i), (3, .int (nI 3)), (4, .int j), (5, .int n), (6, .ref 25), (7, .ref 31)] [.int (nI 1), .ref 0] μ0 rfl trivial ?_
    refine zq_call zt_X8_copy [.ref 0, .int (nI 1)] [] (zs_refuse 1 hC) rfl rfl ?_
    rintro _ μ1 ⟨rfl, hC1, f1⟩
    exact zq_retn zt_X8_copy rfl rfl (⟨rfl, hC1, f1⟩)
set_option maxRecDepth 100000 in
set_option maxHeartbeats 400000 in
theorem zs_copy_l_1_0 {τ : zTd} {S : zES} {H : zSH} {μ0 : zq_Me} (h : H.1 1 = false ∨ H.1 0 = false) (i j n : Int32) (hC : zIc τ S H μ0) : zq_Wp zn_X8_copy 0 [(0, .ref 0), (1, .int (nI 1)), (2, .int i), (3, .int (nI 0)), (4, .int j), (5, .int n)] [] μ0 (zRc (.int (-10 - nI 1)) τ S (yhf H (nI 1)) μ0) := by
  refine zq_go zt_X8_copy 1 [] 1 [(0, .ref 0), (1, .int (nI 1)), (2, .int i), (3, .int (nI 0)), (4, .int j), (5, .int n)] [.int (nI 1)] μ0 rfl trivial ?_
  refine zq_call zt_X8_copy [.int (nI 1)] [] (zs_isSheet (nI 1) μ0) rfl rfl ?_
  rintro _ _ ⟨rfl, rfl⟩
  refine zq_go zt_X8_copy 1 [] (if (zb (0 ≤ nI 1 ∧ nI 1 ≤ nI 3)) = 0 then 14 else 7) [(0, .ref 0), (1, .int (nI 1)), (2, .int i), (3, .int (nI 0)), (4, .int j), (5, .int n)] [] μ0 rfl trivial ?_
  rw [if_neg (zb_n (yin (by omega) (by decide)))]
  refine zq_go zt_X8_copy 1 [] 8 [(0, .ref 0), (1, .int (nI 1)), (2, .int i), (3, .int (nI 0)), (4, .int j), (5, .int n)] [.int (nI 0)] μ0 rfl trivial ?_
  refine zq_call zt_X8_copy [.int (nI 0)] [] (zs_isSheet (nI 0) μ0) rfl rfl ?_
  rintro _ _ ⟨rfl, rfl⟩
  refine zq_go zt_X8_copy 1 [] (if ¬ (zb (0 ≤ nI 0 ∧ nI 0 ≤ nI 3)) = 0 then 17 else 14) [(0, .ref 0), (1, .int (nI 1)), (2, .int i), (3, .int (nI 0)), (4, .int j), (5, .int n)] [] μ0 rfl trivial ?_
  rw [if_pos (zb_n (yin (by omega) (by decide)))]
  by_cases hs : H.1 1 = false
  · refine zq_go zt_X8_copy 11 [vp_in (nI 1) 4, vp_in (nI 0) 4] 35 [(0, .ref 0), (1, .int (nI 1)), (2, .int i), (3, .int (nI 0)), (4, .int j), (5, .int n), (6, .ref 27), (7, .ref 25)] [.ref 27] μ0 rfl ⟨zn_in rfl (by decide) (by decide), ⟨zn_in rfl (by decide) (by decide), trivial⟩⟩ ?_
    refine zq_call zt_X8_copy [.ref 27] [] (zs_isLostN_1 hs hC) rfl rfl ?_
    rintro _ _ ⟨rfl, rfl⟩
    refine zq_go zt_X8_copy 1 [] (if ¬ (nI 1) = 0 then 49 else 41) [(0, .ref 0), (1, .int (nI 1)), (2, .int i), (3, .int (nI 0)), (4, .int j), (5, .int n), (6, .ref 27), (7, .ref 25)] [] μ0 rfl trivial ?_
    rw [if_pos (by decide)]
    refine zq_go zt_X8_copy 2 [] 51 [(0, .ref 0), (1, .int (nI 1)), (2, .int i), (3, .int (nI 0)), (4, .int j), (5, .int n), (6, .ref 27), (7, .ref 25)] [.int (nI 1), .ref 0] μ0 rfl trivial ?_
    refine zq_call zt_X8_copy [.ref 0, .int (nI 1)] [] (zs_refuse 1 hC) rfl rfl ?_
    rintro _ μ1 ⟨rfl, hC1, f1⟩
    exact zq_retn zt_X8_copy rfl rfl (⟨rfl, hC1, f1⟩)
  · have ht : H.1 1 = true := by
      cases q : H.1 1
      · exact absurd q hs
      · rfl
    have hu : H.1 0 = false := h.resolve_left hs
    refine zq_go zt_X8_copy 11 [vp_in (nI 1) 4, vp_in (nI 0) 4] 35 [(0, .ref 0), (1, .int (nI 1)), (2, .int i), (3, .int (nI 0)), (4, .int j), (5, .int n), (6, .ref 27), (7, .ref 25)] [.ref 27] μ0 rfl ⟨zn_in rfl (by decide) (by decide), ⟨zn_in rfl (by decide) (by decide), trivial⟩⟩ ?_
    refine zq_call zt_X8_copy [.ref 27] [] (zs_isLost_1 ht hC) rfl rfl ?_
    rintro _ _ ⟨rfl, rfl⟩
    refine zq_go zt_X8_copy 1 [] (if ¬ (nI 0) = 0 then 49 else 41) [(0, .ref 0), (1, .int (nI 1)), (2, .int i), (3, .int (nI 0)), (4, .int j), (5, .int n), (6, .ref 27), (7, .ref 25)] [] μ0 rfl trivial ?_
    rw [if_neg (by decide)]
    refine zq_go zt_X8_copy 1 [] 43 [(0, .ref 0), (1, .int (nI 1)), (2, .int i), (3, .int (nI 0)), (4, .int j), (5, .int n), (6, .ref 27), (7, .ref 25)] [.ref 25] μ0 rfl trivial ?_
    refine zq_call zt_X8_copy [.ref 25] [] (zs_isLostN_0 hu hC) rfl rfl ?_
    rintro _ _ ⟨rfl, rfl⟩
    refine zq_go zt_X8_copy 1 [] (if (nI 1) = 0 then 55 else 49) [(0, .ref 0), (1, .int (nI 1)), (2, .int i), (3, .int (nI 0)), (4, .int j), (5, .int n), (6, .ref 27), (7, .ref 25)] [] μ0 rfl trivial ?_
    rw [if_neg (by decide)]
    refine zq_go zt_X8_copy 2 [] 51 [(0, .ref 0), (1, .int (nI 1)), (2, .int i), (3, .int (nI 0)), (4, .int j), (5, .int n), (6, .ref 27), (7, .ref 25)] [.int (nI 1), .ref 0] μ0 rfl trivial ?_
    refine zq_call zt_X8_copy [.ref 0, .int (nI 1)] [] (zs_refuse 1 hC) rfl rfl ?_
    rintro _ μ1 ⟨rfl, hC1, f1⟩
    exact zq_retn zt_X8_copy rfl rfl (⟨rfl, hC1, f1⟩)
set_option maxRecDepth 100000 in
set_option maxHeartbeats 400000 in
theorem zs_copy_l_1_1 {τ : zTd} {S : zES} {H : zSH} {μ0 : zq_Me} (h : H.1 1 = false ∨ H.1 1 = false) (i j n : Int32) (hC : zIc τ S H μ0) : zq_Wp zn_X8_copy 0 [(0, .ref 0), (1, .int (nI 1)), (2, .int i), (3, .int (nI 1)), (4, .int j), (5, .int n)] [] μ0 (zRc (.int (-10 - nI 1)) τ S (yhf H (nI 1)) μ0) := by
  refine zq_go zt_X8_copy 1 [] 1 [(0, .ref 0), (1, .int (nI 1)), (2, .int i), (3, .int (nI 1)), (4, .int j), (5, .int n)] [.int (nI 1)] μ0 rfl trivial ?_
  refine zq_call zt_X8_copy [.int (nI 1)] [] (zs_isSheet (nI 1) μ0) rfl rfl ?_
  rintro _ _ ⟨rfl, rfl⟩
  refine zq_go zt_X8_copy 1 [] (if (zb (0 ≤ nI 1 ∧ nI 1 ≤ nI 3)) = 0 then 14 else 7) [(0, .ref 0), (1, .int (nI 1)), (2, .int i), (3, .int (nI 1)), (4, .int j), (5, .int n)] [] μ0 rfl trivial ?_
  rw [if_neg (zb_n (yin (by omega) (by decide)))]
  refine zq_go zt_X8_copy 1 [] 8 [(0, .ref 0), (1, .int (nI 1)), (2, .int i), (3, .int (nI 1)), (4, .int j), (5, .int n)] [.int (nI 1)] μ0 rfl trivial ?_
  refine zq_call zt_X8_copy [.int (nI 1)] [] (zs_isSheet (nI 1) μ0) rfl rfl ?_
  rintro _ _ ⟨rfl, rfl⟩
  refine zq_go zt_X8_copy 1 [] (if ¬ (zb (0 ≤ nI 1 ∧ nI 1 ≤ nI 3)) = 0 then 17 else 14) [(0, .ref 0), (1, .int (nI 1)), (2, .int i), (3, .int (nI 1)), (4, .int j), (5, .int n)] [] μ0 rfl trivial ?_
  rw [if_pos (zb_n (yin (by omega) (by decide)))]
  by_cases hs : H.1 1 = false
  · refine zq_go zt_X8_copy 11 [vp_in (nI 1) 4, vp_in (nI 1) 4] 35 [(0, .ref 0), (1, .int (nI 1)), (2, .int i), (3, .int (nI 1)), (4, .int j), (5, .int n), (6, .ref 27), (7, .ref 27)] [.ref 27] μ0 rfl ⟨zn_in rfl (by decide) (by decide), ⟨zn_in rfl (by decide) (by decide), trivial⟩⟩ ?_
    refine zq_call zt_X8_copy [.ref 27] [] (zs_isLostN_1 hs hC) rfl rfl ?_
    rintro _ _ ⟨rfl, rfl⟩
    refine zq_go zt_X8_copy 1 [] (if ¬ (nI 1) = 0 then 49 else 41) [(0, .ref 0), (1, .int (nI 1)), (2, .int i), (3, .int (nI 1)), (4, .int j), (5, .int n), (6, .ref 27), (7, .ref 27)] [] μ0 rfl trivial ?_
    rw [if_pos (by decide)]
    refine zq_go zt_X8_copy 2 [] 51 [(0, .ref 0), (1, .int (nI 1)), (2, .int i), (3, .int (nI 1)), (4, .int j), (5, .int n), (6, .ref 27), (7, .ref 27)] [.int (nI 1), .ref 0] μ0 rfl trivial ?_
    refine zq_call zt_X8_copy [.ref 0, .int (nI 1)] [] (zs_refuse 1 hC) rfl rfl ?_
    rintro _ μ1 ⟨rfl, hC1, f1⟩
    exact zq_retn zt_X8_copy rfl rfl (⟨rfl, hC1, f1⟩)
  · have ht : H.1 1 = true := by
      cases q : H.1 1
      · exact absurd q hs
      · rfl
    have hu : H.1 1 = false := h.resolve_left hs
    refine zq_go zt_X8_copy 11 [vp_in (nI 1) 4, vp_in (nI 1) 4] 35 [(0, .ref 0), (1, .int (nI 1)), (2, .int i), (3, .int (nI 1)), (4, .int j), (5, .int n), (6, .ref 27), (7, .ref 27)] [.ref 27] μ0 rfl ⟨zn_in rfl (by decide) (by decide), ⟨zn_in rfl (by decide) (by decide), trivial⟩⟩ ?_
    refine zq_call zt_X8_copy [.ref 27] [] (zs_isLost_1 ht hC) rfl rfl ?_
    rintro _ _ ⟨rfl, rfl⟩
    refine zq_go zt_X8_copy 1 [] (if ¬ (nI 0) = 0 then 49 else 41) [(0, .ref 0), (1, .int (nI 1)), (2, .int i), (3, .int (nI 1)), (4, .int j), (5, .int n), (6, .ref 27), (7, .ref 27)] [] μ0 rfl trivial ?_
    rw [if_neg (by decide)]
    refine zq_go zt_X8_copy 1 [] 43 [(0, .ref 0), (1, .int (nI 1)), (2, .int i), (3, .int (nI 1)), (4, .int j), (5, .int n), (6, .ref 27), (7, .ref 27)] [.ref 27] μ0 rfl trivial ?_
    refine zq_call zt_X8_copy [.ref 27] [] (zs_isLostN_1 hu hC) rfl rfl ?_
    rintro _ _ ⟨rfl, rfl⟩
    refine zq_go zt_X8_copy 1 [] (if (nI 1) = 0 then 55 else 49) [(0, .ref 0), (1, .int (nI 1)), (2, .int i), (3, .int (nI 1)), (4, .int j), (5, .int n), (6, .ref 27), (7, .ref 27)] [] μ0 rfl trivial ?_
    rw [if_neg (by decide)]
    refine zq_go zt_X8_copy 2 [] 51 [(0, .ref 0), (1, .int (nI 1)), (2, .int i), (3, .int (nI 1)), (4, .int j), (5, .int n), (6, .ref 27), (7, .ref 27)] [.int (nI 1), .ref 0] μ0 rfl trivial ?_
    refine zq_call zt_X8_copy [.ref 0, .int (nI 1)] [] (zs_refuse 1 hC) rfl rfl ?_
    rintro _ μ1 ⟨rfl, hC1, f1⟩
    exact zq_retn zt_X8_copy rfl rfl (⟨rfl, hC1, f1⟩)
set_option maxRecDepth 100000 in
set_option maxHeartbeats 400000 in
theorem zs_copy_l_1_2 {τ : zTd} {S : zES} {H : zSH} {μ0 : zq_Me} (h : H.1 1 = false ∨ H.1 2 = false) (i j n : Int32) (hC : zIc τ S H μ0) : zq_Wp zn_X8_copy 0 [(0, .ref 0), (1, .int (nI 1)), (2, .int i), (3, .int (nI 2)), (4, .int j), (5, .int n)] [] μ0 (zRc (.int (-10 - nI 1)) τ S (yhf H (nI 1)) μ0) := by
  refine zq_go zt_X8_copy 1 [] 1 [(0, .ref 0), (1, .int (nI 1)), (2, .int i), (3, .int (nI 2)), (4, .int j), (5, .int n)] [.int (nI 1)] μ0 rfl trivial ?_
  refine zq_call zt_X8_copy [.int (nI 1)] [] (zs_isSheet (nI 1) μ0) rfl rfl ?_
  rintro _ _ ⟨rfl, rfl⟩
  refine zq_go zt_X8_copy 1 [] (if (zb (0 ≤ nI 1 ∧ nI 1 ≤ nI 3)) = 0 then 14 else 7) [(0, .ref 0), (1, .int (nI 1)), (2, .int i), (3, .int (nI 2)), (4, .int j), (5, .int n)] [] μ0 rfl trivial ?_
  rw [if_neg (zb_n (yin (by omega) (by decide)))]
  refine zq_go zt_X8_copy 1 [] 8 [(0, .ref 0), (1, .int (nI 1)), (2, .int i), (3, .int (nI 2)), (4, .int j), (5, .int n)] [.int (nI 2)] μ0 rfl trivial ?_
  refine zq_call zt_X8_copy [.int (nI 2)] [] (zs_isSheet (nI 2) μ0) rfl rfl ?_
  rintro _ _ ⟨rfl, rfl⟩
  refine zq_go zt_X8_copy 1 [] (if ¬ (zb (0 ≤ nI 2 ∧ nI 2 ≤ nI 3)) = 0 then 17 else 14) [(0, .ref 0), (1, .int (nI 1)), (2, .int i), (3, .int (nI 2)), (4, .int j), (5, .int n)] [] μ0 rfl trivial ?_
  rw [if_pos (zb_n (yin (by omega) (by decide)))]
  by_cases hs : H.1 1 = false
  · refine zq_go zt_X8_copy 11 [vp_in (nI 1) 4, vp_in (nI 2) 4] 35 [(0, .ref 0), (1, .int (nI 1)), (2, .int i), (3, .int (nI 2)), (4, .int j), (5, .int n), (6, .ref 27), (7, .ref 29)] [.ref 27] μ0 rfl ⟨zn_in rfl (by decide) (by decide), ⟨zn_in rfl (by decide) (by decide), trivial⟩⟩ ?_
    refine zq_call zt_X8_copy [.ref 27] [] (zs_isLostN_1 hs hC) rfl rfl ?_
    rintro _ _ ⟨rfl, rfl⟩
    refine zq_go zt_X8_copy 1 [] (if ¬ (nI 1) = 0 then 49 else 41) [(0, .ref 0), (1, .int (nI 1)), (2, .int i), (3, .int (nI 2)), (4, .int j), (5, .int n), (6, .ref 27), (7, .ref 29)] [] μ0 rfl trivial ?_
    rw [if_pos (by decide)]
    refine zq_go zt_X8_copy 2 [] 51 [(0, .ref 0), (1, .int (nI 1)), (2, .int i), (3, .int (nI 2)), (4, .int j), (5, .int n), (6, .ref 27), (7, .ref 29)] [.int (nI 1), .ref 0] μ0 rfl trivial ?_
    refine zq_call zt_X8_copy [.ref 0, .int (nI 1)] [] (zs_refuse 1 hC) rfl rfl ?_
    rintro _ μ1 ⟨rfl, hC1, f1⟩
    exact zq_retn zt_X8_copy rfl rfl (⟨rfl, hC1, f1⟩)
  · have ht : H.1 1 = true := by
      cases q : H.1 1
      · exact absurd q hs
      · rfl
    have hu : H.1 2 = false := h.resolve_left hs
    refine zq_go zt_X8_copy 11 [vp_in (nI 1) 4, vp_in (nI 2) 4] 35 [(0, .ref 0), (1, .int (nI 1)), (2, .int i), (3, .int (nI 2)), (4, .int j), (5, .int n), (6, .ref 27), (7, .ref 29)] [.ref 27] μ0 rfl ⟨zn_in rfl (by decide) (by decide), ⟨zn_in rfl (by decide) (by decide), trivial⟩⟩ ?_
    refine zq_call zt_X8_copy [.ref 27] [] (zs_isLost_1 ht hC) rfl rfl ?_
    rintro _ _ ⟨rfl, rfl⟩
    refine zq_go zt_X8_copy 1 [] (if ¬ (nI 0) = 0 then 49 else 41) [(0, .ref 0), (1, .int (nI 1)), (2, .int i), (3, .int (nI 2)), (4, .int j), (5, .int n), (6, .ref 27), (7, .ref 29)] [] μ0 rfl trivial ?_
    rw [if_neg (by decide)]
    refine zq_go zt_X8_copy 1 [] 43 [(0, .ref 0), (1, .int (nI 1)), (2, .int i), (3, .int (nI 2)), (4, .int j), (5, .int n), (6, .ref 27), (7, .ref 29)] [.ref 29] μ0 rfl trivial ?_
    refine zq_call zt_X8_copy [.ref 29] [] (zs_isLostN_2 hu hC) rfl rfl ?_
    rintro _ _ ⟨rfl, rfl⟩
    refine zq_go zt_X8_copy 1 [] (if (nI 1) = 0 then 55 else 49) [(0, .ref 0), (1, .int (nI 1)), (2, .int i), (3, .int (nI 2)), (4, .int j), (5, .int n), (6, .ref 27), (7, .ref 29)] [] μ0 rfl trivial ?_
    rw [if_neg (by decide)]
    refine zq_go zt_X8_copy 2 [] 51 [(0, .ref 0), (1, .int (nI 1)), (2, .int i), (3, .int (nI 2)), (4, .int j), (5, .int n), (6, .ref 27), (7, .ref 29)] [.int (nI 1), .ref 0] μ0 rfl trivial ?_
    refine zq_call zt_X8_copy [.ref 0, .int (nI 1)] [] (zs_refuse 1 hC) rfl rfl ?_
    rintro _ μ1 ⟨rfl, hC1, f1⟩
    exact zq_retn zt_X8_copy rfl rfl (⟨rfl, hC1, f1⟩)
set_option maxRecDepth 100000 in
set_option maxHeartbeats 400000 in
theorem zs_copy_l_1_3 {τ : zTd} {S : zES} {H : zSH} {μ0 : zq_Me} (h : H.1 1 = false ∨ H.1 3 = false) (i j n : Int32) (hC : zIc τ S H μ0) : zq_Wp zn_X8_copy 0 [(0, .ref 0), (1, .int (nI 1)), (2, .int i), (3, .int (nI 3)), (4, .int j), (5, .int n)] [] μ0 (zRc (.int (-10 - nI 1)) τ S (yhf H (nI 1)) μ0) := by
  refine zq_go zt_X8_copy 1 [] 1 [(0, .ref 0), (1, .int (nI 1)), (2, .int i), (3, .int (nI 3)), (4, .int j), (5, .int n)] [.int (nI 1)] μ0 rfl trivial ?_
  refine zq_call zt_X8_copy [.int (nI 1)] [] (zs_isSheet (nI 1) μ0) rfl rfl ?_
  rintro _ _ ⟨rfl, rfl⟩
  refine zq_go zt_X8_copy 1 [] (if (zb (0 ≤ nI 1 ∧ nI 1 ≤ nI 3)) = 0 then 14 else 7) [(0, .ref 0), (1, .int (nI 1)), (2, .int i), (3, .int (nI 3)), (4, .int j), (5, .int n)] [] μ0 rfl trivial ?_
  rw [if_neg (zb_n (yin (by omega) (by decide)))]
  refine zq_go zt_X8_copy 1 [] 8 [(0, .ref 0), (1, .int (nI 1)), (2, .int i), (3, .int (nI 3)), (4, .int j), (5, .int n)] [.int (nI 3)] μ0 rfl trivial ?_
  refine zq_call zt_X8_copy [.int (nI 3)] [] (zs_isSheet (nI 3) μ0) rfl rfl ?_
  rintro _ _ ⟨rfl, rfl⟩
  refine zq_go zt_X8_copy 1 [] (if ¬ (zb (0 ≤ nI 3 ∧ nI 3 ≤ nI 3)) = 0 then 17 else 14) [(0, .ref 0), (1, .int (nI 1)), (2, .int i), (3, .int (nI 3)), (4, .int j), (5, .int n)] [] μ0 rfl trivial ?_
  rw [if_pos (zb_n (yin (by omega) (by decide)))]
  by_cases hs : H.1 1 = false
  · refine zq_go zt_X8_copy 11 [vp_in (nI 1) 4, vp_in (nI 3) 4] 35 [(0, .ref 0), (1, .int (nI 1)), (2, .int i), (3, .int (nI 3)), (4, .int j), (5, .int n), (6, .ref 27), (7, .ref 31)] [.ref 27] μ0 rfl ⟨zn_in rfl (by decide) (by decide), ⟨zn_in rfl (by decide) (by decide), trivial⟩⟩ ?_
    refine zq_call zt_X8_copy [.ref 27] [] (zs_isLostN_1 hs hC) rfl rfl ?_
    rintro _ _ ⟨rfl, rfl⟩
    refine zq_go zt_X8_copy 1 [] (if ¬ (nI 1) = 0 then 49 else 41) [(0, .ref 0), (1, .int (nI 1)), (2, .int i), (3, .int (nI 3)), (4, .int j), (5, .int n), (6, .ref 27), (7, .ref 31)] [] μ0 rfl trivial ?_
    rw [if_pos (by decide)]
    refine zq_go zt_X8_copy 2 [] 51 [(0, .ref 0), (1, .int (nI 1)), (2, .int i), (3, .int (nI 3)), (4, .int j), (5, .int n), (6, .ref 27), (7, .ref 31)] [.int (nI 1), .ref 0] μ0 rfl trivial ?_
    refine zq_call zt_X8_copy [.ref 0, .int (nI 1)] [] (zs_refuse 1 hC) rfl rfl ?_
    rintro _ μ1 ⟨rfl, hC1, f1⟩
    exact zq_retn zt_X8_copy rfl rfl (⟨rfl, hC1, f1⟩)
  · have ht : H.1 1 = true := by
      cases q : H.1 1
      · exact absurd q hs
      · rfl
    have hu : H.1 3 = false := h.resolve_left hs
    refine zq_go zt_X8_copy 11 [vp_in (nI 1) 4, vp_in (nI 3) 4] 35 [(0, .ref 0), (1, .int (nI 1)), (2, .int i), (3, .int (nI 3)), (4, .int j), (5, .int n), (6, .ref 27), (7, .ref 31)] [.ref 27] μ0 rfl ⟨zn_in rfl (by decide) (by decide), ⟨zn_in rfl (by decide) (by decide), trivial⟩⟩ ?_
    refine zq_call zt_X8_copy [.ref 27] [] (zs_isLost_1 ht hC) rfl rfl ?_
    rintro _ _ ⟨rfl, rfl⟩
    refine zq_go zt_X8_copy 1 [] (if ¬ (nI 0) = 0 then 49 else 41) [(0, .ref 0), (1, .int (nI 1)), (2, .int i), (3, .int (nI 3)), (4, .int j), (5, .int n), (6, .ref 27), (7, .ref 31)] [] μ0 rfl trivial ?_
    rw [if_neg (by decide)]
    refine zq_go zt_X8_copy 1 [] 43 [(0, .ref 0), (1, .int (nI 1)), (2, .int i), (3, .int (nI 3)), (4, .int j), (5, .int n), (6, .ref 27), (7, .ref 31)] [.ref 31] μ0 rfl trivial ?_
    refine zq_call zt_X8_copy [.ref 31] [] (zs_isLostN_3 hu hC) rfl rfl ?_
    rintro _ _ ⟨rfl, rfl⟩
    refine zq_go zt_X8_copy 1 [] (if (nI 1) = 0 then 55 else 49) [(0, .ref 0), (1, .int (nI 1)), (2, .int i), (3, .int (nI 3)), (4, .int j), (5, .int n), (6, .ref 27), (7, .ref 31)] [] μ0 rfl trivial ?_
    rw [if_neg (by decide)]
    refine zq_go zt_X8_copy 2 [] 51 [(0, .ref 0), (1, .int (nI 1)), (2, .int i), (3, .int (nI 3)), (4, .int j), (5, .int n), (6, .ref 27), (7, .ref 31)] [.int (nI 1), .ref 0] μ0 rfl trivial ?_
    refine zq_call zt_X8_copy [.ref 0, .int (nI 1)] [] (zs_refuse 1 hC) rfl rfl ?_
    rintro _ μ1 ⟨rfl, hC1, f1⟩
    exact zq_retn zt_X8_copy rfl rfl (⟨rfl, hC1, f1⟩)
set_option maxRecDepth 100000 in
set_option maxHeartbeats 400000 in
theorem zs_copy_l_2_0 {τ : zTd} {S : zES} {H : zSH} {μ0 : zq_Me} (h : H.1 2 = false ∨ H.1 0 = false) (i j n : Int32) (hC : zIc τ S H μ0) : zq_Wp zn_X8_copy 0 [(0, .ref 0), (1, .int (nI 2)), (2, .int i), (3, .int (nI 0)), (4, .int j), (5, .int n)] [] μ0 (zRc (.int (-10 - nI 1)) τ S (yhf H (nI 1)) μ0) := by
  refine zq_go zt_X8_copy 1 [] 1 [(0, .ref 0), (1, .int (nI 2)), (2, .int i), (3, .int (nI 0)), (4, .int j), (5, .int n)] [.int (nI 2)] μ0 rfl trivial ?_
  refine zq_call zt_X8_copy [.int (nI 2)] [] (zs_isSheet (nI 2) μ0) rfl rfl ?_
  rintro _ _ ⟨rfl, rfl⟩
  refine zq_go zt_X8_copy 1 [] (if (zb (0 ≤ nI 2 ∧ nI 2 ≤ nI 3)) = 0 then 14 else 7) [(0, .ref 0), (1, .int (nI 2)), (2, .int i), (3, .int (nI 0)), (4, .int j), (5, .int n)] [] μ0 rfl trivial ?_
  rw [if_neg (zb_n (yin (by omega) (by decide)))]
  refine zq_go zt_X8_copy 1 [] 8 [(0, .ref 0), (1, .int (nI 2)), (2, .int i), (3, .int (nI 0)), (4, .int j), (5, .int n)] [.int (nI 0)] μ0 rfl trivial ?_
  refine zq_call zt_X8_copy [.int (nI 0)] [] (zs_isSheet (nI 0) μ0) rfl rfl ?_
  rintro _ _ ⟨rfl, rfl⟩
  refine zq_go zt_X8_copy 1 [] (if ¬ (zb (0 ≤ nI 0 ∧ nI 0 ≤ nI 3)) = 0 then 17 else 14) [(0, .ref 0), (1, .int (nI 2)), (2, .int i), (3, .int (nI 0)), (4, .int j), (5, .int n)] [] μ0 rfl trivial ?_
  rw [if_pos (zb_n (yin (by omega) (by decide)))]
  by_cases hs : H.1 2 = false
  · refine zq_go zt_X8_copy 11 [vp_in (nI 2) 4, vp_in (nI 0) 4] 35 [(0, .ref 0), (1, .int (nI 2)), (2, .int i), (3, .int (nI 0)), (4, .int j), (5, .int n), (6, .ref 29), (7, .ref 25)] [.ref 29] μ0 rfl ⟨zn_in rfl (by decide) (by decide), ⟨zn_in rfl (by decide) (by decide), trivial⟩⟩ ?_
    refine zq_call zt_X8_copy [.ref 29] [] (zs_isLostN_2 hs hC) rfl rfl ?_
    rintro _ _ ⟨rfl, rfl⟩
    refine zq_go zt_X8_copy 1 [] (if ¬ (nI 1) = 0 then 49 else 41) [(0, .ref 0), (1, .int (nI 2)), (2, .int i), (3, .int (nI 0)), (4, .int j), (5, .int n), (6, .ref 29), (7, .ref 25)] [] μ0 rfl trivial ?_
    rw [if_pos (by decide)]
    refine zq_go zt_X8_copy 2 [] 51 [(0, .ref 0), (1, .int (nI 2)), (2, .int i), (3, .int (nI 0)), (4, .int j), (5, .int n), (6, .ref 29), (7, .ref 25)] [.int (nI 1), .ref 0] μ0 rfl trivial ?_
    refine zq_call zt_X8_copy [.ref 0, .int (nI 1)] [] (zs_refuse 1 hC) rfl rfl ?_
    rintro _ μ1 ⟨rfl, hC1, f1⟩
    exact zq_retn zt_X8_copy rfl rfl (⟨rfl, hC1, f1⟩)
  · have ht : H.1 2 = true := by
      cases q : H.1 2
      · exact absurd q hs
      · rfl
    have hu : H.1 0 = false := h.resolve_left hs
    refine zq_go zt_X8_copy 11 [vp_in (nI 2) 4, vp_in (nI 0) 4] 35 [(0, .ref 0), (1, .int (nI 2)), (2, .int i), (3, .int (nI 0)), (4, .int j), (5, .int n), (6, .ref 29), (7, .ref 25)] [.ref 29] μ0 rfl ⟨zn_in rfl (by decide) (by decide), ⟨zn_in rfl (by decide) (by decide), trivial⟩⟩ ?_
    refine zq_call zt_X8_copy [.ref 29] [] (zs_isLost_2 ht hC) rfl rfl ?_
    rintro _ _ ⟨rfl, rfl⟩
    refine zq_go zt_X8_copy 1 [] (if ¬ (nI 0) = 0 then 49 else 41) [(0, .ref 0), (1, .int (nI 2)), (2, .int i), (3, .int (nI 0)), (4, .int j), (5, .int n), (6, .ref 29), (7, .ref 25)] [] μ0 rfl trivial ?_
    rw [if_neg (by decide)]
    refine zq_go zt_X8_copy 1 [] 43 [(0, .ref 0), (1, .int (nI 2)), (2, .int i), (3, .int (nI 0)), (4, .int j), (5, .int n), (6, .ref 29), (7, .ref 25)] [.ref 25] μ0 rfl trivial ?_
    refine zq_call zt_X8_copy [.ref 25] [] (zs_isLostN_0 hu hC) rfl rfl ?_
    rintro _ _ ⟨rfl, rfl⟩
    refine zq_go zt_X8_copy 1 [] (if (nI 1) = 0 then 55 else 49) [(0, .ref 0), (1, .int (nI 2)), (2, .int i), (3, .int (nI 0)), (4, .int j), (5, .int n), (6, .ref 29), (7, .ref 25)] [] μ0 rfl trivial ?_
    rw [if_neg (by decide)]
    refine zq_go zt_X8_copy 2 [] 51 [(0, .ref 0), (1, .int (nI 2)), (2, .int i), (3, .int (nI 0)), (4, .int j), (5, .int n), (6, .ref 29), (7, .ref 25)] [.int (nI 1), .ref 0] μ0 rfl trivial ?_
    refine zq_call zt_X8_copy [.ref 0, .int (nI 1)] [] (zs_refuse 1 hC) rfl rfl ?_
    rintro _ μ1 ⟨rfl, hC1, f1⟩
    exact zq_retn zt_X8_copy rfl rfl (⟨rfl, hC1, f1⟩)
set_option maxRecDepth 100000 in
set_option maxHeartbeats 400000 in
theorem zs_copy_l_2_1 {τ : zTd} {S : zES} {H : zSH} {μ0 : zq_Me} (h : H.1 2 = false ∨ H.1 1 = false) (i j n : Int32) (hC : zIc τ S H μ0) : zq_Wp zn_X8_copy 0 [(0, .ref 0), (1, .int (nI 2)), (2, .int i), (3, .int (nI 1)), (4, .int j), (5, .int n)] [] μ0 (zRc (.int (-10 - nI 1)) τ S (yhf H (nI 1)) μ0) := by
  refine zq_go zt_X8_copy 1 [] 1 [(0, .ref 0), (1, .int (nI 2)), (2, .int i), (3, .int (nI 1)), (4, .int j), (5, .int n)] [.int (nI 2)] μ0 rfl trivial ?_
  refine zq_call zt_X8_copy [.int (nI 2)] [] (zs_isSheet (nI 2) μ0) rfl rfl ?_
  rintro _ _ ⟨rfl, rfl⟩
  refine zq_go zt_X8_copy 1 [] (if (zb (0 ≤ nI 2 ∧ nI 2 ≤ nI 3)) = 0 then 14 else 7) [(0, .ref 0), (1, .int (nI 2)), (2, .int i), (3, .int (nI 1)), (4, .int j), (5, .int n)] [] μ0 rfl trivial ?_
  rw [if_neg (zb_n (yin (by omega) (by decide)))]
  refine zq_go zt_X8_copy 1 [] 8 [(0, .ref 0), (1, .int (nI 2)), (2, .int i), (3, .int (nI 1)), (4, .int j), (5, .int n)] [.int (nI 1)] μ0 rfl trivial ?_
  refine zq_call zt_X8_copy [.int (nI 1)] [] (zs_isSheet (nI 1) μ0) rfl rfl ?_
  rintro _ _ ⟨rfl, rfl⟩
  refine zq_go zt_X8_copy 1 [] (if ¬ (zb (0 ≤ nI 1 ∧ nI 1 ≤ nI 3)) = 0 then 17 else 14) [(0, .ref 0), (1, .int (nI 2)), (2, .int i), (3, .int (nI 1)), (4, .int j), (5, .int n)] [] μ0 rfl trivial ?_
  rw [if_pos (zb_n (yin (by omega) (by decide)))]
  by_cases hs : H.1 2 = false
  · refine zq_go zt_X8_copy 11 [vp_in (nI 2) 4, vp_in (nI 1) 4] 35 [(0, .ref 0), (1, .int (nI 2)), (2, .int i), (3, .int (nI 1)), (4, .int j), (5, .int n), (6, .ref 29), (7, .ref 27)] [.ref 29] μ0 rfl ⟨zn_in rfl (by decide) (by decide), ⟨zn_in rfl (by decide) (by decide), trivial⟩⟩ ?_
    refine zq_call zt_X8_copy [.ref 29] [] (zs_isLostN_2 hs hC) rfl rfl ?_
    rintro _ _ ⟨rfl, rfl⟩
    refine zq_go zt_X8_copy 1 [] (if ¬ (nI 1) = 0 then 49 else 41) [(0, .ref 0), (1, .int (nI 2)), (2, .int i), (3, .int (nI 1)), (4, .int j), (5, .int n), (6, .ref 29), (7, .ref 27)] [] μ0 rfl trivial ?_
    rw [if_pos (by decide)]
    refine zq_go zt_X8_copy 2 [] 51 [(0, .ref 0), (1, .int (nI 2)), (2, .int i), (3, .int (nI 1)), (4, .int j), (5, .int n), (6, .ref 29), (7, .ref 27)] [.int (nI 1), .ref 0] μ0 rfl trivial ?_
    refine zq_call zt_X8_copy [.ref 0, .int (nI 1)] [] (zs_refuse 1 hC) rfl rfl ?_
    rintro _ μ1 ⟨rfl, hC1, f1⟩
    exact zq_retn zt_X8_copy rfl rfl (⟨rfl, hC1, f1⟩)
  · have ht : H.1 2 = true := by
      cases q : H.1 2
      · exact absurd q hs
      · rfl
    have hu : H.1 1 = false := h.resolve_left hs
    refine zq_go zt_X8_copy 11 [vp_in (nI 2) 4, vp_in (nI 1) 4] 35 [(0, .ref 0), (1, .int (nI 2)), (2, .int i), (3, .int (nI 1)), (4, .int j), (5, .int n), (6, .ref 29), (7, .ref 27)] [.ref 29] μ0 rfl ⟨zn_in rfl (by decide) (by decide), ⟨zn_in rfl (by decide) (by decide), trivial⟩⟩ ?_
    refine zq_call zt_X8_copy [.ref 29] [] (zs_isLost_2 ht hC) rfl rfl ?_
    rintro _ _ ⟨rfl, rfl⟩
    refine zq_go zt_X8_copy 1 [] (if ¬ (nI 0) = 0 then 49 else 41) [(0, .ref 0), (1, .int (nI 2)), (2, .int i), (3, .int (nI 1)), (4, .int j), (5, .int n), (6, .ref 29), (7, .ref 27)] [] μ0 rfl trivial ?_
    rw [if_neg (by decide)]
    refine zq_go zt_X8_copy 1 [] 43 [(0, .ref 0), (1, .int (nI 2)), (2, .int i), (3, .int (nI 1)), (4, .int j), (5, .int n), (6, .ref 29), (7, .ref 27)] [.ref 27] μ0 rfl trivial ?_
    refine zq_call zt_X8_copy [.ref 27] [] (zs_isLostN_1 hu hC) rfl rfl ?_
    rintro _ _ ⟨rfl, rfl⟩
    refine zq_go zt_X8_copy 1 [] (if (nI 1) = 0 then 55 else 49) [(0, .ref 0), (1, .int (nI 2)), (2, .int i), (3, .int (nI 1)), (4, .int j), (5, .int n), (6, .ref 29), (7, .ref 27)] [] μ0 rfl trivial ?_
    rw [if_neg (by decide)]
    refine zq_go zt_X8_copy 2 [] 51 [(0, .ref 0), (1, .int (nI 2)), (2, .int i), (3, .int (nI 1)), (4, .int j), (5, .int n), (6, .ref 29), (7, .ref 27)] [.int (nI 1), .ref 0] μ0 rfl trivial ?_
    refine zq_call zt_X8_copy [.ref 0, .int (nI 1)] [] (zs_refuse 1 hC) rfl rfl ?_
    rintro _ μ1 ⟨rfl, hC1, f1⟩
    exact zq_retn zt_X8_copy rfl rfl (⟨rfl, hC1, f1⟩)
set_option maxRecDepth 100000 in
set_option maxHeartbeats 400000 in
theorem zs_copy_l_2_2 {τ : zTd} {S : zES} {H : zSH} {μ0 : zq_Me} (h : H.1 2 = false ∨ H.1 2 = false) (i j n : Int32) (hC : zIc τ S H μ0) : zq_Wp zn_X8_copy 0 [(0, .ref 0), (1, .int (nI 2)), (2, .int i), (3, .int (nI 2)), (4, .int j), (5, .int n)] [] μ0 (zRc (.int (-10 - nI 1)) τ S (yhf H (nI 1)) μ0) := by
  refine zq_go zt_X8_copy 1 [] 1 [(0, .ref 0), (1, .int (nI 2)), (2, .int i), (3, .int (nI 2)), (4, .int j), (5, .int n)] [.int (nI 2)] μ0 rfl trivial ?_
  refine zq_call zt_X8_copy [.int (nI 2)] [] (zs_isSheet (nI 2) μ0) rfl rfl ?_
  rintro _ _ ⟨rfl, rfl⟩
  refine zq_go zt_X8_copy 1 [] (if (zb (0 ≤ nI 2 ∧ nI 2 ≤ nI 3)) = 0 then 14 else 7) [(0, .ref 0), (1, .int (nI 2)), (2, .int i), (3, .int (nI 2)), (4, .int j), (5, .int n)] [] μ0 rfl trivial ?_
  rw [if_neg (zb_n (yin (by omega) (by decide)))]
  refine zq_go zt_X8_copy 1 [] 8 [(0, .ref 0), (1, .int (nI 2)), (2, .int i), (3, .int (nI 2)), (4, .int j), (5, .int n)] [.int (nI 2)] μ0 rfl trivial ?_
  refine zq_call zt_X8_copy [.int (nI 2)] [] (zs_isSheet (nI 2) μ0) rfl rfl ?_
  rintro _ _ ⟨rfl, rfl⟩
  refine zq_go zt_X8_copy 1 [] (if ¬ (zb (0 ≤ nI 2 ∧ nI 2 ≤ nI 3)) = 0 then 17 else 14) [(0, .ref 0), (1, .int (nI 2)), (2, .int i), (3, .int (nI 2)), (4, .int j), (5, .int n)] [] μ0 rfl trivial ?_
  rw [if_pos (zb_n (yin (by omega) (by decide)))]
  by_cases hs : H.1 2 = false
  · refine zq_go zt_X8_copy 11 [vp_in (nI 2) 4, vp_in (nI 2) 4] 35 [(0, .ref 0), (1, .int (nI 2)), (2, .int i), (3, .int (nI 2)), (4, .int j), (5, .int n), (6, .ref 29), (7, .ref 29)] [.ref 29] μ0 rfl ⟨zn_in rfl (by decide) (by decide), ⟨zn_in rfl (by decide) (by decide), trivial⟩⟩ ?_
    refine zq_call zt_X8_copy [.ref 29] [] (zs_isLostN_2 hs hC) rfl rfl ?_
    rintro _ _ ⟨rfl, rfl⟩
    refine zq_go zt_X8_copy 1 [] (if ¬ (nI 1) = 0 then 49 else 41) [(0, .ref 0), (1, .int (nI 2)), (2, .int i), (3, .int (nI 2)), (4, .int j), (5, .int n), (6, .ref 29), (7, .ref 29)] [] μ0 rfl trivial ?_
    rw [if_pos (by decide)]
    refine zq_go zt_X8_copy 2 [] 51 [(0, .ref 0), (1, .int (nI 2)), (2, .int i), (3, .int (nI 2)), (4, .int j), (5, .int n), (6, .ref 29), (7, .ref 29)] [.int (nI 1), .ref 0] μ0 rfl trivial ?_
    refine zq_call zt_X8_copy [.ref 0, .int (nI 1)] [] (zs_refuse 1 hC) rfl rfl ?_
    rintro _ μ1 ⟨rfl, hC1, f1⟩
    exact zq_retn zt_X8_copy rfl rfl (⟨rfl, hC1, f1⟩)
  · have ht : H.1 2 = true := by
      cases q : H.1 2
      · exact absurd q hs
      · rfl
    have hu : H.1 2 = false := h.resolve_left hs
    refine zq_go zt_X8_copy 11 [vp_in (nI 2) 4, vp_in (nI 2) 4] 35 [(0, .ref 0), (1, .int (nI 2)), (2, .int i), (3, .int (nI 2)), (4, .int j), (5, .int n), (6, .ref 29), (7, .ref 29)] [.ref 29] μ0 rfl ⟨zn_in rfl (by decide) (by decide), ⟨zn_in rfl (by decide) (by decide), trivial⟩⟩ ?_
    refine zq_call zt_X8_copy [.ref 29] [] (zs_isLost_2 ht hC) rfl rfl ?_
    rintro _ _ ⟨rfl, rfl⟩
    refine zq_go zt_X8_copy 1 [] (if ¬ (nI 0) = 0 then 49 else 41) [(0, .ref 0), (1, .int (nI 2)), (2, .int i), (3, .int (nI 2)), (4, .int j), (5, .int n), (6, .ref 29), (7, .ref 29)] [] μ0 rfl trivial ?_
    rw [if_neg (by decide)]
    refine zq_go zt_X8_copy 1 [] 43 [(0, .ref 0), (1, .int (nI 2)), (2, .int i), (3, .int (nI 2)), (4, .int j), (5, .int n), (6, .ref 29), (7, .ref 29)] [.ref 29] μ0 rfl trivial ?_
    refine zq_call zt_X8_copy [.ref 29] [] (zs_isLostN_2 hu hC) rfl rfl ?_
    rintro _ _ ⟨rfl, rfl⟩
    refine zq_go zt_X8_copy 1 [] (if (nI 1) = 0 then 55 else 49) [(0, .ref 0), (1, .int (nI 2)), (2, .int i), (3, .int (nI 2)), (4, .int j), (5, .int n), (6, .ref 29), (7, .ref 29)] [] μ0 rfl trivial ?_
    rw [if_neg (by decide)]
    refine zq_go zt_X8_copy 2 [] 51 [(0, .ref 0), (1, .int (nI 2)), (2, .int i), (3, .int (nI 2)), (4, .int j), (5, .int n), (6, .ref 29), (7, .ref 29)] [.int (nI 1), .ref 0] μ0 rfl trivial ?_
    refine zq_call zt_X8_copy [.ref 0, .int (nI 1)] [] (zs_refuse 1 hC) rfl rfl ?_
    rintro _ μ1 ⟨rfl, hC1, f1⟩
    exact zq_retn zt_X8_copy rfl rfl (⟨rfl, hC1, f1⟩)
set_option maxRecDepth 100000 in
set_option maxHeartbeats 400000 in
theorem zs_copy_l_2_3 {τ : zTd} {S : zES} {H : zSH} {μ0 : zq_Me} (h : H.1 2 = false ∨ H.1 3 = false) (i j n : Int32) (hC : zIc τ S H μ0) : zq_Wp zn_X8_copy 0 [(0, .ref 0), (1, .int (nI 2)), (2, .int i), (3, .int (nI 3)), (4, .int j), (5, .int n)] [] μ0 (zRc (.int (-10 - nI 1)) τ S (yhf H (nI 1)) μ0) := by
  refine zq_go zt_X8_copy 1 [] 1 [(0, .ref 0), (1, .int (nI 2)), (2, .int i), (3, .int (nI 3)), (4, .int j), (5, .int n)] [.int (nI 2)] μ0 rfl trivial ?_
  refine zq_call zt_X8_copy [.int (nI 2)] [] (zs_isSheet (nI 2) μ0) rfl rfl ?_
  rintro _ _ ⟨rfl, rfl⟩
  refine zq_go zt_X8_copy 1 [] (if (zb (0 ≤ nI 2 ∧ nI 2 ≤ nI 3)) = 0 then 14 else 7) [(0, .ref 0), (1, .int (nI 2)), (2, .int i), (3, .int (nI 3)), (4, .int j), (5, .int n)] [] μ0 rfl trivial ?_
  rw [if_neg (zb_n (yin (by omega) (by decide)))]
  refine zq_go zt_X8_copy 1 [] 8 [(0, .ref 0), (1, .int (nI 2)), (2, .int i), (3, .int (nI 3)), (4, .int j), (5, .int n)] [.int (nI 3)] μ0 rfl trivial ?_
  refine zq_call zt_X8_copy [.int (nI 3)] [] (zs_isSheet (nI 3) μ0) rfl rfl ?_
  rintro _ _ ⟨rfl, rfl⟩
  refine zq_go zt_X8_copy 1 [] (if ¬ (zb (0 ≤ nI 3 ∧ nI 3 ≤ nI 3)) = 0 then 17 else 14) [(0, .ref 0), (1, .int (nI 2)), (2, .int i), (3, .int (nI 3)), (4, .int j), (5, .int n)] [] μ0 rfl trivial ?_
  rw [if_pos (zb_n (yin (by omega) (by decide)))]
  by_cases hs : H.1 2 = false
  · refine zq_go zt_X8_copy 11 [vp_in (nI 2) 4, vp_in (nI 3) 4] 35 [(0, .ref 0), (1, .int (nI 2)), (2, .int i), (3, .int (nI 3)), (4, .int j), (5, .int n), (6, .ref 29), (7, .ref 31)] [.ref 29] μ0 rfl ⟨zn_in rfl (by decide) (by decide), ⟨zn_in rfl (by decide) (by decide), trivial⟩⟩ ?_
    refine zq_call zt_X8_copy [.ref 29] [] (zs_isLostN_2 hs hC) rfl rfl ?_
    rintro _ _ ⟨rfl, rfl⟩
    refine zq_go zt_X8_copy 1 [] (if ¬ (nI 1) = 0 then 49 else 41) [(0, .ref 0), (1, .int (nI 2)), (2, .int i), (3, .int (nI 3)), (4, .int j), (5, .int n), (6, .ref 29), (7, .ref 31)] [] μ0 rfl trivial ?_
    rw [if_pos (by decide)]
    refine zq_go zt_X8_copy 2 [] 51 [(0, .ref 0), (1, .int (nI 2)), (2, .int i), (3, .int (nI 3)), (4, .int j), (5, .int n), (6, .ref 29), (7, .ref 31)] [.int (nI 1), .ref 0] μ0 rfl trivial ?_
    refine zq_call zt_X8_copy [.ref 0, .int (nI 1)] [] (zs_refuse 1 hC) rfl rfl ?_
    rintro _ μ1 ⟨rfl, hC1, f1⟩
    exact zq_retn zt_X8_copy rfl rfl (⟨rfl, hC1, f1⟩)
  · have ht : H.1 2 = true := by
      cases q : H.1 2
      · exact absurd q hs
      · rfl
    have hu : H.1 3 = false := h.resolve_left hs
    refine zq_go zt_X8_copy 11 [vp_in (nI 2) 4, vp_in (nI 3) 4] 35 [(0, .ref 0), (1, .int (nI 2)), (2, .int i), (3, .int (nI 3)), (4, .int j), (5, .int n), (6, .ref 29), (7, .ref 31)] [.ref 29] μ0 rfl ⟨zn_in rfl (by decide) (by decide), ⟨zn_in rfl (by decide) (by decide), trivial⟩⟩ ?_
    refine zq_call zt_X8_copy [.ref 29] [] (zs_isLost_2 ht hC) rfl rfl ?_
    rintro _ _ ⟨rfl, rfl⟩
    refine zq_go zt_X8_copy 1 [] (if ¬ (nI 0) = 0 then 49 else 41) [(0, .ref 0), (1, .int (nI 2)), (2, .int i), (3, .int (nI 3)), (4, .int j), (5, .int n), (6, .ref 29), (7, .ref 31)] [] μ0 rfl trivial ?_
    rw [if_neg (by decide)]
    refine zq_go zt_X8_copy 1 [] 43 [(0, .ref 0), (1, .int (nI 2)), (2, .int i), (3, .int (nI 3)), (4, .int j), (5, .int n), (6, .ref 29), (7, .ref 31)] [.ref 31] μ0 rfl trivial ?_
    refine zq_call zt_X8_copy [.ref 31] [] (zs_isLostN_3 hu hC) rfl rfl ?_
    rintro _ _ ⟨rfl, rfl⟩
    refine zq_go zt_X8_copy 1 [] (if (nI 1) = 0 then 55 else 49) [(0, .ref 0), (1, .int (nI 2)), (2, .int i), (3, .int (nI 3)), (4, .int j), (5, .int n), (6, .ref 29), (7, .ref 31)] [] μ0 rfl trivial ?_
    rw [if_neg (by decide)]
    refine zq_go zt_X8_copy 2 [] 51 [(0, .ref 0), (1, .int (nI 2)), (2, .int i), (3, .int (nI 3)), (4, .int j), (5, .int n), (6, .ref 29), (7, .ref 31)] [.int (nI 1), .ref 0] μ0 rfl trivial ?_
    refine zq_call zt_X8_copy [.ref 0, .int (nI 1)] [] (zs_refuse 1 hC) rfl rfl ?_
    rintro _ μ1 ⟨rfl, hC1, f1⟩
    exact zq_retn zt_X8_copy rfl rfl (⟨rfl, hC1, f1⟩)
set_option maxRecDepth 100000 in
set_option maxHeartbeats 400000 in
theorem zs_copy_l_3_0 {τ : zTd} {S : zES} {H : zSH} {μ0 : zq_Me} (h : H.1 3 = false ∨ H.1 0 = false) (i j n : Int32) (hC : zIc τ S H μ0) : zq_Wp zn_X8_copy 0 [(0, .ref 0), (1, .int (nI 3)), (2, .int i), (3, .int (nI 0)), (4, .int j), (5, .int n)] [] μ0 (zRc (.int (-10 - nI 1)) τ S (yhf H (nI 1)) μ0) := by
  refine zq_go zt_X8_copy 1 [] 1 [(0, .ref 0), (1, .int (nI 3)), (2, .int i), (3, .int (nI 0)), (4, .int j), (5, .int n)] [.int (nI 3)] μ0 rfl trivial ?_
  refine zq_call zt_X8_copy [.int (nI 3)] [] (zs_isSheet (nI 3) μ0) rfl rfl ?_
  rintro _ _ ⟨rfl, rfl⟩
  refine zq_go zt_X8_copy 1 [] (if (zb (0 ≤ nI 3 ∧ nI 3 ≤ nI 3)) = 0 then 14 else 7) [(0, .ref 0), (1, .int (nI 3)), (2, .int i), (3, .int (nI 0)), (4, .int j), (5, .int n)] [] μ0 rfl trivial ?_
  rw [if_neg (zb_n (yin (by omega) (by decide)))]
  refine zq_go zt_X8_copy 1 [] 8 [(0, .ref 0), (1, .int (nI 3)), (2, .int i), (3, .int (nI 0)), (4, .int j), (5, .int n)] [.int (nI 0)] μ0 rfl trivial ?_
  refine zq_call zt_X8_copy [.int (nI 0)] [] (zs_isSheet (nI 0) μ0) rfl rfl ?_
  rintro _ _ ⟨rfl, rfl⟩
  refine zq_go zt_X8_copy 1 [] (if ¬ (zb (0 ≤ nI 0 ∧ nI 0 ≤ nI 3)) = 0 then 17 else 14) [(0, .ref 0), (1, .int (nI 3)), (2, .int i), (3, .int (nI 0)), (4, .int j), (5, .int n)] [] μ0 rfl trivial ?_
  rw [if_pos (zb_n (yin (by omega) (by decide)))]
  by_cases hs : H.1 3 = false
  · refine zq_go zt_X8_copy 11 [vp_in (nI 3) 4, vp_in (nI 0) 4] 35 [(0, .ref 0), (1, .int (nI 3)), (2, .int i), (3, .int (nI 0)), (4, .int j), (5, .int n), (6, .ref 31), (7, .ref 25)] [.ref 31] μ0 rfl ⟨zn_in rfl (by decide) (by decide), ⟨zn_in rfl (by decide) (by decide), trivial⟩⟩ ?_
    refine zq_call zt_X8_copy [.ref 31] [] (zs_isLostN_3 hs hC) rfl rfl ?_
    rintro _ _ ⟨rfl, rfl⟩
    refine zq_go zt_X8_copy 1 [] (if ¬ (nI 1) = 0 then 49 else 41) [(0, .ref 0), (1, .int (nI 3)), (2, .int i), (3, .int (nI 0)), (4, .int j), (5, .int n), (6, .ref 31), (7, .ref 25)] [] μ0 rfl trivial ?_
    rw [if_pos (by decide)]
    refine zq_go zt_X8_copy 2 [] 51 [(0, .ref 0), (1, .int (nI 3)), (2, .int i), (3, .int (nI 0)), (4, .int j), (5, .int n), (6, .ref 31), (7, .ref 25)] [.int (nI 1), .ref 0] μ0 rfl trivial ?_
    refine zq_call zt_X8_copy [.ref 0, .int (nI 1)] [] (zs_refuse 1 hC) rfl rfl ?_
    rintro _ μ1 ⟨rfl, hC1, f1⟩
    exact zq_retn zt_X8_copy rfl rfl (⟨rfl, hC1, f1⟩)
  · have ht : H.1 3 = true := by
      cases q : H.1 3
      · exact absurd q hs
      · rfl
    have hu : H.1 0 = false := h.resolve_left hs
    refine zq_go zt_X8_copy 11 [vp_in (nI 3) 4, vp_in (nI 0) 4] 35 [(0, .ref 0), (1, .int (nI 3)), (2, .int i), (3, .int (nI 0)), (4, .int j), (5, .int n), (6, .ref 31), (7, .ref 25)] [.ref 31] μ0 rfl ⟨zn_in rfl (by decide) (by decide), ⟨zn_in rfl (by decide) (by decide), trivial⟩⟩ ?_
    refine zq_call zt_X8_copy [.ref 31] [] (zs_isLost_3 ht hC) rfl rfl ?_
    rintro _ _ ⟨rfl, rfl⟩
    refine zq_go zt_X8_copy 1 [] (if ¬ (nI 0) = 0 then 49 else 41) [(0, .ref 0), (1, .int (nI 3)), (2, .int i), (3, .int (nI 0)), (4, .int j), (5, .int n), (6, .ref 31), (7, .ref 25)] [] μ0 rfl trivial ?_
    rw [if_neg (by decide)]
    refine zq_go zt_X8_copy 1 [] 43 [(0, .ref 0), (1, .int (nI 3)), (2, .int i), (3, .int (nI 0)), (4, .int j), (5, .int n), (6, .ref 31), (7, .ref 25)] [.ref 25] μ0 rfl trivial ?_
    refine zq_call zt_X8_copy [.ref 25] [] (zs_isLostN_0 hu hC) rfl rfl ?_
    rintro _ _ ⟨rfl, rfl⟩
    refine zq_go zt_X8_copy 1 [] (if (nI 1) = 0 then 55 else 49) [(0, .ref 0), (1, .int (nI 3)), (2, .int i), (3, .int (nI 0)), (4, .int j), (5, .int n), (6, .ref 31), (7, .ref 25)] [] μ0 rfl trivial ?_
    rw [if_neg (by decide)]
    refine zq_go zt_X8_copy 2 [] 51 [(0, .ref 0), (1, .int (nI 3)), (2, .int i), (3, .int (nI 0)), (4, .int j), (5, .int n), (6, .ref 31), (7, .ref 25)] [.int (nI 1), .ref 0] μ0 rfl trivial ?_
    refine zq_call zt_X8_copy [.ref 0, .int (nI 1)] [] (zs_refuse 1 hC) rfl rfl ?_
    rintro _ μ1 ⟨rfl, hC1, f1⟩
    exact zq_retn zt_X8_copy rfl rfl (⟨rfl, hC1, f1⟩)
set_option maxRecDepth 100000 in
set_option maxHeartbeats 400000 in
theorem zs_copy_l_3_1 {τ : zTd} {S : zES} {H : zSH} {μ0 : zq_Me} (h : H.1 3 = false ∨ H.1 1 = false) (i j n : Int32) (hC : zIc τ S H μ0) : zq_Wp zn_X8_copy 0 [(0, .ref 0), (1, .int (nI 3)), (2, .int i), (3, .int (nI 1)), (4, .int j), (5, .int n)] [] μ0 (zRc (.int (-10 - nI 1)) τ S (yhf H (nI 1)) μ0) := by
  refine zq_go zt_X8_copy 1 [] 1 [(0, .ref 0), (1, .int (nI 3)), (2, .int i), (3, .int (nI 1)), (4, .int j), (5, .int n)] [.int (nI 3)] μ0 rfl trivial ?_
  refine zq_call zt_X8_copy [.int (nI 3)] [] (zs_isSheet (nI 3) μ0) rfl rfl ?_
  rintro _ _ ⟨rfl, rfl⟩
  refine zq_go zt_X8_copy 1 [] (if (zb (0 ≤ nI 3 ∧ nI 3 ≤ nI 3)) = 0 then 14 else 7) [(0, .ref 0), (1, .int (nI 3)), (2, .int i), (3, .int (nI 1)), (4, .int j), (5, .int n)] [] μ0 rfl trivial ?_
  rw [if_neg (zb_n (yin (by omega) (by decide)))]
  refine zq_go zt_X8_copy 1 [] 8 [(0, .ref 0), (1, .int (nI 3)), (2, .int i), (3, .int (nI 1)), (4, .int j), (5, .int n)] [.int (nI 1)] μ0 rfl trivial ?_
  refine zq_call zt_X8_copy [.int (nI 1)] [] (zs_isSheet (nI 1) μ0) rfl rfl ?_
  rintro _ _ ⟨rfl, rfl⟩
  refine zq_go zt_X8_copy 1 [] (if ¬ (zb (0 ≤ nI 1 ∧ nI 1 ≤ nI 3)) = 0 then 17 else 14) [(0, .ref 0), (1, .int (nI 3)), (2, .int i), (3, .int (nI 1)), (4, .int j), (5, .int n)] [] μ0 rfl trivial ?_
  rw [if_pos (zb_n (yin (by omega) (by decide)))]
  by_cases hs : H.1 3 = false
  · refine zq_go zt_X8_copy 11 [vp_in (nI 3) 4, vp_in (nI 1) 4] 35 [(0, .ref 0), (1, .int (nI 3)), (2, .int i), (3, .int (nI 1)), (4, .int j), (5, .int n), (6, .ref 31), (7, .ref 27)] [.ref 31] μ0 rfl ⟨zn_in rfl (by decide) (by decide), ⟨zn_in rfl (by decide) (by decide), trivial⟩⟩ ?_
    refine zq_call zt_X8_copy [.ref 31] [] (zs_isLostN_3 hs hC) rfl rfl ?_
    rintro _ _ ⟨rfl, rfl⟩
    refine zq_go zt_X8_copy 1 [] (if ¬ (nI 1) = 0 then 49 else 41) [(0, .ref 0), (1, .int (nI 3)), (2, .int i), (3, .int (nI 1)), (4, .int j), (5, .int n), (6, .ref 31), (7, .ref 27)] [] μ0 rfl trivial ?_
    rw [if_pos (by decide)]
    refine zq_go zt_X8_copy 2 [] 51 [(0, .ref 0), (1, .int (nI 3)), (2, .int i), (3, .int (nI 1)), (4, .int j), (5, .int n), (6, .ref 31), (7, .ref 27)] [.int (nI 1), .ref 0] μ0 rfl trivial ?_
    refine zq_call zt_X8_copy [.ref 0, .int (nI 1)] [] (zs_refuse 1 hC) rfl rfl ?_
    rintro _ μ1 ⟨rfl, hC1, f1⟩
    exact zq_retn zt_X8_copy rfl rfl (⟨rfl, hC1, f1⟩)
  · have ht : H.1 3 = true := by
      cases q : H.1 3
      · exact absurd q hs
      · rfl
    have hu : H.1 1 = false := h.resolve_left hs
    refine zq_go zt_X8_copy 11 [vp_in (nI 3) 4, vp_in (nI 1) 4] 35 [(0, .ref 0), (1, .int (nI 3)), (2, .int i), (3, .int (nI 1)), (4, .int j), (5, .int n), (6, .ref 31), (7, .ref 27)] [.ref 31] μ0 rfl ⟨zn_in rfl (by decide) (by decide), ⟨zn_in rfl (by decide) (by decide), trivial⟩⟩ ?_
    refine zq_call zt_X8_copy [.ref 31] [] (zs_isLost_3 ht hC) rfl rfl ?_
    rintro _ _ ⟨rfl, rfl⟩
    refine zq_go zt_X8_copy 1 [] (if ¬ (nI 0) = 0 then 49 else 41) [(0, .ref 0), (1, .int (nI 3)), (2, .int i), (3, .int (nI 1)), (4, .int j), (5, .int n), (6, .ref 31), (7, .ref 27)] [] μ0 rfl trivial ?_
    rw [if_neg (by decide)]
    refine zq_go zt_X8_copy 1 [] 43 [(0, .ref 0), (1, .int (nI 3)), (2, .int i), (3, .int (nI 1)), (4, .int j), (5, .int n), (6, .ref 31), (7, .ref 27)] [.ref 27] μ0 rfl trivial ?_
    refine zq_call zt_X8_copy [.ref 27] [] (zs_isLostN_1 hu hC) rfl rfl ?_
    rintro _ _ ⟨rfl, rfl⟩
    refine zq_go zt_X8_copy 1 [] (if (nI 1) = 0 then 55 else 49) [(0, .ref 0), (1, .int (nI 3)), (2, .int i), (3, .int (nI 1)), (4, .int j), (5, .int n), (6, .ref 31), (7, .ref 27)] [] μ0 rfl trivial ?_
    rw [if_neg (by decide)]
    refine zq_go zt_X8_copy 2 [] 51 [(0, .ref 0), (1, .int (nI 3)), (2, .int i), (3, .int (nI 1)), (4, .int j), (5, .int n), (6, .ref 31), (7, .ref 27)] [.int (nI 1), .ref 0] μ0 rfl trivial ?_
    refine zq_call zt_X8_copy [.ref 0, .int (nI 1)] [] (zs_refuse 1 hC) rfl rfl ?_
    rintro _ μ1 ⟨rfl, hC1, f1⟩
    exact zq_retn zt_X8_copy rfl rfl (⟨rfl, hC1, f1⟩)
set_option maxRecDepth 100000 in
set_option maxHeartbeats 400000 in
theorem zs_copy_l_3_2 {τ : zTd} {S : zES} {H : zSH} {μ0 : zq_Me} (h : H.1 3 = false ∨ H.1 2 = false) (i j n : Int32) (hC : zIc τ S H μ0) : zq_Wp zn_X8_copy 0 [(0, .ref 0), (1, .int (nI 3)), (2, .int i), (3, .int (nI 2)), (4, .int j), (5, .int n)] [] μ0 (zRc (.int (-10 - nI 1)) τ S (yhf H (nI 1)) μ0) := by
  refine zq_go zt_X8_copy 1 [] 1 [(0, .ref 0), (1, .int (nI 3)), (2, .int i), (3, .int (nI 2)), (4, .int j), (5, .int n)] [.int (nI 3)] μ0 rfl trivial ?_
  refine zq_call zt_X8_copy [.int (nI 3)] [] (zs_isSheet (nI 3) μ0) rfl rfl ?_
  rintro _ _ ⟨rfl, rfl⟩
  refine zq_go zt_X8_copy 1 [] (if (zb (0 ≤ nI 3 ∧ nI 3 ≤ nI 3)) = 0 then 14 else 7) [(0, .ref 0), (1, .int (nI 3)), (2, .int i), (3, .int (nI 2)), (4, .int j), (5, .int n)] [] μ0 rfl trivial ?_
  rw [if_neg (zb_n (yin (by omega) (by decide)))]
  refine zq_go zt_X8_copy 1 [] 8 [(0, .ref 0), (1, .int (nI 3)), (2, .int i), (3, .int (nI 2)), (4, .int j), (5, .int n)] [.int (nI 2)] μ0 rfl trivial ?_
  refine zq_call zt_X8_copy [.int (nI 2)] [] (zs_isSheet (nI 2) μ0) rfl rfl ?_
  rintro _ _ ⟨rfl, rfl⟩
  refine zq_go zt_X8_copy 1 [] (if ¬ (zb (0 ≤ nI 2 ∧ nI 2 ≤ nI 3)) = 0 then 17 else 14) [(0, .ref 0), (1, .int (nI 3)), (2, .int i), (3, .int (nI 2)), (4, .int j), (5, .int n)] [] μ0 rfl trivial ?_
  rw [if_pos (zb_n (yin (by omega) (by decide)))]
  by_cases hs : H.1 3 = false
  · refine zq_go zt_X8_copy 11 [vp_in (nI 3) 4, vp_in (nI 2) 4] 35 [(0, .ref 0), (1, .int (nI 3)), (2, .int i), (3, .int (nI 2)), (4, .int j), (5, .int n), (6, .ref 31), (7, .ref 29)] [.ref 31] μ0 rfl ⟨zn_in rfl (by decide) (by decide), ⟨zn_in rfl (by decide) (by decide), trivial⟩⟩ ?_
    refine zq_call zt_X8_copy [.ref 31] [] (zs_isLostN_3 hs hC) rfl rfl ?_
    rintro _ _ ⟨rfl, rfl⟩
    refine zq_go zt_X8_copy 1 [] (if ¬ (nI 1) = 0 then 49 else 41) [(0, .ref 0), (1, .int (nI 3)), (2, .int i), (3, .int (nI 2)), (4, .int j), (5, .int n), (6, .ref 31), (7, .ref 29)] [] μ0 rfl trivial ?_
    rw [if_pos (by decide)]
    refine zq_go zt_X8_copy 2 [] 51 [(0, .ref 0), (1, .int (nI 3)), (2, .int i), (3, .int (nI 2)), (4, .int j), (5, .int n), (6, .ref 31), (7, .ref 29)] [.int (nI 1), .ref 0] μ0 rfl trivial ?_
    refine zq_call zt_X8_copy [.ref 0, .int (nI 1)] [] (zs_refuse 1 hC) rfl rfl ?_
    rintro _ μ1 ⟨rfl, hC1, f1⟩
    exact zq_retn zt_X8_copy rfl rfl (⟨rfl, hC1, f1⟩)
  · have ht : H.1 3 = true := by
      cases q : H.1 3
      · exact absurd q hs
      · rfl
    have hu : H.1 2 = false := h.resolve_left hs
    refine zq_go zt_X8_copy 11 [vp_in (nI 3) 4, vp_in (nI 2) 4] 35 [(0, .ref 0), (1, .int (nI 3)), (2, .int i), (3, .int (nI 2)), (4, .int j), (5, .int n), (6, .ref 31), (7, .ref 29)] [.ref 31] μ0 rfl ⟨zn_in rfl (by decide) (by decide), ⟨zn_in rfl (by decide) (by decide), trivial⟩⟩ ?_
    refine zq_call zt_X8_copy [.ref 31] [] (zs_isLost_3 ht hC) rfl rfl ?_
    rintro _ _ ⟨rfl, rfl⟩
    refine zq_go zt_X8_copy 1 [] (if ¬ (nI 0) = 0 then 49 else 41) [(0, .ref 0), (1, .int (nI 3)), (2, .int i), (3, .int (nI 2)), (4, .int j), (5, .int n), (6, .ref 31), (7, .ref 29)] [] μ0 rfl trivial ?_
    rw [if_neg (by decide)]
    refine zq_go zt_X8_copy 1 [] 43 [(0, .ref 0), (1, .int (nI 3)), (2, .int i), (3, .int (nI 2)), (4, .int j), (5, .int n), (6, .ref 31), (7, .ref 29)] [.ref 29] μ0 rfl trivial ?_
    refine zq_call zt_X8_copy [.ref 29] [] (zs_isLostN_2 hu hC) rfl rfl ?_
    rintro _ _ ⟨rfl, rfl⟩
    refine zq_go zt_X8_copy 1 [] (if (nI 1) = 0 then 55 else 49) [(0, .ref 0), (1, .int (nI 3)), (2, .int i), (3, .int (nI 2)), (4, .int j), (5, .int n), (6, .ref 31), (7, .ref 29)] [] μ0 rfl trivial ?_
    rw [if_neg (by decide)]
    refine zq_go zt_X8_copy 2 [] 51 [(0, .ref 0), (1, .int (nI 3)), (2, .int i), (3, .int (nI 2)), (4, .int j), (5, .int n), (6, .ref 31), (7, .ref 29)] [.int (nI 1), .ref 0] μ0 rfl trivial ?_
    refine zq_call zt_X8_copy [.ref 0, .int (nI 1)] [] (zs_refuse 1 hC) rfl rfl ?_
    rintro _ μ1 ⟨rfl, hC1, f1⟩
    exact zq_retn zt_X8_copy rfl rfl (⟨rfl, hC1, f1⟩)
set_option maxRecDepth 100000 in
set_option maxHeartbeats 400000 in
theorem zs_copy_l_3_3 {τ : zTd} {S : zES} {H : zSH} {μ0 : zq_Me} (h : H.1 3 = false ∨ H.1 3 = false) (i j n : Int32) (hC : zIc τ S H μ0) : zq_Wp zn_X8_copy 0 [(0, .ref 0), (1, .int (nI 3)), (2, .int i), (3, .int (nI 3)), (4, .int j), (5, .int n)] [] μ0 (zRc (.int (-10 - nI 1)) τ S (yhf H (nI 1)) μ0) := by
  refine zq_go zt_X8_copy 1 [] 1 [(0, .ref 0), (1, .int (nI 3)), (2, .int i), (3, .int (nI 3)), (4, .int j), (5, .int n)] [.int (nI 3)] μ0 rfl trivial ?_
  refine zq_call zt_X8_copy [.int (nI 3)] [] (zs_isSheet (nI 3) μ0) rfl rfl ?_
  rintro _ _ ⟨rfl, rfl⟩
  refine zq_go zt_X8_copy 1 [] (if (zb (0 ≤ nI 3 ∧ nI 3 ≤ nI 3)) = 0 then 14 else 7) [(0, .ref 0), (1, .int (nI 3)), (2, .int i), (3, .int (nI 3)), (4, .int j), (5, .int n)] [] μ0 rfl trivial ?_
  rw [if_neg (zb_n (yin (by omega) (by decide)))]
  refine zq_go zt_X8_copy 1 [] 8 [(0, .ref 0), (1, .int (nI 3)), (2, .int i), (3, .int (nI 3)), (4, .int j), (5, .int n)] [.int (nI 3)] μ0 rfl trivial ?_
  refine zq_call zt_X8_copy [.int (nI 3)] [] (zs_isSheet (nI 3) μ0) rfl rfl ?_
  rintro _ _ ⟨rfl, rfl⟩
  refine zq_go zt_X8_copy 1 [] (if ¬ (zb (0 ≤ nI 3 ∧ nI 3 ≤ nI 3)) = 0 then 17 else 14) [(0, .ref 0), (1, .int (nI 3)), (2, .int i), (3, .int (nI 3)), (4, .int j), (5, .int n)] [] μ0 rfl trivial ?_
  rw [if_pos (zb_n (yin (by omega) (by decide)))]
  by_cases hs : H.1 3 = false
  · refine zq_go zt_X8_copy 11 [vp_in (nI 3) 4, vp_in (nI 3) 4] 35 [(0, .ref 0), (1, .int (nI 3)), (2, .int i), (3, .int (nI 3)), (4, .int j), (5, .int n), (6, .ref 31), (7, .ref 31)] [.ref 31] μ0 rfl ⟨zn_in rfl (by decide) (by decide), ⟨zn_in rfl (by decide) (by decide), trivial⟩⟩ ?_
    refine zq_call zt_X8_copy [.ref 31] [] (zs_isLostN_3 hs hC) rfl rfl ?_
    rintro _ _ ⟨rfl, rfl⟩
    refine zq_go zt_X8_copy 1 [] (if ¬ (nI 1) = 0 then 49 else 41) [(0, .ref 0), (1, .int (nI 3)), (2, .int i), (3, .int (nI 3)), (4, .int j), (5, .int n), (6, .ref 31), (7, .ref 31)] [] μ0 rfl trivial ?_
    rw [if_pos (by decide)]
    refine zq_go zt_X8_copy 2 [] 51 [(0, .ref 0), (1, .int (nI 3)), (2, .int i), (3, .int (nI 3)), (4, .int j), (5, .int n), (6, .ref 31), (7, .ref 31)] [.int (nI 1), .ref 0] μ0 rfl trivial ?_
    refine zq_call zt_X8_copy [.ref 0, .int (nI 1)] [] (zs_refuse 1 hC) rfl rfl ?_
    rintro _ μ1 ⟨rfl, hC1, f1⟩
    exact zq_retn zt_X8_copy rfl rfl (⟨rfl, hC1, f1⟩)
  · have ht : H.1 3 = true := by
      cases q : H.1 3
      · exact absurd q hs
      · rfl
    have hu : H.1 3 = false := h.resolve_left hs
    refine zq_go zt_X8_copy 11 [vp_in (nI 3) 4, vp_in (nI 3) 4] 35 [(0, .ref 0), (1, .int (nI 3)), (2, .int i), (3, .int (nI 3)), (4, .int j), (5, .int n), (6, .ref 31), (7, .ref 31)] [.ref 31] μ0 rfl ⟨zn_in rfl (by decide) (by decide), ⟨zn_in rfl (by decide) (by decide), trivial⟩⟩ ?_
    refine zq_call zt_X8_copy [.ref 31] [] (zs_isLost_3 ht hC) rfl rfl ?_
    rintro _ _ ⟨rfl, rfl⟩
    refine zq_go zt_X8_copy 1 [] (if ¬ (nI 0) = 0 then 49 else 41) [(0, .ref 0), (1, .int (nI 3)), (2, .int i), (3, .int (nI 3)), (4, .int j), (5, .int n), (6, .ref 31), (7, .ref 31)] [] μ0 rfl trivial ?_
    rw [if_neg (by decide)]
    refine zq_go zt_X8_copy 1 [] 43 [(0, .ref 0), (1, .int (nI 3)), (2, .int i), (3, .int (nI 3)), (4, .int j), (5, .int n), (6, .ref 31), (7, .ref 31)] [.ref 31] μ0 rfl trivial ?_
    refine zq_call zt_X8_copy [.ref 31] [] (zs_isLostN_3 hu hC) rfl rfl ?_
    rintro _ _ ⟨rfl, rfl⟩
    refine zq_go zt_X8_copy 1 [] (if (nI 1) = 0 then 55 else 49) [(0, .ref 0), (1, .int (nI 3)), (2, .int i), (3, .int (nI 3)), (4, .int j), (5, .int n), (6, .ref 31), (7, .ref 31)] [] μ0 rfl trivial ?_
    rw [if_neg (by decide)]
    refine zq_go zt_X8_copy 2 [] 51 [(0, .ref 0), (1, .int (nI 3)), (2, .int i), (3, .int (nI 3)), (4, .int j), (5, .int n), (6, .ref 31), (7, .ref 31)] [.int (nI 1), .ref 0] μ0 rfl trivial ?_
    refine zq_call zt_X8_copy [.ref 0, .int (nI 1)] [] (zs_refuse 1 hC) rfl rfl ?_
    rintro _ μ1 ⟨rfl, hC1, f1⟩
    exact zq_retn zt_X8_copy rfl rfl (⟨rfl, hC1, f1⟩)
theorem zs_copy_l {τ : zTd} {S : zES} {H : zSH} {μ0 : zq_Me} {s t : Nat} (ls : s ≤ 3) (lt : t ≤ 3) (h : H.1 s = false ∨ H.1 t = false) (i j n : Int32) (hC : zIc τ S H μ0) : zq_Wp zn_X8_copy 0 [(0, .ref 0), (1, .int (nI s)), (2, .int i), (3, .int (nI t)), (4, .int j), (5, .int n)] [] μ0 (zRc (.int (-10 - nI 1)) τ S (yhf H (nI 1)) μ0) := by
  obtain rfl | rfl | rfl | rfl : s = 0 ∨ s = 1 ∨ s = 2 ∨ s = 3 := by omega
  · obtain rfl | rfl | rfl | rfl : t = 0 ∨ t = 1 ∨ t = 2 ∨ t = 3 := by omega
    · exact zs_copy_l_0_0 h i j n hC
    · exact zs_copy_l_0_1 h i j n hC
    · exact zs_copy_l_0_2 h i j n hC
    · exact zs_copy_l_0_3 h i j n hC
  · obtain rfl | rfl | rfl | rfl : t = 0 ∨ t = 1 ∨ t = 2 ∨ t = 3 := by omega
    · exact zs_copy_l_1_0 h i j n hC
    · exact zs_copy_l_1_1 h i j n hC
    · exact zs_copy_l_1_2 h i j n hC
    · exact zs_copy_l_1_3 h i j n hC
  · obtain rfl | rfl | rfl | rfl : t = 0 ∨ t = 1 ∨ t = 2 ∨ t = 3 := by omega
    · exact zs_copy_l_2_0 h i j n hC
    · exact zs_copy_l_2_1 h i j n hC
    · exact zs_copy_l_2_2 h i j n hC
    · exact zs_copy_l_2_3 h i j n hC
  · obtain rfl | rfl | rfl | rfl : t = 0 ∨ t = 1 ∨ t = 2 ∨ t = 3 := by omega
    · exact zs_copy_l_3_0 h i j n hC
    · exact zs_copy_l_3_1 h i j n hC
    · exact zs_copy_l_3_2 h i j n hC
    · exact zs_copy_l_3_3 h i j n hC
set_option maxRecDepth 100000 in
set_option maxHeartbeats 400000 in
theorem zs_copy_f_0_0 {τ : zTd} {S : zES} {H : zSH} {μ0 : zq_Me} (ht : H.1 0 = true) (hu : H.1 0 = true) (hq : ¬ H.2.1 0 = H.2.1 0) (i j n : Int32) (hC : zIc τ S H μ0) : zq_Wp zn_X8_copy 0 [(0, .ref 0), (1, .int (nI 0)), (2, .int i), (3, .int (nI 0)), (4, .int j), (5, .int n)] [] μ0 (zRc (.int (-10 - nI 4)) τ S (yhf H (nI 4)) μ0) := by
  exact absurd rfl hq
set_option maxRecDepth 100000 in
set_option maxHeartbeats 400000 in
theorem zs_copy_f_0_1 {τ : zTd} {S : zES} {H : zSH} {μ0 : zq_Me} (ht : H.1 0 = true) (hu : H.1 1 = true) (hq : ¬ H.2.1 0 = H.2.1 1) (i j n : Int32) (hC : zIc τ S H μ0) : zq_Wp zn_X8_copy 0 [(0, .ref 0), (1, .int (nI 0)), (2, .int i), (3, .int (nI 1)), (4, .int j), (5, .int n)] [] μ0 (zRc (.int (-10 - nI 4)) τ S (yhf H (nI 4)) μ0) := by
  have hza := (hC.2.2.2.2.2.2.2.2.2 0 (by decide)).2
  have hs1a : μ0.1 25 1 = nI (H.2.1 0) := ((hC.2.2.2.2.2.2.2.2.1.1 0 (by decide)).1 ht).1
  have hs2a : μ0.1 25 2 = nI (H.2.2.1 0) := ((hC.2.2.2.2.2.2.2.2.1.1 0 (by decide)).1 ht).2
  have hia : ∀ i, i < 60 → μ0.1 26 i = H.2.2.2.1 0 i := (hC.2.2.2.2.2.2.2.2.1.1 0 (by decide)).2.2
  have hfma := (hC.2.2.2.2.2.2.2.2.2 0 (by decide)).1
  have hzb := (hC.2.2.2.2.2.2.2.2.2 1 (by decide)).2
  have hs1b : μ0.1 27 1 = nI (H.2.1 1) := ((hC.2.2.2.2.2.2.2.2.1.1 1 (by decide)).1 hu).1
  have hs2b : μ0.1 27 2 = nI (H.2.2.1 1) := ((hC.2.2.2.2.2.2.2.2.1.1 1 (by decide)).1 hu).2
  have hib : ∀ i, i < 60 → μ0.1 28 i = H.2.2.2.1 1 i := (hC.2.2.2.2.2.2.2.2.1.1 1 (by decide)).2.2
  have hfmb := (hC.2.2.2.2.2.2.2.2.2 1 (by decide)).1
  refine zq_go zt_X8_copy 1 [] 1 [(0, .ref 0), (1, .int (nI 0)), (2, .int i), (3, .int (nI 1)), (4, .int j), (5, .int n)] [.int (nI 0)] μ0 rfl trivial ?_
  refine zq_call zt_X8_copy [.int (nI 0)] [] (zs_isSheet (nI 0) μ0) rfl rfl ?_
  rintro _ _ ⟨rfl, rfl⟩
  refine zq_go zt_X8_copy 1 [] (if (zb (0 ≤ nI 0 ∧ nI 0 ≤ nI 3)) = 0 then 14 else 7) [(0, .ref 0), (1, .int (nI 0)), (2, .int i), (3, .int (nI 1)), (4, .int j), (5, .int n)] [] μ0 rfl trivial ?_
  rw [if_neg (zb_n (yin (by omega) (by decide)))]
  refine zq_go zt_X8_copy 1 [] 8 [(0, .ref 0), (1, .int (nI 0)), (2, .int i), (3, .int (nI 1)), (4, .int j), (5, .int n)] [.int (nI 1)] μ0 rfl trivial ?_
  refine zq_call zt_X8_copy [.int (nI 1)] [] (zs_isSheet (nI 1) μ0) rfl rfl ?_
  rintro _ _ ⟨rfl, rfl⟩
  refine zq_go zt_X8_copy 1 [] (if ¬ (zb (0 ≤ nI 1 ∧ nI 1 ≤ nI 3)) = 0 then 17 else 14) [(0, .ref 0), (1, .int (nI 0)), (2, .int i), (3, .int (nI 1)), (4, .int j), (5, .int n)] [] μ0 rfl trivial ?_
  rw [if_pos (zb_n (yin (by omega) (by decide)))]
  refine zq_go zt_X8_copy 11 [vp_in (nI 0) 4, vp_in (nI 1) 4] 35 [(0, .ref 0), (1, .int (nI 0)), (2, .int i), (3, .int (nI 1)), (4, .int j), (5, .int n), (6, .ref 25), (7, .ref 27)] [.ref 25] μ0 rfl ⟨zn_in rfl (by decide) (by decide), ⟨zn_in rfl (by decide) (by decide), trivial⟩⟩ ?_
  refine zq_call zt_X8_copy [.ref 25] [] (zs_isLost_0 ht hC) rfl rfl ?_
  rintro _ _ ⟨rfl, rfl⟩
  refine zq_go zt_X8_copy 1 [] (if ¬ (nI 0) = 0 then 49 else 41) [(0, .ref 0), (1, .int (nI 0)), (2, .int i), (3, .int (nI 1)), (4, .int j), (5, .int n), (6, .ref 25), (7, .ref 27)] [] μ0 rfl trivial ?_
  rw [if_neg (by decide)]
  refine zq_go zt_X8_copy 1 [] 43 [(0, .ref 0), (1, .int (nI 0)), (2, .int i), (3, .int (nI 1)), (4, .int j), (5, .int n), (6, .ref 25), (7, .ref 27)] [.ref 27] μ0 rfl trivial ?_
  refine zq_call zt_X8_copy [.ref 27] [] (zs_isLost_1 hu hC) rfl rfl ?_
  rintro _ _ ⟨rfl, rfl⟩
  refine zq_go zt_X8_copy 1 [] (if (nI 0) = 0 then 55 else 49) [(0, .ref 0), (1, .int (nI 0)), (2, .int i), (3, .int (nI 1)), (4, .int j), (5, .int n), (6, .ref 25), (7, .ref 27)] [] μ0 rfl trivial ?_
  rw [if_pos (by decide)]
  refine zq_go zt_X8_copy 5 [] (if (μ0.1 25 1) = (μ0.1 27 1) then 74 else 68) [(0, .ref 0), (1, .int (nI 0)), (2, .int i), (3, .int (nI 1)), (4, .int j), (5, .int n), (6, .ref 25), (7, .ref 27)] [] μ0 rfl trivial ?_
  rw [hs1a, hs1b]
  rw [if_neg (fun q => hq (by rw [zn_eq (by omega) (by omega)] at q; exact q))]
  refine zq_go zt_X8_copy 2 [] 70 [(0, .ref 0), (1, .int (nI 0)), (2, .int i), (3, .int (nI 1)), (4, .int j), (5, .int n), (6, .ref 25), (7, .ref 27)] [.int (nI 4), .ref 0] μ0 rfl trivial ?_
  refine zq_call zt_X8_copy [.ref 0, .int (nI 4)] [] (zs_refuse 4 hC) rfl rfl ?_
  rintro _ μ1 ⟨rfl, hC1, f1⟩
  exact zq_retn zt_X8_copy rfl rfl (⟨rfl, hC1, f1⟩)
set_option maxRecDepth 100000 in
set_option maxHeartbeats 400000 in
theorem zs_copy_f_0_2 {τ : zTd} {S : zES} {H : zSH} {μ0 : zq_Me} (ht : H.1 0 = true) (hu : H.1 2 = true) (hq : ¬ H.2.1 0 = H.2.1 2) (i j n : Int32) (hC : zIc τ S H μ0) : zq_Wp zn_X8_copy 0 [(0, .ref 0), (1, .int (nI 0)), (2, .int i), (3, .int (nI 2)), (4, .int j), (5, .int n)] [] μ0 (zRc (.int (-10 - nI 4)) τ S (yhf H (nI 4)) μ0) := by
  have hza := (hC.2.2.2.2.2.2.2.2.2 0 (by decide)).2
  have hs1a : μ0.1 25 1 = nI (H.2.1 0) := ((hC.2.2.2.2.2.2.2.2.1.1 0 (by decide)).1 ht).1
  have hs2a : μ0.1 25 2 = nI (H.2.2.1 0) := ((hC.2.2.2.2.2.2.2.2.1.1 0 (by decide)).1 ht).2
  have hia : ∀ i, i < 60 → μ0.1 26 i = H.2.2.2.1 0 i := (hC.2.2.2.2.2.2.2.2.1.1 0 (by decide)).2.2
  have hfma := (hC.2.2.2.2.2.2.2.2.2 0 (by decide)).1
  have hzb := (hC.2.2.2.2.2.2.2.2.2 2 (by decide)).2
  have hs1b : μ0.1 29 1 = nI (H.2.1 2) := ((hC.2.2.2.2.2.2.2.2.1.1 2 (by decide)).1 hu).1
  have hs2b : μ0.1 29 2 = nI (H.2.2.1 2) := ((hC.2.2.2.2.2.2.2.2.1.1 2 (by decide)).1 hu).2
  have hib : ∀ i, i < 60 → μ0.1 30 i = H.2.2.2.1 2 i := (hC.2.2.2.2.2.2.2.2.1.1 2 (by decide)).2.2
  have hfmb := (hC.2.2.2.2.2.2.2.2.2 2 (by decide)).1
  refine zq_go zt_X8_copy 1 [] 1 [(0, .ref 0), (1, .int (nI 0)), (2, .int i), (3, .int (nI 2)), (4, .int j), (5, .int n)] [.int (nI 0)] μ0 rfl trivial ?_
  refine zq_call zt_X8_copy [.int (nI 0)] [] (zs_isSheet (nI 0) μ0) rfl rfl ?_
  rintro _ _ ⟨rfl, rfl⟩
  refine zq_go zt_X8_copy 1 [] (if (zb (0 ≤ nI 0 ∧ nI 0 ≤ nI 3)) = 0 then 14 else 7) [(0, .ref 0), (1, .int (nI 0)), (2, .int i), (3, .int (nI 2)), (4, .int j), (5, .int n)] [] μ0 rfl trivial ?_
  rw [if_neg (zb_n (yin (by omega) (by decide)))]
  refine zq_go zt_X8_copy 1 [] 8 [(0, .ref 0), (1, .int (nI 0)), (2, .int i), (3, .int (nI 2)), (4, .int j), (5, .int n)] [.int (nI 2)] μ0 rfl trivial ?_
  refine zq_call zt_X8_copy [.int (nI 2)] [] (zs_isSheet (nI 2) μ0) rfl rfl ?_
  rintro _ _ ⟨rfl, rfl⟩
  refine zq_go zt_X8_copy 1 [] (if ¬ (zb (0 ≤ nI 2 ∧ nI 2 ≤ nI 3)) = 0 then 17 else 14) [(0, .ref 0), (1, .int (nI 0)), (2, .int i), (3, .int (nI 2)), (4, .int j), (5, .int n)] [] μ0 rfl trivial ?_
  rw [if_pos (zb_n (yin (by omega) (by decide)))]
  refine zq_go zt_X8_copy 11 [vp_in (nI 0) 4, vp_in (nI 2) 4] 35 [(0, .ref 0), (1, .int (nI 0)), (2, .int i), (3, .int (nI 2)), (4, .int j), (5, .int n), (6, .ref 25), (7, .ref 29)] [.ref 25] μ0 rfl ⟨zn_in rfl (by decide) (by decide), ⟨zn_in rfl (by decide) (by decide), trivial⟩⟩ ?_
  refine zq_call zt_X8_copy [.ref 25] [] (zs_isLost_0 ht hC) rfl rfl ?_
  rintro _ _ ⟨rfl, rfl⟩
  refine zq_go zt_X8_copy 1 [] (if ¬ (nI 0) = 0 then 49 else 41) [(0, .ref 0), (1, .int (nI 0)), (2, .int i), (3, .int (nI 2)), (4, .int j), (5, .int n), (6, .ref 25), (7, .ref 29)] [] μ0 rfl trivial ?_
  rw [if_neg (by decide)]
  refine zq_go zt_X8_copy 1 [] 43 [(0, .ref 0), (1, .int (nI 0)), (2, .int i), (3, .int (nI 2)), (4, .int j), (5, .int n), (6, .ref 25), (7, .ref 29)] [.ref 29] μ0 rfl trivial ?_
  refine zq_call zt_X8_copy [.ref 29] [] (zs_isLost_2 hu hC) rfl rfl ?_
  rintro _ _ ⟨rfl, rfl⟩
  refine zq_go zt_X8_copy 1 [] (if (nI 0) = 0 then 55 else 49) [(0, .ref 0), (1, .int (nI 0)), (2, .int i), (3, .int (nI 2)), (4, .int j), (5, .int n), (6, .ref 25), (7, .ref 29)] [] μ0 rfl trivial ?_
  rw [if_pos (by decide)]
  refine zq_go zt_X8_copy 5 [] (if (μ0.1 25 1) = (μ0.1 29 1) then 74 else 68) [(0, .ref 0), (1, .int (nI 0)), (2, .int i), (3, .int (nI 2)), (4, .int j), (5, .int n), (6, .ref 25), (7, .ref 29)] [] μ0 rfl trivial ?_
  rw [hs1a, hs1b]
  rw [if_neg (fun q => hq (by rw [zn_eq (by omega) (by omega)] at q; exact q))]
  refine zq_go zt_X8_copy 2 [] 70 [(0, .ref 0), (1, .int (nI 0)), (2, .int i), (3, .int (nI 2)), (4, .int j), (5, .int n), (6, .ref 25), (7, .ref 29)] [.int (nI 4), .ref 0] μ0 rfl trivial ?_
  refine zq_call zt_X8_copy [.ref 0, .int (nI 4)] [] (zs_refuse 4 hC) rfl rfl ?_
  rintro _ μ1 ⟨rfl, hC1, f1⟩
  exact zq_retn zt_X8_copy rfl rfl (⟨rfl, hC1, f1⟩)
set_option maxRecDepth 100000 in
set_option maxHeartbeats 400000 in
theorem zs_copy_f_0_3 {τ : zTd} {S : zES} {H : zSH} {μ0 : zq_Me} (ht : H.1 0 = true) (hu : H.1 3 = true) (hq : ¬ H.2.1 0 = H.2.1 3) (i j n : Int32) (hC : zIc τ S H μ0) : zq_Wp zn_X8_copy 0 [(0, .ref 0), (1, .int (nI 0)), (2, .int i), (3, .int (nI 3)), (4, .int j), (5, .int n)] [] μ0 (zRc (.int (-10 - nI 4)) τ S (yhf H (nI 4)) μ0) := by
  have hza := (hC.2.2.2.2.2.2.2.2.2 0 (by decide)).2
  have hs1a : μ0.1 25 1 = nI (H.2.1 0) := ((hC.2.2.2.2.2.2.2.2.1.1 0 (by decide)).1 ht).1
  have hs2a : μ0.1 25 2 = nI (H.2.2.1 0) := ((hC.2.2.2.2.2.2.2.2.1.1 0 (by decide)).1 ht).2
  have hia : ∀ i, i < 60 → μ0.1 26 i = H.2.2.2.1 0 i := (hC.2.2.2.2.2.2.2.2.1.1 0 (by decide)).2.2
  have hfma := (hC.2.2.2.2.2.2.2.2.2 0 (by decide)).1
  have hzb := (hC.2.2.2.2.2.2.2.2.2 3 (by decide)).2
  have hs1b : μ0.1 31 1 = nI (H.2.1 3) := ((hC.2.2.2.2.2.2.2.2.1.1 3 (by decide)).1 hu).1
  have hs2b : μ0.1 31 2 = nI (H.2.2.1 3) := ((hC.2.2.2.2.2.2.2.2.1.1 3 (by decide)).1 hu).2
  have hib : ∀ i, i < 60 → μ0.1 32 i = H.2.2.2.1 3 i := (hC.2.2.2.2.2.2.2.2.1.1 3 (by decide)).2.2
  have hfmb := (hC.2.2.2.2.2.2.2.2.2 3 (by decide)).1
  refine zq_go zt_X8_copy 1 [] 1 [(0, .ref 0), (1, .int (nI 0)), (2, .int i), (3, .int (nI 3)), (4, .int j), (5, .int n)] [.int (nI 0)] μ0 rfl trivial ?_
  refine zq_call zt_X8_copy [.int (nI 0)] [] (zs_isSheet (nI 0) μ0) rfl rfl ?_
  rintro _ _ ⟨rfl, rfl⟩
  refine zq_go zt_X8_copy 1 [] (if (zb (0 ≤ nI 0 ∧ nI 0 ≤ nI 3)) = 0 then 14 else 7) [(0, .ref 0), (1, .int (nI 0)), (2, .int i), (3, .int (nI 3)), (4, .int j), (5, .int n)] [] μ0 rfl trivial ?_
  rw [if_neg (zb_n (yin (by omega) (by decide)))]
  refine zq_go zt_X8_copy 1 [] 8 [(0, .ref 0), (1, .int (nI 0)), (2, .int i), (3, .int (nI 3)), (4, .int j), (5, .int n)] [.int (nI 3)] μ0 rfl trivial ?_
  refine zq_call zt_X8_copy [.int (nI 3)] [] (zs_isSheet (nI 3) μ0) rfl rfl ?_
  rintro _ _ ⟨rfl, rfl⟩
  refine zq_go zt_X8_copy 1 [] (if ¬ (zb (0 ≤ nI 3 ∧ nI 3 ≤ nI 3)) = 0 then 17 else 14) [(0, .ref 0), (1, .int (nI 0)), (2, .int i), (3, .int (nI 3)), (4, .int j), (5, .int n)] [] μ0 rfl trivial ?_
  rw [if_pos (zb_n (yin (by omega) (by decide)))]
  refine zq_go zt_X8_copy 11 [vp_in (nI 0) 4, vp_in (nI 3) 4] 35 [(0, .ref 0), (1, .int (nI 0)), (2, .int i), (3, .int (nI 3)), (4, .int j), (5, .int n), (6, .ref 25), (7, .ref 31)] [.ref 25] μ0 rfl ⟨zn_in rfl (by decide) (by decide), ⟨zn_in rfl (by decide) (by decide), trivial⟩⟩ ?_
  refine zq_call zt_X8_copy [.ref 25] [] (zs_isLost_0 ht hC) rfl rfl ?_
  rintro _ _ ⟨rfl, rfl⟩
  refine zq_go zt_X8_copy 1 [] (if ¬ (nI 0) = 0 then 49 else 41) [(0, .ref 0), (1, .int (nI 0)), (2, .int i), (3, .int (nI 3)), (4, .int j), (5, .int n), (6, .ref 25), (7, .ref 31)] [] μ0 rfl trivial ?_
  rw [if_neg (by decide)]
  refine zq_go zt_X8_copy 1 [] 43 [(0, .ref 0), (1, .int (nI 0)), (2, .int i), (3, .int (nI 3)), (4, .int j), (5, .int n), (6, .ref 25), (7, .ref 31)] [.ref 31] μ0 rfl trivial ?_
  refine zq_call zt_X8_copy [.ref 31] [] (zs_isLost_3 hu hC) rfl rfl ?_
  rintro _ _ ⟨rfl, rfl⟩
  refine zq_go zt_X8_copy 1 [] (if (nI 0) = 0 then 55 else 49) [(0, .ref 0), (1, .int (nI 0)), (2, .int i), (3, .int (nI 3)), (4, .int j), (5, .int n), (6, .ref 25), (7, .ref 31)] [] μ0 rfl trivial ?_
  rw [if_pos (by decide)]
  refine zq_go zt_X8_copy 5 [] (if (μ0.1 25 1) = (μ0.1 31 1) then 74 else 68) [(0, .ref 0), (1, .int (nI 0)), (2, .int i), (3, .int (nI 3)), (4, .int j), (5, .int n), (6, .ref 25), (7, .ref 31)] [] μ0 rfl trivial ?_
  rw [hs1a, hs1b]
  rw [if_neg (fun q => hq (by rw [zn_eq (by omega) (by omega)] at q; exact q))]
  refine zq_go zt_X8_copy 2 [] 70 [(0, .ref 0), (1, .int (nI 0)), (2, .int i), (3, .int (nI 3)), (4, .int j), (5, .int n), (6, .ref 25), (7, .ref 31)] [.int (nI 4), .ref 0] μ0 rfl trivial ?_
  refine zq_call zt_X8_copy [.ref 0, .int (nI 4)] [] (zs_refuse 4 hC) rfl rfl ?_
  rintro _ μ1 ⟨rfl, hC1, f1⟩
  exact zq_retn zt_X8_copy rfl rfl (⟨rfl, hC1, f1⟩)
set_option maxRecDepth 100000 in
set_option maxHeartbeats 400000 in
theorem zs_copy_f_1_0 {τ : zTd} {S : zES} {H : zSH} {μ0 : zq_Me} (ht : H.1 1 = true) (hu : H.1 0 = true) (hq : ¬ H.2.1 1 = H.2.1 0) (i j n : Int32) (hC : zIc τ S H μ0) : zq_Wp zn_X8_copy 0 [(0, .ref 0), (1, .int (nI 1)), (2, .int i), (3, .int (nI 0)), (4, .int j), (5, .int n)] [] μ0 (zRc (.int (-10 - nI 4)) τ S (yhf H (nI 4)) μ0) := by
  have hza := (hC.2.2.2.2.2.2.2.2.2 1 (by decide)).2
  have hs1a : μ0.1 27 1 = nI (H.2.1 1) := ((hC.2.2.2.2.2.2.2.2.1.1 1 (by decide)).1 ht).1
  have hs2a : μ0.1 27 2 = nI (H.2.2.1 1) := ((hC.2.2.2.2.2.2.2.2.1.1 1 (by decide)).1 ht).2
  have hia : ∀ i, i < 60 → μ0.1 28 i = H.2.2.2.1 1 i := (hC.2.2.2.2.2.2.2.2.1.1 1 (by decide)).2.2
  have hfma := (hC.2.2.2.2.2.2.2.2.2 1 (by decide)).1
  have hzb := (hC.2.2.2.2.2.2.2.2.2 0 (by decide)).2
  have hs1b : μ0.1 25 1 = nI (H.2.1 0) := ((hC.2.2.2.2.2.2.2.2.1.1 0 (by decide)).1 hu).1
  have hs2b : μ0.1 25 2 = nI (H.2.2.1 0) := ((hC.2.2.2.2.2.2.2.2.1.1 0 (by decide)).1 hu).2
  have hib : ∀ i, i < 60 → μ0.1 26 i = H.2.2.2.1 0 i := (hC.2.2.2.2.2.2.2.2.1.1 0 (by decide)).2.2
  have hfmb := (hC.2.2.2.2.2.2.2.2.2 0 (by decide)).1
  refine zq_go zt_X8_copy 1 [] 1 [(0, .ref 0), (1, .int (nI 1)), (2, .int i), (3, .int (nI 0)), (4, .int j), (5, .int n)] [.int (nI 1)] μ0 rfl trivial ?_
  refine zq_call zt_X8_copy [.int (nI 1)] [] (zs_isSheet (nI 1) μ0) rfl rfl ?_
  rintro _ _ ⟨rfl, rfl⟩
  refine zq_go zt_X8_copy 1 [] (if (zb (0 ≤ nI 1 ∧ nI 1 ≤ nI 3)) = 0 then 14 else 7) [(0, .ref 0), (1, .int (nI 1)), (2, .int i), (3, .int (nI 0)), (4, .int j), (5, .int n)] [] μ0 rfl trivial ?_
  rw [if_neg (zb_n (yin (by omega) (by decide)))]
  refine zq_go zt_X8_copy 1 [] 8 [(0, .ref 0), (1, .int (nI 1)), (2, .int i), (3, .int (nI 0)), (4, .int j), (5, .int n)] [.int (nI 0)] μ0 rfl trivial ?_
  refine zq_call zt_X8_copy [.int (nI 0)] [] (zs_isSheet (nI 0) μ0) rfl rfl ?_
  rintro _ _ ⟨rfl, rfl⟩
  refine zq_go zt_X8_copy 1 [] (if ¬ (zb (0 ≤ nI 0 ∧ nI 0 ≤ nI 3)) = 0 then 17 else 14) [(0, .ref 0), (1, .int (nI 1)), (2, .int i), (3, .int (nI 0)), (4, .int j), (5, .int n)] [] μ0 rfl trivial ?_
  rw [if_pos (zb_n (yin (by omega) (by decide)))]
  refine zq_go zt_X8_copy 11 [vp_in (nI 1) 4, vp_in (nI 0) 4] 35 [(0, .ref 0), (1, .int (nI 1)), (2, .int i), (3, .int (nI 0)), (4, .int j), (5, .int n), (6, .ref 27), (7, .ref 25)] [.ref 27] μ0 rfl ⟨zn_in rfl (by decide) (by decide), ⟨zn_in rfl (by decide) (by decide), trivial⟩⟩ ?_
  refine zq_call zt_X8_copy [.ref 27] [] (zs_isLost_1 ht hC) rfl rfl ?_
  rintro _ _ ⟨rfl, rfl⟩
  refine zq_go zt_X8_copy 1 [] (if ¬ (nI 0) = 0 then 49 else 41) [(0, .ref 0), (1, .int (nI 1)), (2, .int i), (3, .int (nI 0)), (4, .int j), (5, .int n), (6, .ref 27), (7, .ref 25)] [] μ0 rfl trivial ?_
  rw [if_neg (by decide)]
  refine zq_go zt_X8_copy 1 [] 43 [(0, .ref 0), (1, .int (nI 1)), (2, .int i), (3, .int (nI 0)), (4, .int j), (5, .int n), (6, .ref 27), (7, .ref 25)] [.ref 25] μ0 rfl trivial ?_
  refine zq_call zt_X8_copy [.ref 25] [] (zs_isLost_0 hu hC) rfl rfl ?_
  rintro _ _ ⟨rfl, rfl⟩
  refine zq_go zt_X8_copy 1 [] (if (nI 0) = 0 then 55 else 49) [(0, .ref 0), (1, .int (nI 1)), (2, .int i), (3, .int (nI 0)), (4, .int j), (5, .int n), (6, .ref 27), (7, .ref 25)] [] μ0 rfl trivial ?_
  rw [if_pos (by decide)]
  refine zq_go zt_X8_copy 5 [] (if (μ0.1 27 1) = (μ0.1 25 1) then 74 else 68) [(0, .ref 0), (1, .int (nI 1)), (2, .int i), (3, .int (nI 0)), (4, .int j), (5, .int n), (6, .ref 27), (7, .ref 25)] [] μ0 rfl trivial ?_
  rw [hs1a, hs1b]
  rw [if_neg (fun q => hq (by rw [zn_eq (by omega) (by omega)] at q; exact q))]
  refine zq_go zt_X8_copy 2 [] 70 [(0, .ref 0), (1, .int (nI 1)), (2, .int i), (3, .int (nI 0)), (4, .int j), (5, .int n), (6, .ref 27), (7, .ref 25)] [.int (nI 4), .ref 0] μ0 rfl trivial ?_
  refine zq_call zt_X8_copy [.ref 0, .int (nI 4)] [] (zs_refuse 4 hC) rfl rfl ?_
  rintro _ μ1 ⟨rfl, hC1, f1⟩
  exact zq_retn zt_X8_copy rfl rfl (⟨rfl, hC1, f1⟩)
set_option maxRecDepth 100000 in
set_option maxHeartbeats 400000 in
theorem zs_copy_f_1_1 {τ : zTd} {S : zES} {H : zSH} {μ0 : zq_Me} (ht : H.1 1 = true) (hu : H.1 1 = true) (hq : ¬ H.2.1 1 = H.2.1 1) (i j n : Int32) (hC : zIc τ S H μ0) : zq_Wp zn_X8_copy 0 [(0, .ref 0), (1, .int (nI 1)), (2, .int i), (3, .int (nI 1)), (4, .int j), (5, .int n)] [] μ0 (zRc (.int (-10 - nI 4)) τ S (yhf H (nI 4)) μ0) := by
  exact absurd rfl hq
set_option maxRecDepth 100000 in
set_option maxHeartbeats 400000 in
theorem zs_copy_f_1_2 {τ : zTd} {S : zES} {H : zSH} {μ0 : zq_Me} (ht : H.1 1 = true) (hu : H.1 2 = true) (hq : ¬ H.2.1 1 = H.2.1 2) (i j n : Int32) (hC : zIc τ S H μ0) : zq_Wp zn_X8_copy 0 [(0, .ref 0), (1, .int (nI 1)), (2, .int i), (3, .int (nI 2)), (4, .int j), (5, .int n)] [] μ0 (zRc (.int (-10 - nI 4)) τ S (yhf H (nI 4)) μ0) := by
  have hza := (hC.2.2.2.2.2.2.2.2.2 1 (by decide)).2
  have hs1a : μ0.1 27 1 = nI (H.2.1 1) := ((hC.2.2.2.2.2.2.2.2.1.1 1 (by decide)).1 ht).1
  have hs2a : μ0.1 27 2 = nI (H.2.2.1 1) := ((hC.2.2.2.2.2.2.2.2.1.1 1 (by decide)).1 ht).2
  have hia : ∀ i, i < 60 → μ0.1 28 i = H.2.2.2.1 1 i := (hC.2.2.2.2.2.2.2.2.1.1 1 (by decide)).2.2
  have hfma := (hC.2.2.2.2.2.2.2.2.2 1 (by decide)).1
  have hzb := (hC.2.2.2.2.2.2.2.2.2 2 (by decide)).2
  have hs1b : μ0.1 29 1 = nI (H.2.1 2) := ((hC.2.2.2.2.2.2.2.2.1.1 2 (by decide)).1 hu).1
  have hs2b : μ0.1 29 2 = nI (H.2.2.1 2) := ((hC.2.2.2.2.2.2.2.2.1.1 2 (by decide)).1 hu).2
  have hib : ∀ i, i < 60 → μ0.1 30 i = H.2.2.2.1 2 i := (hC.2.2.2.2.2.2.2.2.1.1 2 (by decide)).2.2
  have hfmb := (hC.2.2.2.2.2.2.2.2.2 2 (by decide)).1
  refine zq_go zt_X8_copy 1 [] 1 [(0, .ref 0), (1, .int (nI 1)), (2, .int i), (3, .int (nI 2)), (4, .int j), (5, .int n)] [.int (nI 1)] μ0 rfl trivial ?_
  refine zq_call zt_X8_copy [.int (nI 1)] [] (zs_isSheet (nI 1) μ0) rfl rfl ?_
  rintro _ _ ⟨rfl, rfl⟩
  refine zq_go zt_X8_copy 1 [] (if (zb (0 ≤ nI 1 ∧ nI 1 ≤ nI 3)) = 0 then 14 else 7) [(0, .ref 0), (1, .int (nI 1)), (2, .int i), (3, .int (nI 2)), (4, .int j), (5, .int n)] [] μ0 rfl trivial ?_
  rw [if_neg (zb_n (yin (by omega) (by decide)))]
  refine zq_go zt_X8_copy 1 [] 8 [(0, .ref 0), (1, .int (nI 1)), (2, .int i), (3, .int (nI 2)), (4, .int j), (5, .int n)] [.int (nI 2)] μ0 rfl trivial ?_
  refine zq_call zt_X8_copy [.int (nI 2)] [] (zs_isSheet (nI 2) μ0) rfl rfl ?_
  rintro _ _ ⟨rfl, rfl⟩
  refine zq_go zt_X8_copy 1 [] (if ¬ (zb (0 ≤ nI 2 ∧ nI 2 ≤ nI 3)) = 0 then 17 else 14) [(0, .ref 0), (1, .int (nI 1)), (2, .int i), (3, .int (nI 2)), (4, .int j), (5, .int n)] [] μ0 rfl trivial ?_
  rw [if_pos (zb_n (yin (by omega) (by decide)))]
  refine zq_go zt_X8_copy 11 [vp_in (nI 1) 4, vp_in (nI 2) 4] 35 [(0, .ref 0), (1, .int (nI 1)), (2, .int i), (3, .int (nI 2)), (4, .int j), (5, .int n), (6, .ref 27), (7, .ref 29)] [.ref 27] μ0 rfl ⟨zn_in rfl (by decide) (by decide), ⟨zn_in rfl (by decide) (by decide), trivial⟩⟩ ?_
  refine zq_call zt_X8_copy [.ref 27] [] (zs_isLost_1 ht hC) rfl rfl ?_
  rintro _ _ ⟨rfl, rfl⟩
  refine zq_go zt_X8_copy 1 [] (if ¬ (nI 0) = 0 then 49 else 41) [(0, .ref 0), (1, .int (nI 1)), (2, .int i), (3, .int (nI 2)), (4, .int j), (5, .int n), (6, .ref 27), (7, .ref 29)] [] μ0 rfl trivial ?_
  rw [if_neg (by decide)]
  refine zq_go zt_X8_copy 1 [] 43 [(0, .ref 0), (1, .int (nI 1)), (2, .int i), (3, .int (nI 2)), (4, .int j), (5, .int n), (6, .ref 27), (7, .ref 29)] [.ref 29] μ0 rfl trivial ?_
  refine zq_call zt_X8_copy [.ref 29] [] (zs_isLost_2 hu hC) rfl rfl ?_
  rintro _ _ ⟨rfl, rfl⟩
  refine zq_go zt_X8_copy 1 [] (if (nI 0) = 0 then 55 else 49) [(0, .ref 0), (1, .int (nI 1)), (2, .int i), (3, .int (nI 2)), (4, .int j), (5, .int n), (6, .ref 27), (7, .ref 29)] [] μ0 rfl trivial ?_
  rw [if_pos (by decide)]
  refine zq_go zt_X8_copy 5 [] (if (μ0.1 27 1) = (μ0.1 29 1) then 74 else 68) [(0, .ref 0), (1, .int (nI 1)), (2, .int i), (3, .int (nI 2)), (4, .int j), (5, .int n), (6, .ref 27), (7, .ref 29)] [] μ0 rfl trivial ?_
  rw [hs1a, hs1b]
  rw [if_neg (fun q => hq (by rw [zn_eq (by omega) (by omega)] at q; exact q))]
  refine zq_go zt_X8_copy 2 [] 70 [(0, .ref 0), (1, .int (nI 1)), (2, .int i), (3, .int (nI 2)), (4, .int j), (5, .int n), (6, .ref 27), (7, .ref 29)] [.int (nI 4), .ref 0] μ0 rfl trivial ?_
  refine zq_call zt_X8_copy [.ref 0, .int (nI 4)] [] (zs_refuse 4 hC) rfl rfl ?_
  rintro _ μ1 ⟨rfl, hC1, f1⟩
  exact zq_retn zt_X8_copy rfl rfl (⟨rfl, hC1, f1⟩)
set_option maxRecDepth 100000 in
set_option maxHeartbeats 400000 in
theorem zs_copy_f_1_3 {τ : zTd} {S : zES} {H : zSH} {μ0 : zq_Me} (ht : H.1 1 = true) (hu : H.1 3 = true) (hq : ¬ H.2.1 1 = H.2.1 3) (i j n : Int32) (hC : zIc τ S H μ0) : zq_Wp zn_X8_copy 0 [(0, .ref 0), (1, .int (nI 1)), (2, .int i), (3, .int (nI 3)), (4, .int j), (5, .int n)] [] μ0 (zRc (.int (-10 - nI 4)) τ S (yhf H (nI 4)) μ0) := by
  have hza := (hC.2.2.2.2.2.2.2.2.2 1 (by decide)).2
  have hs1a : μ0.1 27 1 = nI (H.2.1 1) := ((hC.2.2.2.2.2.2.2.2.1.1 1 (by decide)).1 ht).1
  have hs2a : μ0.1 27 2 = nI (H.2.2.1 1) := ((hC.2.2.2.2.2.2.2.2.1.1 1 (by decide)).1 ht).2
  have hia : ∀ i, i < 60 → μ0.1 28 i = H.2.2.2.1 1 i := (hC.2.2.2.2.2.2.2.2.1.1 1 (by decide)).2.2
  have hfma := (hC.2.2.2.2.2.2.2.2.2 1 (by decide)).1
  have hzb := (hC.2.2.2.2.2.2.2.2.2 3 (by decide)).2
  have hs1b : μ0.1 31 1 = nI (H.2.1 3) := ((hC.2.2.2.2.2.2.2.2.1.1 3 (by decide)).1 hu).1
  have hs2b : μ0.1 31 2 = nI (H.2.2.1 3) := ((hC.2.2.2.2.2.2.2.2.1.1 3 (by decide)).1 hu).2
  have hib : ∀ i, i < 60 → μ0.1 32 i = H.2.2.2.1 3 i := (hC.2.2.2.2.2.2.2.2.1.1 3 (by decide)).2.2
  have hfmb := (hC.2.2.2.2.2.2.2.2.2 3 (by decide)).1
  refine zq_go zt_X8_copy 1 [] 1 [(0, .ref 0), (1, .int (nI 1)), (2, .int i), (3, .int (nI 3)), (4, .int j), (5, .int n)] [.int (nI 1)] μ0 rfl trivial ?_
  refine zq_call zt_X8_copy [.int (nI 1)] [] (zs_isSheet (nI 1) μ0) rfl rfl ?_
  rintro _ _ ⟨rfl, rfl⟩
  refine zq_go zt_X8_copy 1 [] (if (zb (0 ≤ nI 1 ∧ nI 1 ≤ nI 3)) = 0 then 14 else 7) [(0, .ref 0), (1, .int (nI 1)), (2, .int i), (3, .int (nI 3)), (4, .int j), (5, .int n)] [] μ0 rfl trivial ?_
  rw [if_neg (zb_n (yin (by omega) (by decide)))]
  refine zq_go zt_X8_copy 1 [] 8 [(0, .ref 0), (1, .int (nI 1)), (2, .int i), (3, .int (nI 3)), (4, .int j), (5, .int n)] [.int (nI 3)] μ0 rfl trivial ?_
  refine zq_call zt_X8_copy [.int (nI 3)] [] (zs_isSheet (nI 3) μ0) rfl rfl ?_
  rintro _ _ ⟨rfl, rfl⟩
  refine zq_go zt_X8_copy 1 [] (if ¬ (zb (0 ≤ nI 3 ∧ nI 3 ≤ nI 3)) = 0 then 17 else 14) [(0, .ref 0), (1, .int (nI 1)), (2, .int i), (3, .int (nI 3)), (4, .int j), (5, .int n)] [] μ0 rfl trivial ?_
  rw [if_pos (zb_n (yin (by omega) (by decide)))]
  refine zq_go zt_X8_copy 11 [vp_in (nI 1) 4, vp_in (nI 3) 4] 35 [(0, .ref 0), (1, .int (nI 1)), (2, .int i), (3, .int (nI 3)), (4, .int j), (5, .int n), (6, .ref 27), (7, .ref 31)] [.ref 27] μ0 rfl ⟨zn_in rfl (by decide) (by decide), ⟨zn_in rfl (by decide) (by decide), trivial⟩⟩ ?_
  refine zq_call zt_X8_copy [.ref 27] [] (zs_isLost_1 ht hC) rfl rfl ?_
  rintro _ _ ⟨rfl, rfl⟩
  refine zq_go zt_X8_copy 1 [] (if ¬ (nI 0) = 0 then 49 else 41) [(0, .ref 0), (1, .int (nI 1)), (2, .int i), (3, .int (nI 3)), (4, .int j), (5, .int n), (6, .ref 27), (7, .ref 31)] [] μ0 rfl trivial ?_
  rw [if_neg (by decide)]
  refine zq_go zt_X8_copy 1 [] 43 [(0, .ref 0), (1, .int (nI 1)), (2, .int i), (3, .int (nI 3)), (4, .int j), (5, .int n), (6, .ref 27), (7, .ref 31)] [.ref 31] μ0 rfl trivial ?_
  refine zq_call zt_X8_copy [.ref 31] [] (zs_isLost_3 hu hC) rfl rfl ?_
  rintro _ _ ⟨rfl, rfl⟩
  refine zq_go zt_X8_copy 1 [] (if (nI 0) = 0 then 55 else 49) [(0, .ref 0), (1, .int (nI 1)), (2, .int i), (3, .int (nI 3)), (4, .int j), (5, .int n), (6, .ref 27), (7, .ref 31)] [] μ0 rfl trivial ?_
  rw [if_pos (by decide)]
  refine zq_go zt_X8_copy 5 [] (if (μ0.1 27 1) = (μ0.1 31 1) then 74 else 68) [(0, .ref 0), (1, .int (nI 1)), (2, .int i), (3, .int (nI 3)), (4, .int j), (5, .int n), (6, .ref 27), (7, .ref 31)] [] μ0 rfl trivial ?_
  rw [hs1a, hs1b]
  rw [if_neg (fun q => hq (by rw [zn_eq (by omega) (by omega)] at q; exact q))]
  refine zq_go zt_X8_copy 2 [] 70 [(0, .ref 0), (1, .int (nI 1)), (2, .int i), (3, .int (nI 3)), (4, .int j), (5, .int n), (6, .ref 27), (7, .ref 31)] [.int (nI 4), .ref 0] μ0 rfl trivial ?_
  refine zq_call zt_X8_copy [.ref 0, .int (nI 4)] [] (zs_refuse 4 hC) rfl rfl ?_
  rintro _ μ1 ⟨rfl, hC1, f1⟩
  exact zq_retn zt_X8_copy rfl rfl (⟨rfl, hC1, f1⟩)
set_option maxRecDepth 100000 in
set_option maxHeartbeats 400000 in
theorem zs_copy_f_2_0 {τ : zTd} {S : zES} {H : zSH} {μ0 : zq_Me} (ht : H.1 2 = true) (hu : H.1 0 = true) (hq : ¬ H.2.1 2 = H.2.1 0) (i j n : Int32) (hC : zIc τ S H μ0) : zq_Wp zn_X8_copy 0 [(0, .ref 0), (1, .int (nI 2)), (2, .int i), (3, .int (nI 0)), (4, .int j), (5, .int n)] [] μ0 (zRc (.int (-10 - nI 4)) τ S (yhf H (nI 4)) μ0) := by
  have hza := (hC.2.2.2.2.2.2.2.2.2 2 (by decide)).2
  have hs1a : μ0.1 29 1 = nI (H.2.1 2) := ((hC.2.2.2.2.2.2.2.2.1.1 2 (by decide)).1 ht).1
  have hs2a : μ0.1 29 2 = nI (H.2.2.1 2) := ((hC.2.2.2.2.2.2.2.2.1.1 2 (by decide)).1 ht).2
  have hia : ∀ i, i < 60 → μ0.1 30 i = H.2.2.2.1 2 i := (hC.2.2.2.2.2.2.2.2.1.1 2 (by decide)).2.2
  have hfma := (hC.2.2.2.2.2.2.2.2.2 2 (by decide)).1
  have hzb := (hC.2.2.2.2.2.2.2.2.2 0 (by decide)).2
  have hs1b : μ0.1 25 1 = nI (H.2.1 0) := ((hC.2.2.2.2.2.2.2.2.1.1 0 (by decide)).1 hu).1
  have hs2b : μ0.1 25 2 = nI (H.2.2.1 0) := ((hC.2.2.2.2.2.2.2.2.1.1 0 (by decide)).1 hu).2
  have hib : ∀ i, i < 60 → μ0.1 26 i = H.2.2.2.1 0 i := (hC.2.2.2.2.2.2.2.2.1.1 0 (by decide)).2.2
  have hfmb := (hC.2.2.2.2.2.2.2.2.2 0 (by decide)).1
  refine zq_go zt_X8_copy 1 [] 1 [(0, .ref 0), (1, .int (nI 2)), (2, .int i), (3, .int (nI 0)), (4, .int j), (5, .int n)] [.int (nI 2)] μ0 rfl trivial ?_
  refine zq_call zt_X8_copy [.int (nI 2)] [] (zs_isSheet (nI 2) μ0) rfl rfl ?_
  rintro _ _ ⟨rfl, rfl⟩
  refine zq_go zt_X8_copy 1 [] (if (zb (0 ≤ nI 2 ∧ nI 2 ≤ nI 3)) = 0 then 14 else 7) [(0, .ref 0), (1, .int (nI 2)), (2, .int i), (3, .int (nI 0)), (4, .int j), (5, .int n)] [] μ0 rfl trivial ?_
  rw [if_neg (zb_n (yin (by omega) (by decide)))]
  refine zq_go zt_X8_copy 1 [] 8 [(0, .ref 0), (1, .int (nI 2)), (2, .int i), (3, .int (nI 0)), (4, .int j), (5, .int n)] [.int (nI 0)] μ0 rfl trivial ?_
  refine zq_call zt_X8_copy [.int (nI 0)] [] (zs_isSheet (nI 0) μ0) rfl rfl ?_
  rintro _ _ ⟨rfl, rfl⟩
  refine zq_go zt_X8_copy 1 [] (if ¬ (zb (0 ≤ nI 0 ∧ nI 0 ≤ nI 3)) = 0 then 17 else 14) [(0, .ref 0), (1, .int (nI 2)), (2, .int i), (3, .int (nI 0)), (4, .int j), (5, .int n)] [] μ0 rfl trivial ?_
  rw [if_pos (zb_n (yin (by omega) (by decide)))]
  refine zq_go zt_X8_copy 11 [vp_in (nI 2) 4, vp_in (nI 0) 4] 35 [(0, .ref 0), (1, .int (nI 2)), (2, .int i), (3, .int (nI 0)), (4, .int j), (5, .int n), (6, .ref 29), (7, .ref 25)] [.ref 29] μ0 rfl ⟨zn_in rfl (by decide) (by decide), ⟨zn_in rfl (by decide) (by decide), trivial⟩⟩ ?_
  refine zq_call zt_X8_copy [.ref 29] [] (zs_isLost_2 ht hC) rfl rfl ?_
  rintro _ _ ⟨rfl, rfl⟩
  refine zq_go zt_X8_copy 1 [] (if ¬ (nI 0) = 0 then 49 else 41) [(0, .ref 0), (1, .int (nI 2)), (2, .int i), (3, .int (nI 0)), (4, .int j), (5, .int n), (6, .ref 29), (7, .ref 25)] [] μ0 rfl trivial ?_
  rw [if_neg (by decide)]
  refine zq_go zt_X8_copy 1 [] 43 [(0, .ref 0), (1, .int (nI 2)), (2, .int i), (3, .int (nI 0)), (4, .int j), (5, .int n), (6, .ref 29), (7, .ref 25)] [.ref 25] μ0 rfl trivial ?_
  refine zq_call zt_X8_copy [.ref 25] [] (zs_isLost_0 hu hC) rfl rfl ?_
  rintro _ _ ⟨rfl, rfl⟩
  refine zq_go zt_X8_copy 1 [] (if (nI 0) = 0 then 55 else 49) [(0, .ref 0), (1, .int (nI 2)), (2, .int i), (3, .int (nI 0)), (4, .int j), (5, .int n), (6, .ref 29), (7, .ref 25)] [] μ0 rfl trivial ?_
  rw [if_pos (by decide)]
  refine zq_go zt_X8_copy 5 [] (if (μ0.1 29 1) = (μ0.1 25 1) then 74 else 68) [(0, .ref 0), (1, .int (nI 2)), (2, .int i), (3, .int (nI 0)), (4, .int j), (5, .int n), (6, .ref 29), (7, .ref 25)] [] μ0 rfl trivial ?_
  rw [hs1a, hs1b]
  rw [if_neg (fun q => hq (by rw [zn_eq (by omega) (by omega)] at q; exact q))]
  refine zq_go zt_X8_copy 2 [] 70 [(0, .ref 0), (1, .int (nI 2)), (2, .int i), (3, .int (nI 0)), (4, .int j), (5, .int n), (6, .ref 29), (7, .ref 25)] [.int (nI 4), .ref 0] μ0 rfl trivial ?_
  refine zq_call zt_X8_copy [.ref 0, .int (nI 4)] [] (zs_refuse 4 hC) rfl rfl ?_
  rintro _ μ1 ⟨rfl, hC1, f1⟩
  exact zq_retn zt_X8_copy rfl rfl (⟨rfl, hC1, f1⟩)
set_option maxRecDepth 100000 in
set_option maxHeartbeats 400000 in
theorem zs_copy_f_2_1 {τ : zTd} {S : zES} {H : zSH} {μ0 : zq_Me} (ht : H.1 2 = true) (hu : H.1 1 = true) (hq : ¬ H.2.1 2 = H.2.1 1) (i j n : Int32) (hC : zIc τ S H μ0) : zq_Wp zn_X8_copy 0 [(0, .ref 0), (1, .int (nI 2)), (2, .int i), (3, .int (nI 1)), (4, .int j), (5, .int n)] [] μ0 (zRc (.int (-10 - nI 4)) τ S (yhf H (nI 4)) μ0) := by
  have hza := (hC.2.2.2.2.2.2.2.2.2 2 (by decide)).2
  have hs1a : μ0.1 29 1 = nI (H.2.1 2) := ((hC.2.2.2.2.2.2.2.2.1.1 2 (by decide)).1 ht).1
  have hs2a : μ0.1 29 2 = nI (H.2.2.1 2) := ((hC.2.2.2.2.2.2.2.2.1.1 2 (by decide)).1 ht).2
  have hia : ∀ i, i < 60 → μ0.1 30 i = H.2.2.2.1 2 i := (hC.2.2.2.2.2.2.2.2.1.1 2 (by decide)).2.2
  have hfma := (hC.2.2.2.2.2.2.2.2.2 2 (by decide)).1
  have hzb := (hC.2.2.2.2.2.2.2.2.2 1 (by decide)).2
  have hs1b : μ0.1 27 1 = nI (H.2.1 1) := ((hC.2.2.2.2.2.2.2.2.1.1 1 (by decide)).1 hu).1
  have hs2b : μ0.1 27 2 = nI (H.2.2.1 1) := ((hC.2.2.2.2.2.2.2.2.1.1 1 (by decide)).1 hu).2
  have hib : ∀ i, i < 60 → μ0.1 28 i = H.2.2.2.1 1 i := (hC.2.2.2.2.2.2.2.2.1.1 1 (by decide)).2.2
  have hfmb := (hC.2.2.2.2.2.2.2.2.2 1 (by decide)).1
  refine zq_go zt_X8_copy 1 [] 1 [(0, .ref 0), (1, .int (nI 2)), (2, .int i), (3, .int (nI 1)), (4, .int j), (5, .int n)] [.int (nI 2)] μ0 rfl trivial ?_
  refine zq_call zt_X8_copy [.int (nI 2)] [] (zs_isSheet (nI 2) μ0) rfl rfl ?_
  rintro _ _ ⟨rfl, rfl⟩
  refine zq_go zt_X8_copy 1 [] (if (zb (0 ≤ nI 2 ∧ nI 2 ≤ nI 3)) = 0 then 14 else 7) [(0, .ref 0), (1, .int (nI 2)), (2, .int i), (3, .int (nI 1)), (4, .int j), (5, .int n)] [] μ0 rfl trivial ?_
  rw [if_neg (zb_n (yin (by omega) (by decide)))]
  refine zq_go zt_X8_copy 1 [] 8 [(0, .ref 0), (1, .int (nI 2)), (2, .int i), (3, .int (nI 1)), (4, .int j), (5, .int n)] [.int (nI 1)] μ0 rfl trivial ?_
  refine zq_call zt_X8_copy [.int (nI 1)] [] (zs_isSheet (nI 1) μ0) rfl rfl ?_
  rintro _ _ ⟨rfl, rfl⟩
  refine zq_go zt_X8_copy 1 [] (if ¬ (zb (0 ≤ nI 1 ∧ nI 1 ≤ nI 3)) = 0 then 17 else 14) [(0, .ref 0), (1, .int (nI 2)), (2, .int i), (3, .int (nI 1)), (4, .int j), (5, .int n)] [] μ0 rfl trivial ?_
  rw [if_pos (zb_n (yin (by omega) (by decide)))]
  refine zq_go zt_X8_copy 11 [vp_in (nI 2) 4, vp_in (nI 1) 4] 35 [(0, .ref 0), (1, .int (nI 2)), (2, .int i), (3, .int (nI 1)), (4, .int j), (5, .int n), (6, .ref 29), (7, .ref 27)] [.ref 29] μ0 rfl ⟨zn_in rfl (by decide) (by decide), ⟨zn_in rfl (by decide) (by decide), trivial⟩⟩ ?_
  refine zq_call zt_X8_copy [.ref 29] [] (zs_isLost_2 ht hC) rfl rfl ?_
  rintro _ _ ⟨rfl, rfl⟩
  refine zq_go zt_X8_copy 1 [] (if ¬ (nI 0) = 0 then 49 else 41) [(0, .ref 0), (1, .int (nI 2)), (2, .int i), (3, .int (nI 1)), (4, .int j), (5, .int n), (6, .ref 29), (7, .ref 27)] [] μ0 rfl trivial ?_
  rw [if_neg (by decide)]
  refine zq_go zt_X8_copy 1 [] 43 [(0, .ref 0), (1, .int (nI 2)), (2, .int i), (3, .int (nI 1)), (4, .int j), (5, .int n), (6, .ref 29), (7, .ref 27)] [.ref 27] μ0 rfl trivial ?_
  refine zq_call zt_X8_copy [.ref 27] [] (zs_isLost_1 hu hC) rfl rfl ?_
  rintro _ _ ⟨rfl, rfl⟩
  refine zq_go zt_X8_copy 1 [] (if (nI 0) = 0 then 55 else 49) [(0, .ref 0), (1, .int (nI 2)), (2, .int i), (3, .int (nI 1)), (4, .int j), (5, .int n), (6, .ref 29), (7, .ref 27)] [] μ0 rfl trivial ?_
  rw [if_pos (by decide)]
  refine zq_go zt_X8_copy 5 [] (if (μ0.1 29 1) = (μ0.1 27 1) then 74 else 68) [(0, .ref 0), (1, .int (nI 2)), (2, .int i), (3, .int (nI 1)), (4, .int j), (5, .int n), (6, .ref 29), (7, .ref 27)] [] μ0 rfl trivial ?_
  rw [hs1a, hs1b]
  rw [if_neg (fun q => hq (by rw [zn_eq (by omega) (by omega)] at q; exact q))]
  refine zq_go zt_X8_copy 2 [] 70 [(0, .ref 0), (1, .int (nI 2)), (2, .int i), (3, .int (nI 1)), (4, .int j), (5, .int n), (6, .ref 29), (7, .ref 27)] [.int (nI 4), .ref 0] μ0 rfl trivial ?_
  refine zq_call zt_X8_copy [.ref 0, .int (nI 4)] [] (zs_refuse 4 hC) rfl rfl ?_
  rintro _ μ1 ⟨rfl, hC1, f1⟩
  exact zq_retn zt_X8_copy rfl rfl (⟨rfl, hC1, f1⟩)
set_option maxRecDepth 100000 in
set_option maxHeartbeats 400000 in
theorem zs_copy_f_2_2 {τ : zTd} {S : zES} {H : zSH} {μ0 : zq_Me} (ht : H.1 2 = true) (hu : H.1 2 = true) (hq : ¬ H.2.1 2 = H.2.1 2) (i j n : Int32) (hC : zIc τ S H μ0) : zq_Wp zn_X8_copy 0 [(0, .ref 0), (1, .int (nI 2)), (2, .int i), (3, .int (nI 2)), (4, .int j), (5, .int n)] [] μ0 (zRc (.int (-10 - nI 4)) τ S (yhf H (nI 4)) μ0) := by
  exact absurd rfl hq
set_option maxRecDepth 100000 in
set_option maxHeartbeats 400000 in
theorem zs_copy_f_2_3 {τ : zTd} {S : zES} {H : zSH} {μ0 : zq_Me} (ht : H.1 2 = true) (hu : H.1 3 = true) (hq : ¬ H.2.1 2 = H.2.1 3) (i j n : Int32) (hC : zIc τ S H μ0) : zq_Wp zn_X8_copy 0 [(0, .ref 0), (1, .int (nI 2)), (2, .int i), (3, .int (nI 3)), (4, .int j), (5, .int n)] [] μ0 (zRc (.int (-10 - nI 4)) τ S (yhf H (nI 4)) μ0) := by
  have hza := (hC.2.2.2.2.2.2.2.2.2 2 (by decide)).2
  have hs1a : μ0.1 29 1 = nI (H.2.1 2) := ((hC.2.2.2.2.2.2.2.2.1.1 2 (by decide)).1 ht).1
  have hs2a : μ0.1 29 2 = nI (H.2.2.1 2) := ((hC.2.2.2.2.2.2.2.2.1.1 2 (by decide)).1 ht).2
  have hia : ∀ i, i < 60 → μ0.1 30 i = H.2.2.2.1 2 i := (hC.2.2.2.2.2.2.2.2.1.1 2 (by decide)).2.2
  have hfma := (hC.2.2.2.2.2.2.2.2.2 2 (by decide)).1
  have hzb := (hC.2.2.2.2.2.2.2.2.2 3 (by decide)).2
  have hs1b : μ0.1 31 1 = nI (H.2.1 3) := ((hC.2.2.2.2.2.2.2.2.1.1 3 (by decide)).1 hu).1
  have hs2b : μ0.1 31 2 = nI (H.2.2.1 3) := ((hC.2.2.2.2.2.2.2.2.1.1 3 (by decide)).1 hu).2
  have hib : ∀ i, i < 60 → μ0.1 32 i = H.2.2.2.1 3 i := (hC.2.2.2.2.2.2.2.2.1.1 3 (by decide)).2.2
  have hfmb := (hC.2.2.2.2.2.2.2.2.2 3 (by decide)).1
  refine zq_go zt_X8_copy 1 [] 1 [(0, .ref 0), (1, .int (nI 2)), (2, .int i), (3, .int (nI 3)), (4, .int j), (5, .int n)] [.int (nI 2)] μ0 rfl trivial ?_
  refine zq_call zt_X8_copy [.int (nI 2)] [] (zs_isSheet (nI 2) μ0) rfl rfl ?_
  rintro _ _ ⟨rfl, rfl⟩
  refine zq_go zt_X8_copy 1 [] (if (zb (0 ≤ nI 2 ∧ nI 2 ≤ nI 3)) = 0 then 14 else 7) [(0, .ref 0), (1, .int (nI 2)), (2, .int i), (3, .int (nI 3)), (4, .int j), (5, .int n)] [] μ0 rfl trivial ?_
  rw [if_neg (zb_n (yin (by omega) (by decide)))]
  refine zq_go zt_X8_copy 1 [] 8 [(0, .ref 0), (1, .int (nI 2)), (2, .int i), (3, .int (nI 3)), (4, .int j), (5, .int n)] [.int (nI 3)] μ0 rfl trivial ?_
  refine zq_call zt_X8_copy [.int (nI 3)] [] (zs_isSheet (nI 3) μ0) rfl rfl ?_
  rintro _ _ ⟨rfl, rfl⟩
  refine zq_go zt_X8_copy 1 [] (if ¬ (zb (0 ≤ nI 3 ∧ nI 3 ≤ nI 3)) = 0 then 17 else 14) [(0, .ref 0), (1, .int (nI 2)), (2, .int i), (3, .int (nI 3)), (4, .int j), (5, .int n)] [] μ0 rfl trivial ?_
  rw [if_pos (zb_n (yin (by omega) (by decide)))]
  refine zq_go zt_X8_copy 11 [vp_in (nI 2) 4, vp_in (nI 3) 4] 35 [(0, .ref 0), (1, .int (nI 2)), (2, .int i), (3, .int (nI 3)), (4, .int j), (5, .int n), (6, .ref 29), (7, .ref 31)] [.ref 29] μ0 rfl ⟨zn_in rfl (by decide) (by decide), ⟨zn_in rfl (by decide) (by decide), trivial⟩⟩ ?_
  refine zq_call zt_X8_copy [.ref 29] [] (zs_isLost_2 ht hC) rfl rfl ?_
  rintro _ _ ⟨rfl, rfl⟩
  refine zq_go zt_X8_copy 1 [] (if ¬ (nI 0) = 0 then 49 else 41) [(0, .ref 0), (1, .int (nI 2)), (2, .int i), (3, .int (nI 3)), (4, .int j), (5, .int n), (6, .ref 29), (7, .ref 31)] [] μ0 rfl trivial ?_
  rw [if_neg (by decide)]
  refine zq_go zt_X8_copy 1 [] 43 [(0, .ref 0), (1, .int (nI 2)), (2, .int i), (3, .int (nI 3)), (4, .int j), (5, .int n), (6, .ref 29), (7, .ref 31)] [.ref 31] μ0 rfl trivial ?_
  refine zq_call zt_X8_copy [.ref 31] [] (zs_isLost_3 hu hC) rfl rfl ?_
  rintro _ _ ⟨rfl, rfl⟩
  refine zq_go zt_X8_copy 1 [] (if (nI 0) = 0 then 55 else 49) [(0, .ref 0), (1, .int (nI 2)), (2, .int i), (3, .int (nI 3)), (4, .int j), (5, .int n), (6, .ref 29), (7, .ref 31)] [] μ0 rfl trivial ?_
  rw [if_pos (by decide)]
  refine zq_go zt_X8_copy 5 [] (if (μ0.1 29 1) = (μ0.1 31 1) then 74 else 68) [(0, .ref 0), (1, .int (nI 2)), (2, .int i), (3, .int (nI 3)), (4, .int j), (5, .int n), (6, .ref 29), (7, .ref 31)] [] μ0 rfl trivial ?_
  rw [hs1a, hs1b]
  rw [if_neg (fun q => hq (by rw [zn_eq (by omega) (by omega)] at q; exact q))]
  refine zq_go zt_X8_copy 2 [] 70 [(0, .ref 0), (1, .int (nI 2)), (2, .int i), (3, .int (nI 3)), (4, .int j), (5, .int n), (6, .ref 29), (7, .ref 31)] [.int (nI 4), .ref 0] μ0 rfl trivial ?_
  refine zq_call zt_X8_copy [.ref 0, .int (nI 4)] [] (zs_refuse 4 hC) rfl rfl ?_
  rintro _ μ1 ⟨rfl, hC1, f1⟩
  exact zq_retn zt_X8_copy rfl rfl (⟨rfl, hC1, f1⟩)
set_option maxRecDepth 100000 in
set_option maxHeartbeats 400000 in
theorem zs_copy_f_3_0 {τ : zTd} {S : zES} {H : zSH} {μ0 : zq_Me} (ht : H.1 3 = true) (hu : H.1 0 = true) (hq : ¬ H.2.1 3 = H.2.1 0) (i j n : Int32) (hC : zIc τ S H μ0) : zq_Wp zn_X8_copy 0 [(0, .ref 0), (1, .int (nI 3)), (2, .int i), (3, .int (nI 0)), (4, .int j), (5, .int n)] [] μ0 (zRc (.int (-10 - nI 4)) τ S (yhf H (nI 4)) μ0) := by
  have hza := (hC.2.2.2.2.2.2.2.2.2 3 (by decide)).2
  have hs1a : μ0.1 31 1 = nI (H.2.1 3) := ((hC.2.2.2.2.2.2.2.2.1.1 3 (by decide)).1 ht).1
  have hs2a : μ0.1 31 2 = nI (H.2.2.1 3) := ((hC.2.2.2.2.2.2.2.2.1.1 3 (by decide)).1 ht).2
  have hia : ∀ i, i < 60 → μ0.1 32 i = H.2.2.2.1 3 i := (hC.2.2.2.2.2.2.2.2.1.1 3 (by decide)).2.2
  have hfma := (hC.2.2.2.2.2.2.2.2.2 3 (by decide)).1
  have hzb := (hC.2.2.2.2.2.2.2.2.2 0 (by decide)).2
  have hs1b : μ0.1 25 1 = nI (H.2.1 0) := ((hC.2.2.2.2.2.2.2.2.1.1 0 (by decide)).1 hu).1
  have hs2b : μ0.1 25 2 = nI (H.2.2.1 0) := ((hC.2.2.2.2.2.2.2.2.1.1 0 (by decide)).1 hu).2
  have hib : ∀ i, i < 60 → μ0.1 26 i = H.2.2.2.1 0 i := (hC.2.2.2.2.2.2.2.2.1.1 0 (by decide)).2.2
  have hfmb := (hC.2.2.2.2.2.2.2.2.2 0 (by decide)).1
  refine zq_go zt_X8_copy 1 [] 1 [(0, .ref 0), (1, .int (nI 3)), (2, .int i), (3, .int (nI 0)), (4, .int j), (5, .int n)] [.int (nI 3)] μ0 rfl trivial ?_
  refine zq_call zt_X8_copy [.int (nI 3)] [] (zs_isSheet (nI 3) μ0) rfl rfl ?_
  rintro _ _ ⟨rfl, rfl⟩
  refine zq_go zt_X8_copy 1 [] (if (zb (0 ≤ nI 3 ∧ nI 3 ≤ nI 3)) = 0 then 14 else 7) [(0, .ref 0), (1, .int (nI 3)), (2, .int i), (3, .int (nI 0)), (4, .int j), (5, .int n)] [] μ0 rfl trivial ?_
  rw [if_neg (zb_n (yin (by omega) (by decide)))]
  refine zq_go zt_X8_copy 1 [] 8 [(0, .ref 0), (1, .int (nI 3)), (2, .int i), (3, .int (nI 0)), (4, .int j), (5, .int n)] [.int (nI 0)] μ0 rfl trivial ?_
  refine zq_call zt_X8_copy [.int (nI 0)] [] (zs_isSheet (nI 0) μ0) rfl rfl ?_
  rintro _ _ ⟨rfl, rfl⟩
  refine zq_go zt_X8_copy 1 [] (if ¬ (zb (0 ≤ nI 0 ∧ nI 0 ≤ nI 3)) = 0 then 17 else 14) [(0, .ref 0), (1, .int (nI 3)), (2, .int i), (3, .int (nI 0)), (4, .int j), (5, .int n)] [] μ0 rfl trivial ?_
  rw [if_pos (zb_n (yin (by omega) (by decide)))]
  refine zq_go zt_X8_copy 11 [vp_in (nI 3) 4, vp_in (nI 0) 4] 35 [(0, .ref 0), (1, .int (nI 3)), (2, .int i), (3, .int (nI 0)), (4, .int j), (5, .int n), (6, .ref 31), (7, .ref 25)] [.ref 31] μ0 rfl ⟨zn_in rfl (by decide) (by decide), ⟨zn_in rfl (by decide) (by decide), trivial⟩⟩ ?_
  refine zq_call zt_X8_copy [.ref 31] [] (zs_isLost_3 ht hC) rfl rfl ?_
  rintro _ _ ⟨rfl, rfl⟩
  refine zq_go zt_X8_copy 1 [] (if ¬ (nI 0) = 0 then 49 else 41) [(0, .ref 0), (1, .int (nI 3)), (2, .int i), (3, .int (nI 0)), (4, .int j), (5, .int n), (6, .ref 31), (7, .ref 25)] [] μ0 rfl trivial ?_
  rw [if_neg (by decide)]
  refine zq_go zt_X8_copy 1 [] 43 [(0, .ref 0), (1, .int (nI 3)), (2, .int i), (3, .int (nI 0)), (4, .int j), (5, .int n), (6, .ref 31), (7, .ref 25)] [.ref 25] μ0 rfl trivial ?_
  refine zq_call zt_X8_copy [.ref 25] [] (zs_isLost_0 hu hC) rfl rfl ?_
  rintro _ _ ⟨rfl, rfl⟩
  refine zq_go zt_X8_copy 1 [] (if (nI 0) = 0 then 55 else 49) [(0, .ref 0), (1, .int (nI 3)), (2, .int i), (3, .int (nI 0)), (4, .int j), (5, .int n), (6, .ref 31), (7, .ref 25)] [] μ0 rfl trivial ?_
  rw [if_pos (by decide)]
  refine zq_go zt_X8_copy 5 [] (if (μ0.1 31 1) = (μ0.1 25 1) then 74 else 68) [(0, .ref 0), (1, .int (nI 3)), (2, .int i), (3, .int (nI 0)), (4, .int j), (5, .int n), (6, .ref 31), (7, .ref 25)] [] μ0 rfl trivial ?_
  rw [hs1a, hs1b]
  rw [if_neg (fun q => hq (by rw [zn_eq (by omega) (by omega)] at q; exact q))]
  refine zq_go zt_X8_copy 2 [] 70 [(0, .ref 0), (1, .int (nI 3)), (2, .int i), (3, .int (nI 0)), (4, .int j), (5, .int n), (6, .ref 31), (7, .ref 25)] [.int (nI 4), .ref 0] μ0 rfl trivial ?_
  refine zq_call zt_X8_copy [.ref 0, .int (nI 4)] [] (zs_refuse 4 hC) rfl rfl ?_
  rintro _ μ1 ⟨rfl, hC1, f1⟩
  exact zq_retn zt_X8_copy rfl rfl (⟨rfl, hC1, f1⟩)
set_option maxRecDepth 100000 in
set_option maxHeartbeats 400000 in
theorem zs_copy_f_3_1 {τ : zTd} {S : zES} {H : zSH} {μ0 : zq_Me} (ht : H.1 3 = true) (hu : H.1 1 = true) (hq : ¬ H.2.1 3 = H.2.1 1) (i j n : Int32) (hC : zIc τ S H μ0) : zq_Wp zn_X8_copy 0 [(0, .ref 0), (1, .int (nI 3)), (2, .int i), (3, .int (nI 1)), (4, .int j), (5, .int n)] [] μ0 (zRc (.int (-10 - nI 4)) τ S (yhf H (nI 4)) μ0) := by
  have hza := (hC.2.2.2.2.2.2.2.2.2 3 (by decide)).2
  have hs1a : μ0.1 31 1 = nI (H.2.1 3) := ((hC.2.2.2.2.2.2.2.2.1.1 3 (by decide)).1 ht).1
  have hs2a : μ0.1 31 2 = nI (H.2.2.1 3) := ((hC.2.2.2.2.2.2.2.2.1.1 3 (by decide)).1 ht).2
  have hia : ∀ i, i < 60 → μ0.1 32 i = H.2.2.2.1 3 i := (hC.2.2.2.2.2.2.2.2.1.1 3 (by decide)).2.2
  have hfma := (hC.2.2.2.2.2.2.2.2.2 3 (by decide)).1
  have hzb := (hC.2.2.2.2.2.2.2.2.2 1 (by decide)).2
  have hs1b : μ0.1 27 1 = nI (H.2.1 1) := ((hC.2.2.2.2.2.2.2.2.1.1 1 (by decide)).1 hu).1
  have hs2b : μ0.1 27 2 = nI (H.2.2.1 1) := ((hC.2.2.2.2.2.2.2.2.1.1 1 (by decide)).1 hu).2
  have hib : ∀ i, i < 60 → μ0.1 28 i = H.2.2.2.1 1 i := (hC.2.2.2.2.2.2.2.2.1.1 1 (by decide)).2.2
  have hfmb := (hC.2.2.2.2.2.2.2.2.2 1 (by decide)).1
  refine zq_go zt_X8_copy 1 [] 1 [(0, .ref 0), (1, .int (nI 3)), (2, .int i), (3, .int (nI 1)), (4, .int j), (5, .int n)] [.int (nI 3)] μ0 rfl trivial ?_
  refine zq_call zt_X8_copy [.int (nI 3)] [] (zs_isSheet (nI 3) μ0) rfl rfl ?_
  rintro _ _ ⟨rfl, rfl⟩
  refine zq_go zt_X8_copy 1 [] (if (zb (0 ≤ nI 3 ∧ nI 3 ≤ nI 3)) = 0 then 14 else 7) [(0, .ref 0), (1, .int (nI 3)), (2, .int i), (3, .int (nI 1)), (4, .int j), (5, .int n)] [] μ0 rfl trivial ?_
  rw [if_neg (zb_n (yin (by omega) (by decide)))]
  refine zq_go zt_X8_copy 1 [] 8 [(0, .ref 0), (1, .int (nI 3)), (2, .int i), (3, .int (nI 1)), (4, .int j), (5, .int n)] [.int (nI 1)] μ0 rfl trivial ?_
  refine zq_call zt_X8_copy [.int (nI 1)] [] (zs_isSheet (nI 1) μ0) rfl rfl ?_
  rintro _ _ ⟨rfl, rfl⟩
  refine zq_go zt_X8_copy 1 [] (if ¬ (zb (0 ≤ nI 1 ∧ nI 1 ≤ nI 3)) = 0 then 17 else 14) [(0, .ref 0), (1, .int (nI 3)), (2, .int i), (3, .int (nI 1)), (4, .int j), (5, .int n)] [] μ0 rfl trivial ?_
  rw [if_pos (zb_n (yin (by omega) (by decide)))]
  refine zq_go zt_X8_copy 11 [vp_in (nI 3) 4, vp_in (nI 1) 4] 35 [(0, .ref 0), (1, .int (nI 3)), (2, .int i), (3, .int (nI 1)), (4, .int j), (5, .int n), (6, .ref 31), (7, .ref 27)] [.ref 31] μ0 rfl ⟨zn_in rfl (by decide) (by decide), ⟨zn_in rfl (by decide) (by decide), trivial⟩⟩ ?_
  refine zq_call zt_X8_copy [.ref 31] [] (zs_isLost_3 ht hC) rfl rfl ?_
  rintro _ _ ⟨rfl, rfl⟩
  refine zq_go zt_X8_copy 1 [] (if ¬ (nI 0) = 0 then 49 else 41) [(0, .ref 0), (1, .int (nI 3)), (2, .int i), (3, .int (nI 1)), (4, .int j), (5, .int n), (6, .ref 31), (7, .ref 27)] [] μ0 rfl trivial ?_
  rw [if_neg (by decide)]
  refine zq_go zt_X8_copy 1 [] 43 [(0, .ref 0), (1, .int (nI 3)), (2, .int i), (3, .int (nI 1)), (4, .int j), (5, .int n), (6, .ref 31), (7, .ref 27)] [.ref 27] μ0 rfl trivial ?_
  refine zq_call zt_X8_copy [.ref 27] [] (zs_isLost_1 hu hC) rfl rfl ?_
  rintro _ _ ⟨rfl, rfl⟩
  refine zq_go zt_X8_copy 1 [] (if (nI 0) = 0 then 55 else 49) [(0, .ref 0), (1, .int (nI 3)), (2, .int i), (3, .int (nI 1)), (4, .int j), (5, .int n), (6, .ref 31), (7, .ref 27)] [] μ0 rfl trivial ?_
  rw [if_pos (by decide)]
  refine zq_go zt_X8_copy 5 [] (if (μ0.1 31 1) = (μ0.1 27 1) then 74 else 68) [(0, .ref 0), (1, .int (nI 3)), (2, .int i), (3, .int (nI 1)), (4, .int j), (5, .int n), (6, .ref 31), (7, .ref 27)] [] μ0 rfl trivial ?_
  rw [hs1a, hs1b]
  rw [if_neg (fun q => hq (by rw [zn_eq (by omega) (by omega)] at q; exact q))]
  refine zq_go zt_X8_copy 2 [] 70 [(0, .ref 0), (1, .int (nI 3)), (2, .int i), (3, .int (nI 1)), (4, .int j), (5, .int n), (6, .ref 31), (7, .ref 27)] [.int (nI 4), .ref 0] μ0 rfl trivial ?_
  refine zq_call zt_X8_copy [.ref 0, .int (nI 4)] [] (zs_refuse 4 hC) rfl rfl ?_
  rintro _ μ1 ⟨rfl, hC1, f1⟩
  exact zq_retn zt_X8_copy rfl rfl (⟨rfl, hC1, f1⟩)
set_option maxRecDepth 100000 in
set_option maxHeartbeats 400000 in
theorem zs_copy_f_3_2 {τ : zTd} {S : zES} {H : zSH} {μ0 : zq_Me} (ht : H.1 3 = true) (hu : H.1 2 = true) (hq : ¬ H.2.1 3 = H.2.1 2) (i j n : Int32) (hC : zIc τ S H μ0) : zq_Wp zn_X8_copy 0 [(0, .ref 0), (1, .int (nI 3)), (2, .int i), (3, .int (nI 2)), (4, .int j), (5, .int n)] [] μ0 (zRc (.int (-10 - nI 4)) τ S (yhf H (nI 4)) μ0) := by
  have hza := (hC.2.2.2.2.2.2.2.2.2 3 (by decide)).2
  have hs1a : μ0.1 31 1 = nI (H.2.1 3) := ((hC.2.2.2.2.2.2.2.2.1.1 3 (by decide)).1 ht).1
  have hs2a : μ0.1 31 2 = nI (H.2.2.1 3) := ((hC.2.2.2.2.2.2.2.2.1.1 3 (by decide)).1 ht).2
  have hia : ∀ i, i < 60 → μ0.1 32 i = H.2.2.2.1 3 i := (hC.2.2.2.2.2.2.2.2.1.1 3 (by decide)).2.2
  have hfma := (hC.2.2.2.2.2.2.2.2.2 3 (by decide)).1
  have hzb := (hC.2.2.2.2.2.2.2.2.2 2 (by decide)).2
  have hs1b : μ0.1 29 1 = nI (H.2.1 2) := ((hC.2.2.2.2.2.2.2.2.1.1 2 (by decide)).1 hu).1
  have hs2b : μ0.1 29 2 = nI (H.2.2.1 2) := ((hC.2.2.2.2.2.2.2.2.1.1 2 (by decide)).1 hu).2
  have hib : ∀ i, i < 60 → μ0.1 30 i = H.2.2.2.1 2 i := (hC.2.2.2.2.2.2.2.2.1.1 2 (by decide)).2.2
  have hfmb := (hC.2.2.2.2.2.2.2.2.2 2 (by decide)).1
  refine zq_go zt_X8_copy 1 [] 1 [(0, .ref 0), (1, .int (nI 3)), (2, .int i), (3, .int (nI 2)), (4, .int j), (5, .int n)] [.int (nI 3)] μ0 rfl trivial ?_
  refine zq_call zt_X8_copy [.int (nI 3)] [] (zs_isSheet (nI 3) μ0) rfl rfl ?_
  rintro _ _ ⟨rfl, rfl⟩
  refine zq_go zt_X8_copy 1 [] (if (zb (0 ≤ nI 3 ∧ nI 3 ≤ nI 3)) = 0 then 14 else 7) [(0, .ref 0), (1, .int (nI 3)), (2, .int i), (3, .int (nI 2)), (4, .int j), (5, .int n)] [] μ0 rfl trivial ?_
  rw [if_neg (zb_n (yin (by omega) (by decide)))]
  refine zq_go zt_X8_copy 1 [] 8 [(0, .ref 0), (1, .int (nI 3)), (2, .int i), (3, .int (nI 2)), (4, .int j), (5, .int n)] [.int (nI 2)] μ0 rfl trivial ?_
  refine zq_call zt_X8_copy [.int (nI 2)] [] (zs_isSheet (nI 2) μ0) rfl rfl ?_
  rintro _ _ ⟨rfl, rfl⟩
  refine zq_go zt_X8_copy 1 [] (if ¬ (zb (0 ≤ nI 2 ∧ nI 2 ≤ nI 3)) = 0 then 17 else 14) [(0, .ref 0), (1, .int (nI 3)), (2, .int i), (3, .int (nI 2)), (4, .int j), (5, .int n)] [] μ0 rfl trivial ?_
  rw [if_pos (zb_n (yin (by omega) (by decide)))]
  refine zq_go zt_X8_copy 11 [vp_in (nI 3) 4, vp_in (nI 2) 4] 35 [(0, .ref 0), (1, .int (nI 3)), (2, .int i), (3, .int (nI 2)), (4, .int j), (5, .int n), (6, .ref 31), (7, .ref 29)] [.ref 31] μ0 rfl ⟨zn_in rfl (by decide) (by decide), ⟨zn_in rfl (by decide) (by decide), trivial⟩⟩ ?_
  refine zq_call zt_X8_copy [.ref 31] [] (zs_isLost_3 ht hC) rfl rfl ?_
  rintro _ _ ⟨rfl, rfl⟩
  refine zq_go zt_X8_copy 1 [] (if ¬ (nI 0) = 0 then 49 else 41) [(0, .ref 0), (1, .int (nI 3)), (2, .int i), (3, .int (nI 2)), (4, .int j), (5, .int n), (6, .ref 31), (7, .ref 29)] [] μ0 rfl trivial ?_
  rw [if_neg (by decide)]
  refine zq_go zt_X8_copy 1 [] 43 [(0, .ref 0), (1, .int (nI 3)), (2, .int i), (3, .int (nI 2)), (4, .int j), (5, .int n), (6, .ref 31), (7, .ref 29)] [.ref 29] μ0 rfl trivial ?_
  refine zq_call zt_X8_copy [.ref 29] [] (zs_isLost_2 hu hC) rfl rfl ?_
  rintro _ _ ⟨rfl, rfl⟩
  refine zq_go zt_X8_copy 1 [] (if (nI 0) = 0 then 55 else 49) [(0, .ref 0), (1, .int (nI 3)), (2, .int i), (3, .int (nI 2)), (4, .int j), (5, .int n), (6, .ref 31), (7, .ref 29)] [] μ0 rfl trivial ?_
  rw [if_pos (by decide)]
  refine zq_go zt_X8_copy 5 [] (if (μ0.1 31 1) = (μ0.1 29 1) then 74 else 68) [(0, .ref 0), (1, .int (nI 3)), (2, .int i), (3, .int (nI 2)), (4, .int j), (5, .int n), (6, .ref 31), (7, .ref 29)] [] μ0 rfl trivial ?_
  rw [hs1a, hs1b]
  rw [if_neg (fun q => hq (by rw [zn_eq (by omega) (by omega)] at q; exact q))]
  refine zq_go zt_X8_copy 2 [] 70 [(0, .ref 0), (1, .int (nI 3)), (2, .int i), (3, .int (nI 2)), (4, .int j), (5, .int n), (6, .ref 31), (7, .ref 29)] [.int (nI 4), .ref 0] μ0 rfl trivial ?_
  refine zq_call zt_X8_copy [.ref 0, .int (nI 4)] [] (zs_refuse 4 hC) rfl rfl ?_
  rintro _ μ1 ⟨rfl, hC1, f1⟩
  exact zq_retn zt_X8_copy rfl rfl (⟨rfl, hC1, f1⟩)
set_option maxRecDepth 100000 in
set_option maxHeartbeats 400000 in
theorem zs_copy_f_3_3 {τ : zTd} {S : zES} {H : zSH} {μ0 : zq_Me} (ht : H.1 3 = true) (hu : H.1 3 = true) (hq : ¬ H.2.1 3 = H.2.1 3) (i j n : Int32) (hC : zIc τ S H μ0) : zq_Wp zn_X8_copy 0 [(0, .ref 0), (1, .int (nI 3)), (2, .int i), (3, .int (nI 3)), (4, .int j), (5, .int n)] [] μ0 (zRc (.int (-10 - nI 4)) τ S (yhf H (nI 4)) μ0) := by
  exact absurd rfl hq
theorem zs_copy_f {τ : zTd} {S : zES} {H : zSH} {μ0 : zq_Me} {s t : Nat} (ls : s ≤ 3) (lt : t ≤ 3) (ht : H.1 s = true) (hu : H.1 t = true) (hq : ¬ H.2.1 s = H.2.1 t) (i j n : Int32) (hC : zIc τ S H μ0) : zq_Wp zn_X8_copy 0 [(0, .ref 0), (1, .int (nI s)), (2, .int i), (3, .int (nI t)), (4, .int j), (5, .int n)] [] μ0 (zRc (.int (-10 - nI 4)) τ S (yhf H (nI 4)) μ0) := by
  obtain rfl | rfl | rfl | rfl : s = 0 ∨ s = 1 ∨ s = 2 ∨ s = 3 := by omega
  · obtain rfl | rfl | rfl | rfl : t = 0 ∨ t = 1 ∨ t = 2 ∨ t = 3 := by omega
    · exact zs_copy_f_0_0 ht hu hq i j n hC
    · exact zs_copy_f_0_1 ht hu hq i j n hC
    · exact zs_copy_f_0_2 ht hu hq i j n hC
    · exact zs_copy_f_0_3 ht hu hq i j n hC
  · obtain rfl | rfl | rfl | rfl : t = 0 ∨ t = 1 ∨ t = 2 ∨ t = 3 := by omega
    · exact zs_copy_f_1_0 ht hu hq i j n hC
    · exact zs_copy_f_1_1 ht hu hq i j n hC
    · exact zs_copy_f_1_2 ht hu hq i j n hC
    · exact zs_copy_f_1_3 ht hu hq i j n hC
  · obtain rfl | rfl | rfl | rfl : t = 0 ∨ t = 1 ∨ t = 2 ∨ t = 3 := by omega
    · exact zs_copy_f_2_0 ht hu hq i j n hC
    · exact zs_copy_f_2_1 ht hu hq i j n hC
    · exact zs_copy_f_2_2 ht hu hq i j n hC
    · exact zs_copy_f_2_3 ht hu hq i j n hC
  · obtain rfl | rfl | rfl | rfl : t = 0 ∨ t = 1 ∨ t = 2 ∨ t = 3 := by omega
    · exact zs_copy_f_3_0 ht hu hq i j n hC
    · exact zs_copy_f_3_1 ht hu hq i j n hC
    · exact zs_copy_f_3_2 ht hu hq i j n hC
    · exact zs_copy_f_3_3 ht hu hq i j n hC
set_option maxRecDepth 100000 in
set_option maxHeartbeats 400000 in
theorem zs_copy_i_0_0 {τ : zTd} {S : zES} {H : zSH} {μ0 : zq_Me} (ht : H.1 0 = true) (hu : H.1 0 = true) (hq : H.2.1 0 = H.2.1 0) (i j n : Int32) (hn : ¬ (yfit (H.2.2.1 0) i n ∧ yfit (H.2.2.1 0) j n)) (hC : zIc τ S H μ0) : zq_Wp zn_X8_copy 0 [(0, .ref 0), (1, .int (nI 0)), (2, .int i), (3, .int (nI 0)), (4, .int j), (5, .int n)] [] μ0 (zRc (.int (-10 - nI 2)) τ S (yhf H (nI 2)) μ0) := by
  have hza := (hC.2.2.2.2.2.2.2.2.2 0 (by decide)).2
  have hs1a : μ0.1 25 1 = nI (H.2.1 0) := ((hC.2.2.2.2.2.2.2.2.1.1 0 (by decide)).1 ht).1
  have hs2a : μ0.1 25 2 = nI (H.2.2.1 0) := ((hC.2.2.2.2.2.2.2.2.1.1 0 (by decide)).1 ht).2
  have hia : ∀ i, i < 60 → μ0.1 26 i = H.2.2.2.1 0 i := (hC.2.2.2.2.2.2.2.2.1.1 0 (by decide)).2.2
  have hfma := (hC.2.2.2.2.2.2.2.2.2 0 (by decide)).1
  have hzb := (hC.2.2.2.2.2.2.2.2.2 0 (by decide)).2
  have hs1b : μ0.1 25 1 = nI (H.2.1 0) := ((hC.2.2.2.2.2.2.2.2.1.1 0 (by decide)).1 hu).1
  have hs2b : μ0.1 25 2 = nI (H.2.2.1 0) := ((hC.2.2.2.2.2.2.2.2.1.1 0 (by decide)).1 hu).2
  have hib : ∀ i, i < 60 → μ0.1 26 i = H.2.2.2.1 0 i := (hC.2.2.2.2.2.2.2.2.1.1 0 (by decide)).2.2
  have hfmb := (hC.2.2.2.2.2.2.2.2.2 0 (by decide)).1
  refine zq_go zt_X8_copy 1 [] 1 [(0, .ref 0), (1, .int (nI 0)), (2, .int i), (3, .int (nI 0)), (4, .int j), (5, .int n)] [.int (nI 0)] μ0 rfl trivial ?_
  refine zq_call zt_X8_copy [.int (nI 0)] [] (zs_isSheet (nI 0) μ0) rfl rfl ?_
  rintro _ _ ⟨rfl, rfl⟩
  refine zq_go zt_X8_copy 1 [] (if (zb (0 ≤ nI 0 ∧ nI 0 ≤ nI 3)) = 0 then 14 else 7) [(0, .ref 0), (1, .int (nI 0)), (2, .int i), (3, .int (nI 0)), (4, .int j), (5, .int n)] [] μ0 rfl trivial ?_
  rw [if_neg (zb_n (yin (by omega) (by decide)))]
  refine zq_go zt_X8_copy 1 [] 8 [(0, .ref 0), (1, .int (nI 0)), (2, .int i), (3, .int (nI 0)), (4, .int j), (5, .int n)] [.int (nI 0)] μ0 rfl trivial ?_
  refine zq_call zt_X8_copy [.int (nI 0)] [] (zs_isSheet (nI 0) μ0) rfl rfl ?_
  rintro _ _ ⟨rfl, rfl⟩
  refine zq_go zt_X8_copy 1 [] (if ¬ (zb (0 ≤ nI 0 ∧ nI 0 ≤ nI 3)) = 0 then 17 else 14) [(0, .ref 0), (1, .int (nI 0)), (2, .int i), (3, .int (nI 0)), (4, .int j), (5, .int n)] [] μ0 rfl trivial ?_
  rw [if_pos (zb_n (yin (by omega) (by decide)))]
  refine zq_go zt_X8_copy 11 [vp_in (nI 0) 4, vp_in (nI 0) 4] 35 [(0, .ref 0), (1, .int (nI 0)), (2, .int i), (3, .int (nI 0)), (4, .int j), (5, .int n), (6, .ref 25), (7, .ref 25)] [.ref 25] μ0 rfl ⟨zn_in rfl (by decide) (by decide), ⟨zn_in rfl (by decide) (by decide), trivial⟩⟩ ?_
  refine zq_call zt_X8_copy [.ref 25] [] (zs_isLost_0 ht hC) rfl rfl ?_
  rintro _ _ ⟨rfl, rfl⟩
  refine zq_go zt_X8_copy 1 [] (if ¬ (nI 0) = 0 then 49 else 41) [(0, .ref 0), (1, .int (nI 0)), (2, .int i), (3, .int (nI 0)), (4, .int j), (5, .int n), (6, .ref 25), (7, .ref 25)] [] μ0 rfl trivial ?_
  rw [if_neg (by decide)]
  refine zq_go zt_X8_copy 1 [] 43 [(0, .ref 0), (1, .int (nI 0)), (2, .int i), (3, .int (nI 0)), (4, .int j), (5, .int n), (6, .ref 25), (7, .ref 25)] [.ref 25] μ0 rfl trivial ?_
  refine zq_call zt_X8_copy [.ref 25] [] (zs_isLost_0 hu hC) rfl rfl ?_
  rintro _ _ ⟨rfl, rfl⟩
  refine zq_go zt_X8_copy 1 [] (if (nI 0) = 0 then 55 else 49) [(0, .ref 0), (1, .int (nI 0)), (2, .int i), (3, .int (nI 0)), (4, .int j), (5, .int n), (6, .ref 25), (7, .ref 25)] [] μ0 rfl trivial ?_
  rw [if_pos (by decide)]
  refine zq_go zt_X8_copy 5 [] (if (μ0.1 25 1) = (μ0.1 25 1) then 74 else 68) [(0, .ref 0), (1, .int (nI 0)), (2, .int i), (3, .int (nI 0)), (4, .int j), (5, .int n), (6, .ref 25), (7, .ref 25)] [] μ0 rfl trivial ?_
  rw [hs1b]
  rw [if_pos (congrArg nI hq)]
  refine zq_go zt_X8_copy 3 [] 79 [(0, .ref 0), (1, .int (nI 0)), (2, .int i), (3, .int (nI 0)), (4, .int j), (5, .int n), (6, .ref 25), (7, .ref 25)] [.int n, .int i, .ref 25] μ0 rfl trivial ?_
  refine zq_call zt_X8_copy [.ref 25, .int i, .int n] [] (zs_holds_0 ht i n hC) rfl rfl ?_
  rintro _ _ ⟨rfl, rfl⟩
  refine zq_go zt_X8_copy 1 [] (if (zb (yfit (H.2.2.1 0) i n)) = 0 then 97 else 85) [(0, .ref 0), (1, .int (nI 0)), (2, .int i), (3, .int (nI 0)), (4, .int j), (5, .int n), (6, .ref 25), (7, .ref 25)] [] μ0 rfl trivial ?_
  by_cases hy : yfit (H.2.2.1 0) i n
  · rw [if_neg (zb_n hy)]
    refine zq_go zt_X8_copy 3 [] 91 [(0, .ref 0), (1, .int (nI 0)), (2, .int i), (3, .int (nI 0)), (4, .int j), (5, .int n), (6, .ref 25), (7, .ref 25)] [.int n, .int j, .ref 25] μ0 rfl trivial ?_
    refine zq_call zt_X8_copy [.ref 25, .int j, .int n] [] (zs_holds_0 hu j n hC) rfl rfl ?_
    rintro _ _ ⟨rfl, rfl⟩
    refine zq_go zt_X8_copy 1 [] (if ¬ (zb (yfit (H.2.2.1 0) j n)) = 0 then 103 else 97) [(0, .ref 0), (1, .int (nI 0)), (2, .int i), (3, .int (nI 0)), (4, .int j), (5, .int n), (6, .ref 25), (7, .ref 25)] [] μ0 rfl trivial ?_
    rw [if_neg (Classical.not_not.mpr (zb_f (fun q => hn ⟨hy, q⟩)))]
    refine zq_go zt_X8_copy 2 [] 99 [(0, .ref 0), (1, .int (nI 0)), (2, .int i), (3, .int (nI 0)), (4, .int j), (5, .int n), (6, .ref 25), (7, .ref 25)] [.int (nI 2), .ref 0] μ0 rfl trivial ?_
    refine zq_call zt_X8_copy [.ref 0, .int (nI 2)] [] (zs_refuse 2 hC) rfl rfl ?_
    rintro _ μ1 ⟨rfl, hC1, f1⟩
    exact zq_retn zt_X8_copy rfl rfl (⟨rfl, hC1, f1⟩)
  · rw [if_pos (zb_f hy)]
    refine zq_go zt_X8_copy 2 [] 99 [(0, .ref 0), (1, .int (nI 0)), (2, .int i), (3, .int (nI 0)), (4, .int j), (5, .int n), (6, .ref 25), (7, .ref 25)] [.int (nI 2), .ref 0] μ0 rfl trivial ?_
    refine zq_call zt_X8_copy [.ref 0, .int (nI 2)] [] (zs_refuse 2 hC) rfl rfl ?_
    rintro _ μ1 ⟨rfl, hC1, f1⟩
    exact zq_retn zt_X8_copy rfl rfl (⟨rfl, hC1, f1⟩)
set_option maxRecDepth 100000 in
set_option maxHeartbeats 400000 in
theorem zs_copy_i_0_1 {τ : zTd} {S : zES} {H : zSH} {μ0 : zq_Me} (ht : H.1 0 = true) (hu : H.1 1 = true) (hq : H.2.1 0 = H.2.1 1) (i j n : Int32) (hn : ¬ (yfit (H.2.2.1 0) i n ∧ yfit (H.2.2.1 1) j n)) (hC : zIc τ S H μ0) : zq_Wp zn_X8_copy 0 [(0, .ref 0), (1, .int (nI 0)), (2, .int i), (3, .int (nI 1)), (4, .int j), (5, .int n)] [] μ0 (zRc (.int (-10 - nI 2)) τ S (yhf H (nI 2)) μ0) := by
  have hza := (hC.2.2.2.2.2.2.2.2.2 0 (by decide)).2
  have hs1a : μ0.1 25 1 = nI (H.2.1 0) := ((hC.2.2.2.2.2.2.2.2.1.1 0 (by decide)).1 ht).1
  have hs2a : μ0.1 25 2 = nI (H.2.2.1 0) := ((hC.2.2.2.2.2.2.2.2.1.1 0 (by decide)).1 ht).2
  have hia : ∀ i, i < 60 → μ0.1 26 i = H.2.2.2.1 0 i := (hC.2.2.2.2.2.2.2.2.1.1 0 (by decide)).2.2
  have hfma := (hC.2.2.2.2.2.2.2.2.2 0 (by decide)).1
  have hzb := (hC.2.2.2.2.2.2.2.2.2 1 (by decide)).2
  have hs1b : μ0.1 27 1 = nI (H.2.1 1) := ((hC.2.2.2.2.2.2.2.2.1.1 1 (by decide)).1 hu).1
  have hs2b : μ0.1 27 2 = nI (H.2.2.1 1) := ((hC.2.2.2.2.2.2.2.2.1.1 1 (by decide)).1 hu).2
  have hib : ∀ i, i < 60 → μ0.1 28 i = H.2.2.2.1 1 i := (hC.2.2.2.2.2.2.2.2.1.1 1 (by decide)).2.2
  have hfmb := (hC.2.2.2.2.2.2.2.2.2 1 (by decide)).1
  refine zq_go zt_X8_copy 1 [] 1 [(0, .ref 0), (1, .int (nI 0)), (2, .int i), (3, .int (nI 1)), (4, .int j), (5, .int n)] [.int (nI 0)] μ0 rfl trivial ?_
  refine zq_call zt_X8_copy [.int (nI 0)] [] (zs_isSheet (nI 0) μ0) rfl rfl ?_
  rintro _ _ ⟨rfl, rfl⟩
  refine zq_go zt_X8_copy 1 [] (if (zb (0 ≤ nI 0 ∧ nI 0 ≤ nI 3)) = 0 then 14 else 7) [(0, .ref 0), (1, .int (nI 0)), (2, .int i), (3, .int (nI 1)), (4, .int j), (5, .int n)] [] μ0 rfl trivial ?_
  rw [if_neg (zb_n (yin (by omega) (by decide)))]
  refine zq_go zt_X8_copy 1 [] 8 [(0, .ref 0), (1, .int (nI 0)), (2, .int i), (3, .int (nI 1)), (4, .int j), (5, .int n)] [.int (nI 1)] μ0 rfl trivial ?_
  refine zq_call zt_X8_copy [.int (nI 1)] [] (zs_isSheet (nI 1) μ0) rfl rfl ?_
  rintro _ _ ⟨rfl, rfl⟩
  refine zq_go zt_X8_copy 1 [] (if ¬ (zb (0 ≤ nI 1 ∧ nI 1 ≤ nI 3)) = 0 then 17 else 14) [(0, .ref 0), (1, .int (nI 0)), (2, .int i), (3, .int (nI 1)), (4, .int j), (5, .int n)] [] μ0 rfl trivial ?_
  rw [if_pos (zb_n (yin (by omega) (by decide)))]
  refine zq_go zt_X8_copy 11 [vp_in (nI 0) 4, vp_in (nI 1) 4] 35 [(0, .ref 0), (1, .int (nI 0)), (2, .int i), (3, .int (nI 1)), (4, .int j), (5, .int n), (6, .ref 25), (7, .ref 27)] [.ref 25] μ0 rfl ⟨zn_in rfl (by decide) (by decide), ⟨zn_in rfl (by decide) (by decide), trivial⟩⟩ ?_
  refine zq_call zt_X8_copy [.ref 25] [] (zs_isLost_0 ht hC) rfl rfl ?_
  rintro _ _ ⟨rfl, rfl⟩
  refine zq_go zt_X8_copy 1 [] (if ¬ (nI 0) = 0 then 49 else 41) [(0, .ref 0), (1, .int (nI 0)), (2, .int i), (3, .int (nI 1)), (4, .int j), (5, .int n), (6, .ref 25), (7, .ref 27)] [] μ0 rfl trivial ?_
  rw [if_neg (by decide)]
  refine zq_go zt_X8_copy 1 [] 43 [(0, .ref 0), (1, .int (nI 0)), (2, .int i), (3, .int (nI 1)), (4, .int j), (5, .int n), (6, .ref 25), (7, .ref 27)] [.ref 27] μ0 rfl trivial ?_
  refine zq_call zt_X8_copy [.ref 27] [] (zs_isLost_1 hu hC) rfl rfl ?_
  rintro _ _ ⟨rfl, rfl⟩
  refine zq_go zt_X8_copy 1 [] (if (nI 0) = 0 then 55 else 49) [(0, .ref 0), (1, .int (nI 0)), (2, .int i), (3, .int (nI 1)), (4, .int j), (5, .int n), (6, .ref 25), (7, .ref 27)] [] μ0 rfl trivial ?_
  rw [if_pos (by decide)]
  refine zq_go zt_X8_copy 5 [] (if (μ0.1 25 1) = (μ0.1 27 1) then 74 else 68) [(0, .ref 0), (1, .int (nI 0)), (2, .int i), (3, .int (nI 1)), (4, .int j), (5, .int n), (6, .ref 25), (7, .ref 27)] [] μ0 rfl trivial ?_
  rw [hs1a, hs1b]
  rw [if_pos (congrArg nI hq)]
  refine zq_go zt_X8_copy 3 [] 79 [(0, .ref 0), (1, .int (nI 0)), (2, .int i), (3, .int (nI 1)), (4, .int j), (5, .int n), (6, .ref 25), (7, .ref 27)] [.int n, .int i, .ref 25] μ0 rfl trivial ?_
  refine zq_call zt_X8_copy [.ref 25, .int i, .int n] [] (zs_holds_0 ht i n hC) rfl rfl ?_
  rintro _ _ ⟨rfl, rfl⟩
  refine zq_go zt_X8_copy 1 [] (if (zb (yfit (H.2.2.1 0) i n)) = 0 then 97 else 85) [(0, .ref 0), (1, .int (nI 0)), (2, .int i), (3, .int (nI 1)), (4, .int j), (5, .int n), (6, .ref 25), (7, .ref 27)] [] μ0 rfl trivial ?_
  by_cases hy : yfit (H.2.2.1 0) i n
  · rw [if_neg (zb_n hy)]
    refine zq_go zt_X8_copy 3 [] 91 [(0, .ref 0), (1, .int (nI 0)), (2, .int i), (3, .int (nI 1)), (4, .int j), (5, .int n), (6, .ref 25), (7, .ref 27)] [.int n, .int j, .ref 27] μ0 rfl trivial ?_
    refine zq_call zt_X8_copy [.ref 27, .int j, .int n] [] (zs_holds_1 hu j n hC) rfl rfl ?_
    rintro _ _ ⟨rfl, rfl⟩
    refine zq_go zt_X8_copy 1 [] (if ¬ (zb (yfit (H.2.2.1 1) j n)) = 0 then 103 else 97) [(0, .ref 0), (1, .int (nI 0)), (2, .int i), (3, .int (nI 1)), (4, .int j), (5, .int n), (6, .ref 25), (7, .ref 27)] [] μ0 rfl trivial ?_
    rw [if_neg (Classical.not_not.mpr (zb_f (fun q => hn ⟨hy, q⟩)))]
    refine zq_go zt_X8_copy 2 [] 99 [(0, .ref 0), (1, .int (nI 0)), (2, .int i), (3, .int (nI 1)), (4, .int j), (5, .int n), (6, .ref 25), (7, .ref 27)] [.int (nI 2), .ref 0] μ0 rfl trivial ?_
    refine zq_call zt_X8_copy [.ref 0, .int (nI 2)] [] (zs_refuse 2 hC) rfl rfl ?_
    rintro _ μ1 ⟨rfl, hC1, f1⟩
    exact zq_retn zt_X8_copy rfl rfl (⟨rfl, hC1, f1⟩)
  · rw [if_pos (zb_f hy)]
    refine zq_go zt_X8_copy 2 [] 99 [(0, .ref 0), (1, .int (nI 0)), (2, .int i), (3, .int (nI 1)), (4, .int j), (5, .int n), (6, .ref 25), (7, .ref 27)] [.int (nI 2), .ref 0] μ0 rfl trivial ?_
    refine zq_call zt_X8_copy [.ref 0, .int (nI 2)] [] (zs_refuse 2 hC) rfl rfl ?_
    rintro _ μ1 ⟨rfl, hC1, f1⟩
    exact zq_retn zt_X8_copy rfl rfl (⟨rfl, hC1, f1⟩)
set_option maxRecDepth 100000 in
set_option maxHeartbeats 400000 in
theorem zs_copy_i_0_2 {τ : zTd} {S : zES} {H : zSH} {μ0 : zq_Me} (ht : H.1 0 = true) (hu : H.1 2 = true) (hq : H.2.1 0 = H.2.1 2) (i j n : Int32) (hn : ¬ (yfit (H.2.2.1 0) i n ∧ yfit (H.2.2.1 2) j n)) (hC : zIc τ S H μ0) : zq_Wp zn_X8_copy 0 [(0, .ref 0), (1, .int (nI 0)), (2, .int i), (3, .int (nI 2)), (4, .int j), (5, .int n)] [] μ0 (zRc (.int (-10 - nI 2)) τ S (yhf H (nI 2)) μ0) := by
  have hza := (hC.2.2.2.2.2.2.2.2.2 0 (by decide)).2
  have hs1a : μ0.1 25 1 = nI (H.2.1 0) := ((hC.2.2.2.2.2.2.2.2.1.1 0 (by decide)).1 ht).1
  have hs2a : μ0.1 25 2 = nI (H.2.2.1 0) := ((hC.2.2.2.2.2.2.2.2.1.1 0 (by decide)).1 ht).2
  have hia : ∀ i, i < 60 → μ0.1 26 i = H.2.2.2.1 0 i := (hC.2.2.2.2.2.2.2.2.1.1 0 (by decide)).2.2
  have hfma := (hC.2.2.2.2.2.2.2.2.2 0 (by decide)).1
  have hzb := (hC.2.2.2.2.2.2.2.2.2 2 (by decide)).2
  have hs1b : μ0.1 29 1 = nI (H.2.1 2) := ((hC.2.2.2.2.2.2.2.2.1.1 2 (by decide)).1 hu).1
  have hs2b : μ0.1 29 2 = nI (H.2.2.1 2) := ((hC.2.2.2.2.2.2.2.2.1.1 2 (by decide)).1 hu).2
  have hib : ∀ i, i < 60 → μ0.1 30 i = H.2.2.2.1 2 i := (hC.2.2.2.2.2.2.2.2.1.1 2 (by decide)).2.2
  have hfmb := (hC.2.2.2.2.2.2.2.2.2 2 (by decide)).1
  refine zq_go zt_X8_copy 1 [] 1 [(0, .ref 0), (1, .int (nI 0)), (2, .int i), (3, .int (nI 2)), (4, .int j), (5, .int n)] [.int (nI 0)] μ0 rfl trivial ?_
  refine zq_call zt_X8_copy [.int (nI 0)] [] (zs_isSheet (nI 0) μ0) rfl rfl ?_
  rintro _ _ ⟨rfl, rfl⟩
  refine zq_go zt_X8_copy 1 [] (if (zb (0 ≤ nI 0 ∧ nI 0 ≤ nI 3)) = 0 then 14 else 7) [(0, .ref 0), (1, .int (nI 0)), (2, .int i), (3, .int (nI 2)), (4, .int j), (5, .int n)] [] μ0 rfl trivial ?_
  rw [if_neg (zb_n (yin (by omega) (by decide)))]
  refine zq_go zt_X8_copy 1 [] 8 [(0, .ref 0), (1, .int (nI 0)), (2, .int i), (3, .int (nI 2)), (4, .int j), (5, .int n)] [.int (nI 2)] μ0 rfl trivial ?_
  refine zq_call zt_X8_copy [.int (nI 2)] [] (zs_isSheet (nI 2) μ0) rfl rfl ?_
  rintro _ _ ⟨rfl, rfl⟩
  refine zq_go zt_X8_copy 1 [] (if ¬ (zb (0 ≤ nI 2 ∧ nI 2 ≤ nI 3)) = 0 then 17 else 14) [(0, .ref 0), (1, .int (nI 0)), (2, .int i), (3, .int (nI 2)), (4, .int j), (5, .int n)] [] μ0 rfl trivial ?_
  rw [if_pos (zb_n (yin (by omega) (by decide)))]
  refine zq_go zt_X8_copy 11 [vp_in (nI 0) 4, vp_in (nI 2) 4] 35 [(0, .ref 0), (1, .int (nI 0)), (2, .int i), (3, .int (nI 2)), (4, .int j), (5, .int n), (6, .ref 25), (7, .ref 29)] [.ref 25] μ0 rfl ⟨zn_in rfl (by decide) (by decide), ⟨zn_in rfl (by decide) (by decide), trivial⟩⟩ ?_
  refine zq_call zt_X8_copy [.ref 25] [] (zs_isLost_0 ht hC) rfl rfl ?_
  rintro _ _ ⟨rfl, rfl⟩
  refine zq_go zt_X8_copy 1 [] (if ¬ (nI 0) = 0 then 49 else 41) [(0, .ref 0), (1, .int (nI 0)), (2, .int i), (3, .int (nI 2)), (4, .int j), (5, .int n), (6, .ref 25), (7, .ref 29)] [] μ0 rfl trivial ?_
  rw [if_neg (by decide)]
  refine zq_go zt_X8_copy 1 [] 43 [(0, .ref 0), (1, .int (nI 0)), (2, .int i), (3, .int (nI 2)), (4, .int j), (5, .int n), (6, .ref 25), (7, .ref 29)] [.ref 29] μ0 rfl trivial ?_
  refine zq_call zt_X8_copy [.ref 29] [] (zs_isLost_2 hu hC) rfl rfl ?_
  rintro _ _ ⟨rfl, rfl⟩
  refine zq_go zt_X8_copy 1 [] (if (nI 0) = 0 then 55 else 49) [(0, .ref 0), (1, .int (nI 0)), (2, .int i), (3, .int (nI 2)), (4, .int j), (5, .int n), (6, .ref 25), (7, .ref 29)] [] μ0 rfl trivial ?_
  rw [if_pos (by decide)]
  refine zq_go zt_X8_copy 5 [] (if (μ0.1 25 1) = (μ0.1 29 1) then 74 else 68) [(0, .ref 0), (1, .int (nI 0)), (2, .int i), (3, .int (nI 2)), (4, .int j), (5, .int n), (6, .ref 25), (7, .ref 29)] [] μ0 rfl trivial ?_
  rw [hs1a, hs1b]
  rw [if_pos (congrArg nI hq)]
  refine zq_go zt_X8_copy 3 [] 79 [(0, .ref 0), (1, .int (nI 0)), (2, .int i), (3, .int (nI 2)), (4, .int j), (5, .int n), (6, .ref 25), (7, .ref 29)] [.int n, .int i, .ref 25] μ0 rfl trivial ?_
  refine zq_call zt_X8_copy [.ref 25, .int i, .int n] [] (zs_holds_0 ht i n hC) rfl rfl ?_
  rintro _ _ ⟨rfl, rfl⟩
  refine zq_go zt_X8_copy 1 [] (if (zb (yfit (H.2.2.1 0) i n)) = 0 then 97 else 85) [(0, .ref 0), (1, .int (nI 0)), (2, .int i), (3, .int (nI 2)), (4, .int j), (5, .int n), (6, .ref 25), (7, .ref 29)] [] μ0 rfl trivial ?_
  by_cases hy : yfit (H.2.2.1 0) i n
  · rw [if_neg (zb_n hy)]
    refine zq_go zt_X8_copy 3 [] 91 [(0, .ref 0), (1, .int (nI 0)), (2, .int i), (3, .int (nI 2)), (4, .int j), (5, .int n), (6, .ref 25), (7, .ref 29)] [.int n, .int j, .ref 29] μ0 rfl trivial ?_
    refine zq_call zt_X8_copy [.ref 29, .int j, .int n] [] (zs_holds_2 hu j n hC) rfl rfl ?_
    rintro _ _ ⟨rfl, rfl⟩
    refine zq_go zt_X8_copy 1 [] (if ¬ (zb (yfit (H.2.2.1 2) j n)) = 0 then 103 else 97) [(0, .ref 0), (1, .int (nI 0)), (2, .int i), (3, .int (nI 2)), (4, .int j), (5, .int n), (6, .ref 25), (7, .ref 29)] [] μ0 rfl trivial ?_
    rw [if_neg (Classical.not_not.mpr (zb_f (fun q => hn ⟨hy, q⟩)))]
    refine zq_go zt_X8_copy 2 [] 99 [(0, .ref 0), (1, .int (nI 0)), (2, .int i), (3, .int (nI 2)), (4, .int j), (5, .int n), (6, .ref 25), (7, .ref 29)] [.int (nI 2), .ref 0] μ0 rfl trivial ?_
    refine zq_call zt_X8_copy [.ref 0, .int (nI 2)] [] (zs_refuse 2 hC) rfl rfl ?_
    rintro _ μ1 ⟨rfl, hC1, f1⟩
    exact zq_retn zt_X8_copy rfl rfl (⟨rfl, hC1, f1⟩)
  · rw [if_pos (zb_f hy)]
    refine zq_go zt_X8_copy 2 [] 99 [(0, .ref 0), (1, .int (nI 0)), (2, .int i), (3, .int (nI 2)), (4, .int j), (5, .int n), (6, .ref 25), (7, .ref 29)] [.int (nI 2), .ref 0] μ0 rfl trivial ?_
    refine zq_call zt_X8_copy [.ref 0, .int (nI 2)] [] (zs_refuse 2 hC) rfl rfl ?_
    rintro _ μ1 ⟨rfl, hC1, f1⟩
    exact zq_retn zt_X8_copy rfl rfl (⟨rfl, hC1, f1⟩)
set_option maxRecDepth 100000 in
set_option maxHeartbeats 400000 in
theorem zs_copy_i_0_3 {τ : zTd} {S : zES} {H : zSH} {μ0 : zq_Me} (ht : H.1 0 = true) (hu : H.1 3 = true) (hq : H.2.1 0 = H.2.1 3) (i j n : Int32) (hn : ¬ (yfit (H.2.2.1 0) i n ∧ yfit (H.2.2.1 3) j n)) (hC : zIc τ S H μ0) : zq_Wp zn_X8_copy 0 [(0, .ref 0), (1, .int (nI 0)), (2, .int i), (3, .int (nI 3)), (4, .int j), (5, .int n)] [] μ0 (zRc (.int (-10 - nI 2)) τ S (yhf H (nI 2)) μ0) := by
  have hza := (hC.2.2.2.2.2.2.2.2.2 0 (by decide)).2
  have hs1a : μ0.1 25 1 = nI (H.2.1 0) := ((hC.2.2.2.2.2.2.2.2.1.1 0 (by decide)).1 ht).1
  have hs2a : μ0.1 25 2 = nI (H.2.2.1 0) := ((hC.2.2.2.2.2.2.2.2.1.1 0 (by decide)).1 ht).2
  have hia : ∀ i, i < 60 → μ0.1 26 i = H.2.2.2.1 0 i := (hC.2.2.2.2.2.2.2.2.1.1 0 (by decide)).2.2
  have hfma := (hC.2.2.2.2.2.2.2.2.2 0 (by decide)).1
  have hzb := (hC.2.2.2.2.2.2.2.2.2 3 (by decide)).2
  have hs1b : μ0.1 31 1 = nI (H.2.1 3) := ((hC.2.2.2.2.2.2.2.2.1.1 3 (by decide)).1 hu).1
  have hs2b : μ0.1 31 2 = nI (H.2.2.1 3) := ((hC.2.2.2.2.2.2.2.2.1.1 3 (by decide)).1 hu).2
  have hib : ∀ i, i < 60 → μ0.1 32 i = H.2.2.2.1 3 i := (hC.2.2.2.2.2.2.2.2.1.1 3 (by decide)).2.2
  have hfmb := (hC.2.2.2.2.2.2.2.2.2 3 (by decide)).1
  refine zq_go zt_X8_copy 1 [] 1 [(0, .ref 0), (1, .int (nI 0)), (2, .int i), (3, .int (nI 3)), (4, .int j), (5, .int n)] [.int (nI 0)] μ0 rfl trivial ?_
  refine zq_call zt_X8_copy [.int (nI 0)] [] (zs_isSheet (nI 0) μ0) rfl rfl ?_
  rintro _ _ ⟨rfl, rfl⟩
  refine zq_go zt_X8_copy 1 [] (if (zb (0 ≤ nI 0 ∧ nI 0 ≤ nI 3)) = 0 then 14 else 7) [(0, .ref 0), (1, .int (nI 0)), (2, .int i), (3, .int (nI 3)), (4, .int j), (5, .int n)] [] μ0 rfl trivial ?_
  rw [if_neg (zb_n (yin (by omega) (by decide)))]
  refine zq_go zt_X8_copy 1 [] 8 [(0, .ref 0), (1, .int (nI 0)), (2, .int i), (3, .int (nI 3)), (4, .int j), (5, .int n)] [.int (nI 3)] μ0 rfl trivial ?_
  refine zq_call zt_X8_copy [.int (nI 3)] [] (zs_isSheet (nI 3) μ0) rfl rfl ?_
  rintro _ _ ⟨rfl, rfl⟩
  refine zq_go zt_X8_copy 1 [] (if ¬ (zb (0 ≤ nI 3 ∧ nI 3 ≤ nI 3)) = 0 then 17 else 14) [(0, .ref 0), (1, .int (nI 0)), (2, .int i), (3, .int (nI 3)), (4, .int j), (5, .int n)] [] μ0 rfl trivial ?_
  rw [if_pos (zb_n (yin (by omega) (by decide)))]
  refine zq_go zt_X8_copy 11 [vp_in (nI 0) 4, vp_in (nI 3) 4] 35 [(0, .ref 0), (1, .int (nI 0)), (2, .int i), (3, .int (nI 3)), (4, .int j), (5, .int n), (6, .ref 25), (7, .ref 31)] [.ref 25] μ0 rfl ⟨zn_in rfl (by decide) (by decide), ⟨zn_in rfl (by decide) (by decide), trivial⟩⟩ ?_
  refine zq_call zt_X8_copy [.ref 25] [] (zs_isLost_0 ht hC) rfl rfl ?_
  rintro _ _ ⟨rfl, rfl⟩
  refine zq_go zt_X8_copy 1 [] (if ¬ (nI 0) = 0 then 49 else 41) [(0, .ref 0), (1, .int (nI 0)), (2, .int i), (3, .int (nI 3)), (4, .int j), (5, .int n), (6, .ref 25), (7, .ref 31)] [] μ0 rfl trivial ?_
  rw [if_neg (by decide)]
  refine zq_go zt_X8_copy 1 [] 43 [(0, .ref 0), (1, .int (nI 0)), (2, .int i), (3, .int (nI 3)), (4, .int j), (5, .int n), (6, .ref 25), (7, .ref 31)] [.ref 31] μ0 rfl trivial ?_
  refine zq_call zt_X8_copy [.ref 31] [] (zs_isLost_3 hu hC) rfl rfl ?_
  rintro _ _ ⟨rfl, rfl⟩
  refine zq_go zt_X8_copy 1 [] (if (nI 0) = 0 then 55 else 49) [(0, .ref 0), (1, .int (nI 0)), (2, .int i), (3, .int (nI 3)), (4, .int j), (5, .int n), (6, .ref 25), (7, .ref 31)] [] μ0 rfl trivial ?_
  rw [if_pos (by decide)]
  refine zq_go zt_X8_copy 5 [] (if (μ0.1 25 1) = (μ0.1 31 1) then 74 else 68) [(0, .ref 0), (1, .int (nI 0)), (2, .int i), (3, .int (nI 3)), (4, .int j), (5, .int n), (6, .ref 25), (7, .ref 31)] [] μ0 rfl trivial ?_
  rw [hs1a, hs1b]
  rw [if_pos (congrArg nI hq)]
  refine zq_go zt_X8_copy 3 [] 79 [(0, .ref 0), (1, .int (nI 0)), (2, .int i), (3, .int (nI 3)), (4, .int j), (5, .int n), (6, .ref 25), (7, .ref 31)] [.int n, .int i, .ref 25] μ0 rfl trivial ?_
  refine zq_call zt_X8_copy [.ref 25, .int i, .int n] [] (zs_holds_0 ht i n hC) rfl rfl ?_
  rintro _ _ ⟨rfl, rfl⟩
  refine zq_go zt_X8_copy 1 [] (if (zb (yfit (H.2.2.1 0) i n)) = 0 then 97 else 85) [(0, .ref 0), (1, .int (nI 0)), (2, .int i), (3, .int (nI 3)), (4, .int j), (5, .int n), (6, .ref 25), (7, .ref 31)] [] μ0 rfl trivial ?_
  by_cases hy : yfit (H.2.2.1 0) i n
  · rw [if_neg (zb_n hy)]
    refine zq_go zt_X8_copy 3 [] 91 [(0, .ref 0), (1, .int (nI 0)), (2, .int i), (3, .int (nI 3)), (4, .int j), (5, .int n), (6, .ref 25), (7, .ref 31)] [.int n, .int j, .ref 31] μ0 rfl trivial ?_
    refine zq_call zt_X8_copy [.ref 31, .int j, .int n] [] (zs_holds_3 hu j n hC) rfl rfl ?_
    rintro _ _ ⟨rfl, rfl⟩
    refine zq_go zt_X8_copy 1 [] (if ¬ (zb (yfit (H.2.2.1 3) j n)) = 0 then 103 else 97) [(0, .ref 0), (1, .int (nI 0)), (2, .int i), (3, .int (nI 3)), (4, .int j), (5, .int n), (6, .ref 25), (7, .ref 31)] [] μ0 rfl trivial ?_
    rw [if_neg (Classical.not_not.mpr (zb_f (fun q => hn ⟨hy, q⟩)))]
    refine zq_go zt_X8_copy 2 [] 99 [(0, .ref 0), (1, .int (nI 0)), (2, .int i), (3, .int (nI 3)), (4, .int j), (5, .int n), (6, .ref 25), (7, .ref 31)] [.int (nI 2), .ref 0] μ0 rfl trivial ?_
    refine zq_call zt_X8_copy [.ref 0, .int (nI 2)] [] (zs_refuse 2 hC) rfl rfl ?_
    rintro _ μ1 ⟨rfl, hC1, f1⟩
    exact zq_retn zt_X8_copy rfl rfl (⟨rfl, hC1, f1⟩)
  · rw [if_pos (zb_f hy)]
    refine zq_go zt_X8_copy 2 [] 99 [(0, .ref 0), (1, .int (nI 0)), (2, .int i), (3, .int (nI 3)), (4, .int j), (5, .int n), (6, .ref 25), (7, .ref 31)] [.int (nI 2), .ref 0] μ0 rfl trivial ?_
    refine zq_call zt_X8_copy [.ref 0, .int (nI 2)] [] (zs_refuse 2 hC) rfl rfl ?_
    rintro _ μ1 ⟨rfl, hC1, f1⟩
    exact zq_retn zt_X8_copy rfl rfl (⟨rfl, hC1, f1⟩)
set_option maxRecDepth 100000 in
set_option maxHeartbeats 400000 in
theorem zs_copy_i_1_0 {τ : zTd} {S : zES} {H : zSH} {μ0 : zq_Me} (ht : H.1 1 = true) (hu : H.1 0 = true) (hq : H.2.1 1 = H.2.1 0) (i j n : Int32) (hn : ¬ (yfit (H.2.2.1 1) i n ∧ yfit (H.2.2.1 0) j n)) (hC : zIc τ S H μ0) : zq_Wp zn_X8_copy 0 [(0, .ref 0), (1, .int (nI 1)), (2, .int i), (3, .int (nI 0)), (4, .int j), (5, .int n)] [] μ0 (zRc (.int (-10 - nI 2)) τ S (yhf H (nI 2)) μ0) := by
  have hza := (hC.2.2.2.2.2.2.2.2.2 1 (by decide)).2
  have hs1a : μ0.1 27 1 = nI (H.2.1 1) := ((hC.2.2.2.2.2.2.2.2.1.1 1 (by decide)).1 ht).1
  have hs2a : μ0.1 27 2 = nI (H.2.2.1 1) := ((hC.2.2.2.2.2.2.2.2.1.1 1 (by decide)).1 ht).2
  have hia : ∀ i, i < 60 → μ0.1 28 i = H.2.2.2.1 1 i := (hC.2.2.2.2.2.2.2.2.1.1 1 (by decide)).2.2
  have hfma := (hC.2.2.2.2.2.2.2.2.2 1 (by decide)).1
  have hzb := (hC.2.2.2.2.2.2.2.2.2 0 (by decide)).2
  have hs1b : μ0.1 25 1 = nI (H.2.1 0) := ((hC.2.2.2.2.2.2.2.2.1.1 0 (by decide)).1 hu).1
  have hs2b : μ0.1 25 2 = nI (H.2.2.1 0) := ((hC.2.2.2.2.2.2.2.2.1.1 0 (by decide)).1 hu).2
  have hib : ∀ i, i < 60 → μ0.1 26 i = H.2.2.2.1 0 i := (hC.2.2.2.2.2.2.2.2.1.1 0 (by decide)).2.2
  have hfmb := (hC.2.2.2.2.2.2.2.2.2 0 (by decide)).1
  refine zq_go zt_X8_copy 1 [] 1 [(0, .ref 0), (1, .int (nI 1)), (2, .int i), (3, .int (nI 0)), (4, .int j), (5, .int n)] [.int (nI 1)] μ0 rfl trivial ?_
  refine zq_call zt_X8_copy [.int (nI 1)] [] (zs_isSheet (nI 1) μ0) rfl rfl ?_
  rintro _ _ ⟨rfl, rfl⟩
  refine zq_go zt_X8_copy 1 [] (if (zb (0 ≤ nI 1 ∧ nI 1 ≤ nI 3)) = 0 then 14 else 7) [(0, .ref 0), (1, .int (nI 1)), (2, .int i), (3, .int (nI 0)), (4, .int j), (5, .int n)] [] μ0 rfl trivial ?_
  rw [if_neg (zb_n (yin (by omega) (by decide)))]
  refine zq_go zt_X8_copy 1 [] 8 [(0, .ref 0), (1, .int (nI 1)), (2, .int i), (3, .int (nI 0)), (4, .int j), (5, .int n)] [.int (nI 0)] μ0 rfl trivial ?_
  refine zq_call zt_X8_copy [.int (nI 0)] [] (zs_isSheet (nI 0) μ0) rfl rfl ?_
  rintro _ _ ⟨rfl, rfl⟩
  refine zq_go zt_X8_copy 1 [] (if ¬ (zb (0 ≤ nI 0 ∧ nI 0 ≤ nI 3)) = 0 then 17 else 14) [(0, .ref 0), (1, .int (nI 1)), (2, .int i), (3, .int (nI 0)), (4, .int j), (5, .int n)] [] μ0 rfl trivial ?_
  rw [if_pos (zb_n (yin (by omega) (by decide)))]
  refine zq_go zt_X8_copy 11 [vp_in (nI 1) 4, vp_in (nI 0) 4] 35 [(0, .ref 0), (1, .int (nI 1)), (2, .int i), (3, .int (nI 0)), (4, .int j), (5, .int n), (6, .ref 27), (7, .ref 25)] [.ref 27] μ0 rfl ⟨zn_in rfl (by decide) (by decide), ⟨zn_in rfl (by decide) (by decide), trivial⟩⟩ ?_
  refine zq_call zt_X8_copy [.ref 27] [] (zs_isLost_1 ht hC) rfl rfl ?_
  rintro _ _ ⟨rfl, rfl⟩
  refine zq_go zt_X8_copy 1 [] (if ¬ (nI 0) = 0 then 49 else 41) [(0, .ref 0), (1, .int (nI 1)), (2, .int i), (3, .int (nI 0)), (4, .int j), (5, .int n), (6, .ref 27), (7, .ref 25)] [] μ0 rfl trivial ?_
  rw [if_neg (by decide)]
  refine zq_go zt_X8_copy 1 [] 43 [(0, .ref 0), (1, .int (nI 1)), (2, .int i), (3, .int (nI 0)), (4, .int j), (5, .int n), (6, .ref 27), (7, .ref 25)] [.ref 25] μ0 rfl trivial ?_
  refine zq_call zt_X8_copy [.ref 25] [] (zs_isLost_0 hu hC) rfl rfl ?_
  rintro _ _ ⟨rfl, rfl⟩
  refine zq_go zt_X8_copy 1 [] (if (nI 0) = 0 then 55 else 49) [(0, .ref 0), (1, .int (nI 1)), (2, .int i), (3, .int (nI 0)), (4, .int j), (5, .int n), (6, .ref 27), (7, .ref 25)] [] μ0 rfl trivial ?_
  rw [if_pos (by decide)]
  refine zq_go zt_X8_copy 5 [] (if (μ0.1 27 1) = (μ0.1 25 1) then 74 else 68) [(0, .ref 0), (1, .int (nI 1)), (2, .int i), (3, .int (nI 0)), (4, .int j), (5, .int n), (6, .ref 27), (7, .ref 25)] [] μ0 rfl trivial ?_
  rw [hs1a, hs1b]
  rw [if_pos (congrArg nI hq)]
  refine zq_go zt_X8_copy 3 [] 79 [(0, .ref 0), (1, .int (nI 1)), (2, .int i), (3, .int (nI 0)), (4, .int j), (5, .int n), (6, .ref 27), (7, .ref 25)] [.int n, .int i, .ref 27] μ0 rfl trivial ?_
  refine zq_call zt_X8_copy [.ref 27, .int i, .int n] [] (zs_holds_1 ht i n hC) rfl rfl ?_
  rintro _ _ ⟨rfl, rfl⟩
  refine zq_go zt_X8_copy 1 [] (if (zb (yfit (H.2.2.1 1) i n)) = 0 then 97 else 85) [(0, .ref 0), (1, .int (nI 1)), (2, .int i), (3, .int (nI 0)), (4, .int j), (5, .int n), (6, .ref 27), (7, .ref 25)] [] μ0 rfl trivial ?_
  by_cases hy : yfit (H.2.2.1 1) i n
  · rw [if_neg (zb_n hy)]
    refine zq_go zt_X8_copy 3 [] 91 [(0, .ref 0), (1, .int (nI 1)), (2, .int i), (3, .int (nI 0)), (4, .int j), (5, .int n), (6, .ref 27), (7, .ref 25)] [.int n, .int j, .ref 25] μ0 rfl trivial ?_
    refine zq_call zt_X8_copy [.ref 25, .int j, .int n] [] (zs_holds_0 hu j n hC) rfl rfl ?_
    rintro _ _ ⟨rfl, rfl⟩
    refine zq_go zt_X8_copy 1 [] (if ¬ (zb (yfit (H.2.2.1 0) j n)) = 0 then 103 else 97) [(0, .ref 0), (1, .int (nI 1)), (2, .int i), (3, .int (nI 0)), (4, .int j), (5, .int n), (6, .ref 27), (7, .ref 25)] [] μ0 rfl trivial ?_
    rw [if_neg (Classical.not_not.mpr (zb_f (fun q => hn ⟨hy, q⟩)))]
    refine zq_go zt_X8_copy 2 [] 99 [(0, .ref 0), (1, .int (nI 1)), (2, .int i), (3, .int (nI 0)), (4, .int j), (5, .int n), (6, .ref 27), (7, .ref 25)] [.int (nI 2), .ref 0] μ0 rfl trivial ?_
    refine zq_call zt_X8_copy [.ref 0, .int (nI 2)] [] (zs_refuse 2 hC) rfl rfl ?_
    rintro _ μ1 ⟨rfl, hC1, f1⟩
    exact zq_retn zt_X8_copy rfl rfl (⟨rfl, hC1, f1⟩)
  · rw [if_pos (zb_f hy)]
    refine zq_go zt_X8_copy 2 [] 99 [(0, .ref 0), (1, .int (nI 1)), (2, .int i), (3, .int (nI 0)), (4, .int j), (5, .int n), (6, .ref 27), (7, .ref 25)] [.int (nI 2), .ref 0] μ0 rfl trivial ?_
    refine zq_call zt_X8_copy [.ref 0, .int (nI 2)] [] (zs_refuse 2 hC) rfl rfl ?_
    rintro _ μ1 ⟨rfl, hC1, f1⟩
    exact zq_retn zt_X8_copy rfl rfl (⟨rfl, hC1, f1⟩)
set_option maxRecDepth 100000 in
set_option maxHeartbeats 400000 in
theorem zs_copy_i_1_1 {τ : zTd} {S : zES} {H : zSH} {μ0 : zq_Me} (ht : H.1 1 = true) (hu : H.1 1 = true) (hq : H.2.1 1 = H.2.1 1) (i j n : Int32) (hn : ¬ (yfit (H.2.2.1 1) i n ∧ yfit (H.2.2.1 1) j n)) (hC : zIc τ S H μ0) : zq_Wp zn_X8_copy 0 [(0, .ref 0), (1, .int (nI 1)), (2, .int i), (3, .int (nI 1)), (4, .int j), (5, .int n)] [] μ0 (zRc (.int (-10 - nI 2)) τ S (yhf H (nI 2)) μ0) := by
  have hza := (hC.2.2.2.2.2.2.2.2.2 1 (by decide)).2
  have hs1a : μ0.1 27 1 = nI (H.2.1 1) := ((hC.2.2.2.2.2.2.2.2.1.1 1 (by decide)).1 ht).1
  have hs2a : μ0.1 27 2 = nI (H.2.2.1 1) := ((hC.2.2.2.2.2.2.2.2.1.1 1 (by decide)).1 ht).2
  have hia : ∀ i, i < 60 → μ0.1 28 i = H.2.2.2.1 1 i := (hC.2.2.2.2.2.2.2.2.1.1 1 (by decide)).2.2
  have hfma := (hC.2.2.2.2.2.2.2.2.2 1 (by decide)).1
  have hzb := (hC.2.2.2.2.2.2.2.2.2 1 (by decide)).2
  have hs1b : μ0.1 27 1 = nI (H.2.1 1) := ((hC.2.2.2.2.2.2.2.2.1.1 1 (by decide)).1 hu).1
  have hs2b : μ0.1 27 2 = nI (H.2.2.1 1) := ((hC.2.2.2.2.2.2.2.2.1.1 1 (by decide)).1 hu).2
  have hib : ∀ i, i < 60 → μ0.1 28 i = H.2.2.2.1 1 i := (hC.2.2.2.2.2.2.2.2.1.1 1 (by decide)).2.2
  have hfmb := (hC.2.2.2.2.2.2.2.2.2 1 (by decide)).1
  refine zq_go zt_X8_copy 1 [] 1 [(0, .ref 0), (1, .int (nI 1)), (2, .int i), (3, .int (nI 1)), (4, .int j), (5, .int n)] [.int (nI 1)] μ0 rfl trivial ?_
  refine zq_call zt_X8_copy [.int (nI 1)] [] (zs_isSheet (nI 1) μ0) rfl rfl ?_
  rintro _ _ ⟨rfl, rfl⟩
  refine zq_go zt_X8_copy 1 [] (if (zb (0 ≤ nI 1 ∧ nI 1 ≤ nI 3)) = 0 then 14 else 7) [(0, .ref 0), (1, .int (nI 1)), (2, .int i), (3, .int (nI 1)), (4, .int j), (5, .int n)] [] μ0 rfl trivial ?_
  rw [if_neg (zb_n (yin (by omega) (by decide)))]
  refine zq_go zt_X8_copy 1 [] 8 [(0, .ref 0), (1, .int (nI 1)), (2, .int i), (3, .int (nI 1)), (4, .int j), (5, .int n)] [.int (nI 1)] μ0 rfl trivial ?_
  refine zq_call zt_X8_copy [.int (nI 1)] [] (zs_isSheet (nI 1) μ0) rfl rfl ?_
  rintro _ _ ⟨rfl, rfl⟩
  refine zq_go zt_X8_copy 1 [] (if ¬ (zb (0 ≤ nI 1 ∧ nI 1 ≤ nI 3)) = 0 then 17 else 14) [(0, .ref 0), (1, .int (nI 1)), (2, .int i), (3, .int (nI 1)), (4, .int j), (5, .int n)] [] μ0 rfl trivial ?_
  rw [if_pos (zb_n (yin (by omega) (by decide)))]
  refine zq_go zt_X8_copy 11 [vp_in (nI 1) 4, vp_in (nI 1) 4] 35 [(0, .ref 0), (1, .int (nI 1)), (2, .int i), (3, .int (nI 1)), (4, .int j), (5, .int n), (6, .ref 27), (7, .ref 27)] [.ref 27] μ0 rfl ⟨zn_in rfl (by decide) (by decide), ⟨zn_in rfl (by decide) (by decide), trivial⟩⟩ ?_
  refine zq_call zt_X8_copy [.ref 27] [] (zs_isLost_1 ht hC) rfl rfl ?_
  rintro _ _ ⟨rfl, rfl⟩
  refine zq_go zt_X8_copy 1 [] (if ¬ (nI 0) = 0 then 49 else 41) [(0, .ref 0), (1, .int (nI 1)), (2, .int i), (3, .int (nI 1)), (4, .int j), (5, .int n), (6, .ref 27), (7, .ref 27)] [] μ0 rfl trivial ?_
  rw [if_neg (by decide)]
  refine zq_go zt_X8_copy 1 [] 43 [(0, .ref 0), (1, .int (nI 1)), (2, .int i), (3, .int (nI 1)), (4, .int j), (5, .int n), (6, .ref 27), (7, .ref 27)] [.ref 27] μ0 rfl trivial ?_
  refine zq_call zt_X8_copy [.ref 27] [] (zs_isLost_1 hu hC) rfl rfl ?_
  rintro _ _ ⟨rfl, rfl⟩
  refine zq_go zt_X8_copy 1 [] (if (nI 0) = 0 then 55 else 49) [(0, .ref 0), (1, .int (nI 1)), (2, .int i), (3, .int (nI 1)), (4, .int j), (5, .int n), (6, .ref 27), (7, .ref 27)] [] μ0 rfl trivial ?_
  rw [if_pos (by decide)]
  refine zq_go zt_X8_copy 5 [] (if (μ0.1 27 1) = (μ0.1 27 1) then 74 else 68) [(0, .ref 0), (1, .int (nI 1)), (2, .int i), (3, .int (nI 1)), (4, .int j), (5, .int n), (6, .ref 27), (7, .ref 27)] [] μ0 rfl trivial ?_
  rw [hs1b]
  rw [if_pos (congrArg nI hq)]
  refine zq_go zt_X8_copy 3 [] 79 [(0, .ref 0), (1, .int (nI 1)), (2, .int i), (3, .int (nI 1)), (4, .int j), (5, .int n), (6, .ref 27), (7, .ref 27)] [.int n, .int i, .ref 27] μ0 rfl trivial ?_
  refine zq_call zt_X8_copy [.ref 27, .int i, .int n] [] (zs_holds_1 ht i n hC) rfl rfl ?_
  rintro _ _ ⟨rfl, rfl⟩
  refine zq_go zt_X8_copy 1 [] (if (zb (yfit (H.2.2.1 1) i n)) = 0 then 97 else 85) [(0, .ref 0), (1, .int (nI 1)), (2, .int i), (3, .int (nI 1)), (4, .int j), (5, .int n), (6, .ref 27), (7, .ref 27)] [] μ0 rfl trivial ?_
  by_cases hy : yfit (H.2.2.1 1) i n
  · rw [if_neg (zb_n hy)]
    refine zq_go zt_X8_copy 3 [] 91 [(0, .ref 0), (1, .int (nI 1)), (2, .int i), (3, .int (nI 1)), (4, .int j), (5, .int n), (6, .ref 27), (7, .ref 27)] [.int n, .int j, .ref 27] μ0 rfl trivial ?_
    refine zq_call zt_X8_copy [.ref 27, .int j, .int n] [] (zs_holds_1 hu j n hC) rfl rfl ?_
    rintro _ _ ⟨rfl, rfl⟩
    refine zq_go zt_X8_copy 1 [] (if ¬ (zb (yfit (H.2.2.1 1) j n)) = 0 then 103 else 97) [(0, .ref 0), (1, .int (nI 1)), (2, .int i), (3, .int (nI 1)), (4, .int j), (5, .int n), (6, .ref 27), (7, .ref 27)] [] μ0 rfl trivial ?_
    rw [if_neg (Classical.not_not.mpr (zb_f (fun q => hn ⟨hy, q⟩)))]
    refine zq_go zt_X8_copy 2 [] 99 [(0, .ref 0), (1, .int (nI 1)), (2, .int i), (3, .int (nI 1)), (4, .int j), (5, .int n), (6, .ref 27), (7, .ref 27)] [.int (nI 2), .ref 0] μ0 rfl trivial ?_
    refine zq_call zt_X8_copy [.ref 0, .int (nI 2)] [] (zs_refuse 2 hC) rfl rfl ?_
    rintro _ μ1 ⟨rfl, hC1, f1⟩
    exact zq_retn zt_X8_copy rfl rfl (⟨rfl, hC1, f1⟩)
  · rw [if_pos (zb_f hy)]
    refine zq_go zt_X8_copy 2 [] 99 [(0, .ref 0), (1, .int (nI 1)), (2, .int i), (3, .int (nI 1)), (4, .int j), (5, .int n), (6, .ref 27), (7, .ref 27)] [.int (nI 2), .ref 0] μ0 rfl trivial ?_
    refine zq_call zt_X8_copy [.ref 0, .int (nI 2)] [] (zs_refuse 2 hC) rfl rfl ?_
    rintro _ μ1 ⟨rfl, hC1, f1⟩
    exact zq_retn zt_X8_copy rfl rfl (⟨rfl, hC1, f1⟩)
set_option maxRecDepth 100000 in
set_option maxHeartbeats 400000 in
theorem zs_copy_i_1_2 {τ : zTd} {S : zES} {H : zSH} {μ0 : zq_Me} (ht : H.1 1 = true) (hu : H.1 2 = true) (hq : H.2.1 1 = H.2.1 2) (i j n : Int32) (hn : ¬ (yfit (H.2.2.1 1) i n ∧ yfit (H.2.2.1 2) j n)) (hC : zIc τ S H μ0) : zq_Wp zn_X8_copy 0 [(0, .ref 0), (1, .int (nI 1)), (2, .int i), (3, .int (nI 2)), (4, .int j), (5, .int n)] [] μ0 (zRc (.int (-10 - nI 2)) τ S (yhf H (nI 2)) μ0) := by
  have hza := (hC.2.2.2.2.2.2.2.2.2 1 (by decide)).2
  have hs1a : μ0.1 27 1 = nI (H.2.1 1) := ((hC.2.2.2.2.2.2.2.2.1.1 1 (by decide)).1 ht).1
  have hs2a : μ0.1 27 2 = nI (H.2.2.1 1) := ((hC.2.2.2.2.2.2.2.2.1.1 1 (by decide)).1 ht).2
  have hia : ∀ i, i < 60 → μ0.1 28 i = H.2.2.2.1 1 i := (hC.2.2.2.2.2.2.2.2.1.1 1 (by decide)).2.2
  have hfma := (hC.2.2.2.2.2.2.2.2.2 1 (by decide)).1
  have hzb := (hC.2.2.2.2.2.2.2.2.2 2 (by decide)).2
  have hs1b : μ0.1 29 1 = nI (H.2.1 2) := ((hC.2.2.2.2.2.2.2.2.1.1 2 (by decide)).1 hu).1
  have hs2b : μ0.1 29 2 = nI (H.2.2.1 2) := ((hC.2.2.2.2.2.2.2.2.1.1 2 (by decide)).1 hu).2
  have hib : ∀ i, i < 60 → μ0.1 30 i = H.2.2.2.1 2 i := (hC.2.2.2.2.2.2.2.2.1.1 2 (by decide)).2.2
  have hfmb := (hC.2.2.2.2.2.2.2.2.2 2 (by decide)).1
  refine zq_go zt_X8_copy 1 [] 1 [(0, .ref 0), (1, .int (nI 1)), (2, .int i), (3, .int (nI 2)), (4, .int j), (5, .int n)] [.int (nI 1)] μ0 rfl trivial ?_
  refine zq_call zt_X8_copy [.int (nI 1)] [] (zs_isSheet (nI 1) μ0) rfl rfl ?_
  rintro _ _ ⟨rfl, rfl⟩
  refine zq_go zt_X8_copy 1 [] (if (zb (0 ≤ nI 1 ∧ nI 1 ≤ nI 3)) = 0 then 14 else 7) [(0, .ref 0), (1, .int (nI 1)), (2, .int i), (3, .int (nI 2)), (4, .int j), (5, .int n)] [] μ0 rfl trivial ?_
  rw [if_neg (zb_n (yin (by omega) (by decide)))]
  refine zq_go zt_X8_copy 1 [] 8 [(0, .ref 0), (1, .int (nI 1)), (2, .int i), (3, .int (nI 2)), (4, .int j), (5, .int n)] [.int (nI 2)] μ0 rfl trivial ?_
  refine zq_call zt_X8_copy [.int (nI 2)] [] (zs_isSheet (nI 2) μ0) rfl rfl ?_
  rintro _ _ ⟨rfl, rfl⟩
  refine zq_go zt_X8_copy 1 [] (if ¬ (zb (0 ≤ nI 2 ∧ nI 2 ≤ nI 3)) = 0 then 17 else 14) [(0, .ref 0), (1, .int (nI 1)), (2, .int i), (3, .int (nI 2)), (4, .int j), (5, .int n)] [] μ0 rfl trivial ?_
  rw [if_pos (zb_n (yin (by omega) (by decide)))]
  refine zq_go zt_X8_copy 11 [vp_in (nI 1) 4, vp_in (nI 2) 4] 35 [(0, .ref 0), (1, .int (nI 1)), (2, .int i), (3, .int (nI 2)), (4, .int j), (5, .int n), (6, .ref 27), (7, .ref 29)] [.ref 27] μ0 rfl ⟨zn_in rfl (by decide) (by decide), ⟨zn_in rfl (by decide) (by decide), trivial⟩⟩ ?_
  refine zq_call zt_X8_copy [.ref 27] [] (zs_isLost_1 ht hC) rfl rfl ?_
  rintro _ _ ⟨rfl, rfl⟩
  refine zq_go zt_X8_copy 1 [] (if ¬ (nI 0) = 0 then 49 else 41) [(0, .ref 0), (1, .int (nI 1)), (2, .int i), (3, .int (nI 2)), (4, .int j), (5, .int n), (6, .ref 27), (7, .ref 29)] [] μ0 rfl trivial ?_
  rw [if_neg (by decide)]
  refine zq_go zt_X8_copy 1 [] 43 [(0, .ref 0), (1, .int (nI 1)), (2, .int i), (3, .int (nI 2)), (4, .int j), (5, .int n), (6, .ref 27), (7, .ref 29)] [.ref 29] μ0 rfl trivial ?_
  refine zq_call zt_X8_copy [.ref 29] [] (zs_isLost_2 hu hC) rfl rfl ?_
  rintro _ _ ⟨rfl, rfl⟩
  refine zq_go zt_X8_copy 1 [] (if (nI 0) = 0 then 55 else 49) [(0, .ref 0), (1, .int (nI 1)), (2, .int i), (3, .int (nI 2)), (4, .int j), (5, .int n), (6, .ref 27), (7, .ref 29)] [] μ0 rfl trivial ?_
  rw [if_pos (by decide)]
  refine zq_go zt_X8_copy 5 [] (if (μ0.1 27 1) = (μ0.1 29 1) then 74 else 68) [(0, .ref 0), (1, .int (nI 1)), (2, .int i), (3, .int (nI 2)), (4, .int j), (5, .int n), (6, .ref 27), (7, .ref 29)] [] μ0 rfl trivial ?_
  rw [hs1a, hs1b]
  rw [if_pos (congrArg nI hq)]
  refine zq_go zt_X8_copy 3 [] 79 [(0, .ref 0), (1, .int (nI 1)), (2, .int i), (3, .int (nI 2)), (4, .int j), (5, .int n), (6, .ref 27), (7, .ref 29)] [.int n, .int i, .ref 27] μ0 rfl trivial ?_
  refine zq_call zt_X8_copy [.ref 27, .int i, .int n] [] (zs_holds_1 ht i n hC) rfl rfl ?_
  rintro _ _ ⟨rfl, rfl⟩
  refine zq_go zt_X8_copy 1 [] (if (zb (yfit (H.2.2.1 1) i n)) = 0 then 97 else 85) [(0, .ref 0), (1, .int (nI 1)), (2, .int i), (3, .int (nI 2)), (4, .int j), (5, .int n), (6, .ref 27), (7, .ref 29)] [] μ0 rfl trivial ?_
  by_cases hy : yfit (H.2.2.1 1) i n
  · rw [if_neg (zb_n hy)]
    refine zq_go zt_X8_copy 3 [] 91 [(0, .ref 0), (1, .int (nI 1)), (2, .int i), (3, .int (nI 2)), (4, .int j), (5, .int n), (6, .ref 27), (7, .ref 29)] [.int n, .int j, .ref 29] μ0 rfl trivial ?_
    refine zq_call zt_X8_copy [.ref 29, .int j, .int n] [] (zs_holds_2 hu j n hC) rfl rfl ?_
    rintro _ _ ⟨rfl, rfl⟩
    refine zq_go zt_X8_copy 1 [] (if ¬ (zb (yfit (H.2.2.1 2) j n)) = 0 then 103 else 97) [(0, .ref 0), (1, .int (nI 1)), (2, .int i), (3, .int (nI 2)), (4, .int j), (5, .int n), (6, .ref 27), (7, .ref 29)] [] μ0 rfl trivial ?_
    rw [if_neg (Classical.not_not.mpr (zb_f (fun q => hn ⟨hy, q⟩)))]
    refine zq_go zt_X8_copy 2 [] 99 [(0, .ref 0), (1, .int (nI 1)), (2, .int i), (3, .int (nI 2)), (4, .int j), (5, .int n), (6, .ref 27), (7, .ref 29)] [.int (nI 2), .ref 0] μ0 rfl trivial ?_
    refine zq_call zt_X8_copy [.ref 0, .int (nI 2)] [] (zs_refuse 2 hC) rfl rfl ?_
    rintro _ μ1 ⟨rfl, hC1, f1⟩
    exact zq_retn zt_X8_copy rfl rfl (⟨rfl, hC1, f1⟩)
  · rw [if_pos (zb_f hy)]
    refine zq_go zt_X8_copy 2 [] 99 [(0, .ref 0), (1, .int (nI 1)), (2, .int i), (3, .int (nI 2)), (4, .int j), (5, .int n), (6, .ref 27), (7, .ref 29)] [.int (nI 2), .ref 0] μ0 rfl trivial ?_
    refine zq_call zt_X8_copy [.ref 0, .int (nI 2)] [] (zs_refuse 2 hC) rfl rfl ?_
    rintro _ μ1 ⟨rfl, hC1, f1⟩
    exact zq_retn zt_X8_copy rfl rfl (⟨rfl, hC1, f1⟩)
set_option maxRecDepth 100000 in
set_option maxHeartbeats 400000 in
theorem zs_copy_i_1_3 {τ : zTd} {S : zES} {H : zSH} {μ0 : zq_Me} (ht : H.1 1 = true) (hu : H.1 3 = true) (hq : H.2.1 1 = H.2.1 3) (i j n : Int32) (hn : ¬ (yfit (H.2.2.1 1) i n ∧ yfit (H.2.2.1 3) j n)) (hC : zIc τ S H μ0) : zq_Wp zn_X8_copy 0 [(0, .ref 0), (1, .int (nI 1)), (2, .int i), (3, .int (nI 3)), (4, .int j), (5, .int n)] [] μ0 (zRc (.int (-10 - nI 2)) τ S (yhf H (nI 2)) μ0) := by
  have hza := (hC.2.2.2.2.2.2.2.2.2 1 (by decide)).2
  have hs1a : μ0.1 27 1 = nI (H.2.1 1) := ((hC.2.2.2.2.2.2.2.2.1.1 1 (by decide)).1 ht).1
  have hs2a : μ0.1 27 2 = nI (H.2.2.1 1) := ((hC.2.2.2.2.2.2.2.2.1.1 1 (by decide)).1 ht).2
  have hia : ∀ i, i < 60 → μ0.1 28 i = H.2.2.2.1 1 i := (hC.2.2.2.2.2.2.2.2.1.1 1 (by decide)).2.2
  have hfma := (hC.2.2.2.2.2.2.2.2.2 1 (by decide)).1
  have hzb := (hC.2.2.2.2.2.2.2.2.2 3 (by decide)).2
  have hs1b : μ0.1 31 1 = nI (H.2.1 3) := ((hC.2.2.2.2.2.2.2.2.1.1 3 (by decide)).1 hu).1
  have hs2b : μ0.1 31 2 = nI (H.2.2.1 3) := ((hC.2.2.2.2.2.2.2.2.1.1 3 (by decide)).1 hu).2
  have hib : ∀ i, i < 60 → μ0.1 32 i = H.2.2.2.1 3 i := (hC.2.2.2.2.2.2.2.2.1.1 3 (by decide)).2.2
  have hfmb := (hC.2.2.2.2.2.2.2.2.2 3 (by decide)).1
  refine zq_go zt_X8_copy 1 [] 1 [(0, .ref 0), (1, .int (nI 1)), (2, .int i), (3, .int (nI 3)), (4, .int j), (5, .int n)] [.int (nI 1)] μ0 rfl trivial ?_
  refine zq_call zt_X8_copy [.int (nI 1)] [] (zs_isSheet (nI 1) μ0) rfl rfl ?_
  rintro _ _ ⟨rfl, rfl⟩
  refine zq_go zt_X8_copy 1 [] (if (zb (0 ≤ nI 1 ∧ nI 1 ≤ nI 3)) = 0 then 14 else 7) [(0, .ref 0), (1, .int (nI 1)), (2, .int i), (3, .int (nI 3)), (4, .int j), (5, .int n)] [] μ0 rfl trivial ?_
  rw [if_neg (zb_n (yin (by omega) (by decide)))]
  refine zq_go zt_X8_copy 1 [] 8 [(0, .ref 0), (1, .int (nI 1)), (2, .int i), (3, .int (nI 3)), (4, .int j), (5, .int n)] [.int (nI 3)] μ0 rfl trivial ?_
  refine zq_call zt_X8_copy [.int (nI 3)] [] (zs_isSheet (nI 3) μ0) rfl rfl ?_
  rintro _ _ ⟨rfl, rfl⟩
  refine zq_go zt_X8_copy 1 [] (if ¬ (zb (0 ≤ nI 3 ∧ nI 3 ≤ nI 3)) = 0 then 17 else 14) [(0, .ref 0), (1, .int (nI 1)), (2, .int i), (3, .int (nI 3)), (4, .int j), (5, .int n)] [] μ0 rfl trivial ?_
  rw [if_pos (zb_n (yin (by omega) (by decide)))]
  refine zq_go zt_X8_copy 11 [vp_in (nI 1) 4, vp_in (nI 3) 4] 35 [(0, .ref 0), (1, .int (nI 1)), (2, .int i), (3, .int (nI 3)), (4, .int j), (5, .int n), (6, .ref 27), (7, .ref 31)] [.ref 27] μ0 rfl ⟨zn_in rfl (by decide) (by decide), ⟨zn_in rfl (by decide) (by decide), trivial⟩⟩ ?_
  refine zq_call zt_X8_copy [.ref 27] [] (zs_isLost_1 ht hC) rfl rfl ?_
  rintro _ _ ⟨rfl, rfl⟩
  refine zq_go zt_X8_copy 1 [] (if ¬ (nI 0) = 0 then 49 else 41) [(0, .ref 0), (1, .int (nI 1)), (2, .int i), (3, .int (nI 3)), (4, .int j), (5, .int n), (6, .ref 27), (7, .ref 31)] [] μ0 rfl trivial ?_
  rw [if_neg (by decide)]
  refine zq_go zt_X8_copy 1 [] 43 [(0, .ref 0), (1, .int (nI 1)), (2, .int i), (3, .int (nI 3)), (4, .int j), (5, .int n), (6, .ref 27), (7, .ref 31)] [.ref 31] μ0 rfl trivial ?_
  refine zq_call zt_X8_copy [.ref 31] [] (zs_isLost_3 hu hC) rfl rfl ?_
  rintro _ _ ⟨rfl, rfl⟩
  refine zq_go zt_X8_copy 1 [] (if (nI 0) = 0 then 55 else 49) [(0, .ref 0), (1, .int (nI 1)), (2, .int i), (3, .int (nI 3)), (4, .int j), (5, .int n), (6, .ref 27), (7, .ref 31)] [] μ0 rfl trivial ?_
  rw [if_pos (by decide)]
  refine zq_go zt_X8_copy 5 [] (if (μ0.1 27 1) = (μ0.1 31 1) then 74 else 68) [(0, .ref 0), (1, .int (nI 1)), (2, .int i), (3, .int (nI 3)), (4, .int j), (5, .int n), (6, .ref 27), (7, .ref 31)] [] μ0 rfl trivial ?_
  rw [hs1a, hs1b]
  rw [if_pos (congrArg nI hq)]
  refine zq_go zt_X8_copy 3 [] 79 [(0, .ref 0), (1, .int (nI 1)), (2, .int i), (3, .int (nI 3)), (4, .int j), (5, .int n), (6, .ref 27), (7, .ref 31)] [.int n, .int i, .ref 27] μ0 rfl trivial ?_
  refine zq_call zt_X8_copy [.ref 27, .int i, .int n] [] (zs_holds_1 ht i n hC) rfl rfl ?_
  rintro _ _ ⟨rfl, rfl⟩
  refine zq_go zt_X8_copy 1 [] (if (zb (yfit (H.2.2.1 1) i n)) = 0 then 97 else 85) [(0, .ref 0), (1, .int (nI 1)), (2, .int i), (3, .int (nI 3)), (4, .int j), (5, .int n), (6, .ref 27), (7, .ref 31)] [] μ0 rfl trivial ?_
  by_cases hy : yfit (H.2.2.1 1) i n
  · rw [if_neg (zb_n hy)]
    refine zq_go zt_X8_copy 3 [] 91 [(0, .ref 0), (1, .int (nI 1)), (2, .int i), (3, .int (nI 3)), (4, .int j), (5, .int n), (6, .ref 27), (7, .ref 31)] [.int n, .int j, .ref 31] μ0 rfl trivial ?_
    refine zq_call zt_X8_copy [.ref 31, .int j, .int n] [] (zs_holds_3 hu j n hC) rfl rfl ?_
    rintro _ _ ⟨rfl, rfl⟩
    refine zq_go zt_X8_copy 1 [] (if ¬ (zb (yfit (H.2.2.1 3) j n)) = 0 then 103 else 97) [(0, .ref 0), (1, .int (nI 1)), (2, .int i), (3, .int (nI 3)), (4, .int j), (5, .int n), (6, .ref 27), (7, .ref 31)] [] μ0 rfl trivial ?_
    rw [if_neg (Classical.not_not.mpr (zb_f (fun q => hn ⟨hy, q⟩)))]
    refine zq_go zt_X8_copy 2 [] 99 [(0, .ref 0), (1, .int (nI 1)), (2, .int i), (3, .int (nI 3)), (4, .int j), (5, .int n), (6, .ref 27), (7, .ref 31)] [.int (nI 2), .ref 0] μ0 rfl trivial ?_
    refine zq_call zt_X8_copy [.ref 0, .int (nI 2)] [] (zs_refuse 2 hC) rfl rfl ?_
    rintro _ μ1 ⟨rfl, hC1, f1⟩
    exact zq_retn zt_X8_copy rfl rfl (⟨rfl, hC1, f1⟩)
  · rw [if_pos (zb_f hy)]
    refine zq_go zt_X8_copy 2 [] 99 [(0, .ref 0), (1, .int (nI 1)), (2, .int i), (3, .int (nI 3)), (4, .int j), (5, .int n), (6, .ref 27), (7, .ref 31)] [.int (nI 2), .ref 0] μ0 rfl trivial ?_
    refine zq_call zt_X8_copy [.ref 0, .int (nI 2)] [] (zs_refuse 2 hC) rfl rfl ?_
    rintro _ μ1 ⟨rfl, hC1, f1⟩
    exact zq_retn zt_X8_copy rfl rfl (⟨rfl, hC1, f1⟩)
set_option maxRecDepth 100000 in
set_option maxHeartbeats 400000 in
theorem zs_copy_i_2_0 {τ : zTd} {S : zES} {H : zSH} {μ0 : zq_Me} (ht : H.1 2 = true) (hu : H.1 0 = true) (hq : H.2.1 2 = H.2.1 0) (i j n : Int32) (hn : ¬ (yfit (H.2.2.1 2) i n ∧ yfit (H.2.2.1 0) j n)) (hC : zIc τ S H μ0) : zq_Wp zn_X8_copy 0 [(0, .ref 0), (1, .int (nI 2)), (2, .int i), (3, .int (nI 0)), (4, .int j), (5, .int n)] [] μ0 (zRc (.int (-10 - nI 2)) τ S (yhf H (nI 2)) μ0) := by
  have hza := (hC.2.2.2.2.2.2.2.2.2 2 (by decide)).2
  have hs1a : μ0.1 29 1 = nI (H.2.1 2) := ((hC.2.2.2.2.2.2.2.2.1.1 2 (by decide)).1 ht).1
  have hs2a : μ0.1 29 2 = nI (H.2.2.1 2) := ((hC.2.2.2.2.2.2.2.2.1.1 2 (by decide)).1 ht).2
  have hia : ∀ i, i < 60 → μ0.1 30 i = H.2.2.2.1 2 i := (hC.2.2.2.2.2.2.2.2.1.1 2 (by decide)).2.2
  have hfma := (hC.2.2.2.2.2.2.2.2.2 2 (by decide)).1
  have hzb := (hC.2.2.2.2.2.2.2.2.2 0 (by decide)).2
  have hs1b : μ0.1 25 1 = nI (H.2.1 0) := ((hC.2.2.2.2.2.2.2.2.1.1 0 (by decide)).1 hu).1
  have hs2b : μ0.1 25 2 = nI (H.2.2.1 0) := ((hC.2.2.2.2.2.2.2.2.1.1 0 (by decide)).1 hu).2
  have hib : ∀ i, i < 60 → μ0.1 26 i = H.2.2.2.1 0 i := (hC.2.2.2.2.2.2.2.2.1.1 0 (by decide)).2.2
  have hfmb := (hC.2.2.2.2.2.2.2.2.2 0 (by decide)).1
  refine zq_go zt_X8_copy 1 [] 1 [(0, .ref 0), (1, .int (nI 2)), (2, .int i), (3, .int (nI 0)), (4, .int j), (5, .int n)] [.int (nI 2)] μ0 rfl trivial ?_
  refine zq_call zt_X8_copy [.int (nI 2)] [] (zs_isSheet (nI 2) μ0) rfl rfl ?_
  rintro _ _ ⟨rfl, rfl⟩
  refine zq_go zt_X8_copy 1 [] (if (zb (0 ≤ nI 2 ∧ nI 2 ≤ nI 3)) = 0 then 14 else 7) [(0, .ref 0), (1, .int (nI 2)), (2, .int i), (3, .int (nI 0)), (4, .int j), (5, .int n)] [] μ0 rfl trivial ?_
  rw [if_neg (zb_n (yin (by omega) (by decide)))]
  refine zq_go zt_X8_copy 1 [] 8 [(0, .ref 0), (1, .int (nI 2)), (2, .int i), (3, .int (nI 0)), (4, .int j), (5, .int n)] [.int (nI 0)] μ0 rfl trivial ?_
  refine zq_call zt_X8_copy [.int (nI 0)] [] (zs_isSheet (nI 0) μ0) rfl rfl ?_
  rintro _ _ ⟨rfl, rfl⟩
  refine zq_go zt_X8_copy 1 [] (if ¬ (zb (0 ≤ nI 0 ∧ nI 0 ≤ nI 3)) = 0 then 17 else 14) [(0, .ref 0), (1, .int (nI 2)), (2, .int i), (3, .int (nI 0)), (4, .int j), (5, .int n)] [] μ0 rfl trivial ?_
  rw [if_pos (zb_n (yin (by omega) (by decide)))]
  refine zq_go zt_X8_copy 11 [vp_in (nI 2) 4, vp_in (nI 0) 4] 35 [(0, .ref 0), (1, .int (nI 2)), (2, .int i), (3, .int (nI 0)), (4, .int j), (5, .int n), (6, .ref 29), (7, .ref 25)] [.ref 29] μ0 rfl ⟨zn_in rfl (by decide) (by decide), ⟨zn_in rfl (by decide) (by decide), trivial⟩⟩ ?_
  refine zq_call zt_X8_copy [.ref 29] [] (zs_isLost_2 ht hC) rfl rfl ?_
  rintro _ _ ⟨rfl, rfl⟩
  refine zq_go zt_X8_copy 1 [] (if ¬ (nI 0) = 0 then 49 else 41) [(0, .ref 0), (1, .int (nI 2)), (2, .int i), (3, .int (nI 0)), (4, .int j), (5, .int n), (6, .ref 29), (7, .ref 25)] [] μ0 rfl trivial ?_
  rw [if_neg (by decide)]
  refine zq_go zt_X8_copy 1 [] 43 [(0, .ref 0), (1, .int (nI 2)), (2, .int i), (3, .int (nI 0)), (4, .int j), (5, .int n), (6, .ref 29), (7, .ref 25)] [.ref 25] μ0 rfl trivial ?_
  refine zq_call zt_X8_copy [.ref 25] [] (zs_isLost_0 hu hC) rfl rfl ?_
  rintro _ _ ⟨rfl, rfl⟩
  refine zq_go zt_X8_copy 1 [] (if (nI 0) = 0 then 55 else 49) [(0, .ref 0), (1, .int (nI 2)), (2, .int i), (3, .int (nI 0)), (4, .int j), (5, .int n), (6, .ref 29), (7, .ref 25)] [] μ0 rfl trivial ?_
  rw [if_pos (by decide)]
  refine zq_go zt_X8_copy 5 [] (if (μ0.1 29 1) = (μ0.1 25 1) then 74 else 68) [(0, .ref 0), (1, .int (nI 2)), (2, .int i), (3, .int (nI 0)), (4, .int j), (5, .int n), (6, .ref 29), (7, .ref 25)] [] μ0 rfl trivial ?_
  rw [hs1a, hs1b]
  rw [if_pos (congrArg nI hq)]
  refine zq_go zt_X8_copy 3 [] 79 [(0, .ref 0), (1, .int (nI 2)), (2, .int i), (3, .int (nI 0)), (4, .int j), (5, .int n), (6, .ref 29), (7, .ref 25)] [.int n, .int i, .ref 29] μ0 rfl trivial ?_
  refine zq_call zt_X8_copy [.ref 29, .int i, .int n] [] (zs_holds_2 ht i n hC) rfl rfl ?_
  rintro _ _ ⟨rfl, rfl⟩
  refine zq_go zt_X8_copy 1 [] (if (zb (yfit (H.2.2.1 2) i n)) = 0 then 97 else 85) [(0, .ref 0), (1, .int (nI 2)), (2, .int i), (3, .int (nI 0)), (4, .int j), (5, .int n), (6, .ref 29), (7, .ref 25)] [] μ0 rfl trivial ?_
  by_cases hy : yfit (H.2.2.1 2) i n
  · rw [if_neg (zb_n hy)]
    refine zq_go zt_X8_copy 3 [] 91 [(0, .ref 0), (1, .int (nI 2)), (2, .int i), (3, .int (nI 0)), (4, .int j), (5, .int n), (6, .ref 29), (7, .ref 25)] [.int n, .int j, .ref 25] μ0 rfl trivial ?_
    refine zq_call zt_X8_copy [.ref 25, .int j, .int n] [] (zs_holds_0 hu j n hC) rfl rfl ?_
    rintro _ _ ⟨rfl, rfl⟩
    refine zq_go zt_X8_copy 1 [] (if ¬ (zb (yfit (H.2.2.1 0) j n)) = 0 then 103 else 97) [(0, .ref 0), (1, .int (nI 2)), (2, .int i), (3, .int (nI 0)), (4, .int j), (5, .int n), (6, .ref 29), (7, .ref 25)] [] μ0 rfl trivial ?_
    rw [if_neg (Classical.not_not.mpr (zb_f (fun q => hn ⟨hy, q⟩)))]
    refine zq_go zt_X8_copy 2 [] 99 [(0, .ref 0), (1, .int (nI 2)), (2, .int i), (3, .int (nI 0)), (4, .int j), (5, .int n), (6, .ref 29), (7, .ref 25)] [.int (nI 2), .ref 0] μ0 rfl trivial ?_
    refine zq_call zt_X8_copy [.ref 0, .int (nI 2)] [] (zs_refuse 2 hC) rfl rfl ?_
    rintro _ μ1 ⟨rfl, hC1, f1⟩
    exact zq_retn zt_X8_copy rfl rfl (⟨rfl, hC1, f1⟩)
  · rw [if_pos (zb_f hy)]
    refine zq_go zt_X8_copy 2 [] 99 [(0, .ref 0), (1, .int (nI 2)), (2, .int i), (3, .int (nI 0)), (4, .int j), (5, .int n), (6, .ref 29), (7, .ref 25)] [.int (nI 2), .ref 0] μ0 rfl trivial ?_
    refine zq_call zt_X8_copy [.ref 0, .int (nI 2)] [] (zs_refuse 2 hC) rfl rfl ?_
    rintro _ μ1 ⟨rfl, hC1, f1⟩
    exact zq_retn zt_X8_copy rfl rfl (⟨rfl, hC1, f1⟩)
set_option maxRecDepth 100000 in
set_option maxHeartbeats 400000 in
theorem zs_copy_i_2_1 {τ : zTd} {S : zES} {H : zSH} {μ0 : zq_Me} (ht : H.1 2 = true) (hu : H.1 1 = true) (hq : H.2.1 2 = H.2.1 1) (i j n : Int32) (hn : ¬ (yfit (H.2.2.1 2) i n ∧ yfit (H.2.2.1 1) j n)) (hC : zIc τ S H μ0) : zq_Wp zn_X8_copy 0 [(0, .ref 0), (1, .int (nI 2)), (2, .int i), (3, .int (nI 1)), (4, .int j), (5, .int n)] [] μ0 (zRc (.int (-10 - nI 2)) τ S (yhf H (nI 2)) μ0) := by
  have hza := (hC.2.2.2.2.2.2.2.2.2 2 (by decide)).2
  have hs1a : μ0.1 29 1 = nI (H.2.1 2) := ((hC.2.2.2.2.2.2.2.2.1.1 2 (by decide)).1 ht).1
  have hs2a : μ0.1 29 2 = nI (H.2.2.1 2) := ((hC.2.2.2.2.2.2.2.2.1.1 2 (by decide)).1 ht).2
  have hia : ∀ i, i < 60 → μ0.1 30 i = H.2.2.2.1 2 i := (hC.2.2.2.2.2.2.2.2.1.1 2 (by decide)).2.2
  have hfma := (hC.2.2.2.2.2.2.2.2.2 2 (by decide)).1
  have hzb := (hC.2.2.2.2.2.2.2.2.2 1 (by decide)).2
  have hs1b : μ0.1 27 1 = nI (H.2.1 1) := ((hC.2.2.2.2.2.2.2.2.1.1 1 (by decide)).1 hu).1
  have hs2b : μ0.1 27 2 = nI (H.2.2.1 1) := ((hC.2.2.2.2.2.2.2.2.1.1 1 (by decide)).1 hu).2
  have hib : ∀ i, i < 60 → μ0.1 28 i = H.2.2.2.1 1 i := (hC.2.2.2.2.2.2.2.2.1.1 1 (by decide)).2.2
  have hfmb := (hC.2.2.2.2.2.2.2.2.2 1 (by decide)).1
  refine zq_go zt_X8_copy 1 [] 1 [(0, .ref 0), (1, .int (nI 2)), (2, .int i), (3, .int (nI 1)), (4, .int j), (5, .int n)] [.int (nI 2)] μ0 rfl trivial ?_
  refine zq_call zt_X8_copy [.int (nI 2)] [] (zs_isSheet (nI 2) μ0) rfl rfl ?_
  rintro _ _ ⟨rfl, rfl⟩
  refine zq_go zt_X8_copy 1 [] (if (zb (0 ≤ nI 2 ∧ nI 2 ≤ nI 3)) = 0 then 14 else 7) [(0, .ref 0), (1, .int (nI 2)), (2, .int i), (3, .int (nI 1)), (4, .int j), (5, .int n)] [] μ0 rfl trivial ?_
  rw [if_neg (zb_n (yin (by omega) (by decide)))]
  refine zq_go zt_X8_copy 1 [] 8 [(0, .ref 0), (1, .int (nI 2)), (2, .int i), (3, .int (nI 1)), (4, .int j), (5, .int n)] [.int (nI 1)] μ0 rfl trivial ?_
  refine zq_call zt_X8_copy [.int (nI 1)] [] (zs_isSheet (nI 1) μ0) rfl rfl ?_
  rintro _ _ ⟨rfl, rfl⟩
  refine zq_go zt_X8_copy 1 [] (if ¬ (zb (0 ≤ nI 1 ∧ nI 1 ≤ nI 3)) = 0 then 17 else 14) [(0, .ref 0), (1, .int (nI 2)), (2, .int i), (3, .int (nI 1)), (4, .int j), (5, .int n)] [] μ0 rfl trivial ?_
  rw [if_pos (zb_n (yin (by omega) (by decide)))]
  refine zq_go zt_X8_copy 11 [vp_in (nI 2) 4, vp_in (nI 1) 4] 35 [(0, .ref 0), (1, .int (nI 2)), (2, .int i), (3, .int (nI 1)), (4, .int j), (5, .int n), (6, .ref 29), (7, .ref 27)] [.ref 29] μ0 rfl ⟨zn_in rfl (by decide) (by decide), ⟨zn_in rfl (by decide) (by decide), trivial⟩⟩ ?_
  refine zq_call zt_X8_copy [.ref 29] [] (zs_isLost_2 ht hC) rfl rfl ?_
  rintro _ _ ⟨rfl, rfl⟩
  refine zq_go zt_X8_copy 1 [] (if ¬ (nI 0) = 0 then 49 else 41) [(0, .ref 0), (1, .int (nI 2)), (2, .int i), (3, .int (nI 1)), (4, .int j), (5, .int n), (6, .ref 29), (7, .ref 27)] [] μ0 rfl trivial ?_
  rw [if_neg (by decide)]
  refine zq_go zt_X8_copy 1 [] 43 [(0, .ref 0), (1, .int (nI 2)), (2, .int i), (3, .int (nI 1)), (4, .int j), (5, .int n), (6, .ref 29), (7, .ref 27)] [.ref 27] μ0 rfl trivial ?_
  refine zq_call zt_X8_copy [.ref 27] [] (zs_isLost_1 hu hC) rfl rfl ?_
  rintro _ _ ⟨rfl, rfl⟩
  refine zq_go zt_X8_copy 1 [] (if (nI 0) = 0 then 55 else 49) [(0, .ref 0), (1, .int (nI 2)), (2, .int i), (3, .int (nI 1)), (4, .int j), (5, .int n), (6, .ref 29), (7, .ref 27)] [] μ0 rfl trivial ?_
  rw [if_pos (by decide)]
  refine zq_go zt_X8_copy 5 [] (if (μ0.1 29 1) = (μ0.1 27 1) then 74 else 68) [(0, .ref 0), (1, .int (nI 2)), (2, .int i), (3, .int (nI 1)), (4, .int j), (5, .int n), (6, .ref 29), (7, .ref 27)] [] μ0 rfl trivial ?_
  rw [hs1a, hs1b]
  rw [if_pos (congrArg nI hq)]
  refine zq_go zt_X8_copy 3 [] 79 [(0, .ref 0), (1, .int (nI 2)), (2, .int i), (3, .int (nI 1)), (4, .int j), (5, .int n), (6, .ref 29), (7, .ref 27)] [.int n, .int i, .ref 29] μ0 rfl trivial ?_
  refine zq_call zt_X8_copy [.ref 29, .int i, .int n] [] (zs_holds_2 ht i n hC) rfl rfl ?_
  rintro _ _ ⟨rfl, rfl⟩
  refine zq_go zt_X8_copy 1 [] (if (zb (yfit (H.2.2.1 2) i n)) = 0 then 97 else 85) [(0, .ref 0), (1, .int (nI 2)), (2, .int i), (3, .int (nI 1)), (4, .int j), (5, .int n), (6, .ref 29), (7, .ref 27)] [] μ0 rfl trivial ?_
  by_cases hy : yfit (H.2.2.1 2) i n
  · rw [if_neg (zb_n hy)]
    refine zq_go zt_X8_copy 3 [] 91 [(0, .ref 0), (1, .int (nI 2)), (2, .int i), (3, .int (nI 1)), (4, .int j), (5, .int n), (6, .ref 29), (7, .ref 27)] [.int n, .int j, .ref 27] μ0 rfl trivial ?_
    refine zq_call zt_X8_copy [.ref 27, .int j, .int n] [] (zs_holds_1 hu j n hC) rfl rfl ?_
    rintro _ _ ⟨rfl, rfl⟩
    refine zq_go zt_X8_copy 1 [] (if ¬ (zb (yfit (H.2.2.1 1) j n)) = 0 then 103 else 97) [(0, .ref 0), (1, .int (nI 2)), (2, .int i), (3, .int (nI 1)), (4, .int j), (5, .int n), (6, .ref 29), (7, .ref 27)] [] μ0 rfl trivial ?_
    rw [if_neg (Classical.not_not.mpr (zb_f (fun q => hn ⟨hy, q⟩)))]
    refine zq_go zt_X8_copy 2 [] 99 [(0, .ref 0), (1, .int (nI 2)), (2, .int i), (3, .int (nI 1)), (4, .int j), (5, .int n), (6, .ref 29), (7, .ref 27)] [.int (nI 2), .ref 0] μ0 rfl trivial ?_
    refine zq_call zt_X8_copy [.ref 0, .int (nI 2)] [] (zs_refuse 2 hC) rfl rfl ?_
    rintro _ μ1 ⟨rfl, hC1, f1⟩
    exact zq_retn zt_X8_copy rfl rfl (⟨rfl, hC1, f1⟩)
  · rw [if_pos (zb_f hy)]
    refine zq_go zt_X8_copy 2 [] 99 [(0, .ref 0), (1, .int (nI 2)), (2, .int i), (3, .int (nI 1)), (4, .int j), (5, .int n), (6, .ref 29), (7, .ref 27)] [.int (nI 2), .ref 0] μ0 rfl trivial ?_
    refine zq_call zt_X8_copy [.ref 0, .int (nI 2)] [] (zs_refuse 2 hC) rfl rfl ?_
    rintro _ μ1 ⟨rfl, hC1, f1⟩
    exact zq_retn zt_X8_copy rfl rfl (⟨rfl, hC1, f1⟩)
set_option maxRecDepth 100000 in
set_option maxHeartbeats 400000 in
theorem zs_copy_i_2_2 {τ : zTd} {S : zES} {H : zSH} {μ0 : zq_Me} (ht : H.1 2 = true) (hu : H.1 2 = true) (hq : H.2.1 2 = H.2.1 2) (i j n : Int32) (hn : ¬ (yfit (H.2.2.1 2) i n ∧ yfit (H.2.2.1 2) j n)) (hC : zIc τ S H μ0) : zq_Wp zn_X8_copy 0 [(0, .ref 0), (1, .int (nI 2)), (2, .int i), (3, .int (nI 2)), (4, .int j), (5, .int n)] [] μ0 (zRc (.int (-10 - nI 2)) τ S (yhf H (nI 2)) μ0) := by
  have hza := (hC.2.2.2.2.2.2.2.2.2 2 (by decide)).2
  have hs1a : μ0.1 29 1 = nI (H.2.1 2) := ((hC.2.2.2.2.2.2.2.2.1.1 2 (by decide)).1 ht).1
  have hs2a : μ0.1 29 2 = nI (H.2.2.1 2) := ((hC.2.2.2.2.2.2.2.2.1.1 2 (by decide)).1 ht).2
  have hia : ∀ i, i < 60 → μ0.1 30 i = H.2.2.2.1 2 i := (hC.2.2.2.2.2.2.2.2.1.1 2 (by decide)).2.2
  have hfma := (hC.2.2.2.2.2.2.2.2.2 2 (by decide)).1
  have hzb := (hC.2.2.2.2.2.2.2.2.2 2 (by decide)).2
  have hs1b : μ0.1 29 1 = nI (H.2.1 2) := ((hC.2.2.2.2.2.2.2.2.1.1 2 (by decide)).1 hu).1
  have hs2b : μ0.1 29 2 = nI (H.2.2.1 2) := ((hC.2.2.2.2.2.2.2.2.1.1 2 (by decide)).1 hu).2
  have hib : ∀ i, i < 60 → μ0.1 30 i = H.2.2.2.1 2 i := (hC.2.2.2.2.2.2.2.2.1.1 2 (by decide)).2.2
  have hfmb := (hC.2.2.2.2.2.2.2.2.2 2 (by decide)).1
  refine zq_go zt_X8_copy 1 [] 1 [(0, .ref 0), (1, .int (nI 2)), (2, .int i), (3, .int (nI 2)), (4, .int j), (5, .int n)] [.int (nI 2)] μ0 rfl trivial ?_
  refine zq_call zt_X8_copy [.int (nI 2)] [] (zs_isSheet (nI 2) μ0) rfl rfl ?_
  rintro _ _ ⟨rfl, rfl⟩
  refine zq_go zt_X8_copy 1 [] (if (zb (0 ≤ nI 2 ∧ nI 2 ≤ nI 3)) = 0 then 14 else 7) [(0, .ref 0), (1, .int (nI 2)), (2, .int i), (3, .int (nI 2)), (4, .int j), (5, .int n)] [] μ0 rfl trivial ?_
  rw [if_neg (zb_n (yin (by omega) (by decide)))]
  refine zq_go zt_X8_copy 1 [] 8 [(0, .ref 0), (1, .int (nI 2)), (2, .int i), (3, .int (nI 2)), (4, .int j), (5, .int n)] [.int (nI 2)] μ0 rfl trivial ?_
  refine zq_call zt_X8_copy [.int (nI 2)] [] (zs_isSheet (nI 2) μ0) rfl rfl ?_
  rintro _ _ ⟨rfl, rfl⟩
  refine zq_go zt_X8_copy 1 [] (if ¬ (zb (0 ≤ nI 2 ∧ nI 2 ≤ nI 3)) = 0 then 17 else 14) [(0, .ref 0), (1, .int (nI 2)), (2, .int i), (3, .int (nI 2)), (4, .int j), (5, .int n)] [] μ0 rfl trivial ?_
  rw [if_pos (zb_n (yin (by omega) (by decide)))]
  refine zq_go zt_X8_copy 11 [vp_in (nI 2) 4, vp_in (nI 2) 4] 35 [(0, .ref 0), (1, .int (nI 2)), (2, .int i), (3, .int (nI 2)), (4, .int j), (5, .int n), (6, .ref 29), (7, .ref 29)] [.ref 29] μ0 rfl ⟨zn_in rfl (by decide) (by decide), ⟨zn_in rfl (by decide) (by decide), trivial⟩⟩ ?_
  refine zq_call zt_X8_copy [.ref 29] [] (zs_isLost_2 ht hC) rfl rfl ?_
  rintro _ _ ⟨rfl, rfl⟩
  refine zq_go zt_X8_copy 1 [] (if ¬ (nI 0) = 0 then 49 else 41) [(0, .ref 0), (1, .int (nI 2)), (2, .int i), (3, .int (nI 2)), (4, .int j), (5, .int n), (6, .ref 29), (7, .ref 29)] [] μ0 rfl trivial ?_
  rw [if_neg (by decide)]
  refine zq_go zt_X8_copy 1 [] 43 [(0, .ref 0), (1, .int (nI 2)), (2, .int i), (3, .int (nI 2)), (4, .int j), (5, .int n), (6, .ref 29), (7, .ref 29)] [.ref 29] μ0 rfl trivial ?_
  refine zq_call zt_X8_copy [.ref 29] [] (zs_isLost_2 hu hC) rfl rfl ?_
  rintro _ _ ⟨rfl, rfl⟩
  refine zq_go zt_X8_copy 1 [] (if (nI 0) = 0 then 55 else 49) [(0, .ref 0), (1, .int (nI 2)), (2, .int i), (3, .int (nI 2)), (4, .int j), (5, .int n), (6, .ref 29), (7, .ref 29)] [] μ0 rfl trivial ?_
  rw [if_pos (by decide)]
  refine zq_go zt_X8_copy 5 [] (if (μ0.1 29 1) = (μ0.1 29 1) then 74 else 68) [(0, .ref 0), (1, .int (nI 2)), (2, .int i), (3, .int (nI 2)), (4, .int j), (5, .int n), (6, .ref 29), (7, .ref 29)] [] μ0 rfl trivial ?_
  rw [hs1b]
  rw [if_pos (congrArg nI hq)]
  refine zq_go zt_X8_copy 3 [] 79 [(0, .ref 0), (1, .int (nI 2)), (2, .int i), (3, .int (nI 2)), (4, .int j), (5, .int n), (6, .ref 29), (7, .ref 29)] [.int n, .int i, .ref 29] μ0 rfl trivial ?_
  refine zq_call zt_X8_copy [.ref 29, .int i, .int n] [] (zs_holds_2 ht i n hC) rfl rfl ?_
  rintro _ _ ⟨rfl, rfl⟩
  refine zq_go zt_X8_copy 1 [] (if (zb (yfit (H.2.2.1 2) i n)) = 0 then 97 else 85) [(0, .ref 0), (1, .int (nI 2)), (2, .int i), (3, .int (nI 2)), (4, .int j), (5, .int n), (6, .ref 29), (7, .ref 29)] [] μ0 rfl trivial ?_
  by_cases hy : yfit (H.2.2.1 2) i n
  · rw [if_neg (zb_n hy)]
    refine zq_go zt_X8_copy 3 [] 91 [(0, .ref 0), (1, .int (nI 2)), (2, .int i), (3, .int (nI 2)), (4, .int j), (5, .int n), (6, .ref 29), (7, .ref 29)] [.int n, .int j, .ref 29] μ0 rfl trivial ?_
    refine zq_call zt_X8_copy [.ref 29, .int j, .int n] [] (zs_holds_2 hu j n hC) rfl rfl ?_
    rintro _ _ ⟨rfl, rfl⟩
    refine zq_go zt_X8_copy 1 [] (if ¬ (zb (yfit (H.2.2.1 2) j n)) = 0 then 103 else 97) [(0, .ref 0), (1, .int (nI 2)), (2, .int i), (3, .int (nI 2)), (4, .int j), (5, .int n), (6, .ref 29), (7, .ref 29)] [] μ0 rfl trivial ?_
    rw [if_neg (Classical.not_not.mpr (zb_f (fun q => hn ⟨hy, q⟩)))]
    refine zq_go zt_X8_copy 2 [] 99 [(0, .ref 0), (1, .int (nI 2)), (2, .int i), (3, .int (nI 2)), (4, .int j), (5, .int n), (6, .ref 29), (7, .ref 29)] [.int (nI 2), .ref 0] μ0 rfl trivial ?_
    refine zq_call zt_X8_copy [.ref 0, .int (nI 2)] [] (zs_refuse 2 hC) rfl rfl ?_
    rintro _ μ1 ⟨rfl, hC1, f1⟩
    exact zq_retn zt_X8_copy rfl rfl (⟨rfl, hC1, f1⟩)
  · rw [if_pos (zb_f hy)]
    refine zq_go zt_X8_copy 2 [] 99 [(0, .ref 0), (1, .int (nI 2)), (2, .int i), (3, .int (nI 2)), (4, .int j), (5, .int n), (6, .ref 29), (7, .ref 29)] [.int (nI 2), .ref 0] μ0 rfl trivial ?_
    refine zq_call zt_X8_copy [.ref 0, .int (nI 2)] [] (zs_refuse 2 hC) rfl rfl ?_
    rintro _ μ1 ⟨rfl, hC1, f1⟩
    exact zq_retn zt_X8_copy rfl rfl (⟨rfl, hC1, f1⟩)
set_option maxRecDepth 100000 in
set_option maxHeartbeats 400000 in
theorem zs_copy_i_2_3 {τ : zTd} {S : zES} {H : zSH} {μ0 : zq_Me} (ht : H.1 2 = true) (hu : H.1 3 = true) (hq : H.2.1 2 = H.2.1 3) (i j n : Int32) (hn : ¬ (yfit (H.2.2.1 2) i n ∧ yfit (H.2.2.1 3) j n)) (hC : zIc τ S H μ0) : zq_Wp zn_X8_copy 0 [(0, .ref 0), (1, .int (nI 2)), (2, .int i), (3, .int (nI 3)), (4, .int j), (5, .int n)] [] μ0 (zRc (.int (-10 - nI 2)) τ S (yhf H (nI 2)) μ0) := by
  have hza := (hC.2.2.2.2.2.2.2.2.2 2 (by decide)).2
  have hs1a : μ0.1 29 1 = nI (H.2.1 2) := ((hC.2.2.2.2.2.2.2.2.1.1 2 (by decide)).1 ht).1
  have hs2a : μ0.1 29 2 = nI (H.2.2.1 2) := ((hC.2.2.2.2.2.2.2.2.1.1 2 (by decide)).1 ht).2
  have hia : ∀ i, i < 60 → μ0.1 30 i = H.2.2.2.1 2 i := (hC.2.2.2.2.2.2.2.2.1.1 2 (by decide)).2.2
  have hfma := (hC.2.2.2.2.2.2.2.2.2 2 (by decide)).1
  have hzb := (hC.2.2.2.2.2.2.2.2.2 3 (by decide)).2
  have hs1b : μ0.1 31 1 = nI (H.2.1 3) := ((hC.2.2.2.2.2.2.2.2.1.1 3 (by decide)).1 hu).1
  have hs2b : μ0.1 31 2 = nI (H.2.2.1 3) := ((hC.2.2.2.2.2.2.2.2.1.1 3 (by decide)).1 hu).2
  have hib : ∀ i, i < 60 → μ0.1 32 i = H.2.2.2.1 3 i := (hC.2.2.2.2.2.2.2.2.1.1 3 (by decide)).2.2
  have hfmb := (hC.2.2.2.2.2.2.2.2.2 3 (by decide)).1
  refine zq_go zt_X8_copy 1 [] 1 [(0, .ref 0), (1, .int (nI 2)), (2, .int i), (3, .int (nI 3)), (4, .int j), (5, .int n)] [.int (nI 2)] μ0 rfl trivial ?_
  refine zq_call zt_X8_copy [.int (nI 2)] [] (zs_isSheet (nI 2) μ0) rfl rfl ?_
  rintro _ _ ⟨rfl, rfl⟩
  refine zq_go zt_X8_copy 1 [] (if (zb (0 ≤ nI 2 ∧ nI 2 ≤ nI 3)) = 0 then 14 else 7) [(0, .ref 0), (1, .int (nI 2)), (2, .int i), (3, .int (nI 3)), (4, .int j), (5, .int n)] [] μ0 rfl trivial ?_
  rw [if_neg (zb_n (yin (by omega) (by decide)))]
  refine zq_go zt_X8_copy 1 [] 8 [(0, .ref 0), (1, .int (nI 2)), (2, .int i), (3, .int (nI 3)), (4, .int j), (5, .int n)] [.int (nI 3)] μ0 rfl trivial ?_
  refine zq_call zt_X8_copy [.int (nI 3)] [] (zs_isSheet (nI 3) μ0) rfl rfl ?_
  rintro _ _ ⟨rfl, rfl⟩
  refine zq_go zt_X8_copy 1 [] (if ¬ (zb (0 ≤ nI 3 ∧ nI 3 ≤ nI 3)) = 0 then 17 else 14) [(0, .ref 0), (1, .int (nI 2)), (2, .int i), (3, .int (nI 3)), (4, .int j), (5, .int n)] [] μ0 rfl trivial ?_
  rw [if_pos (zb_n (yin (by omega) (by decide)))]
  refine zq_go zt_X8_copy 11 [vp_in (nI 2) 4, vp_in (nI 3) 4] 35 [(0, .ref 0), (1, .int (nI 2)), (2, .int i), (3, .int (nI 3)), (4, .int j), (5, .int n), (6, .ref 29), (7, .ref 31)] [.ref 29] μ0 rfl ⟨zn_in rfl (by decide) (by decide), ⟨zn_in rfl (by decide) (by decide), trivial⟩⟩ ?_
  refine zq_call zt_X8_copy [.ref 29] [] (zs_isLost_2 ht hC) rfl rfl ?_
  rintro _ _ ⟨rfl, rfl⟩
  refine zq_go zt_X8_copy 1 [] (if ¬ (nI 0) = 0 then 49 else 41) [(0, .ref 0), (1, .int (nI 2)), (2, .int i), (3, .int (nI 3)), (4, .int j), (5, .int n), (6, .ref 29), (7, .ref 31)] [] μ0 rfl trivial ?_
  rw [if_neg (by decide)]
  refine zq_go zt_X8_copy 1 [] 43 [(0, .ref 0), (1, .int (nI 2)), (2, .int i), (3, .int (nI 3)), (4, .int j), (5, .int n), (6, .ref 29), (7, .ref 31)] [.ref 31] μ0 rfl trivial ?_
  refine zq_call zt_X8_copy [.ref 31] [] (zs_isLost_3 hu hC) rfl rfl ?_
  rintro _ _ ⟨rfl, rfl⟩
  refine zq_go zt_X8_copy 1 [] (if (nI 0) = 0 then 55 else 49) [(0, .ref 0), (1, .int (nI 2)), (2, .int i), (3, .int (nI 3)), (4, .int j), (5, .int n), (6, .ref 29), (7, .ref 31)] [] μ0 rfl trivial ?_
  rw [if_pos (by decide)]
  refine zq_go zt_X8_copy 5 [] (if (μ0.1 29 1) = (μ0.1 31 1) then 74 else 68) [(0, .ref 0), (1, .int (nI 2)), (2, .int i), (3, .int (nI 3)), (4, .int j), (5, .int n), (6, .ref 29), (7, .ref 31)] [] μ0 rfl trivial ?_
  rw [hs1a, hs1b]
  rw [if_pos (congrArg nI hq)]
  refine zq_go zt_X8_copy 3 [] 79 [(0, .ref 0), (1, .int (nI 2)), (2, .int i), (3, .int (nI 3)), (4, .int j), (5, .int n), (6, .ref 29), (7, .ref 31)] [.int n, .int i, .ref 29] μ0 rfl trivial ?_
  refine zq_call zt_X8_copy [.ref 29, .int i, .int n] [] (zs_holds_2 ht i n hC) rfl rfl ?_
  rintro _ _ ⟨rfl, rfl⟩
  refine zq_go zt_X8_copy 1 [] (if (zb (yfit (H.2.2.1 2) i n)) = 0 then 97 else 85) [(0, .ref 0), (1, .int (nI 2)), (2, .int i), (3, .int (nI 3)), (4, .int j), (5, .int n), (6, .ref 29), (7, .ref 31)] [] μ0 rfl trivial ?_
  by_cases hy : yfit (H.2.2.1 2) i n
  · rw [if_neg (zb_n hy)]
    refine zq_go zt_X8_copy 3 [] 91 [(0, .ref 0), (1, .int (nI 2)), (2, .int i), (3, .int (nI 3)), (4, .int j), (5, .int n), (6, .ref 29), (7, .ref 31)] [.int n, .int j, .ref 31] μ0 rfl trivial ?_
    refine zq_call zt_X8_copy [.ref 31, .int j, .int n] [] (zs_holds_3 hu j n hC) rfl rfl ?_
    rintro _ _ ⟨rfl, rfl⟩
    refine zq_go zt_X8_copy 1 [] (if ¬ (zb (yfit (H.2.2.1 3) j n)) = 0 then 103 else 97) [(0, .ref 0), (1, .int (nI 2)), (2, .int i), (3, .int (nI 3)), (4, .int j), (5, .int n), (6, .ref 29), (7, .ref 31)] [] μ0 rfl trivial ?_
    rw [if_neg (Classical.not_not.mpr (zb_f (fun q => hn ⟨hy, q⟩)))]
    refine zq_go zt_X8_copy 2 [] 99 [(0, .ref 0), (1, .int (nI 2)), (2, .int i), (3, .int (nI 3)), (4, .int j), (5, .int n), (6, .ref 29), (7, .ref 31)] [.int (nI 2), .ref 0] μ0 rfl trivial ?_
    refine zq_call zt_X8_copy [.ref 0, .int (nI 2)] [] (zs_refuse 2 hC) rfl rfl ?_
    rintro _ μ1 ⟨rfl, hC1, f1⟩
    exact zq_retn zt_X8_copy rfl rfl (⟨rfl, hC1, f1⟩)
  · rw [if_pos (zb_f hy)]
    refine zq_go zt_X8_copy 2 [] 99 [(0, .ref 0), (1, .int (nI 2)), (2, .int i), (3, .int (nI 3)), (4, .int j), (5, .int n), (6, .ref 29), (7, .ref 31)] [.int (nI 2), .ref 0] μ0 rfl trivial ?_
    refine zq_call zt_X8_copy [.ref 0, .int (nI 2)] [] (zs_refuse 2 hC) rfl rfl ?_
    rintro _ μ1 ⟨rfl, hC1, f1⟩
    exact zq_retn zt_X8_copy rfl rfl (⟨rfl, hC1, f1⟩)
set_option maxRecDepth 100000 in
set_option maxHeartbeats 400000 in
theorem zs_copy_i_3_0 {τ : zTd} {S : zES} {H : zSH} {μ0 : zq_Me} (ht : H.1 3 = true) (hu : H.1 0 = true) (hq : H.2.1 3 = H.2.1 0) (i j n : Int32) (hn : ¬ (yfit (H.2.2.1 3) i n ∧ yfit (H.2.2.1 0) j n)) (hC : zIc τ S H μ0) : zq_Wp zn_X8_copy 0 [(0, .ref 0), (1, .int (nI 3)), (2, .int i), (3, .int (nI 0)), (4, .int j), (5, .int n)] [] μ0 (zRc (.int (-10 - nI 2)) τ S (yhf H (nI 2)) μ0) := by
  have hza := (hC.2.2.2.2.2.2.2.2.2 3 (by decide)).2
  have hs1a : μ0.1 31 1 = nI (H.2.1 3) := ((hC.2.2.2.2.2.2.2.2.1.1 3 (by decide)).1 ht).1
  have hs2a : μ0.1 31 2 = nI (H.2.2.1 3) := ((hC.2.2.2.2.2.2.2.2.1.1 3 (by decide)).1 ht).2
  have hia : ∀ i, i < 60 → μ0.1 32 i = H.2.2.2.1 3 i := (hC.2.2.2.2.2.2.2.2.1.1 3 (by decide)).2.2
  have hfma := (hC.2.2.2.2.2.2.2.2.2 3 (by decide)).1
  have hzb := (hC.2.2.2.2.2.2.2.2.2 0 (by decide)).2
  have hs1b : μ0.1 25 1 = nI (H.2.1 0) := ((hC.2.2.2.2.2.2.2.2.1.1 0 (by decide)).1 hu).1
  have hs2b : μ0.1 25 2 = nI (H.2.2.1 0) := ((hC.2.2.2.2.2.2.2.2.1.1 0 (by decide)).1 hu).2
  have hib : ∀ i, i < 60 → μ0.1 26 i = H.2.2.2.1 0 i := (hC.2.2.2.2.2.2.2.2.1.1 0 (by decide)).2.2
  have hfmb := (hC.2.2.2.2.2.2.2.2.2 0 (by decide)).1
  refine zq_go zt_X8_copy 1 [] 1 [(0, .ref 0), (1, .int (nI 3)), (2, .int i), (3, .int (nI 0)), (4, .int j), (5, .int n)] [.int (nI 3)] μ0 rfl trivial ?_
  refine zq_call zt_X8_copy [.int (nI 3)] [] (zs_isSheet (nI 3) μ0) rfl rfl ?_
  rintro _ _ ⟨rfl, rfl⟩
  refine zq_go zt_X8_copy 1 [] (if (zb (0 ≤ nI 3 ∧ nI 3 ≤ nI 3)) = 0 then 14 else 7) [(0, .ref 0), (1, .int (nI 3)), (2, .int i), (3, .int (nI 0)), (4, .int j), (5, .int n)] [] μ0 rfl trivial ?_
  rw [if_neg (zb_n (yin (by omega) (by decide)))]
  refine zq_go zt_X8_copy 1 [] 8 [(0, .ref 0), (1, .int (nI 3)), (2, .int i), (3, .int (nI 0)), (4, .int j), (5, .int n)] [.int (nI 0)] μ0 rfl trivial ?_
  refine zq_call zt_X8_copy [.int (nI 0)] [] (zs_isSheet (nI 0) μ0) rfl rfl ?_
  rintro _ _ ⟨rfl, rfl⟩
  refine zq_go zt_X8_copy 1 [] (if ¬ (zb (0 ≤ nI 0 ∧ nI 0 ≤ nI 3)) = 0 then 17 else 14) [(0, .ref 0), (1, .int (nI 3)), (2, .int i), (3, .int (nI 0)), (4, .int j), (5, .int n)] [] μ0 rfl trivial ?_
  rw [if_pos (zb_n (yin (by omega) (by decide)))]
  refine zq_go zt_X8_copy 11 [vp_in (nI 3) 4, vp_in (nI 0) 4] 35 [(0, .ref 0), (1, .int (nI 3)), (2, .int i), (3, .int (nI 0)), (4, .int j), (5, .int n), (6, .ref 31), (7, .ref 25)] [.ref 31] μ0 rfl ⟨zn_in rfl (by decide) (by decide), ⟨zn_in rfl (by decide) (by decide), trivial⟩⟩ ?_
  refine zq_call zt_X8_copy [.ref 31] [] (zs_isLost_3 ht hC) rfl rfl ?_
  rintro _ _ ⟨rfl, rfl⟩
  refine zq_go zt_X8_copy 1 [] (if ¬ (nI 0) = 0 then 49 else 41) [(0, .ref 0), (1, .int (nI 3)), (2, .int i), (3, .int (nI 0)), (4, .int j), (5, .int n), (6, .ref 31), (7, .ref 25)] [] μ0 rfl trivial ?_
  rw [if_neg (by decide)]
  refine zq_go zt_X8_copy 1 [] 43 [(0, .ref 0), (1, .int (nI 3)), (2, .int i), (3, .int (nI 0)), (4, .int j), (5, .int n), (6, .ref 31), (7, .ref 25)] [.ref 25] μ0 rfl trivial ?_
  refine zq_call zt_X8_copy [.ref 25] [] (zs_isLost_0 hu hC) rfl rfl ?_
  rintro _ _ ⟨rfl, rfl⟩
  refine zq_go zt_X8_copy 1 [] (if (nI 0) = 0 then 55 else 49) [(0, .ref 0), (1, .int (nI 3)), (2, .int i), (3, .int (nI 0)), (4, .int j), (5, .int n), (6, .ref 31), (7, .ref 25)] [] μ0 rfl trivial ?_
  rw [if_pos (by decide)]
  refine zq_go zt_X8_copy 5 [] (if (μ0.1 31 1) = (μ0.1 25 1) then 74 else 68) [(0, .ref 0), (1, .int (nI 3)), (2, .int i), (3, .int (nI 0)), (4, .int j), (5, .int n), (6, .ref 31), (7, .ref 25)] [] μ0 rfl trivial ?_
  rw [hs1a, hs1b]
  rw [if_pos (congrArg nI hq)]
  refine zq_go zt_X8_copy 3 [] 79 [(0, .ref 0), (1, .int (nI 3)), (2, .int i), (3, .int (nI 0)), (4, .int j), (5, .int n), (6, .ref 31), (7, .ref 25)] [.int n, .int i, .ref 31] μ0 rfl trivial ?_
  refine zq_call zt_X8_copy [.ref 31, .int i, .int n] [] (zs_holds_3 ht i n hC) rfl rfl ?_
  rintro _ _ ⟨rfl, rfl⟩
  refine zq_go zt_X8_copy 1 [] (if (zb (yfit (H.2.2.1 3) i n)) = 0 then 97 else 85) [(0, .ref 0), (1, .int (nI 3)), (2, .int i), (3, .int (nI 0)), (4, .int j), (5, .int n), (6, .ref 31), (7, .ref 25)] [] μ0 rfl trivial ?_
  by_cases hy : yfit (H.2.2.1 3) i n
  · rw [if_neg (zb_n hy)]
    refine zq_go zt_X8_copy 3 [] 91 [(0, .ref 0), (1, .int (nI 3)), (2, .int i), (3, .int (nI 0)), (4, .int j), (5, .int n), (6, .ref 31), (7, .ref 25)] [.int n, .int j, .ref 25] μ0 rfl trivial ?_
    refine zq_call zt_X8_copy [.ref 25, .int j, .int n] [] (zs_holds_0 hu j n hC) rfl rfl ?_
    rintro _ _ ⟨rfl, rfl⟩
    refine zq_go zt_X8_copy 1 [] (if ¬ (zb (yfit (H.2.2.1 0) j n)) = 0 then 103 else 97) [(0, .ref 0), (1, .int (nI 3)), (2, .int i), (3, .int (nI 0)), (4, .int j), (5, .int n), (6, .ref 31), (7, .ref 25)] [] μ0 rfl trivial ?_
    rw [if_neg (Classical.not_not.mpr (zb_f (fun q => hn ⟨hy, q⟩)))]
    refine zq_go zt_X8_copy 2 [] 99 [(0, .ref 0), (1, .int (nI 3)), (2, .int i), (3, .int (nI 0)), (4, .int j), (5, .int n), (6, .ref 31), (7, .ref 25)] [.int (nI 2), .ref 0] μ0 rfl trivial ?_
    refine zq_call zt_X8_copy [.ref 0, .int (nI 2)] [] (zs_refuse 2 hC) rfl rfl ?_
    rintro _ μ1 ⟨rfl, hC1, f1⟩
    exact zq_retn zt_X8_copy rfl rfl (⟨rfl, hC1, f1⟩)
  · rw [if_pos (zb_f hy)]
    refine zq_go zt_X8_copy 2 [] 99 [(0, .ref 0), (1, .int (nI 3)), (2, .int i), (3, .int (nI 0)), (4, .int j), (5, .int n), (6, .ref 31), (7, .ref 25)] [.int (nI 2), .ref 0] μ0 rfl trivial ?_
    refine zq_call zt_X8_copy [.ref 0, .int (nI 2)] [] (zs_refuse 2 hC) rfl rfl ?_
    rintro _ μ1 ⟨rfl, hC1, f1⟩
    exact zq_retn zt_X8_copy rfl rfl (⟨rfl, hC1, f1⟩)
set_option maxRecDepth 100000 in
set_option maxHeartbeats 400000 in
theorem zs_copy_i_3_1 {τ : zTd} {S : zES} {H : zSH} {μ0 : zq_Me} (ht : H.1 3 = true) (hu : H.1 1 = true) (hq : H.2.1 3 = H.2.1 1) (i j n : Int32) (hn : ¬ (yfit (H.2.2.1 3) i n ∧ yfit (H.2.2.1 1) j n)) (hC : zIc τ S H μ0) : zq_Wp zn_X8_copy 0 [(0, .ref 0), (1, .int (nI 3)), (2, .int i), (3, .int (nI 1)), (4, .int j), (5, .int n)] [] μ0 (zRc (.int (-10 - nI 2)) τ S (yhf H (nI 2)) μ0) := by
  have hza := (hC.2.2.2.2.2.2.2.2.2 3 (by decide)).2
  have hs1a : μ0.1 31 1 = nI (H.2.1 3) := ((hC.2.2.2.2.2.2.2.2.1.1 3 (by decide)).1 ht).1
  have hs2a : μ0.1 31 2 = nI (H.2.2.1 3) := ((hC.2.2.2.2.2.2.2.2.1.1 3 (by decide)).1 ht).2
  have hia : ∀ i, i < 60 → μ0.1 32 i = H.2.2.2.1 3 i := (hC.2.2.2.2.2.2.2.2.1.1 3 (by decide)).2.2
  have hfma := (hC.2.2.2.2.2.2.2.2.2 3 (by decide)).1
  have hzb := (hC.2.2.2.2.2.2.2.2.2 1 (by decide)).2
  have hs1b : μ0.1 27 1 = nI (H.2.1 1) := ((hC.2.2.2.2.2.2.2.2.1.1 1 (by decide)).1 hu).1
  have hs2b : μ0.1 27 2 = nI (H.2.2.1 1) := ((hC.2.2.2.2.2.2.2.2.1.1 1 (by decide)).1 hu).2
  have hib : ∀ i, i < 60 → μ0.1 28 i = H.2.2.2.1 1 i := (hC.2.2.2.2.2.2.2.2.1.1 1 (by decide)).2.2
  have hfmb := (hC.2.2.2.2.2.2.2.2.2 1 (by decide)).1
  refine zq_go zt_X8_copy 1 [] 1 [(0, .ref 0), (1, .int (nI 3)), (2, .int i), (3, .int (nI 1)), (4, .int j), (5, .int n)] [.int (nI 3)] μ0 rfl trivial ?_
  refine zq_call zt_X8_copy [.int (nI 3)] [] (zs_isSheet (nI 3) μ0) rfl rfl ?_
  rintro _ _ ⟨rfl, rfl⟩
  refine zq_go zt_X8_copy 1 [] (if (zb (0 ≤ nI 3 ∧ nI 3 ≤ nI 3)) = 0 then 14 else 7) [(0, .ref 0), (1, .int (nI 3)), (2, .int i), (3, .int (nI 1)), (4, .int j), (5, .int n)] [] μ0 rfl trivial ?_
  rw [if_neg (zb_n (yin (by omega) (by decide)))]
  refine zq_go zt_X8_copy 1 [] 8 [(0, .ref 0), (1, .int (nI 3)), (2, .int i), (3, .int (nI 1)), (4, .int j), (5, .int n)] [.int (nI 1)] μ0 rfl trivial ?_
  refine zq_call zt_X8_copy [.int (nI 1)] [] (zs_isSheet (nI 1) μ0) rfl rfl ?_
  rintro _ _ ⟨rfl, rfl⟩
  refine zq_go zt_X8_copy 1 [] (if ¬ (zb (0 ≤ nI 1 ∧ nI 1 ≤ nI 3)) = 0 then 17 else 14) [(0, .ref 0), (1, .int (nI 3)), (2, .int i), (3, .int (nI 1)), (4, .int j), (5, .int n)] [] μ0 rfl trivial ?_
  rw [if_pos (zb_n (yin (by omega) (by decide)))]
  refine zq_go zt_X8_copy 11 [vp_in (nI 3) 4, vp_in (nI 1) 4] 35 [(0, .ref 0), (1, .int (nI 3)), (2, .int i), (3, .int (nI 1)), (4, .int j), (5, .int n), (6, .ref 31), (7, .ref 27)] [.ref 31] μ0 rfl ⟨zn_in rfl (by decide) (by decide), ⟨zn_in rfl (by decide) (by decide), trivial⟩⟩ ?_
  refine zq_call zt_X8_copy [.ref 31] [] (zs_isLost_3 ht hC) rfl rfl ?_
  rintro _ _ ⟨rfl, rfl⟩
  refine zq_go zt_X8_copy 1 [] (if ¬ (nI 0) = 0 then 49 else 41) [(0, .ref 0), (1, .int (nI 3)), (2, .int i), (3, .int (nI 1)), (4, .int j), (5, .int n), (6, .ref 31), (7, .ref 27)] [] μ0 rfl trivial ?_
  rw [if_neg (by decide)]
  refine zq_go zt_X8_copy 1 [] 43 [(0, .ref 0), (1, .int (nI 3)), (2, .int i), (3, .int (nI 1)), (4, .int j), (5, .int n), (6, .ref 31), (7, .ref 27)] [.ref 27] μ0 rfl trivial ?_
  refine zq_call zt_X8_copy [.ref 27] [] (zs_isLost_1 hu hC) rfl rfl ?_
  rintro _ _ ⟨rfl, rfl⟩
  refine zq_go zt_X8_copy 1 [] (if (nI 0) = 0 then 55 else 49) [(0, .ref 0), (1, .int (nI 3)), (2, .int i), (3, .int (nI 1)), (4, .int j), (5, .int n), (6, .ref 31), (7, .ref 27)] [] μ0 rfl trivial ?_
  rw [if_pos (by decide)]
  refine zq_go zt_X8_copy 5 [] (if (μ0.1 31 1) = (μ0.1 27 1) then 74 else 68) [(0, .ref 0), (1, .int (nI 3)), (2, .int i), (3, .int (nI 1)), (4, .int j), (5, .int n), (6, .ref 31), (7, .ref 27)] [] μ0 rfl trivial ?_
  rw [hs1a, hs1b]
  rw [if_pos (congrArg nI hq)]
  refine zq_go zt_X8_copy 3 [] 79 [(0, .ref 0), (1, .int (nI 3)), (2, .int i), (3, .int (nI 1)), (4, .int j), (5, .int n), (6, .ref 31), (7, .ref 27)] [.int n, .int i, .ref 31] μ0 rfl trivial ?_
  refine zq_call zt_X8_copy [.ref 31, .int i, .int n] [] (zs_holds_3 ht i n hC) rfl rfl ?_
  rintro _ _ ⟨rfl, rfl⟩
  refine zq_go zt_X8_copy 1 [] (if (zb (yfit (H.2.2.1 3) i n)) = 0 then 97 else 85) [(0, .ref 0), (1, .int (nI 3)), (2, .int i), (3, .int (nI 1)), (4, .int j), (5, .int n), (6, .ref 31), (7, .ref 27)] [] μ0 rfl trivial ?_
  by_cases hy : yfit (H.2.2.1 3) i n
  · rw [if_neg (zb_n hy)]
    refine zq_go zt_X8_copy 3 [] 91 [(0, .ref 0), (1, .int (nI 3)), (2, .int i), (3, .int (nI 1)), (4, .int j), (5, .int n), (6, .ref 31), (7, .ref 27)] [.int n, .int j, .ref 27] μ0 rfl trivial ?_
    refine zq_call zt_X8_copy [.ref 27, .int j, .int n] [] (zs_holds_1 hu j n hC) rfl rfl ?_
    rintro _ _ ⟨rfl, rfl⟩
    refine zq_go zt_X8_copy 1 [] (if ¬ (zb (yfit (H.2.2.1 1) j n)) = 0 then 103 else 97) [(0, .ref 0), (1, .int (nI 3)), (2, .int i), (3, .int (nI 1)), (4, .int j), (5, .int n), (6, .ref 31), (7, .ref 27)] [] μ0 rfl trivial ?_
    rw [if_neg (Classical.not_not.mpr (zb_f (fun q => hn ⟨hy, q⟩)))]
    refine zq_go zt_X8_copy 2 [] 99 [(0, .ref 0), (1, .int (nI 3)), (2, .int i), (3, .int (nI 1)), (4, .int j), (5, .int n), (6, .ref 31), (7, .ref 27)] [.int (nI 2), .ref 0] μ0 rfl trivial ?_
    refine zq_call zt_X8_copy [.ref 0, .int (nI 2)] [] (zs_refuse 2 hC) rfl rfl ?_
    rintro _ μ1 ⟨rfl, hC1, f1⟩
    exact zq_retn zt_X8_copy rfl rfl (⟨rfl, hC1, f1⟩)
  · rw [if_pos (zb_f hy)]
    refine zq_go zt_X8_copy 2 [] 99 [(0, .ref 0), (1, .int (nI 3)), (2, .int i), (3, .int (nI 1)), (4, .int j), (5, .int n), (6, .ref 31), (7, .ref 27)] [.int (nI 2), .ref 0] μ0 rfl trivial ?_
    refine zq_call zt_X8_copy [.ref 0, .int (nI 2)] [] (zs_refuse 2 hC) rfl rfl ?_
    rintro _ μ1 ⟨rfl, hC1, f1⟩
    exact zq_retn zt_X8_copy rfl rfl (⟨rfl, hC1, f1⟩)
set_option maxRecDepth 100000 in
set_option maxHeartbeats 400000 in
theorem zs_copy_i_3_2 {τ : zTd} {S : zES} {H : zSH} {μ0 : zq_Me} (ht : H.1 3 = true) (hu : H.1 2 = true) (hq : H.2.1 3 = H.2.1 2) (i j n : Int32) (hn : ¬ (yfit (H.2.2.1 3) i n ∧ yfit (H.2.2.1 2) j n)) (hC : zIc τ S H μ0) : zq_Wp zn_X8_copy 0 [(0, .ref 0), (1, .int (nI 3)), (2, .int i), (3, .int (nI 2)), (4, .int j), (5, .int n)] [] μ0 (zRc (.int (-10 - nI 2)) τ S (yhf H (nI 2)) μ0) := by
  have hza := (hC.2.2.2.2.2.2.2.2.2 3 (by decide)).2
  have hs1a : μ0.1 31 1 = nI (H.2.1 3) := ((hC.2.2.2.2.2.2.2.2.1.1 3 (by decide)).1 ht).1
  have hs2a : μ0.1 31 2 = nI (H.2.2.1 3) := ((hC.2.2.2.2.2.2.2.2.1.1 3 (by decide)).1 ht).2
  have hia : ∀ i, i < 60 → μ0.1 32 i = H.2.2.2.1 3 i := (hC.2.2.2.2.2.2.2.2.1.1 3 (by decide)).2.2
  have hfma := (hC.2.2.2.2.2.2.2.2.2 3 (by decide)).1
  have hzb := (hC.2.2.2.2.2.2.2.2.2 2 (by decide)).2
  have hs1b : μ0.1 29 1 = nI (H.2.1 2) := ((hC.2.2.2.2.2.2.2.2.1.1 2 (by decide)).1 hu).1
  have hs2b : μ0.1 29 2 = nI (H.2.2.1 2) := ((hC.2.2.2.2.2.2.2.2.1.1 2 (by decide)).1 hu).2
  have hib : ∀ i, i < 60 → μ0.1 30 i = H.2.2.2.1 2 i := (hC.2.2.2.2.2.2.2.2.1.1 2 (by decide)).2.2
  have hfmb := (hC.2.2.2.2.2.2.2.2.2 2 (by decide)).1
  refine zq_go zt_X8_copy 1 [] 1 [(0, .ref 0), (1, .int (nI 3)), (2, .int i), (3, .int (nI 2)), (4, .int j), (5, .int n)] [.int (nI 3)] μ0 rfl trivial ?_
  refine zq_call zt_X8_copy [.int (nI 3)] [] (zs_isSheet (nI 3) μ0) rfl rfl ?_
  rintro _ _ ⟨rfl, rfl⟩
  refine zq_go zt_X8_copy 1 [] (if (zb (0 ≤ nI 3 ∧ nI 3 ≤ nI 3)) = 0 then 14 else 7) [(0, .ref 0), (1, .int (nI 3)), (2, .int i), (3, .int (nI 2)), (4, .int j), (5, .int n)] [] μ0 rfl trivial ?_
  rw [if_neg (zb_n (yin (by omega) (by decide)))]
  refine zq_go zt_X8_copy 1 [] 8 [(0, .ref 0), (1, .int (nI 3)), (2, .int i), (3, .int (nI 2)), (4, .int j), (5, .int n)] [.int (nI 2)] μ0 rfl trivial ?_
  refine zq_call zt_X8_copy [.int (nI 2)] [] (zs_isSheet (nI 2) μ0) rfl rfl ?_
  rintro _ _ ⟨rfl, rfl⟩
  refine zq_go zt_X8_copy 1 [] (if ¬ (zb (0 ≤ nI 2 ∧ nI 2 ≤ nI 3)) = 0 then 17 else 14) [(0, .ref 0), (1, .int (nI 3)), (2, .int i), (3, .int (nI 2)), (4, .int j), (5, .int n)] [] μ0 rfl trivial ?_
  rw [if_pos (zb_n (yin (by omega) (by decide)))]
  refine zq_go zt_X8_copy 11 [vp_in (nI 3) 4, vp_in (nI 2) 4] 35 [(0, .ref 0), (1, .int (nI 3)), (2, .int i), (3, .int (nI 2)), (4, .int j), (5, .int n), (6, .ref 31), (7, .ref 29)] [.ref 31] μ0 rfl ⟨zn_in rfl (by decide) (by decide), ⟨zn_in rfl (by decide) (by decide), trivial⟩⟩ ?_
  refine zq_call zt_X8_copy [.ref 31] [] (zs_isLost_3 ht hC) rfl rfl ?_
  rintro _ _ ⟨rfl, rfl⟩
  refine zq_go zt_X8_copy 1 [] (if ¬ (nI 0) = 0 then 49 else 41) [(0, .ref 0), (1, .int (nI 3)), (2, .int i), (3, .int (nI 2)), (4, .int j), (5, .int n), (6, .ref 31), (7, .ref 29)] [] μ0 rfl trivial ?_
  rw [if_neg (by decide)]
  refine zq_go zt_X8_copy 1 [] 43 [(0, .ref 0), (1, .int (nI 3)), (2, .int i), (3, .int (nI 2)), (4, .int j), (5, .int n), (6, .ref 31), (7, .ref 29)] [.ref 29] μ0 rfl trivial ?_
  refine zq_call zt_X8_copy [.ref 29] [] (zs_isLost_2 hu hC) rfl rfl ?_
  rintro _ _ ⟨rfl, rfl⟩
  refine zq_go zt_X8_copy 1 [] (if (nI 0) = 0 then 55 else 49) [(0, .ref 0), (1, .int (nI 3)), (2, .int i), (3, .int (nI 2)), (4, .int j), (5, .int n), (6, .ref 31), (7, .ref 29)] [] μ0 rfl trivial ?_
  rw [if_pos (by decide)]
  refine zq_go zt_X8_copy 5 [] (if (μ0.1 31 1) = (μ0.1 29 1) then 74 else 68) [(0, .ref 0), (1, .int (nI 3)), (2, .int i), (3, .int (nI 2)), (4, .int j), (5, .int n), (6, .ref 31), (7, .ref 29)] [] μ0 rfl trivial ?_
  rw [hs1a, hs1b]
  rw [if_pos (congrArg nI hq)]
  refine zq_go zt_X8_copy 3 [] 79 [(0, .ref 0), (1, .int (nI 3)), (2, .int i), (3, .int (nI 2)), (4, .int j), (5, .int n), (6, .ref 31), (7, .ref 29)] [.int n, .int i, .ref 31] μ0 rfl trivial ?_
  refine zq_call zt_X8_copy [.ref 31, .int i, .int n] [] (zs_holds_3 ht i n hC) rfl rfl ?_
  rintro _ _ ⟨rfl, rfl⟩
  refine zq_go zt_X8_copy 1 [] (if (zb (yfit (H.2.2.1 3) i n)) = 0 then 97 else 85) [(0, .ref 0), (1, .int (nI 3)), (2, .int i), (3, .int (nI 2)), (4, .int j), (5, .int n), (6, .ref 31), (7, .ref 29)] [] μ0 rfl trivial ?_
  by_cases hy : yfit (H.2.2.1 3) i n
  · rw [if_neg (zb_n hy)]
    refine zq_go zt_X8_copy 3 [] 91 [(0, .ref 0), (1, .int (nI 3)), (2, .int i), (3, .int (nI 2)), (4, .int j), (5, .int n), (6, .ref 31), (7, .ref 29)] [.int n, .int j, .ref 29] μ0 rfl trivial ?_
    refine zq_call zt_X8_copy [.ref 29, .int j, .int n] [] (zs_holds_2 hu j n hC) rfl rfl ?_
    rintro _ _ ⟨rfl, rfl⟩
    refine zq_go zt_X8_copy 1 [] (if ¬ (zb (yfit (H.2.2.1 2) j n)) = 0 then 103 else 97) [(0, .ref 0), (1, .int (nI 3)), (2, .int i), (3, .int (nI 2)), (4, .int j), (5, .int n), (6, .ref 31), (7, .ref 29)] [] μ0 rfl trivial ?_
    rw [if_neg (Classical.not_not.mpr (zb_f (fun q => hn ⟨hy, q⟩)))]
    refine zq_go zt_X8_copy 2 [] 99 [(0, .ref 0), (1, .int (nI 3)), (2, .int i), (3, .int (nI 2)), (4, .int j), (5, .int n), (6, .ref 31), (7, .ref 29)] [.int (nI 2), .ref 0] μ0 rfl trivial ?_
    refine zq_call zt_X8_copy [.ref 0, .int (nI 2)] [] (zs_refuse 2 hC) rfl rfl ?_
    rintro _ μ1 ⟨rfl, hC1, f1⟩
    exact zq_retn zt_X8_copy rfl rfl (⟨rfl, hC1, f1⟩)
  · rw [if_pos (zb_f hy)]
    refine zq_go zt_X8_copy 2 [] 99 [(0, .ref 0), (1, .int (nI 3)), (2, .int i), (3, .int (nI 2)), (4, .int j), (5, .int n), (6, .ref 31), (7, .ref 29)] [.int (nI 2), .ref 0] μ0 rfl trivial ?_
    refine zq_call zt_X8_copy [.ref 0, .int (nI 2)] [] (zs_refuse 2 hC) rfl rfl ?_
    rintro _ μ1 ⟨rfl, hC1, f1⟩
    exact zq_retn zt_X8_copy rfl rfl (⟨rfl, hC1, f1⟩)
set_option maxRecDepth 100000 in
set_option maxHeartbeats 400000 in
theorem zs_copy_i_3_3 {τ : zTd} {S : zES} {H : zSH} {μ0 : zq_Me} (ht : H.1 3 = true) (hu : H.1 3 = true) (hq : H.2.1 3 = H.2.1 3) (i j n : Int32) (hn : ¬ (yfit (H.2.2.1 3) i n ∧ yfit (H.2.2.1 3) j n)) (hC : zIc τ S H μ0) : zq_Wp zn_X8_copy 0 [(0, .ref 0), (1, .int (nI 3)), (2, .int i), (3, .int (nI 3)), (4, .int j), (5, .int n)] [] μ0 (zRc (.int (-10 - nI 2)) τ S (yhf H (nI 2)) μ0) := by
  have hza := (hC.2.2.2.2.2.2.2.2.2 3 (by decide)).2
  have hs1a : μ0.1 31 1 = nI (H.2.1 3) := ((hC.2.2.2.2.2.2.2.2.1.1 3 (by decide)).1 ht).1
  have hs2a : μ0.1 31 2 = nI (H.2.2.1 3) := ((hC.2.2.2.2.2.2.2.2.1.1 3 (by decide)).1 ht).2
  have hia : ∀ i, i < 60 → μ0.1 32 i = H.2.2.2.1 3 i := (hC.2.2.2.2.2.2.2.2.1.1 3 (by decide)).2.2
  have hfma := (hC.2.2.2.2.2.2.2.2.2 3 (by decide)).1
  have hzb := (hC.2.2.2.2.2.2.2.2.2 3 (by decide)).2
  have hs1b : μ0.1 31 1 = nI (H.2.1 3) := ((hC.2.2.2.2.2.2.2.2.1.1 3 (by decide)).1 hu).1
  have hs2b : μ0.1 31 2 = nI (H.2.2.1 3) := ((hC.2.2.2.2.2.2.2.2.1.1 3 (by decide)).1 hu).2
  have hib : ∀ i, i < 60 → μ0.1 32 i = H.2.2.2.1 3 i := (hC.2.2.2.2.2.2.2.2.1.1 3 (by decide)).2.2
  have hfmb := (hC.2.2.2.2.2.2.2.2.2 3 (by decide)).1
  refine zq_go zt_X8_copy 1 [] 1 [(0, .ref 0), (1, .int (nI 3)), (2, .int i), (3, .int (nI 3)), (4, .int j), (5, .int n)] [.int (nI 3)] μ0 rfl trivial ?_
  refine zq_call zt_X8_copy [.int (nI 3)] [] (zs_isSheet (nI 3) μ0) rfl rfl ?_
  rintro _ _ ⟨rfl, rfl⟩
  refine zq_go zt_X8_copy 1 [] (if (zb (0 ≤ nI 3 ∧ nI 3 ≤ nI 3)) = 0 then 14 else 7) [(0, .ref 0), (1, .int (nI 3)), (2, .int i), (3, .int (nI 3)), (4, .int j), (5, .int n)] [] μ0 rfl trivial ?_
  rw [if_neg (zb_n (yin (by omega) (by decide)))]
  refine zq_go zt_X8_copy 1 [] 8 [(0, .ref 0), (1, .int (nI 3)), (2, .int i), (3, .int (nI 3)), (4, .int j), (5, .int n)] [.int (nI 3)] μ0 rfl trivial ?_
  refine zq_call zt_X8_copy [.int (nI 3)] [] (zs_isSheet (nI 3) μ0) rfl rfl ?_
  rintro _ _ ⟨rfl, rfl⟩
  refine zq_go zt_X8_copy 1 [] (if ¬ (zb (0 ≤ nI 3 ∧ nI 3 ≤ nI 3)) = 0 then 17 else 14) [(0, .ref 0), (1, .int (nI 3)), (2, .int i), (3, .int (nI 3)), (4, .int j), (5, .int n)] [] μ0 rfl trivial ?_
  rw [if_pos (zb_n (yin (by omega) (by decide)))]
  refine zq_go zt_X8_copy 11 [vp_in (nI 3) 4, vp_in (nI 3) 4] 35 [(0, .ref 0), (1, .int (nI 3)), (2, .int i), (3, .int (nI 3)), (4, .int j), (5, .int n), (6, .ref 31), (7, .ref 31)] [.ref 31] μ0 rfl ⟨zn_in rfl (by decide) (by decide), ⟨zn_in rfl (by decide) (by decide), trivial⟩⟩ ?_
  refine zq_call zt_X8_copy [.ref 31] [] (zs_isLost_3 ht hC) rfl rfl ?_
  rintro _ _ ⟨rfl, rfl⟩
  refine zq_go zt_X8_copy 1 [] (if ¬ (nI 0) = 0 then 49 else 41) [(0, .ref 0), (1, .int (nI 3)), (2, .int i), (3, .int (nI 3)), (4, .int j), (5, .int n), (6, .ref 31), (7, .ref 31)] [] μ0 rfl trivial ?_
  rw [if_neg (by decide)]
  refine zq_go zt_X8_copy 1 [] 43 [(0, .ref 0), (1, .int (nI 3)), (2, .int i), (3, .int (nI 3)), (4, .int j), (5, .int n), (6, .ref 31), (7, .ref 31)] [.ref 31] μ0 rfl trivial ?_
  refine zq_call zt_X8_copy [.ref 31] [] (zs_isLost_3 hu hC) rfl rfl ?_
  rintro _ _ ⟨rfl, rfl⟩
  refine zq_go zt_X8_copy 1 [] (if (nI 0) = 0 then 55 else 49) [(0, .ref 0), (1, .int (nI 3)), (2, .int i), (3, .int (nI 3)), (4, .int j), (5, .int n), (6, .ref 31), (7, .ref 31)] [] μ0 rfl trivial ?_
  rw [if_pos (by decide)]
  refine zq_go zt_X8_copy 5 [] (if (μ0.1 31 1) = (μ0.1 31 1) then 74 else 68) [(0, .ref 0), (1, .int (nI 3)), (2, .int i), (3, .int (nI 3)), (4, .int j), (5, .int n), (6, .ref 31), (7, .ref 31)] [] μ0 rfl trivial ?_
  rw [hs1b]
  rw [if_pos (congrArg nI hq)]
  refine zq_go zt_X8_copy 3 [] 79 [(0, .ref 0), (1, .int (nI 3)), (2, .int i), (3, .int (nI 3)), (4, .int j), (5, .int n), (6, .ref 31), (7, .ref 31)] [.int n, .int i, .ref 31] μ0 rfl trivial ?_
  refine zq_call zt_X8_copy [.ref 31, .int i, .int n] [] (zs_holds_3 ht i n hC) rfl rfl ?_
  rintro _ _ ⟨rfl, rfl⟩
  refine zq_go zt_X8_copy 1 [] (if (zb (yfit (H.2.2.1 3) i n)) = 0 then 97 else 85) [(0, .ref 0), (1, .int (nI 3)), (2, .int i), (3, .int (nI 3)), (4, .int j), (5, .int n), (6, .ref 31), (7, .ref 31)] [] μ0 rfl trivial ?_
  by_cases hy : yfit (H.2.2.1 3) i n
  · rw [if_neg (zb_n hy)]
    refine zq_go zt_X8_copy 3 [] 91 [(0, .ref 0), (1, .int (nI 3)), (2, .int i), (3, .int (nI 3)), (4, .int j), (5, .int n), (6, .ref 31), (7, .ref 31)] [.int n, .int j, .ref 31] μ0 rfl trivial ?_
    refine zq_call zt_X8_copy [.ref 31, .int j, .int n] [] (zs_holds_3 hu j n hC) rfl rfl ?_
    rintro _ _ ⟨rfl, rfl⟩
    refine zq_go zt_X8_copy 1 [] (if ¬ (zb (yfit (H.2.2.1 3) j n)) = 0 then 103 else 97) [(0, .ref 0), (1, .int (nI 3)), (2, .int i), (3, .int (nI 3)), (4, .int j), (5, .int n), (6, .ref 31), (7, .ref 31)] [] μ0 rfl trivial ?_
    rw [if_neg (Classical.not_not.mpr (zb_f (fun q => hn ⟨hy, q⟩)))]
    refine zq_go zt_X8_copy 2 [] 99 [(0, .ref 0), (1, .int (nI 3)), (2, .int i), (3, .int (nI 3)), (4, .int j), (5, .int n), (6, .ref 31), (7, .ref 31)] [.int (nI 2), .ref 0] μ0 rfl trivial ?_
    refine zq_call zt_X8_copy [.ref 0, .int (nI 2)] [] (zs_refuse 2 hC) rfl rfl ?_
    rintro _ μ1 ⟨rfl, hC1, f1⟩
    exact zq_retn zt_X8_copy rfl rfl (⟨rfl, hC1, f1⟩)
  · rw [if_pos (zb_f hy)]
    refine zq_go zt_X8_copy 2 [] 99 [(0, .ref 0), (1, .int (nI 3)), (2, .int i), (3, .int (nI 3)), (4, .int j), (5, .int n), (6, .ref 31), (7, .ref 31)] [.int (nI 2), .ref 0] μ0 rfl trivial ?_
    refine zq_call zt_X8_copy [.ref 0, .int (nI 2)] [] (zs_refuse 2 hC) rfl rfl ?_
    rintro _ μ1 ⟨rfl, hC1, f1⟩
    exact zq_retn zt_X8_copy rfl rfl (⟨rfl, hC1, f1⟩)
theorem zs_copy_i {τ : zTd} {S : zES} {H : zSH} {μ0 : zq_Me} {s t : Nat} (ls : s ≤ 3) (lt : t ≤ 3) (ht : H.1 s = true) (hu : H.1 t = true) (hq : H.2.1 s = H.2.1 t) (i j n : Int32) (hn : ¬ (yfit (H.2.2.1 s) i n ∧ yfit (H.2.2.1 t) j n)) (hC : zIc τ S H μ0) : zq_Wp zn_X8_copy 0 [(0, .ref 0), (1, .int (nI s)), (2, .int i), (3, .int (nI t)), (4, .int j), (5, .int n)] [] μ0 (zRc (.int (-10 - nI 2)) τ S (yhf H (nI 2)) μ0) := by
  obtain rfl | rfl | rfl | rfl : s = 0 ∨ s = 1 ∨ s = 2 ∨ s = 3 := by omega
  · obtain rfl | rfl | rfl | rfl : t = 0 ∨ t = 1 ∨ t = 2 ∨ t = 3 := by omega
    · exact zs_copy_i_0_0 ht hu hq i j n hn hC
    · exact zs_copy_i_0_1 ht hu hq i j n hn hC
    · exact zs_copy_i_0_2 ht hu hq i j n hn hC
    · exact zs_copy_i_0_3 ht hu hq i j n hn hC
  · obtain rfl | rfl | rfl | rfl : t = 0 ∨ t = 1 ∨ t = 2 ∨ t = 3 := by omega
    · exact zs_copy_i_1_0 ht hu hq i j n hn hC
    · exact zs_copy_i_1_1 ht hu hq i j n hn hC
    · exact zs_copy_i_1_2 ht hu hq i j n hn hC
    · exact zs_copy_i_1_3 ht hu hq i j n hn hC
  · obtain rfl | rfl | rfl | rfl : t = 0 ∨ t = 1 ∨ t = 2 ∨ t = 3 := by omega
    · exact zs_copy_i_2_0 ht hu hq i j n hn hC
    · exact zs_copy_i_2_1 ht hu hq i j n hn hC
    · exact zs_copy_i_2_2 ht hu hq i j n hn hC
    · exact zs_copy_i_2_3 ht hu hq i j n hn hC
  · obtain rfl | rfl | rfl | rfl : t = 0 ∨ t = 1 ∨ t = 2 ∨ t = 3 := by omega
    · exact zs_copy_i_3_0 ht hu hq i j n hn hC
    · exact zs_copy_i_3_1 ht hu hq i j n hn hC
    · exact zs_copy_i_3_2 ht hu hq i j n hn hC
    · exact zs_copy_i_3_3 ht hu hq i j n hn hC
set_option maxRecDepth 100000 in
set_option maxHeartbeats 400000 in
theorem zs_copy_0_0 {τ : zTd} {S : zES} {H : zSH} {μ0 : zq_Me} {a b c : Nat} (ht : H.1 0 = true) (hu : H.1 0 = true) (hq : H.2.1 0 = H.2.1 0) (h1 : a + c ≤ H.2.2.1 0) (h2 : b + c ≤ H.2.2.1 0) (hC : zIc τ S H μ0) : zq_Wp zn_X8_copy 0 [(0, .ref 0), (1, .int (nI 0)), (2, .int (nI a)), (3, .int (nI 0)), (4, .int (nI b)), (5, .int (nI c))] [] μ0 (zRc (.int (nI 1)) τ S (yhi H 0 (va_cpy (H.2.2.2.1 0) (H.2.2.2.1 0) a b c)) μ0) := by
  have hza := (hC.2.2.2.2.2.2.2.2.2 0 (by decide)).2
  have hs1a : μ0.1 25 1 = nI (H.2.1 0) := ((hC.2.2.2.2.2.2.2.2.1.1 0 (by decide)).1 ht).1
  have hs2a : μ0.1 25 2 = nI (H.2.2.1 0) := ((hC.2.2.2.2.2.2.2.2.1.1 0 (by decide)).1 ht).2
  have hia : ∀ i, i < 60 → μ0.1 26 i = H.2.2.2.1 0 i := (hC.2.2.2.2.2.2.2.2.1.1 0 (by decide)).2.2
  have hfma := (hC.2.2.2.2.2.2.2.2.2 0 (by decide)).1
  have hzb := (hC.2.2.2.2.2.2.2.2.2 0 (by decide)).2
  have hs1b : μ0.1 25 1 = nI (H.2.1 0) := ((hC.2.2.2.2.2.2.2.2.1.1 0 (by decide)).1 hu).1
  have hs2b : μ0.1 25 2 = nI (H.2.2.1 0) := ((hC.2.2.2.2.2.2.2.2.1.1 0 (by decide)).1 hu).2
  have hib : ∀ i, i < 60 → μ0.1 26 i = H.2.2.2.1 0 i := (hC.2.2.2.2.2.2.2.2.1.1 0 (by decide)).2.2
  have hfmb := (hC.2.2.2.2.2.2.2.2.2 0 (by decide)).1
  refine zq_go zt_X8_copy 1 [] 1 [(0, .ref 0), (1, .int (nI 0)), (2, .int (nI a)), (3, .int (nI 0)), (4, .int (nI b)), (5, .int (nI c))] [.int (nI 0)] μ0 rfl trivial ?_
  refine zq_call zt_X8_copy [.int (nI 0)] [] (zs_isSheet (nI 0) μ0) rfl rfl ?_
  rintro _ _ ⟨rfl, rfl⟩
  refine zq_go zt_X8_copy 1 [] (if (zb (0 ≤ nI 0 ∧ nI 0 ≤ nI 3)) = 0 then 14 else 7) [(0, .ref 0), (1, .int (nI 0)), (2, .int (nI a)), (3, .int (nI 0)), (4, .int (nI b)), (5, .int (nI c))] [] μ0 rfl trivial ?_
  rw [if_neg (zb_n (yin (by omega) (by decide)))]
  refine zq_go zt_X8_copy 1 [] 8 [(0, .ref 0), (1, .int (nI 0)), (2, .int (nI a)), (3, .int (nI 0)), (4, .int (nI b)), (5, .int (nI c))] [.int (nI 0)] μ0 rfl trivial ?_
  refine zq_call zt_X8_copy [.int (nI 0)] [] (zs_isSheet (nI 0) μ0) rfl rfl ?_
  rintro _ _ ⟨rfl, rfl⟩
  refine zq_go zt_X8_copy 1 [] (if ¬ (zb (0 ≤ nI 0 ∧ nI 0 ≤ nI 3)) = 0 then 17 else 14) [(0, .ref 0), (1, .int (nI 0)), (2, .int (nI a)), (3, .int (nI 0)), (4, .int (nI b)), (5, .int (nI c))] [] μ0 rfl trivial ?_
  rw [if_pos (zb_n (yin (by omega) (by decide)))]
  refine zq_go zt_X8_copy 11 [vp_in (nI 0) 4, vp_in (nI 0) 4] 35 [(0, .ref 0), (1, .int (nI 0)), (2, .int (nI a)), (3, .int (nI 0)), (4, .int (nI b)), (5, .int (nI c)), (6, .ref 25), (7, .ref 25)] [.ref 25] μ0 rfl ⟨zn_in rfl (by decide) (by decide), ⟨zn_in rfl (by decide) (by decide), trivial⟩⟩ ?_
  refine zq_call zt_X8_copy [.ref 25] [] (zs_isLost_0 ht hC) rfl rfl ?_
  rintro _ _ ⟨rfl, rfl⟩
  refine zq_go zt_X8_copy 1 [] (if ¬ (nI 0) = 0 then 49 else 41) [(0, .ref 0), (1, .int (nI 0)), (2, .int (nI a)), (3, .int (nI 0)), (4, .int (nI b)), (5, .int (nI c)), (6, .ref 25), (7, .ref 25)] [] μ0 rfl trivial ?_
  rw [if_neg (by decide)]
  refine zq_go zt_X8_copy 1 [] 43 [(0, .ref 0), (1, .int (nI 0)), (2, .int (nI a)), (3, .int (nI 0)), (4, .int (nI b)), (5, .int (nI c)), (6, .ref 25), (7, .ref 25)] [.ref 25] μ0 rfl trivial ?_
  refine zq_call zt_X8_copy [.ref 25] [] (zs_isLost_0 hu hC) rfl rfl ?_
  rintro _ _ ⟨rfl, rfl⟩
  refine zq_go zt_X8_copy 1 [] (if (nI 0) = 0 then 55 else 49) [(0, .ref 0), (1, .int (nI 0)), (2, .int (nI a)), (3, .int (nI 0)), (4, .int (nI b)), (5, .int (nI c)), (6, .ref 25), (7, .ref 25)] [] μ0 rfl trivial ?_
  rw [if_pos (by decide)]
  refine zq_go zt_X8_copy 5 [] (if (μ0.1 25 1) = (μ0.1 25 1) then 74 else 68) [(0, .ref 0), (1, .int (nI 0)), (2, .int (nI a)), (3, .int (nI 0)), (4, .int (nI b)), (5, .int (nI c)), (6, .ref 25), (7, .ref 25)] [] μ0 rfl trivial ?_
  rw [hs1b]
  rw [if_pos (congrArg nI hq)]
  refine zq_go zt_X8_copy 3 [] 79 [(0, .ref 0), (1, .int (nI 0)), (2, .int (nI a)), (3, .int (nI 0)), (4, .int (nI b)), (5, .int (nI c)), (6, .ref 25), (7, .ref 25)] [.int (nI c), .int (nI a), .ref 25] μ0 rfl trivial ?_
  refine zq_call zt_X8_copy [.ref 25, .int (nI a), .int (nI c)] [] (zs_holds_0 ht (nI a) (nI c) hC) rfl rfl ?_
  rintro _ _ ⟨rfl, rfl⟩
  refine zq_go zt_X8_copy 1 [] (if (zb (yfit (H.2.2.1 0) (nI a) (nI c))) = 0 then 97 else 85) [(0, .ref 0), (1, .int (nI 0)), (2, .int (nI a)), (3, .int (nI 0)), (4, .int (nI b)), (5, .int (nI c)), (6, .ref 25), (7, .ref 25)] [] μ0 rfl trivial ?_
  rw [if_neg (zb_n (yfit_n hza h1))]
  refine zq_go zt_X8_copy 3 [] 91 [(0, .ref 0), (1, .int (nI 0)), (2, .int (nI a)), (3, .int (nI 0)), (4, .int (nI b)), (5, .int (nI c)), (6, .ref 25), (7, .ref 25)] [.int (nI c), .int (nI b), .ref 25] μ0 rfl trivial ?_
  refine zq_call zt_X8_copy [.ref 25, .int (nI b), .int (nI c)] [] (zs_holds_0 hu (nI b) (nI c) hC) rfl rfl ?_
  rintro _ _ ⟨rfl, rfl⟩
  refine zq_go zt_X8_copy 1 [] (if ¬ (zb (yfit (H.2.2.1 0) (nI b) (nI c))) = 0 then 103 else 97) [(0, .ref 0), (1, .int (nI 0)), (2, .int (nI a)), (3, .int (nI 0)), (4, .int (nI b)), (5, .int (nI c)), (6, .ref 25), (7, .ref 25)] [] μ0 rfl trivial ?_
  rw [if_pos (zb_n (yfit_n hzb h2))]
  refine zq_go zt_X8_copy 9 [¬ (nI a) < 0 ∧ ¬ (nI b) < 0 ∧ ¬ (nI c) < 0 ∧ (nI a).toNatClampNeg + (nI c).toNatClampNeg ≤ 60 ∧ (nI b).toNatClampNeg + (nI c).toNatClampNeg ≤ 60] 122 [(0, .ref 0), (1, .int (nI 0)), (2, .int (nI a)), (3, .int (nI 0)), (4, .int (nI b)), (5, .int (nI c)), (6, .ref 25), (7, .ref 25)] [.int (nI 1)] (zq_ur μ0 26 (va_cpy (μ0.1 26) (μ0.1 26) (nI a).toNatClampNeg (nI b).toNatClampNeg (nI c).toNatClampNeg)) rfl ⟨⟨zn_notneg (by omega), zn_notneg (by omega), zn_notneg (by omega), by rw [zn_cl (by omega), zn_cl (by omega)]; omega, by rw [zn_cl (by omega), zn_cl (by omega)]; omega⟩, trivial⟩ ?_
  obtain ⟨μ1, hμ1⟩ : ∃ k9 : zq_Me, k9 = (zq_ur μ0 26 (va_cpy (μ0.1 26) (μ0.1 26) (nI a).toNatClampNeg (nI b).toNatClampNeg (nI c).toNatClampNeg)) := ⟨_, rfl⟩
  rw [← hμ1]
  have f1 : zq_fr [26 + 2 * 0] μ0 μ1 := by rw [hμ1]; exact zq_fr.rf.ur (by simp)
  have hI := hC.it (s := 0) (by decide) (va_cpy (H.2.2.2.1 0) (H.2.2.2.1 0) a b c) f1 (fun i hi9 => by
    rw [hμ1]
    show va_cpy (μ0.1 26) (μ0.1 26) (nI a).toNatClampNeg (nI b).toNatClampNeg (nI c).toNatClampNeg i = _
    rw [zn_cl (by omega), zn_cl (by omega), zn_cl (by omega)]
    by_cases q : b ≤ i ∧ i < b + c
    · rw [pk_cpy_in q.1 q.2, pk_cpy_in q.1 q.2]; exact hia _ (by omega)
    · rw [pk_cpy_out (by omega), pk_cpy_out (by omega)]; exact hib i hi9)
  exact zq_retn zt_X8_copy rfl rfl (⟨rfl, hI, f1.wk (by simp [zSC])⟩)
set_option maxRecDepth 100000 in
set_option maxHeartbeats 400000 in
theorem zs_copy_0_1 {τ : zTd} {S : zES} {H : zSH} {μ0 : zq_Me} {a b c : Nat} (ht : H.1 0 = true) (hu : H.1 1 = true) (hq : H.2.1 0 = H.2.1 1) (h1 : a + c ≤ H.2.2.1 0) (h2 : b + c ≤ H.2.2.1 1) (hC : zIc τ S H μ0) : zq_Wp zn_X8_copy 0 [(0, .ref 0), (1, .int (nI 0)), (2, .int (nI a)), (3, .int (nI 1)), (4, .int (nI b)), (5, .int (nI c))] [] μ0 (zRc (.int (nI 1)) τ S (yhi H 1 (va_cpy (H.2.2.2.1 0) (H.2.2.2.1 1) a b c)) μ0) := by
  have hza := (hC.2.2.2.2.2.2.2.2.2 0 (by decide)).2
  have hs1a : μ0.1 25 1 = nI (H.2.1 0) := ((hC.2.2.2.2.2.2.2.2.1.1 0 (by decide)).1 ht).1
  have hs2a : μ0.1 25 2 = nI (H.2.2.1 0) := ((hC.2.2.2.2.2.2.2.2.1.1 0 (by decide)).1 ht).2
  have hia : ∀ i, i < 60 → μ0.1 26 i = H.2.2.2.1 0 i := (hC.2.2.2.2.2.2.2.2.1.1 0 (by decide)).2.2
  have hfma := (hC.2.2.2.2.2.2.2.2.2 0 (by decide)).1
  have hzb := (hC.2.2.2.2.2.2.2.2.2 1 (by decide)).2
  have hs1b : μ0.1 27 1 = nI (H.2.1 1) := ((hC.2.2.2.2.2.2.2.2.1.1 1 (by decide)).1 hu).1
  have hs2b : μ0.1 27 2 = nI (H.2.2.1 1) := ((hC.2.2.2.2.2.2.2.2.1.1 1 (by decide)).1 hu).2
  have hib : ∀ i, i < 60 → μ0.1 28 i = H.2.2.2.1 1 i := (hC.2.2.2.2.2.2.2.2.1.1 1 (by decide)).2.2
  have hfmb := (hC.2.2.2.2.2.2.2.2.2 1 (by decide)).1
  refine zq_go zt_X8_copy 1 [] 1 [(0, .ref 0), (1, .int (nI 0)), (2, .int (nI a)), (3, .int (nI 1)), (4, .int (nI b)), (5, .int (nI c))] [.int (nI 0)] μ0 rfl trivial ?_
  refine zq_call zt_X8_copy [.int (nI 0)] [] (zs_isSheet (nI 0) μ0) rfl rfl ?_
  rintro _ _ ⟨rfl, rfl⟩
  refine zq_go zt_X8_copy 1 [] (if (zb (0 ≤ nI 0 ∧ nI 0 ≤ nI 3)) = 0 then 14 else 7) [(0, .ref 0), (1, .int (nI 0)), (2, .int (nI a)), (3, .int (nI 1)), (4, .int (nI b)), (5, .int (nI c))] [] μ0 rfl trivial ?_
  rw [if_neg (zb_n (yin (by omega) (by decide)))]
  refine zq_go zt_X8_copy 1 [] 8 [(0, .ref 0), (1, .int (nI 0)), (2, .int (nI a)), (3, .int (nI 1)), (4, .int (nI b)), (5, .int (nI c))] [.int (nI 1)] μ0 rfl trivial ?_
  refine zq_call zt_X8_copy [.int (nI 1)] [] (zs_isSheet (nI 1) μ0) rfl rfl ?_
  rintro _ _ ⟨rfl, rfl⟩
  refine zq_go zt_X8_copy 1 [] (if ¬ (zb (0 ≤ nI 1 ∧ nI 1 ≤ nI 3)) = 0 then 17 else 14) [(0, .ref 0), (1, .int (nI 0)), (2, .int (nI a)), (3, .int (nI 1)), (4, .int (nI b)), (5, .int (nI c))] [] μ0 rfl trivial ?_
  rw [if_pos (zb_n (yin (by omega) (by decide)))]
  refine zq_go zt_X8_copy 11 [vp_in (nI 0) 4, vp_in (nI 1) 4] 35 [(0, .ref 0), (1, .int (nI 0)), (2, .int (nI a)), (3, .int (nI 1)), (4, .int (nI b)), (5, .int (nI c)), (6, .ref 25), (7, .ref 27)] [.ref 25] μ0 rfl ⟨zn_in rfl (by decide) (by decide), ⟨zn_in rfl (by decide) (by decide), trivial⟩⟩ ?_
  refine zq_call zt_X8_copy [.ref 25] [] (zs_isLost_0 ht hC) rfl rfl ?_
  rintro _ _ ⟨rfl, rfl⟩
  refine zq_go zt_X8_copy 1 [] (if ¬ (nI 0) = 0 then 49 else 41) [(0, .ref 0), (1, .int (nI 0)), (2, .int (nI a)), (3, .int (nI 1)), (4, .int (nI b)), (5, .int (nI c)), (6, .ref 25), (7, .ref 27)] [] μ0 rfl trivial ?_
  rw [if_neg (by decide)]
  refine zq_go zt_X8_copy 1 [] 43 [(0, .ref 0), (1, .int (nI 0)), (2, .int (nI a)), (3, .int (nI 1)), (4, .int (nI b)), (5, .int (nI c)), (6, .ref 25), (7, .ref 27)] [.ref 27] μ0 rfl trivial ?_
  refine zq_call zt_X8_copy [.ref 27] [] (zs_isLost_1 hu hC) rfl rfl ?_
  rintro _ _ ⟨rfl, rfl⟩
  refine zq_go zt_X8_copy 1 [] (if (nI 0) = 0 then 55 else 49) [(0, .ref 0), (1, .int (nI 0)), (2, .int (nI a)), (3, .int (nI 1)), (4, .int (nI b)), (5, .int (nI c)), (6, .ref 25), (7, .ref 27)] [] μ0 rfl trivial ?_
  rw [if_pos (by decide)]
  refine zq_go zt_X8_copy 5 [] (if (μ0.1 25 1) = (μ0.1 27 1) then 74 else 68) [(0, .ref 0), (1, .int (nI 0)), (2, .int (nI a)), (3, .int (nI 1)), (4, .int (nI b)), (5, .int (nI c)), (6, .ref 25), (7, .ref 27)] [] μ0 rfl trivial ?_
  rw [hs1a, hs1b]
  rw [if_pos (congrArg nI hq)]
  refine zq_go zt_X8_copy 3 [] 79 [(0, .ref 0), (1, .int (nI 0)), (2, .int (nI a)), (3, .int (nI 1)), (4, .int (nI b)), (5, .int (nI c)), (6, .ref 25), (7, .ref 27)] [.int (nI c), .int (nI a), .ref 25] μ0 rfl trivial ?_
  refine zq_call zt_X8_copy [.ref 25, .int (nI a), .int (nI c)] [] (zs_holds_0 ht (nI a) (nI c) hC) rfl rfl ?_
  rintro _ _ ⟨rfl, rfl⟩
  refine zq_go zt_X8_copy 1 [] (if (zb (yfit (H.2.2.1 0) (nI a) (nI c))) = 0 then 97 else 85) [(0, .ref 0), (1, .int (nI 0)), (2, .int (nI a)), (3, .int (nI 1)), (4, .int (nI b)), (5, .int (nI c)), (6, .ref 25), (7, .ref 27)] [] μ0 rfl trivial ?_
  rw [if_neg (zb_n (yfit_n hza h1))]
  refine zq_go zt_X8_copy 3 [] 91 [(0, .ref 0), (1, .int (nI 0)), (2, .int (nI a)), (3, .int (nI 1)), (4, .int (nI b)), (5, .int (nI c)), (6, .ref 25), (7, .ref 27)] [.int (nI c), .int (nI b), .ref 27] μ0 rfl trivial ?_
  refine zq_call zt_X8_copy [.ref 27, .int (nI b), .int (nI c)] [] (zs_holds_1 hu (nI b) (nI c) hC) rfl rfl ?_
  rintro _ _ ⟨rfl, rfl⟩
  refine zq_go zt_X8_copy 1 [] (if ¬ (zb (yfit (H.2.2.1 1) (nI b) (nI c))) = 0 then 103 else 97) [(0, .ref 0), (1, .int (nI 0)), (2, .int (nI a)), (3, .int (nI 1)), (4, .int (nI b)), (5, .int (nI c)), (6, .ref 25), (7, .ref 27)] [] μ0 rfl trivial ?_
  rw [if_pos (zb_n (yfit_n hzb h2))]
  refine zq_go zt_X8_copy 9 [¬ (nI a) < 0 ∧ ¬ (nI b) < 0 ∧ ¬ (nI c) < 0 ∧ (nI a).toNatClampNeg + (nI c).toNatClampNeg ≤ 60 ∧ (nI b).toNatClampNeg + (nI c).toNatClampNeg ≤ 60] 122 [(0, .ref 0), (1, .int (nI 0)), (2, .int (nI a)), (3, .int (nI 1)), (4, .int (nI b)), (5, .int (nI c)), (6, .ref 25), (7, .ref 27)] [.int (nI 1)] (zq_ur μ0 28 (va_cpy (μ0.1 26) (μ0.1 28) (nI a).toNatClampNeg (nI b).toNatClampNeg (nI c).toNatClampNeg)) rfl ⟨⟨zn_notneg (by omega), zn_notneg (by omega), zn_notneg (by omega), by rw [zn_cl (by omega), zn_cl (by omega)]; omega, by rw [zn_cl (by omega), zn_cl (by omega)]; omega⟩, trivial⟩ ?_
  obtain ⟨μ1, hμ1⟩ : ∃ k9 : zq_Me, k9 = (zq_ur μ0 28 (va_cpy (μ0.1 26) (μ0.1 28) (nI a).toNatClampNeg (nI b).toNatClampNeg (nI c).toNatClampNeg)) := ⟨_, rfl⟩
  rw [← hμ1]
  have f1 : zq_fr [26 + 2 * 1] μ0 μ1 := by rw [hμ1]; exact zq_fr.rf.ur (by simp)
  have hI := hC.it (s := 1) (by decide) (va_cpy (H.2.2.2.1 0) (H.2.2.2.1 1) a b c) f1 (fun i hi9 => by
    rw [hμ1]
    show va_cpy (μ0.1 26) (μ0.1 28) (nI a).toNatClampNeg (nI b).toNatClampNeg (nI c).toNatClampNeg i = _
    rw [zn_cl (by omega), zn_cl (by omega), zn_cl (by omega)]
    by_cases q : b ≤ i ∧ i < b + c
    · rw [pk_cpy_in q.1 q.2, pk_cpy_in q.1 q.2]; exact hia _ (by omega)
    · rw [pk_cpy_out (by omega), pk_cpy_out (by omega)]; exact hib i hi9)
  exact zq_retn zt_X8_copy rfl rfl (⟨rfl, hI, f1.wk (by simp [zSC])⟩)
set_option maxRecDepth 100000 in
set_option maxHeartbeats 400000 in
theorem zs_copy_0_2 {τ : zTd} {S : zES} {H : zSH} {μ0 : zq_Me} {a b c : Nat} (ht : H.1 0 = true) (hu : H.1 2 = true) (hq : H.2.1 0 = H.2.1 2) (h1 : a + c ≤ H.2.2.1 0) (h2 : b + c ≤ H.2.2.1 2) (hC : zIc τ S H μ0) : zq_Wp zn_X8_copy 0 [(0, .ref 0), (1, .int (nI 0)), (2, .int (nI a)), (3, .int (nI 2)), (4, .int (nI b)), (5, .int (nI c))] [] μ0 (zRc (.int (nI 1)) τ S (yhi H 2 (va_cpy (H.2.2.2.1 0) (H.2.2.2.1 2) a b c)) μ0) := by
  have hza := (hC.2.2.2.2.2.2.2.2.2 0 (by decide)).2
  have hs1a : μ0.1 25 1 = nI (H.2.1 0) := ((hC.2.2.2.2.2.2.2.2.1.1 0 (by decide)).1 ht).1
  have hs2a : μ0.1 25 2 = nI (H.2.2.1 0) := ((hC.2.2.2.2.2.2.2.2.1.1 0 (by decide)).1 ht).2
  have hia : ∀ i, i < 60 → μ0.1 26 i = H.2.2.2.1 0 i := (hC.2.2.2.2.2.2.2.2.1.1 0 (by decide)).2.2
  have hfma := (hC.2.2.2.2.2.2.2.2.2 0 (by decide)).1
  have hzb := (hC.2.2.2.2.2.2.2.2.2 2 (by decide)).2
  have hs1b : μ0.1 29 1 = nI (H.2.1 2) := ((hC.2.2.2.2.2.2.2.2.1.1 2 (by decide)).1 hu).1
  have hs2b : μ0.1 29 2 = nI (H.2.2.1 2) := ((hC.2.2.2.2.2.2.2.2.1.1 2 (by decide)).1 hu).2
  have hib : ∀ i, i < 60 → μ0.1 30 i = H.2.2.2.1 2 i := (hC.2.2.2.2.2.2.2.2.1.1 2 (by decide)).2.2
  have hfmb := (hC.2.2.2.2.2.2.2.2.2 2 (by decide)).1
  refine zq_go zt_X8_copy 1 [] 1 [(0, .ref 0), (1, .int (nI 0)), (2, .int (nI a)), (3, .int (nI 2)), (4, .int (nI b)), (5, .int (nI c))] [.int (nI 0)] μ0 rfl trivial ?_
  refine zq_call zt_X8_copy [.int (nI 0)] [] (zs_isSheet (nI 0) μ0) rfl rfl ?_
  rintro _ _ ⟨rfl, rfl⟩
  refine zq_go zt_X8_copy 1 [] (if (zb (0 ≤ nI 0 ∧ nI 0 ≤ nI 3)) = 0 then 14 else 7) [(0, .ref 0), (1, .int (nI 0)), (2, .int (nI a)), (3, .int (nI 2)), (4, .int (nI b)), (5, .int (nI c))] [] μ0 rfl trivial ?_
  rw [if_neg (zb_n (yin (by omega) (by decide)))]
  refine zq_go zt_X8_copy 1 [] 8 [(0, .ref 0), (1, .int (nI 0)), (2, .int (nI a)), (3, .int (nI 2)), (4, .int (nI b)), (5, .int (nI c))] [.int (nI 2)] μ0 rfl trivial ?_
  refine zq_call zt_X8_copy [.int (nI 2)] [] (zs_isSheet (nI 2) μ0) rfl rfl ?_
  rintro _ _ ⟨rfl, rfl⟩
  refine zq_go zt_X8_copy 1 [] (if ¬ (zb (0 ≤ nI 2 ∧ nI 2 ≤ nI 3)) = 0 then 17 else 14) [(0, .ref 0), (1, .int (nI 0)), (2, .int (nI a)), (3, .int (nI 2)), (4, .int (nI b)), (5, .int (nI c))] [] μ0 rfl trivial ?_
  rw [if_pos (zb_n (yin (by omega) (by decide)))]
  refine zq_go zt_X8_copy 11 [vp_in (nI 0) 4, vp_in (nI 2) 4] 35 [(0, .ref 0), (1, .int (nI 0)), (2, .int (nI a)), (3, .int (nI 2)), (4, .int (nI b)), (5, .int (nI c)), (6, .ref 25), (7, .ref 29)] [.ref 25] μ0 rfl ⟨zn_in rfl (by decide) (by decide), ⟨zn_in rfl (by decide) (by decide), trivial⟩⟩ ?_
  refine zq_call zt_X8_copy [.ref 25] [] (zs_isLost_0 ht hC) rfl rfl ?_
  rintro _ _ ⟨rfl, rfl⟩
  refine zq_go zt_X8_copy 1 [] (if ¬ (nI 0) = 0 then 49 else 41) [(0, .ref 0), (1, .int (nI 0)), (2, .int (nI a)), (3, .int (nI 2)), (4, .int (nI b)), (5, .int (nI c)), (6, .ref 25), (7, .ref 29)] [] μ0 rfl trivial ?_
  rw [if_neg (by decide)]
  refine zq_go zt_X8_copy 1 [] 43 [(0, .ref 0), (1, .int (nI 0)), (2, .int (nI a)), (3, .int (nI 2)), (4, .int (nI b)), (5, .int (nI c)), (6, .ref 25), (7, .ref 29)] [.ref 29] μ0 rfl trivial ?_
  refine zq_call zt_X8_copy [.ref 29] [] (zs_isLost_2 hu hC) rfl rfl ?_
  rintro _ _ ⟨rfl, rfl⟩
  refine zq_go zt_X8_copy 1 [] (if (nI 0) = 0 then 55 else 49) [(0, .ref 0), (1, .int (nI 0)), (2, .int (nI a)), (3, .int (nI 2)), (4, .int (nI b)), (5, .int (nI c)), (6, .ref 25), (7, .ref 29)] [] μ0 rfl trivial ?_
  rw [if_pos (by decide)]
  refine zq_go zt_X8_copy 5 [] (if (μ0.1 25 1) = (μ0.1 29 1) then 74 else 68) [(0, .ref 0), (1, .int (nI 0)), (2, .int (nI a)), (3, .int (nI 2)), (4, .int (nI b)), (5, .int (nI c)), (6, .ref 25), (7, .ref 29)] [] μ0 rfl trivial ?_
  rw [hs1a, hs1b]
  rw [if_pos (congrArg nI hq)]
  refine zq_go zt_X8_copy 3 [] 79 [(0, .ref 0), (1, .int (nI 0)), (2, .int (nI a)), (3, .int (nI 2)), (4, .int (nI b)), (5, .int (nI c)), (6, .ref 25), (7, .ref 29)] [.int (nI c), .int (nI a), .ref 25] μ0 rfl trivial ?_
  refine zq_call zt_X8_copy [.ref 25, .int (nI a), .int (nI c)] [] (zs_holds_0 ht (nI a) (nI c) hC) rfl rfl ?_
  rintro _ _ ⟨rfl, rfl⟩
  refine zq_go zt_X8_copy 1 [] (if (zb (yfit (H.2.2.1 0) (nI a) (nI c))) = 0 then 97 else 85) [(0, .ref 0), (1, .int (nI 0)), (2, .int (nI a)), (3, .int (nI 2)), (4, .int (nI b)), (5, .int (nI c)), (6, .ref 25), (7, .ref 29)] [] μ0 rfl trivial ?_
  rw [if_neg (zb_n (yfit_n hza h1))]
  refine zq_go zt_X8_copy 3 [] 91 [(0, .ref 0), (1, .int (nI 0)), (2, .int (nI a)), (3, .int (nI 2)), (4, .int (nI b)), (5, .int (nI c)), (6, .ref 25), (7, .ref 29)] [.int (nI c), .int (nI b), .ref 29] μ0 rfl trivial ?_
  refine zq_call zt_X8_copy [.ref 29, .int (nI b), .int (nI c)] [] (zs_holds_2 hu (nI b) (nI c) hC) rfl rfl ?_
  rintro _ _ ⟨rfl, rfl⟩
  refine zq_go zt_X8_copy 1 [] (if ¬ (zb (yfit (H.2.2.1 2) (nI b) (nI c))) = 0 then 103 else 97) [(0, .ref 0), (1, .int (nI 0)), (2, .int (nI a)), (3, .int (nI 2)), (4, .int (nI b)), (5, .int (nI c)), (6, .ref 25), (7, .ref 29)] [] μ0 rfl trivial ?_
  rw [if_pos (zb_n (yfit_n hzb h2))]
  refine zq_go zt_X8_copy 9 [¬ (nI a) < 0 ∧ ¬ (nI b) < 0 ∧ ¬ (nI c) < 0 ∧ (nI a).toNatClampNeg + (nI c).toNatClampNeg ≤ 60 ∧ (nI b).toNatClampNeg + (nI c).toNatClampNeg ≤ 60] 122 [(0, .ref 0), (1, .int (nI 0)), (2, .int (nI a)), (3, .int (nI 2)), (4, .int (nI b)), (5, .int (nI c)), (6, .ref 25), (7, .ref 29)] [.int (nI 1)] (zq_ur μ0 30 (va_cpy (μ0.1 26) (μ0.1 30) (nI a).toNatClampNeg (nI b).toNatClampNeg (nI c).toNatClampNeg)) rfl ⟨⟨zn_notneg (by omega), zn_notneg (by omega), zn_notneg (by omega), by rw [zn_cl (by omega), zn_cl (by omega)]; omega, by rw [zn_cl (by omega), zn_cl (by omega)]; omega⟩, trivial⟩ ?_
  obtain ⟨μ1, hμ1⟩ : ∃ k9 : zq_Me, k9 = (zq_ur μ0 30 (va_cpy (μ0.1 26) (μ0.1 30) (nI a).toNatClampNeg (nI b).toNatClampNeg (nI c).toNatClampNeg)) := ⟨_, rfl⟩
  rw [← hμ1]
  have f1 : zq_fr [26 + 2 * 2] μ0 μ1 := by rw [hμ1]; exact zq_fr.rf.ur (by simp)
  have hI := hC.it (s := 2) (by decide) (va_cpy (H.2.2.2.1 0) (H.2.2.2.1 2) a b c) f1 (fun i hi9 => by
    rw [hμ1]
    show va_cpy (μ0.1 26) (μ0.1 30) (nI a).toNatClampNeg (nI b).toNatClampNeg (nI c).toNatClampNeg i = _
    rw [zn_cl (by omega), zn_cl (by omega), zn_cl (by omega)]
    by_cases q : b ≤ i ∧ i < b + c
    · rw [pk_cpy_in q.1 q.2, pk_cpy_in q.1 q.2]; exact hia _ (by omega)
    · rw [pk_cpy_out (by omega), pk_cpy_out (by omega)]; exact hib i hi9)
  exact zq_retn zt_X8_copy rfl rfl (⟨rfl, hI, f1.wk (by simp [zSC])⟩)
set_option maxRecDepth 100000 in
set_option maxHeartbeats 400000 in
theorem zs_copy_0_3 {τ : zTd} {S : zES} {H : zSH} {μ0 : zq_Me} {a b c : Nat} (ht : H.1 0 = true) (hu : H.1 3 = true) (hq : H.2.1 0 = H.2.1 3) (h1 : a + c ≤ H.2.2.1 0) (h2 : b + c ≤ H.2.2.1 3) (hC : zIc τ S H μ0) : zq_Wp zn_X8_copy 0 [(0, .ref 0), (1, .int (nI 0)), (2, .int (nI a)), (3, .int (nI 3)), (4, .int (nI b)), (5, .int (nI c))] [] μ0 (zRc (.int (nI 1)) τ S (yhi H 3 (va_cpy (H.2.2.2.1 0) (H.2.2.2.1 3) a b c)) μ0) := by
  have hza := (hC.2.2.2.2.2.2.2.2.2 0 (by decide)).2
  have hs1a : μ0.1 25 1 = nI (H.2.1 0) := ((hC.2.2.2.2.2.2.2.2.1.1 0 (by decide)).1 ht).1
  have hs2a : μ0.1 25 2 = nI (H.2.2.1 0) := ((hC.2.2.2.2.2.2.2.2.1.1 0 (by decide)).1 ht).2
  have hia : ∀ i, i < 60 → μ0.1 26 i = H.2.2.2.1 0 i := (hC.2.2.2.2.2.2.2.2.1.1 0 (by decide)).2.2
  have hfma := (hC.2.2.2.2.2.2.2.2.2 0 (by decide)).1
  have hzb := (hC.2.2.2.2.2.2.2.2.2 3 (by decide)).2
  have hs1b : μ0.1 31 1 = nI (H.2.1 3) := ((hC.2.2.2.2.2.2.2.2.1.1 3 (by decide)).1 hu).1
  have hs2b : μ0.1 31 2 = nI (H.2.2.1 3) := ((hC.2.2.2.2.2.2.2.2.1.1 3 (by decide)).1 hu).2
  have hib : ∀ i, i < 60 → μ0.1 32 i = H.2.2.2.1 3 i := (hC.2.2.2.2.2.2.2.2.1.1 3 (by decide)).2.2
  have hfmb := (hC.2.2.2.2.2.2.2.2.2 3 (by decide)).1
  refine zq_go zt_X8_copy 1 [] 1 [(0, .ref 0), (1, .int (nI 0)), (2, .int (nI a)), (3, .int (nI 3)), (4, .int (nI b)), (5, .int (nI c))] [.int (nI 0)] μ0 rfl trivial ?_
  refine zq_call zt_X8_copy [.int (nI 0)] [] (zs_isSheet (nI 0) μ0) rfl rfl ?_
  rintro _ _ ⟨rfl, rfl⟩
  refine zq_go zt_X8_copy 1 [] (if (zb (0 ≤ nI 0 ∧ nI 0 ≤ nI 3)) = 0 then 14 else 7) [(0, .ref 0), (1, .int (nI 0)), (2, .int (nI a)), (3, .int (nI 3)), (4, .int (nI b)), (5, .int (nI c))] [] μ0 rfl trivial ?_
  rw [if_neg (zb_n (yin (by omega) (by decide)))]
  refine zq_go zt_X8_copy 1 [] 8 [(0, .ref 0), (1, .int (nI 0)), (2, .int (nI a)), (3, .int (nI 3)), (4, .int (nI b)), (5, .int (nI c))] [.int (nI 3)] μ0 rfl trivial ?_
  refine zq_call zt_X8_copy [.int (nI 3)] [] (zs_isSheet (nI 3) μ0) rfl rfl ?_
  rintro _ _ ⟨rfl, rfl⟩
  refine zq_go zt_X8_copy 1 [] (if ¬ (zb (0 ≤ nI 3 ∧ nI 3 ≤ nI 3)) = 0 then 17 else 14) [(0, .ref 0), (1, .int (nI 0)), (2, .int (nI a)), (3, .int (nI 3)), (4, .int (nI b)), (5, .int (nI c))] [] μ0 rfl trivial ?_
  rw [if_pos (zb_n (yin (by omega) (by decide)))]
  refine zq_go zt_X8_copy 11 [vp_in (nI 0) 4, vp_in (nI 3) 4] 35 [(0, .ref 0), (1, .int (nI 0)), (2, .int (nI a)), (3, .int (nI 3)), (4, .int (nI b)), (5, .int (nI c)), (6, .ref 25), (7, .ref 31)] [.ref 25] μ0 rfl ⟨zn_in rfl (by decide) (by decide), ⟨zn_in rfl (by decide) (by decide), trivial⟩⟩ ?_
  refine zq_call zt_X8_copy [.ref 25] [] (zs_isLost_0 ht hC) rfl rfl ?_
  rintro _ _ ⟨rfl, rfl⟩
  refine zq_go zt_X8_copy 1 [] (if ¬ (nI 0) = 0 then 49 else 41) [(0, .ref 0), (1, .int (nI 0)), (2, .int (nI a)), (3, .int (nI 3)), (4, .int (nI b)), (5, .int (nI c)), (6, .ref 25), (7, .ref 31)] [] μ0 rfl trivial ?_
  rw [if_neg (by decide)]
  refine zq_go zt_X8_copy 1 [] 43 [(0, .ref 0), (1, .int (nI 0)), (2, .int (nI a)), (3, .int (nI 3)), (4, .int (nI b)), (5, .int (nI c)), (6, .ref 25), (7, .ref 31)] [.ref 31] μ0 rfl trivial ?_
  refine zq_call zt_X8_copy [.ref 31] [] (zs_isLost_3 hu hC) rfl rfl ?_
  rintro _ _ ⟨rfl, rfl⟩
  refine zq_go zt_X8_copy 1 [] (if (nI 0) = 0 then 55 else 49) [(0, .ref 0), (1, .int (nI 0)), (2, .int (nI a)), (3, .int (nI 3)), (4, .int (nI b)), (5, .int (nI c)), (6, .ref 25), (7, .ref 31)] [] μ0 rfl trivial ?_
  rw [if_pos (by decide)]
  refine zq_go zt_X8_copy 5 [] (if (μ0.1 25 1) = (μ0.1 31 1) then 74 else 68) [(0, .ref 0), (1, .int (nI 0)), (2, .int (nI a)), (3, .int (nI 3)), (4, .int (nI b)), (5, .int (nI c)), (6, .ref 25), (7, .ref 31)] [] μ0 rfl trivial ?_
  rw [hs1a, hs1b]
  rw [if_pos (congrArg nI hq)]
  refine zq_go zt_X8_copy 3 [] 79 [(0, .ref 0), (1, .int (nI 0)), (2, .int (nI a)), (3, .int (nI 3)), (4, .int (nI b)), (5, .int (nI c)), (6, .ref 25), (7, .ref 31)] [.int (nI c), .int (nI a), .ref 25] μ0 rfl trivial ?_
  refine zq_call zt_X8_copy [.ref 25, .int (nI a), .int (nI c)] [] (zs_holds_0 ht (nI a) (nI c) hC) rfl rfl ?_
  rintro _ _ ⟨rfl, rfl⟩
  refine zq_go zt_X8_copy 1 [] (if (zb (yfit (H.2.2.1 0) (nI a) (nI c))) = 0 then 97 else 85) [(0, .ref 0), (1, .int (nI 0)), (2, .int (nI a)), (3, .int (nI 3)), (4, .int (nI b)), (5, .int (nI c)), (6, .ref 25), (7, .ref 31)] [] μ0 rfl trivial ?_
  rw [if_neg (zb_n (yfit_n hza h1))]
  refine zq_go zt_X8_copy 3 [] 91 [(0, .ref 0), (1, .int (nI 0)), (2, .int (nI a)), (3, .int (nI 3)), (4, .int (nI b)), (5, .int (nI c)), (6, .ref 25), (7, .ref 31)] [.int (nI c), .int (nI b), .ref 31] μ0 rfl trivial ?_
  refine zq_call zt_X8_copy [.ref 31, .int (nI b), .int (nI c)] [] (zs_holds_3 hu (nI b) (nI c) hC) rfl rfl ?_
  rintro _ _ ⟨rfl, rfl⟩
  refine zq_go zt_X8_copy 1 [] (if ¬ (zb (yfit (H.2.2.1 3) (nI b) (nI c))) = 0 then 103 else 97) [(0, .ref 0), (1, .int (nI 0)), (2, .int (nI a)), (3, .int (nI 3)), (4, .int (nI b)), (5, .int (nI c)), (6, .ref 25), (7, .ref 31)] [] μ0 rfl trivial ?_
  rw [if_pos (zb_n (yfit_n hzb h2))]
  refine zq_go zt_X8_copy 9 [¬ (nI a) < 0 ∧ ¬ (nI b) < 0 ∧ ¬ (nI c) < 0 ∧ (nI a).toNatClampNeg + (nI c).toNatClampNeg ≤ 60 ∧ (nI b).toNatClampNeg + (nI c).toNatClampNeg ≤ 60] 122 [(0, .ref 0), (1, .int (nI 0)), (2, .int (nI a)), (3, .int (nI 3)), (4, .int (nI b)), (5, .int (nI c)), (6, .ref 25), (7, .ref 31)] [.int (nI 1)] (zq_ur μ0 32 (va_cpy (μ0.1 26) (μ0.1 32) (nI a).toNatClampNeg (nI b).toNatClampNeg (nI c).toNatClampNeg)) rfl ⟨⟨zn_notneg (by omega), zn_notneg (by omega), zn_notneg (by omega), by rw [zn_cl (by omega), zn_cl (by omega)]; omega, by rw [zn_cl (by omega), zn_cl (by omega)]; omega⟩, trivial⟩ ?_
  obtain ⟨μ1, hμ1⟩ : ∃ k9 : zq_Me, k9 = (zq_ur μ0 32 (va_cpy (μ0.1 26) (μ0.1 32) (nI a).toNatClampNeg (nI b).toNatClampNeg (nI c).toNatClampNeg)) := ⟨_, rfl⟩
  rw [← hμ1]
  have f1 : zq_fr [26 + 2 * 3] μ0 μ1 := by rw [hμ1]; exact zq_fr.rf.ur (by simp)
  have hI := hC.it (s := 3) (by decide) (va_cpy (H.2.2.2.1 0) (H.2.2.2.1 3) a b c) f1 (fun i hi9 => by
    rw [hμ1]
    show va_cpy (μ0.1 26) (μ0.1 32) (nI a).toNatClampNeg (nI b).toNatClampNeg (nI c).toNatClampNeg i = _
    rw [zn_cl (by omega), zn_cl (by omega), zn_cl (by omega)]
    by_cases q : b ≤ i ∧ i < b + c
    · rw [pk_cpy_in q.1 q.2, pk_cpy_in q.1 q.2]; exact hia _ (by omega)
    · rw [pk_cpy_out (by omega), pk_cpy_out (by omega)]; exact hib i hi9)
  exact zq_retn zt_X8_copy rfl rfl (⟨rfl, hI, f1.wk (by simp [zSC])⟩)
set_option maxRecDepth 100000 in
set_option maxHeartbeats 400000 in
theorem zs_copy_1_0 {τ : zTd} {S : zES} {H : zSH} {μ0 : zq_Me} {a b c : Nat} (ht : H.1 1 = true) (hu : H.1 0 = true) (hq : H.2.1 1 = H.2.1 0) (h1 : a + c ≤ H.2.2.1 1) (h2 : b + c ≤ H.2.2.1 0) (hC : zIc τ S H μ0) : zq_Wp zn_X8_copy 0 [(0, .ref 0), (1, .int (nI 1)), (2, .int (nI a)), (3, .int (nI 0)), (4, .int (nI b)), (5, .int (nI c))] [] μ0 (zRc (.int (nI 1)) τ S (yhi H 0 (va_cpy (H.2.2.2.1 1) (H.2.2.2.1 0) a b c)) μ0) := by
  have hza := (hC.2.2.2.2.2.2.2.2.2 1 (by decide)).2
  have hs1a : μ0.1 27 1 = nI (H.2.1 1) := ((hC.2.2.2.2.2.2.2.2.1.1 1 (by decide)).1 ht).1
  have hs2a : μ0.1 27 2 = nI (H.2.2.1 1) := ((hC.2.2.2.2.2.2.2.2.1.1 1 (by decide)).1 ht).2
  have hia : ∀ i, i < 60 → μ0.1 28 i = H.2.2.2.1 1 i := (hC.2.2.2.2.2.2.2.2.1.1 1 (by decide)).2.2
  have hfma := (hC.2.2.2.2.2.2.2.2.2 1 (by decide)).1
  have hzb := (hC.2.2.2.2.2.2.2.2.2 0 (by decide)).2
  have hs1b : μ0.1 25 1 = nI (H.2.1 0) := ((hC.2.2.2.2.2.2.2.2.1.1 0 (by decide)).1 hu).1
  have hs2b : μ0.1 25 2 = nI (H.2.2.1 0) := ((hC.2.2.2.2.2.2.2.2.1.1 0 (by decide)).1 hu).2
  have hib : ∀ i, i < 60 → μ0.1 26 i = H.2.2.2.1 0 i := (hC.2.2.2.2.2.2.2.2.1.1 0 (by decide)).2.2
  have hfmb := (hC.2.2.2.2.2.2.2.2.2 0 (by decide)).1
  refine zq_go zt_X8_copy 1 [] 1 [(0, .ref 0), (1, .int (nI 1)), (2, .int (nI a)), (3, .int (nI 0)), (4, .int (nI b)), (5, .int (nI c))] [.int (nI 1)] μ0 rfl trivial ?_
  refine zq_call zt_X8_copy [.int (nI 1)] [] (zs_isSheet (nI 1) μ0) rfl rfl ?_
  rintro _ _ ⟨rfl, rfl⟩
  refine zq_go zt_X8_copy 1 [] (if (zb (0 ≤ nI 1 ∧ nI 1 ≤ nI 3)) = 0 then 14 else 7) [(0, .ref 0), (1, .int (nI 1)), (2, .int (nI a)), (3, .int (nI 0)), (4, .int (nI b)), (5, .int (nI c))] [] μ0 rfl trivial ?_
  rw [if_neg (zb_n (yin (by omega) (by decide)))]
  refine zq_go zt_X8_copy 1 [] 8 [(0, .ref 0), (1, .int (nI 1)), (2, .int (nI a)), (3, .int (nI 0)), (4, .int (nI b)), (5, .int (nI c))] [.int (nI 0)] μ0 rfl trivial ?_
  refine zq_call zt_X8_copy [.int (nI 0)] [] (zs_isSheet (nI 0) μ0) rfl rfl ?_
  rintro _ _ ⟨rfl, rfl⟩
  refine zq_go zt_X8_copy 1 [] (if ¬ (zb (0 ≤ nI 0 ∧ nI 0 ≤ nI 3)) = 0 then 17 else 14) [(0, .ref 0), (1, .int (nI 1)), (2, .int (nI a)), (3, .int (nI 0)), (4, .int (nI b)), (5, .int (nI c))] [] μ0 rfl trivial ?_
  rw [if_pos (zb_n (yin (by omega) (by decide)))]
  refine zq_go zt_X8_copy 11 [vp_in (nI 1) 4, vp_in (nI 0) 4] 35 [(0, .ref 0), (1, .int (nI 1)), (2, .int (nI a)), (3, .int (nI 0)), (4, .int (nI b)), (5, .int (nI c)), (6, .ref 27), (7, .ref 25)] [.ref 27] μ0 rfl ⟨zn_in rfl (by decide) (by decide), ⟨zn_in rfl (by decide) (by decide), trivial⟩⟩ ?_
  refine zq_call zt_X8_copy [.ref 27] [] (zs_isLost_1 ht hC) rfl rfl ?_
  rintro _ _ ⟨rfl, rfl⟩
  refine zq_go zt_X8_copy 1 [] (if ¬ (nI 0) = 0 then 49 else 41) [(0, .ref 0), (1, .int (nI 1)), (2, .int (nI a)), (3, .int (nI 0)), (4, .int (nI b)), (5, .int (nI c)), (6, .ref 27), (7, .ref 25)] [] μ0 rfl trivial ?_
  rw [if_neg (by decide)]
  refine zq_go zt_X8_copy 1 [] 43 [(0, .ref 0), (1, .int (nI 1)), (2, .int (nI a)), (3, .int (nI 0)), (4, .int (nI b)), (5, .int (nI c)), (6, .ref 27), (7, .ref 25)] [.ref 25] μ0 rfl trivial ?_
  refine zq_call zt_X8_copy [.ref 25] [] (zs_isLost_0 hu hC) rfl rfl ?_
  rintro _ _ ⟨rfl, rfl⟩
  refine zq_go zt_X8_copy 1 [] (if (nI 0) = 0 then 55 else 49) [(0, .ref 0), (1, .int (nI 1)), (2, .int (nI a)), (3, .int (nI 0)), (4, .int (nI b)), (5, .int (nI c)), (6, .ref 27), (7, .ref 25)] [] μ0 rfl trivial ?_
  rw [if_pos (by decide)]
  refine zq_go zt_X8_copy 5 [] (if (μ0.1 27 1) = (μ0.1 25 1) then 74 else 68) [(0, .ref 0), (1, .int (nI 1)), (2, .int (nI a)), (3, .int (nI 0)), (4, .int (nI b)), (5, .int (nI c)), (6, .ref 27), (7, .ref 25)] [] μ0 rfl trivial ?_
  rw [hs1a, hs1b]
  rw [if_pos (congrArg nI hq)]
  refine zq_go zt_X8_copy 3 [] 79 [(0, .ref 0), (1, .int (nI 1)), (2, .int (nI a)), (3, .int (nI 0)), (4, .int (nI b)), (5, .int (nI c)), (6, .ref 27), (7, .ref 25)] [.int (nI c), .int (nI a), .ref 27] μ0 rfl trivial ?_
  refine zq_call zt_X8_copy [.ref 27, .int (nI a), .int (nI c)] [] (zs_holds_1 ht (nI a) (nI c) hC) rfl rfl ?_
  rintro _ _ ⟨rfl, rfl⟩
  refine zq_go zt_X8_copy 1 [] (if (zb (yfit (H.2.2.1 1) (nI a) (nI c))) = 0 then 97 else 85) [(0, .ref 0), (1, .int (nI 1)), (2, .int (nI a)), (3, .int (nI 0)), (4, .int (nI b)), (5, .int (nI c)), (6, .ref 27), (7, .ref 25)] [] μ0 rfl trivial ?_
  rw [if_neg (zb_n (yfit_n hza h1))]
  refine zq_go zt_X8_copy 3 [] 91 [(0, .ref 0), (1, .int (nI 1)), (2, .int (nI a)), (3, .int (nI 0)), (4, .int (nI b)), (5, .int (nI c)), (6, .ref 27), (7, .ref 25)] [.int (nI c), .int (nI b), .ref 25] μ0 rfl trivial ?_
  refine zq_call zt_X8_copy [.ref 25, .int (nI b), .int (nI c)] [] (zs_holds_0 hu (nI b) (nI c) hC) rfl rfl ?_
  rintro _ _ ⟨rfl, rfl⟩
  refine zq_go zt_X8_copy 1 [] (if ¬ (zb (yfit (H.2.2.1 0) (nI b) (nI c))) = 0 then 103 else 97) [(0, .ref 0), (1, .int (nI 1)), (2, .int (nI a)), (3, .int (nI 0)), (4, .int (nI b)), (5, .int (nI c)), (6, .ref 27), (7, .ref 25)] [] μ0 rfl trivial ?_
  rw [if_pos (zb_n (yfit_n hzb h2))]
  refine zq_go zt_X8_copy 9 [¬ (nI a) < 0 ∧ ¬ (nI b) < 0 ∧ ¬ (nI c) < 0 ∧ (nI a).toNatClampNeg + (nI c).toNatClampNeg ≤ 60 ∧ (nI b).toNatClampNeg + (nI c).toNatClampNeg ≤ 60] 122 [(0, .ref 0), (1, .int (nI 1)), (2, .int (nI a)), (3, .int (nI 0)), (4, .int (nI b)), (5, .int (nI c)), (6, .ref 27), (7, .ref 25)] [.int (nI 1)] (zq_ur μ0 26 (va_cpy (μ0.1 28) (μ0.1 26) (nI a).toNatClampNeg (nI b).toNatClampNeg (nI c).toNatClampNeg)) rfl ⟨⟨zn_notneg (by omega), zn_notneg (by omega), zn_notneg (by omega), by rw [zn_cl (by omega), zn_cl (by omega)]; omega, by rw [zn_cl (by omega), zn_cl (by omega)]; omega⟩, trivial⟩ ?_
  obtain ⟨μ1, hμ1⟩ : ∃ k9 : zq_Me, k9 = (zq_ur μ0 26 (va_cpy (μ0.1 28) (μ0.1 26) (nI a).toNatClampNeg (nI b).toNatClampNeg (nI c).toNatClampNeg)) := ⟨_, rfl⟩
  rw [← hμ1]
  have f1 : zq_fr [26 + 2 * 0] μ0 μ1 := by rw [hμ1]; exact zq_fr.rf.ur (by simp)
  have hI := hC.it (s := 0) (by decide) (va_cpy (H.2.2.2.1 1) (H.2.2.2.1 0) a b c) f1 (fun i hi9 => by
    rw [hμ1]
    show va_cpy (μ0.1 28) (μ0.1 26) (nI a).toNatClampNeg (nI b).toNatClampNeg (nI c).toNatClampNeg i = _
    rw [zn_cl (by omega), zn_cl (by omega), zn_cl (by omega)]
    by_cases q : b ≤ i ∧ i < b + c
    · rw [pk_cpy_in q.1 q.2, pk_cpy_in q.1 q.2]; exact hia _ (by omega)
    · rw [pk_cpy_out (by omega), pk_cpy_out (by omega)]; exact hib i hi9)
  exact zq_retn zt_X8_copy rfl rfl (⟨rfl, hI, f1.wk (by simp [zSC])⟩)
set_option maxRecDepth 100000 in
set_option maxHeartbeats 400000 in
theorem zs_copy_1_1 {τ : zTd} {S : zES} {H : zSH} {μ0 : zq_Me} {a b c : Nat} (ht : H.1 1 = true) (hu : H.1 1 = true) (hq : H.2.1 1 = H.2.1 1) (h1 : a + c ≤ H.2.2.1 1) (h2 : b + c ≤ H.2.2.1 1) (hC : zIc τ S H μ0) : zq_Wp zn_X8_copy 0 [(0, .ref 0), (1, .int (nI 1)), (2, .int (nI a)), (3, .int (nI 1)), (4, .int (nI b)), (5, .int (nI c))] [] μ0 (zRc (.int (nI 1)) τ S (yhi H 1 (va_cpy (H.2.2.2.1 1) (H.2.2.2.1 1) a b c)) μ0) := by
  have hza := (hC.2.2.2.2.2.2.2.2.2 1 (by decide)).2
  have hs1a : μ0.1 27 1 = nI (H.2.1 1) := ((hC.2.2.2.2.2.2.2.2.1.1 1 (by decide)).1 ht).1
  have hs2a : μ0.1 27 2 = nI (H.2.2.1 1) := ((hC.2.2.2.2.2.2.2.2.1.1 1 (by decide)).1 ht).2
  have hia : ∀ i, i < 60 → μ0.1 28 i = H.2.2.2.1 1 i := (hC.2.2.2.2.2.2.2.2.1.1 1 (by decide)).2.2
  have hfma := (hC.2.2.2.2.2.2.2.2.2 1 (by decide)).1
  have hzb := (hC.2.2.2.2.2.2.2.2.2 1 (by decide)).2
  have hs1b : μ0.1 27 1 = nI (H.2.1 1) := ((hC.2.2.2.2.2.2.2.2.1.1 1 (by decide)).1 hu).1
  have hs2b : μ0.1 27 2 = nI (H.2.2.1 1) := ((hC.2.2.2.2.2.2.2.2.1.1 1 (by decide)).1 hu).2
  have hib : ∀ i, i < 60 → μ0.1 28 i = H.2.2.2.1 1 i := (hC.2.2.2.2.2.2.2.2.1.1 1 (by decide)).2.2
  have hfmb := (hC.2.2.2.2.2.2.2.2.2 1 (by decide)).1
  refine zq_go zt_X8_copy 1 [] 1 [(0, .ref 0), (1, .int (nI 1)), (2, .int (nI a)), (3, .int (nI 1)), (4, .int (nI b)), (5, .int (nI c))] [.int (nI 1)] μ0 rfl trivial ?_
  refine zq_call zt_X8_copy [.int (nI 1)] [] (zs_isSheet (nI 1) μ0) rfl rfl ?_
  rintro _ _ ⟨rfl, rfl⟩
  refine zq_go zt_X8_copy 1 [] (if (zb (0 ≤ nI 1 ∧ nI 1 ≤ nI 3)) = 0 then 14 else 7) [(0, .ref 0), (1, .int (nI 1)), (2, .int (nI a)), (3, .int (nI 1)), (4, .int (nI b)), (5, .int (nI c))] [] μ0 rfl trivial ?_
  rw [if_neg (zb_n (yin (by omega) (by decide)))]
  refine zq_go zt_X8_copy 1 [] 8 [(0, .ref 0), (1, .int (nI 1)), (2, .int (nI a)), (3, .int (nI 1)), (4, .int (nI b)), (5, .int (nI c))] [.int (nI 1)] μ0 rfl trivial ?_
  refine zq_call zt_X8_copy [.int (nI 1)] [] (zs_isSheet (nI 1) μ0) rfl rfl ?_
  rintro _ _ ⟨rfl, rfl⟩
  refine zq_go zt_X8_copy 1 [] (if ¬ (zb (0 ≤ nI 1 ∧ nI 1 ≤ nI 3)) = 0 then 17 else 14) [(0, .ref 0), (1, .int (nI 1)), (2, .int (nI a)), (3, .int (nI 1)), (4, .int (nI b)), (5, .int (nI c))] [] μ0 rfl trivial ?_
  rw [if_pos (zb_n (yin (by omega) (by decide)))]
  refine zq_go zt_X8_copy 11 [vp_in (nI 1) 4, vp_in (nI 1) 4] 35 [(0, .ref 0), (1, .int (nI 1)), (2, .int (nI a)), (3, .int (nI 1)), (4, .int (nI b)), (5, .int (nI c)), (6, .ref 27), (7, .ref 27)] [.ref 27] μ0 rfl ⟨zn_in rfl (by decide) (by decide), ⟨zn_in rfl (by decide) (by decide), trivial⟩⟩ ?_
  refine zq_call zt_X8_copy [.ref 27] [] (zs_isLost_1 ht hC) rfl rfl ?_
  rintro _ _ ⟨rfl, rfl⟩
  refine zq_go zt_X8_copy 1 [] (if ¬ (nI 0) = 0 then 49 else 41) [(0, .ref 0), (1, .int (nI 1)), (2, .int (nI a)), (3, .int (nI 1)), (4, .int (nI b)), (5, .int (nI c)), (6, .ref 27), (7, .ref 27)] [] μ0 rfl trivial ?_
  rw [if_neg (by decide)]
  refine zq_go zt_X8_copy 1 [] 43 [(0, .ref 0), (1, .int (nI 1)), (2, .int (nI a)), (3, .int (nI 1)), (4, .int (nI b)), (5, .int (nI c)), (6, .ref 27), (7, .ref 27)] [.ref 27] μ0 rfl trivial ?_
  refine zq_call zt_X8_copy [.ref 27] [] (zs_isLost_1 hu hC) rfl rfl ?_
  rintro _ _ ⟨rfl, rfl⟩
  refine zq_go zt_X8_copy 1 [] (if (nI 0) = 0 then 55 else 49) [(0, .ref 0), (1, .int (nI 1)), (2, .int (nI a)), (3, .int (nI 1)), (4, .int (nI b)), (5, .int (nI c)), (6, .ref 27), (7, .ref 27)] [] μ0 rfl trivial ?_
  rw [if_pos (by decide)]
  refine zq_go zt_X8_copy 5 [] (if (μ0.1 27 1) = (μ0.1 27 1) then 74 else 68) [(0, .ref 0), (1, .int (nI 1)), (2, .int (nI a)), (3, .int (nI 1)), (4, .int (nI b)), (5, .int (nI c)), (6, .ref 27), (7, .ref 27)] [] μ0 rfl trivial ?_
  rw [hs1b]
  rw [if_pos (congrArg nI hq)]
  refine zq_go zt_X8_copy 3 [] 79 [(0, .ref 0), (1, .int (nI 1)), (2, .int (nI a)), (3, .int (nI 1)), (4, .int (nI b)), (5, .int (nI c)), (6, .ref 27), (7, .ref 27)] [.int (nI c), .int (nI a), .ref 27] μ0 rfl trivial ?_
  refine zq_call zt_X8_copy [.ref 27, .int (nI a), .int (nI c)] [] (zs_holds_1 ht (nI a) (nI c) hC) rfl rfl ?_
  rintro _ _ ⟨rfl, rfl⟩
  refine zq_go zt_X8_copy 1 [] (if (zb (yfit (H.2.2.1 1) (nI a) (nI c))) = 0 then 97 else 85) [(0, .ref 0), (1, .int (nI 1)), (2, .int (nI a)), (3, .int (nI 1)), (4, .int (nI b)), (5, .int (nI c)), (6, .ref 27), (7, .ref 27)] [] μ0 rfl trivial ?_
  rw [if_neg (zb_n (yfit_n hza h1))]
  refine zq_go zt_X8_copy 3 [] 91 [(0, .ref 0), (1, .int (nI 1)), (2, .int (nI a)), (3, .int (nI 1)), (4, .int (nI b)), (5, .int (nI c)), (6, .ref 27), (7, .ref 27)] [.int (nI c), .int (nI b), .ref 27] μ0 rfl trivial ?_
  refine zq_call zt_X8_copy [.ref 27, .int (nI b), .int (nI c)] [] (zs_holds_1 hu (nI b) (nI c) hC) rfl rfl ?_
  rintro _ _ ⟨rfl, rfl⟩
  refine zq_go zt_X8_copy 1 [] (if ¬ (zb (yfit (H.2.2.1 1) (nI b) (nI c))) = 0 then 103 else 97) [(0, .ref 0), (1, .int (nI 1)), (2, .int (nI a)), (3, .int (nI 1)), (4, .int (nI b)), (5, .int (nI c)), (6, .ref 27), (7, .ref 27)] [] μ0 rfl trivial ?_
  rw [if_pos (zb_n (yfit_n hzb h2))]
  refine zq_go zt_X8_copy 9 [¬ (nI a) < 0 ∧ ¬ (nI b) < 0 ∧ ¬ (nI c) < 0 ∧ (nI a).toNatClampNeg + (nI c).toNatClampNeg ≤ 60 ∧ (nI b).toNatClampNeg + (nI c).toNatClampNeg ≤ 60] 122 [(0, .ref 0), (1, .int (nI 1)), (2, .int (nI a)), (3, .int (nI 1)), (4, .int (nI b)), (5, .int (nI c)), (6, .ref 27), (7, .ref 27)] [.int (nI 1)] (zq_ur μ0 28 (va_cpy (μ0.1 28) (μ0.1 28) (nI a).toNatClampNeg (nI b).toNatClampNeg (nI c).toNatClampNeg)) rfl ⟨⟨zn_notneg (by omega), zn_notneg (by omega), zn_notneg (by omega), by rw [zn_cl (by omega), zn_cl (by omega)]; omega, by rw [zn_cl (by omega), zn_cl (by omega)]; omega⟩, trivial⟩ ?_
  obtain ⟨μ1, hμ1⟩ : ∃ k9 : zq_Me, k9 = (zq_ur μ0 28 (va_cpy (μ0.1 28) (μ0.1 28) (nI a).toNatClampNeg (nI b).toNatClampNeg (nI c).toNatClampNeg)) := ⟨_, rfl⟩
  rw [← hμ1]
  have f1 : zq_fr [26 + 2 * 1] μ0 μ1 := by rw [hμ1]; exact zq_fr.rf.ur (by simp)
  have hI := hC.it (s := 1) (by decide) (va_cpy (H.2.2.2.1 1) (H.2.2.2.1 1) a b c) f1 (fun i hi9 => by
    rw [hμ1]
    show va_cpy (μ0.1 28) (μ0.1 28) (nI a).toNatClampNeg (nI b).toNatClampNeg (nI c).toNatClampNeg i = _
    rw [zn_cl (by omega), zn_cl (by omega), zn_cl (by omega)]
    by_cases q : b ≤ i ∧ i < b + c
    · rw [pk_cpy_in q.1 q.2, pk_cpy_in q.1 q.2]; exact hia _ (by omega)
    · rw [pk_cpy_out (by omega), pk_cpy_out (by omega)]; exact hib i hi9)
  exact zq_retn zt_X8_copy rfl rfl (⟨rfl, hI, f1.wk (by simp [zSC])⟩)
set_option maxRecDepth 100000 in
set_option maxHeartbeats 400000 in
theorem zs_copy_1_2 {τ : zTd} {S : zES} {H : zSH} {μ0 : zq_Me} {a b c : Nat} (ht : H.1 1 = true) (hu : H.1 2 = true) (hq : H.2.1 1 = H.2.1 2) (h1 : a + c ≤ H.2.2.1 1) (h2 : b + c ≤ H.2.2.1 2) (hC : zIc τ S H μ0) : zq_Wp zn_X8_copy 0 [(0, .ref 0), (1, .int (nI 1)), (2, .int (nI a)), (3, .int (nI 2)), (4, .int (nI b)), (5, .int (nI c))] [] μ0 (zRc (.int (nI 1)) τ S (yhi H 2 (va_cpy (H.2.2.2.1 1) (H.2.2.2.1 2) a b c)) μ0) := by
  have hza := (hC.2.2.2.2.2.2.2.2.2 1 (by decide)).2
  have hs1a : μ0.1 27 1 = nI (H.2.1 1) := ((hC.2.2.2.2.2.2.2.2.1.1 1 (by decide)).1 ht).1
  have hs2a : μ0.1 27 2 = nI (H.2.2.1 1) := ((hC.2.2.2.2.2.2.2.2.1.1 1 (by decide)).1 ht).2
  have hia : ∀ i, i < 60 → μ0.1 28 i = H.2.2.2.1 1 i := (hC.2.2.2.2.2.2.2.2.1.1 1 (by decide)).2.2
  have hfma := (hC.2.2.2.2.2.2.2.2.2 1 (by decide)).1
  have hzb := (hC.2.2.2.2.2.2.2.2.2 2 (by decide)).2
  have hs1b : μ0.1 29 1 = nI (H.2.1 2) := ((hC.2.2.2.2.2.2.2.2.1.1 2 (by decide)).1 hu).1
  have hs2b : μ0.1 29 2 = nI (H.2.2.1 2) := ((hC.2.2.2.2.2.2.2.2.1.1 2 (by decide)).1 hu).2
  have hib : ∀ i, i < 60 → μ0.1 30 i = H.2.2.2.1 2 i := (hC.2.2.2.2.2.2.2.2.1.1 2 (by decide)).2.2
  have hfmb := (hC.2.2.2.2.2.2.2.2.2 2 (by decide)).1
  refine zq_go zt_X8_copy 1 [] 1 [(0, .ref 0), (1, .int (nI 1)), (2, .int (nI a)), (3, .int (nI 2)), (4, .int (nI b)), (5, .int (nI c))] [.int (nI 1)] μ0 rfl trivial ?_
  refine zq_call zt_X8_copy [.int (nI 1)] [] (zs_isSheet (nI 1) μ0) rfl rfl ?_
  rintro _ _ ⟨rfl, rfl⟩
  refine zq_go zt_X8_copy 1 [] (if (zb (0 ≤ nI 1 ∧ nI 1 ≤ nI 3)) = 0 then 14 else 7) [(0, .ref 0), (1, .int (nI 1)), (2, .int (nI a)), (3, .int (nI 2)), (4, .int (nI b)), (5, .int (nI c))] [] μ0 rfl trivial ?_
  rw [if_neg (zb_n (yin (by omega) (by decide)))]
  refine zq_go zt_X8_copy 1 [] 8 [(0, .ref 0), (1, .int (nI 1)), (2, .int (nI a)), (3, .int (nI 2)), (4, .int (nI b)), (5, .int (nI c))] [.int (nI 2)] μ0 rfl trivial ?_
  refine zq_call zt_X8_copy [.int (nI 2)] [] (zs_isSheet (nI 2) μ0) rfl rfl ?_
  rintro _ _ ⟨rfl, rfl⟩
  refine zq_go zt_X8_copy 1 [] (if ¬ (zb (0 ≤ nI 2 ∧ nI 2 ≤ nI 3)) = 0 then 17 else 14) [(0, .ref 0), (1, .int (nI 1)), (2, .int (nI a)), (3, .int (nI 2)), (4, .int (nI b)), (5, .int (nI c))] [] μ0 rfl trivial ?_
  rw [if_pos (zb_n (yin (by omega) (by decide)))]
  refine zq_go zt_X8_copy 11 [vp_in (nI 1) 4, vp_in (nI 2) 4] 35 [(0, .ref 0), (1, .int (nI 1)), (2, .int (nI a)), (3, .int (nI 2)), (4, .int (nI b)), (5, .int (nI c)), (6, .ref 27), (7, .ref 29)] [.ref 27] μ0 rfl ⟨zn_in rfl (by decide) (by decide), ⟨zn_in rfl (by decide) (by decide), trivial⟩⟩ ?_
  refine zq_call zt_X8_copy [.ref 27] [] (zs_isLost_1 ht hC) rfl rfl ?_
  rintro _ _ ⟨rfl, rfl⟩
  refine zq_go zt_X8_copy 1 [] (if ¬ (nI 0) = 0 then 49 else 41) [(0, .ref 0), (1, .int (nI 1)), (2, .int (nI a)), (3, .int (nI 2)), (4, .int (nI b)), (5, .int (nI c)), (6, .ref 27), (7, .ref 29)] [] μ0 rfl trivial ?_
  rw [if_neg (by decide)]
  refine zq_go zt_X8_copy 1 [] 43 [(0, .ref 0), (1, .int (nI 1)), (2, .int (nI a)), (3, .int (nI 2)), (4, .int (nI b)), (5, .int (nI c)), (6, .ref 27), (7, .ref 29)] [.ref 29] μ0 rfl trivial ?_
  refine zq_call zt_X8_copy [.ref 29] [] (zs_isLost_2 hu hC) rfl rfl ?_
  rintro _ _ ⟨rfl, rfl⟩
  refine zq_go zt_X8_copy 1 [] (if (nI 0) = 0 then 55 else 49) [(0, .ref 0), (1, .int (nI 1)), (2, .int (nI a)), (3, .int (nI 2)), (4, .int (nI b)), (5, .int (nI c)), (6, .ref 27), (7, .ref 29)] [] μ0 rfl trivial ?_
  rw [if_pos (by decide)]
  refine zq_go zt_X8_copy 5 [] (if (μ0.1 27 1) = (μ0.1 29 1) then 74 else 68) [(0, .ref 0), (1, .int (nI 1)), (2, .int (nI a)), (3, .int (nI 2)), (4, .int (nI b)), (5, .int (nI c)), (6, .ref 27), (7, .ref 29)] [] μ0 rfl trivial ?_
  rw [hs1a, hs1b]
  rw [if_pos (congrArg nI hq)]
  refine zq_go zt_X8_copy 3 [] 79 [(0, .ref 0), (1, .int (nI 1)), (2, .int (nI a)), (3, .int (nI 2)), (4, .int (nI b)), (5, .int (nI c)), (6, .ref 27), (7, .ref 29)] [.int (nI c), .int (nI a), .ref 27] μ0 rfl trivial ?_
  refine zq_call zt_X8_copy [.ref 27, .int (nI a), .int (nI c)] [] (zs_holds_1 ht (nI a) (nI c) hC) rfl rfl ?_
  rintro _ _ ⟨rfl, rfl⟩
  refine zq_go zt_X8_copy 1 [] (if (zb (yfit (H.2.2.1 1) (nI a) (nI c))) = 0 then 97 else 85) [(0, .ref 0), (1, .int (nI 1)), (2, .int (nI a)), (3, .int (nI 2)), (4, .int (nI b)), (5, .int (nI c)), (6, .ref 27), (7, .ref 29)] [] μ0 rfl trivial ?_
  rw [if_neg (zb_n (yfit_n hza h1))]
  refine zq_go zt_X8_copy 3 [] 91 [(0, .ref 0), (1, .int (nI 1)), (2, .int (nI a)), (3, .int (nI 2)), (4, .int (nI b)), (5, .int (nI c)), (6, .ref 27), (7, .ref 29)] [.int (nI c), .int (nI b), .ref 29] μ0 rfl trivial ?_
  refine zq_call zt_X8_copy [.ref 29, .int (nI b), .int (nI c)] [] (zs_holds_2 hu (nI b) (nI c) hC) rfl rfl ?_
  rintro _ _ ⟨rfl, rfl⟩
  refine zq_go zt_X8_copy 1 [] (if ¬ (zb (yfit (H.2.2.1 2) (nI b) (nI c))) = 0 then 103 else 97) [(0, .ref 0), (1, .int (nI 1)), (2, .int (nI a)), (3, .int (nI 2)), (4, .int (nI b)), (5, .int (nI c)), (6, .ref 27), (7, .ref 29)] [] μ0 rfl trivial ?_
  rw [if_pos (zb_n (yfit_n hzb h2))]
  refine zq_go zt_X8_copy 9 [¬ (nI a) < 0 ∧ ¬ (nI b) < 0 ∧ ¬ (nI c) < 0 ∧ (nI a).toNatClampNeg + (nI c).toNatClampNeg ≤ 60 ∧ (nI b).toNatClampNeg + (nI c).toNatClampNeg ≤ 60] 122 [(0, .ref 0), (1, .int (nI 1)), (2, .int (nI a)), (3, .int (nI 2)), (4, .int (nI b)), (5, .int (nI c)), (6, .ref 27), (7, .ref 29)] [.int (nI 1)] (zq_ur μ0 30 (va_cpy (μ0.1 28) (μ0.1 30) (nI a).toNatClampNeg (nI b).toNatClampNeg (nI c).toNatClampNeg)) rfl ⟨⟨zn_notneg (by omega), zn_notneg (by omega), zn_notneg (by omega), by rw [zn_cl (by omega), zn_cl (by omega)]; omega, by rw [zn_cl (by omega), zn_cl (by omega)]; omega⟩, trivial⟩ ?_
  obtain ⟨μ1, hμ1⟩ : ∃ k9 : zq_Me, k9 = (zq_ur μ0 30 (va_cpy (μ0.1 28) (μ0.1 30) (nI a).toNatClampNeg (nI b).toNatClampNeg (nI c).toNatClampNeg)) := ⟨_, rfl⟩
  rw [← hμ1]
  have f1 : zq_fr [26 + 2 * 2] μ0 μ1 := by rw [hμ1]; exact zq_fr.rf.ur (by simp)
  have hI := hC.it (s := 2) (by decide) (va_cpy (H.2.2.2.1 1) (H.2.2.2.1 2) a b c) f1 (fun i hi9 => by
    rw [hμ1]
    show va_cpy (μ0.1 28) (μ0.1 30) (nI a).toNatClampNeg (nI b).toNatClampNeg (nI c).toNatClampNeg i = _
    rw [zn_cl (by omega), zn_cl (by omega), zn_cl (by omega)]
    by_cases q : b ≤ i ∧ i < b + c
    · rw [pk_cpy_in q.1 q.2, pk_cpy_in q.1 q.2]; exact hia _ (by omega)
    · rw [pk_cpy_out (by omega), pk_cpy_out (by omega)]; exact hib i hi9)
  exact zq_retn zt_X8_copy rfl rfl (⟨rfl, hI, f1.wk (by simp [zSC])⟩)
set_option maxRecDepth 100000 in
set_option maxHeartbeats 400000 in
theorem zs_copy_1_3 {τ : zTd} {S : zES} {H : zSH} {μ0 : zq_Me} {a b c : Nat} (ht : H.1 1 = true) (hu : H.1 3 = true) (hq : H.2.1 1 = H.2.1 3) (h1 : a + c ≤ H.2.2.1 1) (h2 : b + c ≤ H.2.2.1 3) (hC : zIc τ S H μ0) : zq_Wp zn_X8_copy 0 [(0, .ref 0), (1, .int (nI 1)), (2, .int (nI a)), (3, .int (nI 3)), (4, .int (nI b)), (5, .int (nI c))] [] μ0 (zRc (.int (nI 1)) τ S (yhi H 3 (va_cpy (H.2.2.2.1 1) (H.2.2.2.1 3) a b c)) μ0) := by
  have hza := (hC.2.2.2.2.2.2.2.2.2 1 (by decide)).2
  have hs1a : μ0.1 27 1 = nI (H.2.1 1) := ((hC.2.2.2.2.2.2.2.2.1.1 1 (by decide)).1 ht).1
  have hs2a : μ0.1 27 2 = nI (H.2.2.1 1) := ((hC.2.2.2.2.2.2.2.2.1.1 1 (by decide)).1 ht).2
  have hia : ∀ i, i < 60 → μ0.1 28 i = H.2.2.2.1 1 i := (hC.2.2.2.2.2.2.2.2.1.1 1 (by decide)).2.2
  have hfma := (hC.2.2.2.2.2.2.2.2.2 1 (by decide)).1
  have hzb := (hC.2.2.2.2.2.2.2.2.2 3 (by decide)).2
  have hs1b : μ0.1 31 1 = nI (H.2.1 3) := ((hC.2.2.2.2.2.2.2.2.1.1 3 (by decide)).1 hu).1
  have hs2b : μ0.1 31 2 = nI (H.2.2.1 3) := ((hC.2.2.2.2.2.2.2.2.1.1 3 (by decide)).1 hu).2
  have hib : ∀ i, i < 60 → μ0.1 32 i = H.2.2.2.1 3 i := (hC.2.2.2.2.2.2.2.2.1.1 3 (by decide)).2.2
  have hfmb := (hC.2.2.2.2.2.2.2.2.2 3 (by decide)).1
  refine zq_go zt_X8_copy 1 [] 1 [(0, .ref 0), (1, .int (nI 1)), (2, .int (nI a)), (3, .int (nI 3)), (4, .int (nI b)), (5, .int (nI c))] [.int (nI 1)] μ0 rfl trivial ?_
  refine zq_call zt_X8_copy [.int (nI 1)] [] (zs_isSheet (nI 1) μ0) rfl rfl ?_
  rintro _ _ ⟨rfl, rfl⟩
  refine zq_go zt_X8_copy 1 [] (if (zb (0 ≤ nI 1 ∧ nI 1 ≤ nI 3)) = 0 then 14 else 7) [(0, .ref 0), (1, .int (nI 1)), (2, .int (nI a)), (3, .int (nI 3)), (4, .int (nI b)), (5, .int (nI c))] [] μ0 rfl trivial ?_
  rw [if_neg (zb_n (yin (by omega) (by decide)))]
  refine zq_go zt_X8_copy 1 [] 8 [(0, .ref 0), (1, .int (nI 1)), (2, .int (nI a)), (3, .int (nI 3)), (4, .int (nI b)), (5, .int (nI c))] [.int (nI 3)] μ0 rfl trivial ?_
  refine zq_call zt_X8_copy [.int (nI 3)] [] (zs_isSheet (nI 3) μ0) rfl rfl ?_
  rintro _ _ ⟨rfl, rfl⟩
  refine zq_go zt_X8_copy 1 [] (if ¬ (zb (0 ≤ nI 3 ∧ nI 3 ≤ nI 3)) = 0 then 17 else 14) [(0, .ref 0), (1, .int (nI 1)), (2, .int (nI a)), (3, .int (nI 3)), (4, .int (nI b)), (5, .int (nI c))] [] μ0 rfl trivial ?_
  rw [if_pos (zb_n (yin (by omega) (by decide)))]
  refine zq_go zt_X8_copy 11 [vp_in (nI 1) 4, vp_in (nI 3) 4] 35 [(0, .ref 0), (1, .int (nI 1)), (2, .int (nI a)), (3, .int (nI 3)), (4, .int (nI b)), (5, .int (nI c)), (6, .ref 27), (7, .ref 31)] [.ref 27] μ0 rfl ⟨zn_in rfl (by decide) (by decide), ⟨zn_in rfl (by decide) (by decide), trivial⟩⟩ ?_
  refine zq_call zt_X8_copy [.ref 27] [] (zs_isLost_1 ht hC) rfl rfl ?_
  rintro _ _ ⟨rfl, rfl⟩
  refine zq_go zt_X8_copy 1 [] (if ¬ (nI 0) = 0 then 49 else 41) [(0, .ref 0), (1, .int (nI 1)), (2, .int (nI a)), (3, .int (nI 3)), (4, .int (nI b)), (5, .int (nI c)), (6, .ref 27), (7, .ref 31)] [] μ0 rfl trivial ?_
  rw [if_neg (by decide)]
  refine zq_go zt_X8_copy 1 [] 43 [(0, .ref 0), (1, .int (nI 1)), (2, .int (nI a)), (3, .int (nI 3)), (4, .int (nI b)), (5, .int (nI c)), (6, .ref 27), (7, .ref 31)] [.ref 31] μ0 rfl trivial ?_
  refine zq_call zt_X8_copy [.ref 31] [] (zs_isLost_3 hu hC) rfl rfl ?_
  rintro _ _ ⟨rfl, rfl⟩
  refine zq_go zt_X8_copy 1 [] (if (nI 0) = 0 then 55 else 49) [(0, .ref 0), (1, .int (nI 1)), (2, .int (nI a)), (3, .int (nI 3)), (4, .int (nI b)), (5, .int (nI c)), (6, .ref 27), (7, .ref 31)] [] μ0 rfl trivial ?_
  rw [if_pos (by decide)]
  refine zq_go zt_X8_copy 5 [] (if (μ0.1 27 1) = (μ0.1 31 1) then 74 else 68) [(0, .ref 0), (1, .int (nI 1)), (2, .int (nI a)), (3, .int (nI 3)), (4, .int (nI b)), (5, .int (nI c)), (6, .ref 27), (7, .ref 31)] [] μ0 rfl trivial ?_
  rw [hs1a, hs1b]
  rw [if_pos (congrArg nI hq)]
  refine zq_go zt_X8_copy 3 [] 79 [(0, .ref 0), (1, .int (nI 1)), (2, .int (nI a)), (3, .int (nI 3)), (4, .int (nI b)), (5, .int (nI c)), (6, .ref 27), (7, .ref 31)] [.int (nI c), .int (nI a), .ref 27] μ0 rfl trivial ?_
  refine zq_call zt_X8_copy [.ref 27, .int (nI a), .int (nI c)] [] (zs_holds_1 ht (nI a) (nI c) hC) rfl rfl ?_
  rintro _ _ ⟨rfl, rfl⟩
  refine zq_go zt_X8_copy 1 [] (if (zb (yfit (H.2.2.1 1) (nI a) (nI c))) = 0 then 97 else 85) [(0, .ref 0), (1, .int (nI 1)), (2, .int (nI a)), (3, .int (nI 3)), (4, .int (nI b)), (5, .int (nI c)), (6, .ref 27), (7, .ref 31)] [] μ0 rfl trivial ?_
  rw [if_neg (zb_n (yfit_n hza h1))]
  refine zq_go zt_X8_copy 3 [] 91 [(0, .ref 0), (1, .int (nI 1)), (2, .int (nI a)), (3, .int (nI 3)), (4, .int (nI b)), (5, .int (nI c)), (6, .ref 27), (7, .ref 31)] [.int (nI c), .int (nI b), .ref 31] μ0 rfl trivial ?_
  refine zq_call zt_X8_copy [.ref 31, .int (nI b), .int (nI c)] [] (zs_holds_3 hu (nI b) (nI c) hC) rfl rfl ?_
  rintro _ _ ⟨rfl, rfl⟩
  refine zq_go zt_X8_copy 1 [] (if ¬ (zb (yfit (H.2.2.1 3) (nI b) (nI c))) = 0 then 103 else 97) [(0, .ref 0), (1, .int (nI 1)), (2, .int (nI a)), (3, .int (nI 3)), (4, .int (nI b)), (5, .int (nI c)), (6, .ref 27), (7, .ref 31)] [] μ0 rfl trivial ?_
  rw [if_pos (zb_n (yfit_n hzb h2))]
  refine zq_go zt_X8_copy 9 [¬ (nI a) < 0 ∧ ¬ (nI b) < 0 ∧ ¬ (nI c) < 0 ∧ (nI a).toNatClampNeg + (nI c).toNatClampNeg ≤ 60 ∧ (nI b).toNatClampNeg + (nI c).toNatClampNeg ≤ 60] 122 [(0, .ref 0), (1, .int (nI 1)), (2, .int (nI a)), (3, .int (nI 3)), (4, .int (nI b)), (5, .int (nI c)), (6, .ref 27), (7, .ref 31)] [.int (nI 1)] (zq_ur μ0 32 (va_cpy (μ0.1 28) (μ0.1 32) (nI a).toNatClampNeg (nI b).toNatClampNeg (nI c).toNatClampNeg)) rfl ⟨⟨zn_notneg (by omega), zn_notneg (by omega), zn_notneg (by omega), by rw [zn_cl (by omega), zn_cl (by omega)]; omega, by rw [zn_cl (by omega), zn_cl (by omega)]; omega⟩, trivial⟩ ?_
  obtain ⟨μ1, hμ1⟩ : ∃ k9 : zq_Me, k9 = (zq_ur μ0 32 (va_cpy (μ0.1 28) (μ0.1 32) (nI a).toNatClampNeg (nI b).toNatClampNeg (nI c).toNatClampNeg)) := ⟨_, rfl⟩
  rw [← hμ1]
  have f1 : zq_fr [26 + 2 * 3] μ0 μ1 := by rw [hμ1]; exact zq_fr.rf.ur (by simp)
  have hI := hC.it (s := 3) (by decide) (va_cpy (H.2.2.2.1 1) (H.2.2.2.1 3) a b c) f1 (fun i hi9 => by
    rw [hμ1]
    show va_cpy (μ0.1 28) (μ0.1 32) (nI a).toNatClampNeg (nI b).toNatClampNeg (nI c).toNatClampNeg i = _
    rw [zn_cl (by omega), zn_cl (by omega), zn_cl (by omega)]
    by_cases q : b ≤ i ∧ i < b + c
    · rw [pk_cpy_in q.1 q.2, pk_cpy_in q.1 q.2]; exact hia _ (by omega)
    · rw [pk_cpy_out (by omega), pk_cpy_out (by omega)]; exact hib i hi9)
  exact zq_retn zt_X8_copy rfl rfl (⟨rfl, hI, f1.wk (by simp [zSC])⟩)
set_option maxRecDepth 100000 in
set_option maxHeartbeats 400000 in
theorem zs_copy_2_0 {τ : zTd} {S : zES} {H : zSH} {μ0 : zq_Me} {a b c : Nat} (ht : H.1 2 = true) (hu : H.1 0 = true) (hq : H.2.1 2 = H.2.1 0) (h1 : a + c ≤ H.2.2.1 2) (h2 : b + c ≤ H.2.2.1 0) (hC : zIc τ S H μ0) : zq_Wp zn_X8_copy 0 [(0, .ref 0), (1, .int (nI 2)), (2, .int (nI a)), (3, .int (nI 0)), (4, .int (nI b)), (5, .int (nI c))] [] μ0 (zRc (.int (nI 1)) τ S (yhi H 0 (va_cpy (H.2.2.2.1 2) (H.2.2.2.1 0) a b c)) μ0) := by
  have hza := (hC.2.2.2.2.2.2.2.2.2 2 (by decide)).2
  have hs1a : μ0.1 29 1 = nI (H.2.1 2) := ((hC.2.2.2.2.2.2.2.2.1.1 2 (by decide)).1 ht).1
  have hs2a : μ0.1 29 2 = nI (H.2.2.1 2) := ((hC.2.2.2.2.2.2.2.2.1.1 2 (by decide)).1 ht).2
  have hia : ∀ i, i < 60 → μ0.1 30 i = H.2.2.2.1 2 i := (hC.2.2.2.2.2.2.2.2.1.1 2 (by decide)).2.2
  have hfma := (hC.2.2.2.2.2.2.2.2.2 2 (by decide)).1
  have hzb := (hC.2.2.2.2.2.2.2.2.2 0 (by decide)).2
  have hs1b : μ0.1 25 1 = nI (H.2.1 0) := ((hC.2.2.2.2.2.2.2.2.1.1 0 (by decide)).1 hu).1
  have hs2b : μ0.1 25 2 = nI (H.2.2.1 0) := ((hC.2.2.2.2.2.2.2.2.1.1 0 (by decide)).1 hu).2
  have hib : ∀ i, i < 60 → μ0.1 26 i = H.2.2.2.1 0 i := (hC.2.2.2.2.2.2.2.2.1.1 0 (by decide)).2.2
  have hfmb := (hC.2.2.2.2.2.2.2.2.2 0 (by decide)).1
  refine zq_go zt_X8_copy 1 [] 1 [(0, .ref 0), (1, .int (nI 2)), (2, .int (nI a)), (3, .int (nI 0)), (4, .int (nI b)), (5, .int (nI c))] [.int (nI 2)] μ0 rfl trivial ?_
  refine zq_call zt_X8_copy [.int (nI 2)] [] (zs_isSheet (nI 2) μ0) rfl rfl ?_
  rintro _ _ ⟨rfl, rfl⟩
  refine zq_go zt_X8_copy 1 [] (if (zb (0 ≤ nI 2 ∧ nI 2 ≤ nI 3)) = 0 then 14 else 7) [(0, .ref 0), (1, .int (nI 2)), (2, .int (nI a)), (3, .int (nI 0)), (4, .int (nI b)), (5, .int (nI c))] [] μ0 rfl trivial ?_
  rw [if_neg (zb_n (yin (by omega) (by decide)))]
  refine zq_go zt_X8_copy 1 [] 8 [(0, .ref 0), (1, .int (nI 2)), (2, .int (nI a)), (3, .int (nI 0)), (4, .int (nI b)), (5, .int (nI c))] [.int (nI 0)] μ0 rfl trivial ?_
  refine zq_call zt_X8_copy [.int (nI 0)] [] (zs_isSheet (nI 0) μ0) rfl rfl ?_
  rintro _ _ ⟨rfl, rfl⟩
  refine zq_go zt_X8_copy 1 [] (if ¬ (zb (0 ≤ nI 0 ∧ nI 0 ≤ nI 3)) = 0 then 17 else 14) [(0, .ref 0), (1, .int (nI 2)), (2, .int (nI a)), (3, .int (nI 0)), (4, .int (nI b)), (5, .int (nI c))] [] μ0 rfl trivial ?_
  rw [if_pos (zb_n (yin (by omega) (by decide)))]
  refine zq_go zt_X8_copy 11 [vp_in (nI 2) 4, vp_in (nI 0) 4] 35 [(0, .ref 0), (1, .int (nI 2)), (2, .int (nI a)), (3, .int (nI 0)), (4, .int (nI b)), (5, .int (nI c)), (6, .ref 29), (7, .ref 25)] [.ref 29] μ0 rfl ⟨zn_in rfl (by decide) (by decide), ⟨zn_in rfl (by decide) (by decide), trivial⟩⟩ ?_
  refine zq_call zt_X8_copy [.ref 29] [] (zs_isLost_2 ht hC) rfl rfl ?_
  rintro _ _ ⟨rfl, rfl⟩
  refine zq_go zt_X8_copy 1 [] (if ¬ (nI 0) = 0 then 49 else 41) [(0, .ref 0), (1, .int (nI 2)), (2, .int (nI a)), (3, .int (nI 0)), (4, .int (nI b)), (5, .int (nI c)), (6, .ref 29), (7, .ref 25)] [] μ0 rfl trivial ?_
  rw [if_neg (by decide)]
  refine zq_go zt_X8_copy 1 [] 43 [(0, .ref 0), (1, .int (nI 2)), (2, .int (nI a)), (3, .int (nI 0)), (4, .int (nI b)), (5, .int (nI c)), (6, .ref 29), (7, .ref 25)] [.ref 25] μ0 rfl trivial ?_
  refine zq_call zt_X8_copy [.ref 25] [] (zs_isLost_0 hu hC) rfl rfl ?_
  rintro _ _ ⟨rfl, rfl⟩
  refine zq_go zt_X8_copy 1 [] (if (nI 0) = 0 then 55 else 49) [(0, .ref 0), (1, .int (nI 2)), (2, .int (nI a)), (3, .int (nI 0)), (4, .int (nI b)), (5, .int (nI c)), (6, .ref 29), (7, .ref 25)] [] μ0 rfl trivial ?_
  rw [if_pos (by decide)]
  refine zq_go zt_X8_copy 5 [] (if (μ0.1 29 1) = (μ0.1 25 1) then 74 else 68) [(0, .ref 0), (1, .int (nI 2)), (2, .int (nI a)), (3, .int (nI 0)), (4, .int (nI b)), (5, .int (nI c)), (6, .ref 29), (7, .ref 25)] [] μ0 rfl trivial ?_
  rw [hs1a, hs1b]
  rw [if_pos (congrArg nI hq)]
  refine zq_go zt_X8_copy 3 [] 79 [(0, .ref 0), (1, .int (nI 2)), (2, .int (nI a)), (3, .int (nI 0)), (4, .int (nI b)), (5, .int (nI c)), (6, .ref 29), (7, .ref 25)] [.int (nI c), .int (nI a), .ref 29] μ0 rfl trivial ?_
  refine zq_call zt_X8_copy [.ref 29, .int (nI a), .int (nI c)] [] (zs_holds_2 ht (nI a) (nI c) hC) rfl rfl ?_
  rintro _ _ ⟨rfl, rfl⟩
  refine zq_go zt_X8_copy 1 [] (if (zb (yfit (H.2.2.1 2) (nI a) (nI c))) = 0 then 97 else 85) [(0, .ref 0), (1, .int (nI 2)), (2, .int (nI a)), (3, .int (nI 0)), (4, .int (nI b)), (5, .int (nI c)), (6, .ref 29), (7, .ref 25)] [] μ0 rfl trivial ?_
  rw [if_neg (zb_n (yfit_n hza h1))]
  refine zq_go zt_X8_copy 3 [] 91 [(0, .ref 0), (1, .int (nI 2)), (2, .int (nI a)), (3, .int (nI 0)), (4, .int (nI b)), (5, .int (nI c)), (6, .ref 29), (7, .ref 25)] [.int (nI c), .int (nI b), .ref 25] μ0 rfl trivial ?_
  refine zq_call zt_X8_copy [.ref 25, .int (nI b), .int (nI c)] [] (zs_holds_0 hu (nI b) (nI c) hC) rfl rfl ?_
  rintro _ _ ⟨rfl, rfl⟩
  refine zq_go zt_X8_copy 1 [] (if ¬ (zb (yfit (H.2.2.1 0) (nI b) (nI c))) = 0 then 103 else 97) [(0, .ref 0), (1, .int (nI 2)), (2, .int (nI a)), (3, .int (nI 0)), (4, .int (nI b)), (5, .int (nI c)), (6, .ref 29), (7, .ref 25)] [] μ0 rfl trivial ?_
  rw [if_pos (zb_n (yfit_n hzb h2))]
  refine zq_go zt_X8_copy 9 [¬ (nI a) < 0 ∧ ¬ (nI b) < 0 ∧ ¬ (nI c) < 0 ∧ (nI a).toNatClampNeg + (nI c).toNatClampNeg ≤ 60 ∧ (nI b).toNatClampNeg + (nI c).toNatClampNeg ≤ 60] 122 [(0, .ref 0), (1, .int (nI 2)), (2, .int (nI a)), (3, .int (nI 0)), (4, .int (nI b)), (5, .int (nI c)), (6, .ref 29), (7, .ref 25)] [.int (nI 1)] (zq_ur μ0 26 (va_cpy (μ0.1 30) (μ0.1 26) (nI a).toNatClampNeg (nI b).toNatClampNeg (nI c).toNatClampNeg)) rfl ⟨⟨zn_notneg (by omega), zn_notneg (by omega), zn_notneg (by omega), by rw [zn_cl (by omega), zn_cl (by omega)]; omega, by rw [zn_cl (by omega), zn_cl (by omega)]; omega⟩, trivial⟩ ?_
  obtain ⟨μ1, hμ1⟩ : ∃ k9 : zq_Me, k9 = (zq_ur μ0 26 (va_cpy (μ0.1 30) (μ0.1 26) (nI a).toNatClampNeg (nI b).toNatClampNeg (nI c).toNatClampNeg)) := ⟨_, rfl⟩
  rw [← hμ1]
  have f1 : zq_fr [26 + 2 * 0] μ0 μ1 := by rw [hμ1]; exact zq_fr.rf.ur (by simp)
  have hI := hC.it (s := 0) (by decide) (va_cpy (H.2.2.2.1 2) (H.2.2.2.1 0) a b c) f1 (fun i hi9 => by
    rw [hμ1]
    show va_cpy (μ0.1 30) (μ0.1 26) (nI a).toNatClampNeg (nI b).toNatClampNeg (nI c).toNatClampNeg i = _
    rw [zn_cl (by omega), zn_cl (by omega), zn_cl (by omega)]
    by_cases q : b ≤ i ∧ i < b + c
    · rw [pk_cpy_in q.1 q.2, pk_cpy_in q.1 q.2]; exact hia _ (by omega)
    · rw [pk_cpy_out (by omega), pk_cpy_out (by omega)]; exact hib i hi9)
  exact zq_retn zt_X8_copy rfl rfl (⟨rfl, hI, f1.wk (by simp [zSC])⟩)
set_option maxRecDepth 100000 in
set_option maxHeartbeats 400000 in
theorem zs_copy_2_1 {τ : zTd} {S : zES} {H : zSH} {μ0 : zq_Me} {a b c : Nat} (ht : H.1 2 = true) (hu : H.1 1 = true) (hq : H.2.1 2 = H.2.1 1) (h1 : a + c ≤ H.2.2.1 2) (h2 : b + c ≤ H.2.2.1 1) (hC : zIc τ S H μ0) : zq_Wp zn_X8_copy 0 [(0, .ref 0), (1, .int (nI 2)), (2, .int (nI a)), (3, .int (nI 1)), (4, .int (nI b)), (5, .int (nI c))] [] μ0 (zRc (.int (nI 1)) τ S (yhi H 1 (va_cpy (H.2.2.2.1 2) (H.2.2.2.1 1) a b c)) μ0) := by
  have hza := (hC.2.2.2.2.2.2.2.2.2 2 (by decide)).2
  have hs1a : μ0.1 29 1 = nI (H.2.1 2) := ((hC.2.2.2.2.2.2.2.2.1.1 2 (by decide)).1 ht).1
  have hs2a : μ0.1 29 2 = nI (H.2.2.1 2) := ((hC.2.2.2.2.2.2.2.2.1.1 2 (by decide)).1 ht).2
  have hia : ∀ i, i < 60 → μ0.1 30 i = H.2.2.2.1 2 i := (hC.2.2.2.2.2.2.2.2.1.1 2 (by decide)).2.2
  have hfma := (hC.2.2.2.2.2.2.2.2.2 2 (by decide)).1
  have hzb := (hC.2.2.2.2.2.2.2.2.2 1 (by decide)).2
  have hs1b : μ0.1 27 1 = nI (H.2.1 1) := ((hC.2.2.2.2.2.2.2.2.1.1 1 (by decide)).1 hu).1
  have hs2b : μ0.1 27 2 = nI (H.2.2.1 1) := ((hC.2.2.2.2.2.2.2.2.1.1 1 (by decide)).1 hu).2
  have hib : ∀ i, i < 60 → μ0.1 28 i = H.2.2.2.1 1 i := (hC.2.2.2.2.2.2.2.2.1.1 1 (by decide)).2.2
  have hfmb := (hC.2.2.2.2.2.2.2.2.2 1 (by decide)).1
  refine zq_go zt_X8_copy 1 [] 1 [(0, .ref 0), (1, .int (nI 2)), (2, .int (nI a)), (3, .int (nI 1)), (4, .int (nI b)), (5, .int (nI c))] [.int (nI 2)] μ0 rfl trivial ?_
  refine zq_call zt_X8_copy [.int (nI 2)] [] (zs_isSheet (nI 2) μ0) rfl rfl ?_
  rintro _ _ ⟨rfl, rfl⟩
  refine zq_go zt_X8_copy 1 [] (if (zb (0 ≤ nI 2 ∧ nI 2 ≤ nI 3)) = 0 then 14 else 7) [(0, .ref 0), (1, .int (nI 2)), (2, .int (nI a)), (3, .int (nI 1)), (4, .int (nI b)), (5, .int (nI c))] [] μ0 rfl trivial ?_
  rw [if_neg (zb_n (yin (by omega) (by decide)))]
  refine zq_go zt_X8_copy 1 [] 8 [(0, .ref 0), (1, .int (nI 2)), (2, .int (nI a)), (3, .int (nI 1)), (4, .int (nI b)), (5, .int (nI c))] [.int (nI 1)] μ0 rfl trivial ?_
  refine zq_call zt_X8_copy [.int (nI 1)] [] (zs_isSheet (nI 1) μ0) rfl rfl ?_
  rintro _ _ ⟨rfl, rfl⟩
  refine zq_go zt_X8_copy 1 [] (if ¬ (zb (0 ≤ nI 1 ∧ nI 1 ≤ nI 3)) = 0 then 17 else 14) [(0, .ref 0), (1, .int (nI 2)), (2, .int (nI a)), (3, .int (nI 1)), (4, .int (nI b)), (5, .int (nI c))] [] μ0 rfl trivial ?_
  rw [if_pos (zb_n (yin (by omega) (by decide)))]
  refine zq_go zt_X8_copy 11 [vp_in (nI 2) 4, vp_in (nI 1) 4] 35 [(0, .ref 0), (1, .int (nI 2)), (2, .int (nI a)), (3, .int (nI 1)), (4, .int (nI b)), (5, .int (nI c)), (6, .ref 29), (7, .ref 27)] [.ref 29] μ0 rfl ⟨zn_in rfl (by decide) (by decide), ⟨zn_in rfl (by decide) (by decide), trivial⟩⟩ ?_
  refine zq_call zt_X8_copy [.ref 29] [] (zs_isLost_2 ht hC) rfl rfl ?_
  rintro _ _ ⟨rfl, rfl⟩
  refine zq_go zt_X8_copy 1 [] (if ¬ (nI 0) = 0 then 49 else 41) [(0, .ref 0), (1, .int (nI 2)), (2, .int (nI a)), (3, .int (nI 1)), (4, .int (nI b)), (5, .int (nI c)), (6, .ref 29), (7, .ref 27)] [] μ0 rfl trivial ?_
  rw [if_neg (by decide)]
  refine zq_go zt_X8_copy 1 [] 43 [(0, .ref 0), (1, .int (nI 2)), (2, .int (nI a)), (3, .int (nI 1)), (4, .int (nI b)), (5, .int (nI c)), (6, .ref 29), (7, .ref 27)] [.ref 27] μ0 rfl trivial ?_
  refine zq_call zt_X8_copy [.ref 27] [] (zs_isLost_1 hu hC) rfl rfl ?_
  rintro _ _ ⟨rfl, rfl⟩
  refine zq_go zt_X8_copy 1 [] (if (nI 0) = 0 then 55 else 49) [(0, .ref 0), (1, .int (nI 2)), (2, .int (nI a)), (3, .int (nI 1)), (4, .int (nI b)), (5, .int (nI c)), (6, .ref 29), (7, .ref 27)] [] μ0 rfl trivial ?_
  rw [if_pos (by decide)]
  refine zq_go zt_X8_copy 5 [] (if (μ0.1 29 1) = (μ0.1 27 1) then 74 else 68) [(0, .ref 0), (1, .int (nI 2)), (2, .int (nI a)), (3, .int (nI 1)), (4, .int (nI b)), (5, .int (nI c)), (6, .ref 29), (7, .ref 27)] [] μ0 rfl trivial ?_
  rw [hs1a, hs1b]
  rw [if_pos (congrArg nI hq)]
  refine zq_go zt_X8_copy 3 [] 79 [(0, .ref 0), (1, .int (nI 2)), (2, .int (nI a)), (3, .int (nI 1)), (4, .int (nI b)), (5, .int (nI c)), (6, .ref 29), (7, .ref 27)] [.int (nI c), .int (nI a), .ref 29] μ0 rfl trivial ?_
  refine zq_call zt_X8_copy [.ref 29, .int (nI a), .int (nI c)] [] (zs_holds_2 ht (nI a) (nI c) hC) rfl rfl ?_
  rintro _ _ ⟨rfl, rfl⟩
  refine zq_go zt_X8_copy 1 [] (if (zb (yfit (H.2.2.1 2) (nI a) (nI c))) = 0 then 97 else 85) [(0, .ref 0), (1, .int (nI 2)), (2, .int (nI a)), (3, .int (nI 1)), (4, .int (nI b)), (5, .int (nI c)), (6, .ref 29), (7, .ref 27)] [] μ0 rfl trivial ?_
  rw [if_neg (zb_n (yfit_n hza h1))]
  refine zq_go zt_X8_copy 3 [] 91 [(0, .ref 0), (1, .int (nI 2)), (2, .int (nI a)), (3, .int (nI 1)), (4, .int (nI b)), (5, .int (nI c)), (6, .ref 29), (7, .ref 27)] [.int (nI c), .int (nI b), .ref 27] μ0 rfl trivial ?_
  refine zq_call zt_X8_copy [.ref 27, .int (nI b), .int (nI c)] [] (zs_holds_1 hu (nI b) (nI c) hC) rfl rfl ?_
  rintro _ _ ⟨rfl, rfl⟩
  refine zq_go zt_X8_copy 1 [] (if ¬ (zb (yfit (H.2.2.1 1) (nI b) (nI c))) = 0 then 103 else 97) [(0, .ref 0), (1, .int (nI 2)), (2, .int (nI a)), (3, .int (nI 1)), (4, .int (nI b)), (5, .int (nI c)), (6, .ref 29), (7, .ref 27)] [] μ0 rfl trivial ?_
  rw [if_pos (zb_n (yfit_n hzb h2))]
  refine zq_go zt_X8_copy 9 [¬ (nI a) < 0 ∧ ¬ (nI b) < 0 ∧ ¬ (nI c) < 0 ∧ (nI a).toNatClampNeg + (nI c).toNatClampNeg ≤ 60 ∧ (nI b).toNatClampNeg + (nI c).toNatClampNeg ≤ 60] 122 [(0, .ref 0), (1, .int (nI 2)), (2, .int (nI a)), (3, .int (nI 1)), (4, .int (nI b)), (5, .int (nI c)), (6, .ref 29), (7, .ref 27)] [.int (nI 1)] (zq_ur μ0 28 (va_cpy (μ0.1 30) (μ0.1 28) (nI a).toNatClampNeg (nI b).toNatClampNeg (nI c).toNatClampNeg)) rfl ⟨⟨zn_notneg (by omega), zn_notneg (by omega), zn_notneg (by omega), by rw [zn_cl (by omega), zn_cl (by omega)]; omega, by rw [zn_cl (by omega), zn_cl (by omega)]; omega⟩, trivial⟩ ?_
  obtain ⟨μ1, hμ1⟩ : ∃ k9 : zq_Me, k9 = (zq_ur μ0 28 (va_cpy (μ0.1 30) (μ0.1 28) (nI a).toNatClampNeg (nI b).toNatClampNeg (nI c).toNatClampNeg)) := ⟨_, rfl⟩
  rw [← hμ1]
  have f1 : zq_fr [26 + 2 * 1] μ0 μ1 := by rw [hμ1]; exact zq_fr.rf.ur (by simp)
  have hI := hC.it (s := 1) (by decide) (va_cpy (H.2.2.2.1 2) (H.2.2.2.1 1) a b c) f1 (fun i hi9 => by
    rw [hμ1]
    show va_cpy (μ0.1 30) (μ0.1 28) (nI a).toNatClampNeg (nI b).toNatClampNeg (nI c).toNatClampNeg i = _
    rw [zn_cl (by omega), zn_cl (by omega), zn_cl (by omega)]
    by_cases q : b ≤ i ∧ i < b + c
    · rw [pk_cpy_in q.1 q.2, pk_cpy_in q.1 q.2]; exact hia _ (by omega)
    · rw [pk_cpy_out (by omega), pk_cpy_out (by omega)]; exact hib i hi9)
  exact zq_retn zt_X8_copy rfl rfl (⟨rfl, hI, f1.wk (by simp [zSC])⟩)
set_option maxRecDepth 100000 in
set_option maxHeartbeats 400000 in
theorem zs_copy_2_2 {τ : zTd} {S : zES} {H : zSH} {μ0 : zq_Me} {a b c : Nat} (ht : H.1 2 = true) (hu : H.1 2 = true) (hq : H.2.1 2 = H.2.1 2) (h1 : a + c ≤ H.2.2.1 2) (h2 : b + c ≤ H.2.2.1 2) (hC : zIc τ S H μ0) : zq_Wp zn_X8_copy 0 [(0, .ref 0), (1, .int (nI 2)), (2, .int (nI a)), (3, .int (nI 2)), (4, .int (nI b)), (5, .int (nI c))] [] μ0 (zRc (.int (nI 1)) τ S (yhi H 2 (va_cpy (H.2.2.2.1 2) (H.2.2.2.1 2) a b c)) μ0) := by
  have hza := (hC.2.2.2.2.2.2.2.2.2 2 (by decide)).2
  have hs1a : μ0.1 29 1 = nI (H.2.1 2) := ((hC.2.2.2.2.2.2.2.2.1.1 2 (by decide)).1 ht).1
  have hs2a : μ0.1 29 2 = nI (H.2.2.1 2) := ((hC.2.2.2.2.2.2.2.2.1.1 2 (by decide)).1 ht).2
  have hia : ∀ i, i < 60 → μ0.1 30 i = H.2.2.2.1 2 i := (hC.2.2.2.2.2.2.2.2.1.1 2 (by decide)).2.2
  have hfma := (hC.2.2.2.2.2.2.2.2.2 2 (by decide)).1
  have hzb := (hC.2.2.2.2.2.2.2.2.2 2 (by decide)).2
  have hs1b : μ0.1 29 1 = nI (H.2.1 2) := ((hC.2.2.2.2.2.2.2.2.1.1 2 (by decide)).1 hu).1
  have hs2b : μ0.1 29 2 = nI (H.2.2.1 2) := ((hC.2.2.2.2.2.2.2.2.1.1 2 (by decide)).1 hu).2
  have hib : ∀ i, i < 60 → μ0.1 30 i = H.2.2.2.1 2 i := (hC.2.2.2.2.2.2.2.2.1.1 2 (by decide)).2.2
  have hfmb := (hC.2.2.2.2.2.2.2.2.2 2 (by decide)).1
  refine zq_go zt_X8_copy 1 [] 1 [(0, .ref 0), (1, .int (nI 2)), (2, .int (nI a)), (3, .int (nI 2)), (4, .int (nI b)), (5, .int (nI c))] [.int (nI 2)] μ0 rfl trivial ?_
  refine zq_call zt_X8_copy [.int (nI 2)] [] (zs_isSheet (nI 2) μ0) rfl rfl ?_
  rintro _ _ ⟨rfl, rfl⟩
  refine zq_go zt_X8_copy 1 [] (if (zb (0 ≤ nI 2 ∧ nI 2 ≤ nI 3)) = 0 then 14 else 7) [(0, .ref 0), (1, .int (nI 2)), (2, .int (nI a)), (3, .int (nI 2)), (4, .int (nI b)), (5, .int (nI c))] [] μ0 rfl trivial ?_
  rw [if_neg (zb_n (yin (by omega) (by decide)))]
  refine zq_go zt_X8_copy 1 [] 8 [(0, .ref 0), (1, .int (nI 2)), (2, .int (nI a)), (3, .int (nI 2)), (4, .int (nI b)), (5, .int (nI c))] [.int (nI 2)] μ0 rfl trivial ?_
  refine zq_call zt_X8_copy [.int (nI 2)] [] (zs_isSheet (nI 2) μ0) rfl rfl ?_
  rintro _ _ ⟨rfl, rfl⟩
  refine zq_go zt_X8_copy 1 [] (if ¬ (zb (0 ≤ nI 2 ∧ nI 2 ≤ nI 3)) = 0 then 17 else 14) [(0, .ref 0), (1, .int (nI 2)), (2, .int (nI a)), (3, .int (nI 2)), (4, .int (nI b)), (5, .int (nI c))] [] μ0 rfl trivial ?_
  rw [if_pos (zb_n (yin (by omega) (by decide)))]
  refine zq_go zt_X8_copy 11 [vp_in (nI 2) 4, vp_in (nI 2) 4] 35 [(0, .ref 0), (1, .int (nI 2)), (2, .int (nI a)), (3, .int (nI 2)), (4, .int (nI b)), (5, .int (nI c)), (6, .ref 29), (7, .ref 29)] [.ref 29] μ0 rfl ⟨zn_in rfl (by decide) (by decide), ⟨zn_in rfl (by decide) (by decide), trivial⟩⟩ ?_
  refine zq_call zt_X8_copy [.ref 29] [] (zs_isLost_2 ht hC) rfl rfl ?_
  rintro _ _ ⟨rfl, rfl⟩
  refine zq_go zt_X8_copy 1 [] (if ¬ (nI 0) = 0 then 49 else 41) [(0, .ref 0), (1, .int (nI 2)), (2, .int (nI a)), (3, .int (nI 2)), (4, .int (nI b)), (5, .int (nI c)), (6, .ref 29), (7, .ref 29)] [] μ0 rfl trivial ?_
  rw [if_neg (by decide)]
  refine zq_go zt_X8_copy 1 [] 43 [(0, .ref 0), (1, .int (nI 2)), (2, .int (nI a)), (3, .int (nI 2)), (4, .int (nI b)), (5, .int (nI c)), (6, .ref 29), (7, .ref 29)] [.ref 29] μ0 rfl trivial ?_
  refine zq_call zt_X8_copy [.ref 29] [] (zs_isLost_2 hu hC) rfl rfl ?_
  rintro _ _ ⟨rfl, rfl⟩
  refine zq_go zt_X8_copy 1 [] (if (nI 0) = 0 then 55 else 49) [(0, .ref 0), (1, .int (nI 2)), (2, .int (nI a)), (3, .int (nI 2)), (4, .int (nI b)), (5, .int (nI c)), (6, .ref 29), (7, .ref 29)] [] μ0 rfl trivial ?_
  rw [if_pos (by decide)]
  refine zq_go zt_X8_copy 5 [] (if (μ0.1 29 1) = (μ0.1 29 1) then 74 else 68) [(0, .ref 0), (1, .int (nI 2)), (2, .int (nI a)), (3, .int (nI 2)), (4, .int (nI b)), (5, .int (nI c)), (6, .ref 29), (7, .ref 29)] [] μ0 rfl trivial ?_
  rw [hs1b]
  rw [if_pos (congrArg nI hq)]
  refine zq_go zt_X8_copy 3 [] 79 [(0, .ref 0), (1, .int (nI 2)), (2, .int (nI a)), (3, .int (nI 2)), (4, .int (nI b)), (5, .int (nI c)), (6, .ref 29), (7, .ref 29)] [.int (nI c), .int (nI a), .ref 29] μ0 rfl trivial ?_
  refine zq_call zt_X8_copy [.ref 29, .int (nI a), .int (nI c)] [] (zs_holds_2 ht (nI a) (nI c) hC) rfl rfl ?_
  rintro _ _ ⟨rfl, rfl⟩
  refine zq_go zt_X8_copy 1 [] (if (zb (yfit (H.2.2.1 2) (nI a) (nI c))) = 0 then 97 else 85) [(0, .ref 0), (1, .int (nI 2)), (2, .int (nI a)), (3, .int (nI 2)), (4, .int (nI b)), (5, .int (nI c)), (6, .ref 29), (7, .ref 29)] [] μ0 rfl trivial ?_
  rw [if_neg (zb_n (yfit_n hza h1))]
  refine zq_go zt_X8_copy 3 [] 91 [(0, .ref 0), (1, .int (nI 2)), (2, .int (nI a)), (3, .int (nI 2)), (4, .int (nI b)), (5, .int (nI c)), (6, .ref 29), (7, .ref 29)] [.int (nI c), .int (nI b), .ref 29] μ0 rfl trivial ?_
  refine zq_call zt_X8_copy [.ref 29, .int (nI b), .int (nI c)] [] (zs_holds_2 hu (nI b) (nI c) hC) rfl rfl ?_
  rintro _ _ ⟨rfl, rfl⟩
  refine zq_go zt_X8_copy 1 [] (if ¬ (zb (yfit (H.2.2.1 2) (nI b) (nI c))) = 0 then 103 else 97) [(0, .ref 0), (1, .int (nI 2)), (2, .int (nI a)), (3, .int (nI 2)), (4, .int (nI b)), (5, .int (nI c)), (6, .ref 29), (7, .ref 29)] [] μ0 rfl trivial ?_
  rw [if_pos (zb_n (yfit_n hzb h2))]
  refine zq_go zt_X8_copy 9 [¬ (nI a) < 0 ∧ ¬ (nI b) < 0 ∧ ¬ (nI c) < 0 ∧ (nI a).toNatClampNeg + (nI c).toNatClampNeg ≤ 60 ∧ (nI b).toNatClampNeg + (nI c).toNatClampNeg ≤ 60] 122 [(0, .ref 0), (1, .int (nI 2)), (2, .int (nI a)), (3, .int (nI 2)), (4, .int (nI b)), (5, .int (nI c)), (6, .ref 29), (7, .ref 29)] [.int (nI 1)] (zq_ur μ0 30 (va_cpy (μ0.1 30) (μ0.1 30) (nI a).toNatClampNeg (nI b).toNatClampNeg (nI c).toNatClampNeg)) rfl ⟨⟨zn_notneg (by omega), zn_notneg (by omega), zn_notneg (by omega), by rw [zn_cl (by omega), zn_cl (by omega)]; omega, by rw [zn_cl (by omega), zn_cl (by omega)]; omega⟩, trivial⟩ ?_
  obtain ⟨μ1, hμ1⟩ : ∃ k9 : zq_Me, k9 = (zq_ur μ0 30 (va_cpy (μ0.1 30) (μ0.1 30) (nI a).toNatClampNeg (nI b).toNatClampNeg (nI c).toNatClampNeg)) := ⟨_, rfl⟩
  rw [← hμ1]
  have f1 : zq_fr [26 + 2 * 2] μ0 μ1 := by rw [hμ1]; exact zq_fr.rf.ur (by simp)
  have hI := hC.it (s := 2) (by decide) (va_cpy (H.2.2.2.1 2) (H.2.2.2.1 2) a b c) f1 (fun i hi9 => by
    rw [hμ1]
    show va_cpy (μ0.1 30) (μ0.1 30) (nI a).toNatClampNeg (nI b).toNatClampNeg (nI c).toNatClampNeg i = _
    rw [zn_cl (by omega), zn_cl (by omega), zn_cl (by omega)]
    by_cases q : b ≤ i ∧ i < b + c
    · rw [pk_cpy_in q.1 q.2, pk_cpy_in q.1 q.2]; exact hia _ (by omega)
    · rw [pk_cpy_out (by omega), pk_cpy_out (by omega)]; exact hib i hi9)
  exact zq_retn zt_X8_copy rfl rfl (⟨rfl, hI, f1.wk (by simp [zSC])⟩)
set_option maxRecDepth 100000 in
set_option maxHeartbeats 400000 in
theorem zs_copy_2_3 {τ : zTd} {S : zES} {H : zSH} {μ0 : zq_Me} {a b c : Nat} (ht : H.1 2 = true) (hu : H.1 3 = true) (hq : H.2.1 2 = H.2.1 3) (h1 : a + c ≤ H.2.2.1 2) (h2 : b + c ≤ H.2.2.1 3) (hC : zIc τ S H μ0) : zq_Wp zn_X8_copy 0 [(0, .ref 0), (1, .int (nI 2)), (2, .int (nI a)), (3, .int (nI 3)), (4, .int (nI b)), (5, .int (nI c))] [] μ0 (zRc (.int (nI 1)) τ S (yhi H 3 (va_cpy (H.2.2.2.1 2) (H.2.2.2.1 3) a b c)) μ0) := by
  have hza := (hC.2.2.2.2.2.2.2.2.2 2 (by decide)).2
  have hs1a : μ0.1 29 1 = nI (H.2.1 2) := ((hC.2.2.2.2.2.2.2.2.1.1 2 (by decide)).1 ht).1
  have hs2a : μ0.1 29 2 = nI (H.2.2.1 2) := ((hC.2.2.2.2.2.2.2.2.1.1 2 (by decide)).1 ht).2
  have hia : ∀ i, i < 60 → μ0.1 30 i = H.2.2.2.1 2 i := (hC.2.2.2.2.2.2.2.2.1.1 2 (by decide)).2.2
  have hfma := (hC.2.2.2.2.2.2.2.2.2 2 (by decide)).1
  have hzb := (hC.2.2.2.2.2.2.2.2.2 3 (by decide)).2
  have hs1b : μ0.1 31 1 = nI (H.2.1 3) := ((hC.2.2.2.2.2.2.2.2.1.1 3 (by decide)).1 hu).1
  have hs2b : μ0.1 31 2 = nI (H.2.2.1 3) := ((hC.2.2.2.2.2.2.2.2.1.1 3 (by decide)).1 hu).2
  have hib : ∀ i, i < 60 → μ0.1 32 i = H.2.2.2.1 3 i := (hC.2.2.2.2.2.2.2.2.1.1 3 (by decide)).2.2
  have hfmb := (hC.2.2.2.2.2.2.2.2.2 3 (by decide)).1
  refine zq_go zt_X8_copy 1 [] 1 [(0, .ref 0), (1, .int (nI 2)), (2, .int (nI a)), (3, .int (nI 3)), (4, .int (nI b)), (5, .int (nI c))] [.int (nI 2)] μ0 rfl trivial ?_
  refine zq_call zt_X8_copy [.int (nI 2)] [] (zs_isSheet (nI 2) μ0) rfl rfl ?_
  rintro _ _ ⟨rfl, rfl⟩
  refine zq_go zt_X8_copy 1 [] (if (zb (0 ≤ nI 2 ∧ nI 2 ≤ nI 3)) = 0 then 14 else 7) [(0, .ref 0), (1, .int (nI 2)), (2, .int (nI a)), (3, .int (nI 3)), (4, .int (nI b)), (5, .int (nI c))] [] μ0 rfl trivial ?_
  rw [if_neg (zb_n (yin (by omega) (by decide)))]
  refine zq_go zt_X8_copy 1 [] 8 [(0, .ref 0), (1, .int (nI 2)), (2, .int (nI a)), (3, .int (nI 3)), (4, .int (nI b)), (5, .int (nI c))] [.int (nI 3)] μ0 rfl trivial ?_
  refine zq_call zt_X8_copy [.int (nI 3)] [] (zs_isSheet (nI 3) μ0) rfl rfl ?_
  rintro _ _ ⟨rfl, rfl⟩
  refine zq_go zt_X8_copy 1 [] (if ¬ (zb (0 ≤ nI 3 ∧ nI 3 ≤ nI 3)) = 0 then 17 else 14) [(0, .ref 0), (1, .int (nI 2)), (2, .int (nI a)), (3, .int (nI 3)), (4, .int (nI b)), (5, .int (nI c))] [] μ0 rfl trivial ?_
  rw [if_pos (zb_n (yin (by omega) (by decide)))]
  refine zq_go zt_X8_copy 11 [vp_in (nI 2) 4, vp_in (nI 3) 4] 35 [(0, .ref 0), (1, .int (nI 2)), (2, .int (nI a)), (3, .int (nI 3)), (4, .int (nI b)), (5, .int (nI c)), (6, .ref 29), (7, .ref 31)] [.ref 29] μ0 rfl ⟨zn_in rfl (by decide) (by decide), ⟨zn_in rfl (by decide) (by decide), trivial⟩⟩ ?_
  refine zq_call zt_X8_copy [.ref 29] [] (zs_isLost_2 ht hC) rfl rfl ?_
  rintro _ _ ⟨rfl, rfl⟩
  refine zq_go zt_X8_copy 1 [] (if ¬ (nI 0) = 0 then 49 else 41) [(0, .ref 0), (1, .int (nI 2)), (2, .int (nI a)), (3, .int (nI 3)), (4, .int (nI b)), (5, .int (nI c)), (6, .ref 29), (7, .ref 31)] [] μ0 rfl trivial ?_
  rw [if_neg (by decide)]
  refine zq_go zt_X8_copy 1 [] 43 [(0, .ref 0), (1, .int (nI 2)), (2, .int (nI a)), (3, .int (nI 3)), (4, .int (nI b)), (5, .int (nI c)), (6, .ref 29), (7, .ref 31)] [.ref 31] μ0 rfl trivial ?_
  refine zq_call zt_X8_copy [.ref 31] [] (zs_isLost_3 hu hC) rfl rfl ?_
  rintro _ _ ⟨rfl, rfl⟩
  refine zq_go zt_X8_copy 1 [] (if (nI 0) = 0 then 55 else 49) [(0, .ref 0), (1, .int (nI 2)), (2, .int (nI a)), (3, .int (nI 3)), (4, .int (nI b)), (5, .int (nI c)), (6, .ref 29), (7, .ref 31)] [] μ0 rfl trivial ?_
  rw [if_pos (by decide)]
  refine zq_go zt_X8_copy 5 [] (if (μ0.1 29 1) = (μ0.1 31 1) then 74 else 68) [(0, .ref 0), (1, .int (nI 2)), (2, .int (nI a)), (3, .int (nI 3)), (4, .int (nI b)), (5, .int (nI c)), (6, .ref 29), (7, .ref 31)] [] μ0 rfl trivial ?_
  rw [hs1a, hs1b]
  rw [if_pos (congrArg nI hq)]
  refine zq_go zt_X8_copy 3 [] 79 [(0, .ref 0), (1, .int (nI 2)), (2, .int (nI a)), (3, .int (nI 3)), (4, .int (nI b)), (5, .int (nI c)), (6, .ref 29), (7, .ref 31)] [.int (nI c), .int (nI a), .ref 29] μ0 rfl trivial ?_
  refine zq_call zt_X8_copy [.ref 29, .int (nI a), .int (nI c)] [] (zs_holds_2 ht (nI a) (nI c) hC) rfl rfl ?_
  rintro _ _ ⟨rfl, rfl⟩
  refine zq_go zt_X8_copy 1 [] (if (zb (yfit (H.2.2.1 2) (nI a) (nI c))) = 0 then 97 else 85) [(0, .ref 0), (1, .int (nI 2)), (2, .int (nI a)), (3, .int (nI 3)), (4, .int (nI b)), (5, .int (nI c)), (6, .ref 29), (7, .ref 31)] [] μ0 rfl trivial ?_
  rw [if_neg (zb_n (yfit_n hza h1))]
  refine zq_go zt_X8_copy 3 [] 91 [(0, .ref 0), (1, .int (nI 2)), (2, .int (nI a)), (3, .int (nI 3)), (4, .int (nI b)), (5, .int (nI c)), (6, .ref 29), (7, .ref 31)] [.int (nI c), .int (nI b), .ref 31] μ0 rfl trivial ?_
  refine zq_call zt_X8_copy [.ref 31, .int (nI b), .int (nI c)] [] (zs_holds_3 hu (nI b) (nI c) hC) rfl rfl ?_
  rintro _ _ ⟨rfl, rfl⟩
  refine zq_go zt_X8_copy 1 [] (if ¬ (zb (yfit (H.2.2.1 3) (nI b) (nI c))) = 0 then 103 else 97) [(0, .ref 0), (1, .int (nI 2)), (2, .int (nI a)), (3, .int (nI 3)), (4, .int (nI b)), (5, .int (nI c)), (6, .ref 29), (7, .ref 31)] [] μ0 rfl trivial ?_
  rw [if_pos (zb_n (yfit_n hzb h2))]
  refine zq_go zt_X8_copy 9 [¬ (nI a) < 0 ∧ ¬ (nI b) < 0 ∧ ¬ (nI c) < 0 ∧ (nI a).toNatClampNeg + (nI c).toNatClampNeg ≤ 60 ∧ (nI b).toNatClampNeg + (nI c).toNatClampNeg ≤ 60] 122 [(0, .ref 0), (1, .int (nI 2)), (2, .int (nI a)), (3, .int (nI 3)), (4, .int (nI b)), (5, .int (nI c)), (6, .ref 29), (7, .ref 31)] [.int (nI 1)] (zq_ur μ0 32 (va_cpy (μ0.1 30) (μ0.1 32) (nI a).toNatClampNeg (nI b).toNatClampNeg (nI c).toNatClampNeg)) rfl ⟨⟨zn_notneg (by omega), zn_notneg (by omega), zn_notneg (by omega), by rw [zn_cl (by omega), zn_cl (by omega)]; omega, by rw [zn_cl (by omega), zn_cl (by omega)]; omega⟩, trivial⟩ ?_
  obtain ⟨μ1, hμ1⟩ : ∃ k9 : zq_Me, k9 = (zq_ur μ0 32 (va_cpy (μ0.1 30) (μ0.1 32) (nI a).toNatClampNeg (nI b).toNatClampNeg (nI c).toNatClampNeg)) := ⟨_, rfl⟩
  rw [← hμ1]
  have f1 : zq_fr [26 + 2 * 3] μ0 μ1 := by rw [hμ1]; exact zq_fr.rf.ur (by simp)
  have hI := hC.it (s := 3) (by decide) (va_cpy (H.2.2.2.1 2) (H.2.2.2.1 3) a b c) f1 (fun i hi9 => by
    rw [hμ1]
    show va_cpy (μ0.1 30) (μ0.1 32) (nI a).toNatClampNeg (nI b).toNatClampNeg (nI c).toNatClampNeg i = _
    rw [zn_cl (by omega), zn_cl (by omega), zn_cl (by omega)]
    by_cases q : b ≤ i ∧ i < b + c
    · rw [pk_cpy_in q.1 q.2, pk_cpy_in q.1 q.2]; exact hia _ (by omega)
    · rw [pk_cpy_out (by omega), pk_cpy_out (by omega)]; exact hib i hi9)
  exact zq_retn zt_X8_copy rfl rfl (⟨rfl, hI, f1.wk (by simp [zSC])⟩)
set_option maxRecDepth 100000 in
set_option maxHeartbeats 400000 in
theorem zs_copy_3_0 {τ : zTd} {S : zES} {H : zSH} {μ0 : zq_Me} {a b c : Nat} (ht : H.1 3 = true) (hu : H.1 0 = true) (hq : H.2.1 3 = H.2.1 0) (h1 : a + c ≤ H.2.2.1 3) (h2 : b + c ≤ H.2.2.1 0) (hC : zIc τ S H μ0) : zq_Wp zn_X8_copy 0 [(0, .ref 0), (1, .int (nI 3)), (2, .int (nI a)), (3, .int (nI 0)), (4, .int (nI b)), (5, .int (nI c))] [] μ0 (zRc (.int (nI 1)) τ S (yhi H 0 (va_cpy (H.2.2.2.1 3) (H.2.2.2.1 0) a b c)) μ0) := by
  have hza := (hC.2.2.2.2.2.2.2.2.2 3 (by decide)).2
  have hs1a : μ0.1 31 1 = nI (H.2.1 3) := ((hC.2.2.2.2.2.2.2.2.1.1 3 (by decide)).1 ht).1
  have hs2a : μ0.1 31 2 = nI (H.2.2.1 3) := ((hC.2.2.2.2.2.2.2.2.1.1 3 (by decide)).1 ht).2
  have hia : ∀ i, i < 60 → μ0.1 32 i = H.2.2.2.1 3 i := (hC.2.2.2.2.2.2.2.2.1.1 3 (by decide)).2.2
  have hfma := (hC.2.2.2.2.2.2.2.2.2 3 (by decide)).1
  have hzb := (hC.2.2.2.2.2.2.2.2.2 0 (by decide)).2
  have hs1b : μ0.1 25 1 = nI (H.2.1 0) := ((hC.2.2.2.2.2.2.2.2.1.1 0 (by decide)).1 hu).1
  have hs2b : μ0.1 25 2 = nI (H.2.2.1 0) := ((hC.2.2.2.2.2.2.2.2.1.1 0 (by decide)).1 hu).2
  have hib : ∀ i, i < 60 → μ0.1 26 i = H.2.2.2.1 0 i := (hC.2.2.2.2.2.2.2.2.1.1 0 (by decide)).2.2
  have hfmb := (hC.2.2.2.2.2.2.2.2.2 0 (by decide)).1
  refine zq_go zt_X8_copy 1 [] 1 [(0, .ref 0), (1, .int (nI 3)), (2, .int (nI a)), (3, .int (nI 0)), (4, .int (nI b)), (5, .int (nI c))] [.int (nI 3)] μ0 rfl trivial ?_
  refine zq_call zt_X8_copy [.int (nI 3)] [] (zs_isSheet (nI 3) μ0) rfl rfl ?_
  rintro _ _ ⟨rfl, rfl⟩
  refine zq_go zt_X8_copy 1 [] (if (zb (0 ≤ nI 3 ∧ nI 3 ≤ nI 3)) = 0 then 14 else 7) [(0, .ref 0), (1, .int (nI 3)), (2, .int (nI a)), (3, .int (nI 0)), (4, .int (nI b)), (5, .int (nI c))] [] μ0 rfl trivial ?_
  rw [if_neg (zb_n (yin (by omega) (by decide)))]
  refine zq_go zt_X8_copy 1 [] 8 [(0, .ref 0), (1, .int (nI 3)), (2, .int (nI a)), (3, .int (nI 0)), (4, .int (nI b)), (5, .int (nI c))] [.int (nI 0)] μ0 rfl trivial ?_
  refine zq_call zt_X8_copy [.int (nI 0)] [] (zs_isSheet (nI 0) μ0) rfl rfl ?_
  rintro _ _ ⟨rfl, rfl⟩
  refine zq_go zt_X8_copy 1 [] (if ¬ (zb (0 ≤ nI 0 ∧ nI 0 ≤ nI 3)) = 0 then 17 else 14) [(0, .ref 0), (1, .int (nI 3)), (2, .int (nI a)), (3, .int (nI 0)), (4, .int (nI b)), (5, .int (nI c))] [] μ0 rfl trivial ?_
  rw [if_pos (zb_n (yin (by omega) (by decide)))]
  refine zq_go zt_X8_copy 11 [vp_in (nI 3) 4, vp_in (nI 0) 4] 35 [(0, .ref 0), (1, .int (nI 3)), (2, .int (nI a)), (3, .int (nI 0)), (4, .int (nI b)), (5, .int (nI c)), (6, .ref 31), (7, .ref 25)] [.ref 31] μ0 rfl ⟨zn_in rfl (by decide) (by decide), ⟨zn_in rfl (by decide) (by decide), trivial⟩⟩ ?_
  refine zq_call zt_X8_copy [.ref 31] [] (zs_isLost_3 ht hC) rfl rfl ?_
  rintro _ _ ⟨rfl, rfl⟩
  refine zq_go zt_X8_copy 1 [] (if ¬ (nI 0) = 0 then 49 else 41) [(0, .ref 0), (1, .int (nI 3)), (2, .int (nI a)), (3, .int (nI 0)), (4, .int (nI b)), (5, .int (nI c)), (6, .ref 31), (7, .ref 25)] [] μ0 rfl trivial ?_
  rw [if_neg (by decide)]
  refine zq_go zt_X8_copy 1 [] 43 [(0, .ref 0), (1, .int (nI 3)), (2, .int (nI a)), (3, .int (nI 0)), (4, .int (nI b)), (5, .int (nI c)), (6, .ref 31), (7, .ref 25)] [.ref 25] μ0 rfl trivial ?_
  refine zq_call zt_X8_copy [.ref 25] [] (zs_isLost_0 hu hC) rfl rfl ?_
  rintro _ _ ⟨rfl, rfl⟩
  refine zq_go zt_X8_copy 1 [] (if (nI 0) = 0 then 55 else 49) [(0, .ref 0), (1, .int (nI 3)), (2, .int (nI a)), (3, .int (nI 0)), (4, .int (nI b)), (5, .int (nI c)), (6, .ref 31), (7, .ref 25)] [] μ0 rfl trivial ?_
  rw [if_pos (by decide)]
  refine zq_go zt_X8_copy 5 [] (if (μ0.1 31 1) = (μ0.1 25 1) then 74 else 68) [(0, .ref 0), (1, .int (nI 3)), (2, .int (nI a)), (3, .int (nI 0)), (4, .int (nI b)), (5, .int (nI c)), (6, .ref 31), (7, .ref 25)] [] μ0 rfl trivial ?_
  rw [hs1a, hs1b]
  rw [if_pos (congrArg nI hq)]
  refine zq_go zt_X8_copy 3 [] 79 [(0, .ref 0), (1, .int (nI 3)), (2, .int (nI a)), (3, .int (nI 0)), (4, .int (nI b)), (5, .int (nI c)), (6, .ref 31), (7, .ref 25)] [.int (nI c), .int (nI a), .ref 31] μ0 rfl trivial ?_
  refine zq_call zt_X8_copy [.ref 31, .int (nI a), .int (nI c)] [] (zs_holds_3 ht (nI a) (nI c) hC) rfl rfl ?_
  rintro _ _ ⟨rfl, rfl⟩
  refine zq_go zt_X8_copy 1 [] (if (zb (yfit (H.2.2.1 3) (nI a) (nI c))) = 0 then 97 else 85) [(0, .ref 0), (1, .int (nI 3)), (2, .int (nI a)), (3, .int (nI 0)), (4, .int (nI b)), (5, .int (nI c)), (6, .ref 31), (7, .ref 25)] [] μ0 rfl trivial ?_
  rw [if_neg (zb_n (yfit_n hza h1))]
  refine zq_go zt_X8_copy 3 [] 91 [(0, .ref 0), (1, .int (nI 3)), (2, .int (nI a)), (3, .int (nI 0)), (4, .int (nI b)), (5, .int (nI c)), (6, .ref 31), (7, .ref 25)] [.int (nI c), .int (nI b), .ref 25] μ0 rfl trivial ?_
  refine zq_call zt_X8_copy [.ref 25, .int (nI b), .int (nI c)] [] (zs_holds_0 hu (nI b) (nI c) hC) rfl rfl ?_
  rintro _ _ ⟨rfl, rfl⟩
  refine zq_go zt_X8_copy 1 [] (if ¬ (zb (yfit (H.2.2.1 0) (nI b) (nI c))) = 0 then 103 else 97) [(0, .ref 0), (1, .int (nI 3)), (2, .int (nI a)), (3, .int (nI 0)), (4, .int (nI b)), (5, .int (nI c)), (6, .ref 31), (7, .ref 25)] [] μ0 rfl trivial ?_
  rw [if_pos (zb_n (yfit_n hzb h2))]
  refine zq_go zt_X8_copy 9 [¬ (nI a) < 0 ∧ ¬ (nI b) < 0 ∧ ¬ (nI c) < 0 ∧ (nI a).toNatClampNeg + (nI c).toNatClampNeg ≤ 60 ∧ (nI b).toNatClampNeg + (nI c).toNatClampNeg ≤ 60] 122 [(0, .ref 0), (1, .int (nI 3)), (2, .int (nI a)), (3, .int (nI 0)), (4, .int (nI b)), (5, .int (nI c)), (6, .ref 31), (7, .ref 25)] [.int (nI 1)] (zq_ur μ0 26 (va_cpy (μ0.1 32) (μ0.1 26) (nI a).toNatClampNeg (nI b).toNatClampNeg (nI c).toNatClampNeg)) rfl ⟨⟨zn_notneg (by omega), zn_notneg (by omega), zn_notneg (by omega), by rw [zn_cl (by omega), zn_cl (by omega)]; omega, by rw [zn_cl (by omega), zn_cl (by omega)]; omega⟩, trivial⟩ ?_
  obtain ⟨μ1, hμ1⟩ : ∃ k9 : zq_Me, k9 = (zq_ur μ0 26 (va_cpy (μ0.1 32) (μ0.1 26) (nI a).toNatClampNeg (nI b).toNatClampNeg (nI c).toNatClampNeg)) := ⟨_, rfl⟩
  rw [← hμ1]
  have f1 : zq_fr [26 + 2 * 0] μ0 μ1 := by rw [hμ1]; exact zq_fr.rf.ur (by simp)
  have hI := hC.it (s := 0) (by decide) (va_cpy (H.2.2.2.1 3) (H.2.2.2.1 0) a b c) f1 (fun i hi9 => by
    rw [hμ1]
    show va_cpy (μ0.1 32) (μ0.1 26) (nI a).toNatClampNeg (nI b).toNatClampNeg (nI c).toNatClampNeg i = _
    rw [zn_cl (by omega), zn_cl (by omega), zn_cl (by omega)]
    by_cases q : b ≤ i ∧ i < b + c
    · rw [pk_cpy_in q.1 q.2, pk_cpy_in q.1 q.2]; exact hia _ (by omega)
    · rw [pk_cpy_out (by omega), pk_cpy_out (by omega)]; exact hib i hi9)
  exact zq_retn zt_X8_copy rfl rfl (⟨rfl, hI, f1.wk (by simp [zSC])⟩)
set_option maxRecDepth 100000 in
set_option maxHeartbeats 400000 in
theorem zs_copy_3_1 {τ : zTd} {S : zES} {H : zSH} {μ0 : zq_Me} {a b c : Nat} (ht : H.1 3 = true) (hu : H.1 1 = true) (hq : H.2.1 3 = H.2.1 1) (h1 : a + c ≤ H.2.2.1 3) (h2 : b + c ≤ H.2.2.1 1) (hC : zIc τ S H μ0) : zq_Wp zn_X8_copy 0 [(0, .ref 0), (1, .int (nI 3)), (2, .int (nI a)), (3, .int (nI 1)), (4, .int (nI b)), (5, .int (nI c))] [] μ0 (zRc (.int (nI 1)) τ S (yhi H 1 (va_cpy (H.2.2.2.1 3) (H.2.2.2.1 1) a b c)) μ0) := by
  have hza := (hC.2.2.2.2.2.2.2.2.2 3 (by decide)).2
  have hs1a : μ0.1 31 1 = nI (H.2.1 3) := ((hC.2.2.2.2.2.2.2.2.1.1 3 (by decide)).1 ht).1
  have hs2a : μ0.1 31 2 = nI (H.2.2.1 3) := ((hC.2.2.2.2.2.2.2.2.1.1 3 (by decide)).1 ht).2
  have hia : ∀ i, i < 60 → μ0.1 32 i = H.2.2.2.1 3 i := (hC.2.2.2.2.2.2.2.2.1.1 3 (by decide)).2.2
  have hfma := (hC.2.2.2.2.2.2.2.2.2 3 (by decide)).1
  have hzb := (hC.2.2.2.2.2.2.2.2.2 1 (by decide)).2
  have hs1b : μ0.1 27 1 = nI (H.2.1 1) := ((hC.2.2.2.2.2.2.2.2.1.1 1 (by decide)).1 hu).1
  have hs2b : μ0.1 27 2 = nI (H.2.2.1 1) := ((hC.2.2.2.2.2.2.2.2.1.1 1 (by decide)).1 hu).2
  have hib : ∀ i, i < 60 → μ0.1 28 i = H.2.2.2.1 1 i := (hC.2.2.2.2.2.2.2.2.1.1 1 (by decide)).2.2
  have hfmb := (hC.2.2.2.2.2.2.2.2.2 1 (by decide)).1
  refine zq_go zt_X8_copy 1 [] 1 [(0, .ref 0), (1, .int (nI 3)), (2, .int (nI a)), (3, .int (nI 1)), (4, .int (nI b)), (5, .int (nI c))] [.int (nI 3)] μ0 rfl trivial ?_
  refine zq_call zt_X8_copy [.int (nI 3)] [] (zs_isSheet (nI 3) μ0) rfl rfl ?_
  rintro _ _ ⟨rfl, rfl⟩
  refine zq_go zt_X8_copy 1 [] (if (zb (0 ≤ nI 3 ∧ nI 3 ≤ nI 3)) = 0 then 14 else 7) [(0, .ref 0), (1, .int (nI 3)), (2, .int (nI a)), (3, .int (nI 1)), (4, .int (nI b)), (5, .int (nI c))] [] μ0 rfl trivial ?_
  rw [if_neg (zb_n (yin (by omega) (by decide)))]
  refine zq_go zt_X8_copy 1 [] 8 [(0, .ref 0), (1, .int (nI 3)), (2, .int (nI a)), (3, .int (nI 1)), (4, .int (nI b)), (5, .int (nI c))] [.int (nI 1)] μ0 rfl trivial ?_
  refine zq_call zt_X8_copy [.int (nI 1)] [] (zs_isSheet (nI 1) μ0) rfl rfl ?_
  rintro _ _ ⟨rfl, rfl⟩
  refine zq_go zt_X8_copy 1 [] (if ¬ (zb (0 ≤ nI 1 ∧ nI 1 ≤ nI 3)) = 0 then 17 else 14) [(0, .ref 0), (1, .int (nI 3)), (2, .int (nI a)), (3, .int (nI 1)), (4, .int (nI b)), (5, .int (nI c))] [] μ0 rfl trivial ?_
  rw [if_pos (zb_n (yin (by omega) (by decide)))]
  refine zq_go zt_X8_copy 11 [vp_in (nI 3) 4, vp_in (nI 1) 4] 35 [(0, .ref 0), (1, .int (nI 3)), (2, .int (nI a)), (3, .int (nI 1)), (4, .int (nI b)), (5, .int (nI c)), (6, .ref 31), (7, .ref 27)] [.ref 31] μ0 rfl ⟨zn_in rfl (by decide) (by decide), ⟨zn_in rfl (by decide) (by decide), trivial⟩⟩ ?_
  refine zq_call zt_X8_copy [.ref 31] [] (zs_isLost_3 ht hC) rfl rfl ?_
  rintro _ _ ⟨rfl, rfl⟩
  refine zq_go zt_X8_copy 1 [] (if ¬ (nI 0) = 0 then 49 else 41) [(0, .ref 0), (1, .int (nI 3)), (2, .int (nI a)), (3, .int (nI 1)), (4, .int (nI b)), (5, .int (nI c)), (6, .ref 31), (7, .ref 27)] [] μ0 rfl trivial ?_
  rw [if_neg (by decide)]
  refine zq_go zt_X8_copy 1 [] 43 [(0, .ref 0), (1, .int (nI 3)), (2, .int (nI a)), (3, .int (nI 1)), (4, .int (nI b)), (5, .int (nI c)), (6, .ref 31), (7, .ref 27)] [.ref 27] μ0 rfl trivial ?_
  refine zq_call zt_X8_copy [.ref 27] [] (zs_isLost_1 hu hC) rfl rfl ?_
  rintro _ _ ⟨rfl, rfl⟩
  refine zq_go zt_X8_copy 1 [] (if (nI 0) = 0 then 55 else 49) [(0, .ref 0), (1, .int (nI 3)), (2, .int (nI a)), (3, .int (nI 1)), (4, .int (nI b)), (5, .int (nI c)), (6, .ref 31), (7, .ref 27)] [] μ0 rfl trivial ?_
  rw [if_pos (by decide)]
  refine zq_go zt_X8_copy 5 [] (if (μ0.1 31 1) = (μ0.1 27 1) then 74 else 68) [(0, .ref 0), (1, .int (nI 3)), (2, .int (nI a)), (3, .int (nI 1)), (4, .int (nI b)), (5, .int (nI c)), (6, .ref 31), (7, .ref 27)] [] μ0 rfl trivial ?_
  rw [hs1a, hs1b]
  rw [if_pos (congrArg nI hq)]
  refine zq_go zt_X8_copy 3 [] 79 [(0, .ref 0), (1, .int (nI 3)), (2, .int (nI a)), (3, .int (nI 1)), (4, .int (nI b)), (5, .int (nI c)), (6, .ref 31), (7, .ref 27)] [.int (nI c), .int (nI a), .ref 31] μ0 rfl trivial ?_
  refine zq_call zt_X8_copy [.ref 31, .int (nI a), .int (nI c)] [] (zs_holds_3 ht (nI a) (nI c) hC) rfl rfl ?_
  rintro _ _ ⟨rfl, rfl⟩
  refine zq_go zt_X8_copy 1 [] (if (zb (yfit (H.2.2.1 3) (nI a) (nI c))) = 0 then 97 else 85) [(0, .ref 0), (1, .int (nI 3)), (2, .int (nI a)), (3, .int (nI 1)), (4, .int (nI b)), (5, .int (nI c)), (6, .ref 31), (7, .ref 27)] [] μ0 rfl trivial ?_
  rw [if_neg (zb_n (yfit_n hza h1))]
  refine zq_go zt_X8_copy 3 [] 91 [(0, .ref 0), (1, .int (nI 3)), (2, .int (nI a)), (3, .int (nI 1)), (4, .int (nI b)), (5, .int (nI c)), (6, .ref 31), (7, .ref 27)] [.int (nI c), .int (nI b), .ref 27] μ0 rfl trivial ?_
  refine zq_call zt_X8_copy [.ref 27, .int (nI b), .int (nI c)] [] (zs_holds_1 hu (nI b) (nI c) hC) rfl rfl ?_
  rintro _ _ ⟨rfl, rfl⟩
  refine zq_go zt_X8_copy 1 [] (if ¬ (zb (yfit (H.2.2.1 1) (nI b) (nI c))) = 0 then 103 else 97) [(0, .ref 0), (1, .int (nI 3)), (2, .int (nI a)), (3, .int (nI 1)), (4, .int (nI b)), (5, .int (nI c)), (6, .ref 31), (7, .ref 27)] [] μ0 rfl trivial ?_
  rw [if_pos (zb_n (yfit_n hzb h2))]
  refine zq_go zt_X8_copy 9 [¬ (nI a) < 0 ∧ ¬ (nI b) < 0 ∧ ¬ (nI c) < 0 ∧ (nI a).toNatClampNeg + (nI c).toNatClampNeg ≤ 60 ∧ (nI b).toNatClampNeg + (nI c).toNatClampNeg ≤ 60] 122 [(0, .ref 0), (1, .int (nI 3)), (2, .int (nI a)), (3, .int (nI 1)), (4, .int (nI b)), (5, .int (nI c)), (6, .ref 31), (7, .ref 27)] [.int (nI 1)] (zq_ur μ0 28 (va_cpy (μ0.1 32) (μ0.1 28) (nI a).toNatClampNeg (nI b).toNatClampNeg (nI c).toNatClampNeg)) rfl ⟨⟨zn_notneg (by omega), zn_notneg (by omega), zn_notneg (by omega), by rw [zn_cl (by omega), zn_cl (by omega)]; omega, by rw [zn_cl (by omega), zn_cl (by omega)]; omega⟩, trivial⟩ ?_
  obtain ⟨μ1, hμ1⟩ : ∃ k9 : zq_Me, k9 = (zq_ur μ0 28 (va_cpy (μ0.1 32) (μ0.1 28) (nI a).toNatClampNeg (nI b).toNatClampNeg (nI c).toNatClampNeg)) := ⟨_, rfl⟩
  rw [← hμ1]
  have f1 : zq_fr [26 + 2 * 1] μ0 μ1 := by rw [hμ1]; exact zq_fr.rf.ur (by simp)
  have hI := hC.it (s := 1) (by decide) (va_cpy (H.2.2.2.1 3) (H.2.2.2.1 1) a b c) f1 (fun i hi9 => by
    rw [hμ1]
    show va_cpy (μ0.1 32) (μ0.1 28) (nI a).toNatClampNeg (nI b).toNatClampNeg (nI c).toNatClampNeg i = _
    rw [zn_cl (by omega), zn_cl (by omega), zn_cl (by omega)]
    by_cases q : b ≤ i ∧ i < b + c
    · rw [pk_cpy_in q.1 q.2, pk_cpy_in q.1 q.2]; exact hia _ (by omega)
    · rw [pk_cpy_out (by omega), pk_cpy_out (by omega)]; exact hib i hi9)
  exact zq_retn zt_X8_copy rfl rfl (⟨rfl, hI, f1.wk (by simp [zSC])⟩)
set_option maxRecDepth 100000 in
set_option maxHeartbeats 400000 in
theorem zs_copy_3_2 {τ : zTd} {S : zES} {H : zSH} {μ0 : zq_Me} {a b c : Nat} (ht : H.1 3 = true) (hu : H.1 2 = true) (hq : H.2.1 3 = H.2.1 2) (h1 : a + c ≤ H.2.2.1 3) (h2 : b + c ≤ H.2.2.1 2) (hC : zIc τ S H μ0) : zq_Wp zn_X8_copy 0 [(0, .ref 0), (1, .int (nI 3)), (2, .int (nI a)), (3, .int (nI 2)), (4, .int (nI b)), (5, .int (nI c))] [] μ0 (zRc (.int (nI 1)) τ S (yhi H 2 (va_cpy (H.2.2.2.1 3) (H.2.2.2.1 2) a b c)) μ0) := by
  have hza := (hC.2.2.2.2.2.2.2.2.2 3 (by decide)).2
  have hs1a : μ0.1 31 1 = nI (H.2.1 3) := ((hC.2.2.2.2.2.2.2.2.1.1 3 (by decide)).1 ht).1
  have hs2a : μ0.1 31 2 = nI (H.2.2.1 3) := ((hC.2.2.2.2.2.2.2.2.1.1 3 (by decide)).1 ht).2
  have hia : ∀ i, i < 60 → μ0.1 32 i = H.2.2.2.1 3 i := (hC.2.2.2.2.2.2.2.2.1.1 3 (by decide)).2.2
  have hfma := (hC.2.2.2.2.2.2.2.2.2 3 (by decide)).1
  have hzb := (hC.2.2.2.2.2.2.2.2.2 2 (by decide)).2
  have hs1b : μ0.1 29 1 = nI (H.2.1 2) := ((hC.2.2.2.2.2.2.2.2.1.1 2 (by decide)).1 hu).1
  have hs2b : μ0.1 29 2 = nI (H.2.2.1 2) := ((hC.2.2.2.2.2.2.2.2.1.1 2 (by decide)).1 hu).2
  have hib : ∀ i, i < 60 → μ0.1 30 i = H.2.2.2.1 2 i := (hC.2.2.2.2.2.2.2.2.1.1 2 (by decide)).2.2
  have hfmb := (hC.2.2.2.2.2.2.2.2.2 2 (by decide)).1
  refine zq_go zt_X8_copy 1 [] 1 [(0, .ref 0), (1, .int (nI 3)), (2, .int (nI a)), (3, .int (nI 2)), (4, .int (nI b)), (5, .int (nI c))] [.int (nI 3)] μ0 rfl trivial ?_
  refine zq_call zt_X8_copy [.int (nI 3)] [] (zs_isSheet (nI 3) μ0) rfl rfl ?_
  rintro _ _ ⟨rfl, rfl⟩
  refine zq_go zt_X8_copy 1 [] (if (zb (0 ≤ nI 3 ∧ nI 3 ≤ nI 3)) = 0 then 14 else 7) [(0, .ref 0), (1, .int (nI 3)), (2, .int (nI a)), (3, .int (nI 2)), (4, .int (nI b)), (5, .int (nI c))] [] μ0 rfl trivial ?_
  rw [if_neg (zb_n (yin (by omega) (by decide)))]
  refine zq_go zt_X8_copy 1 [] 8 [(0, .ref 0), (1, .int (nI 3)), (2, .int (nI a)), (3, .int (nI 2)), (4, .int (nI b)), (5, .int (nI c))] [.int (nI 2)] μ0 rfl trivial ?_
  refine zq_call zt_X8_copy [.int (nI 2)] [] (zs_isSheet (nI 2) μ0) rfl rfl ?_
  rintro _ _ ⟨rfl, rfl⟩
  refine zq_go zt_X8_copy 1 [] (if ¬ (zb (0 ≤ nI 2 ∧ nI 2 ≤ nI 3)) = 0 then 17 else 14) [(0, .ref 0), (1, .int (nI 3)), (2, .int (nI a)), (3, .int (nI 2)), (4, .int (nI b)), (5, .int (nI c))] [] μ0 rfl trivial ?_
  rw [if_pos (zb_n (yin (by omega) (by decide)))]
  refine zq_go zt_X8_copy 11 [vp_in (nI 3) 4, vp_in (nI 2) 4] 35 [(0, .ref 0), (1, .int (nI 3)), (2, .int (nI a)), (3, .int (nI 2)), (4, .int (nI b)), (5, .int (nI c)), (6, .ref 31), (7, .ref 29)] [.ref 31] μ0 rfl ⟨zn_in rfl (by decide) (by decide), ⟨zn_in rfl (by decide) (by decide), trivial⟩⟩ ?_
  refine zq_call zt_X8_copy [.ref 31] [] (zs_isLost_3 ht hC) rfl rfl ?_
  rintro _ _ ⟨rfl, rfl⟩
  refine zq_go zt_X8_copy 1 [] (if ¬ (nI 0) = 0 then 49 else 41) [(0, .ref 0), (1, .int (nI 3)), (2, .int (nI a)), (3, .int (nI 2)), (4, .int (nI b)), (5, .int (nI c)), (6, .ref 31), (7, .ref 29)] [] μ0 rfl trivial ?_
  rw [if_neg (by decide)]
  refine zq_go zt_X8_copy 1 [] 43 [(0, .ref 0), (1, .int (nI 3)), (2, .int (nI a)), (3, .int (nI 2)), (4, .int (nI b)), (5, .int (nI c)), (6, .ref 31), (7, .ref 29)] [.ref 29] μ0 rfl trivial ?_
  refine zq_call zt_X8_copy [.ref 29] [] (zs_isLost_2 hu hC) rfl rfl ?_
  rintro _ _ ⟨rfl, rfl⟩
  refine zq_go zt_X8_copy 1 [] (if (nI 0) = 0 then 55 else 49) [(0, .ref 0), (1, .int (nI 3)), (2, .int (nI a)), (3, .int (nI 2)), (4, .int (nI b)), (5, .int (nI c)), (6, .ref 31), (7, .ref 29)] [] μ0 rfl trivial ?_
  rw [if_pos (by decide)]
  refine zq_go zt_X8_copy 5 [] (if (μ0.1 31 1) = (μ0.1 29 1) then 74 else 68) [(0, .ref 0), (1, .int (nI 3)), (2, .int (nI a)), (3, .int (nI 2)), (4, .int (nI b)), (5, .int (nI c)), (6, .ref 31), (7, .ref 29)] [] μ0 rfl trivial ?_
  rw [hs1a, hs1b]
  rw [if_pos (congrArg nI hq)]
  refine zq_go zt_X8_copy 3 [] 79 [(0, .ref 0), (1, .int (nI 3)), (2, .int (nI a)), (3, .int (nI 2)), (4, .int (nI b)), (5, .int (nI c)), (6, .ref 31), (7, .ref 29)] [.int (nI c), .int (nI a), .ref 31] μ0 rfl trivial ?_
  refine zq_call zt_X8_copy [.ref 31, .int (nI a), .int (nI c)] [] (zs_holds_3 ht (nI a) (nI c) hC) rfl rfl ?_
  rintro _ _ ⟨rfl, rfl⟩
  refine zq_go zt_X8_copy 1 [] (if (zb (yfit (H.2.2.1 3) (nI a) (nI c))) = 0 then 97 else 85) [(0, .ref 0), (1, .int (nI 3)), (2, .int (nI a)), (3, .int (nI 2)), (4, .int (nI b)), (5, .int (nI c)), (6, .ref 31), (7, .ref 29)] [] μ0 rfl trivial ?_
  rw [if_neg (zb_n (yfit_n hza h1))]
  refine zq_go zt_X8_copy 3 [] 91 [(0, .ref 0), (1, .int (nI 3)), (2, .int (nI a)), (3, .int (nI 2)), (4, .int (nI b)), (5, .int (nI c)), (6, .ref 31), (7, .ref 29)] [.int (nI c), .int (nI b), .ref 29] μ0 rfl trivial ?_
  refine zq_call zt_X8_copy [.ref 29, .int (nI b), .int (nI c)] [] (zs_holds_2 hu (nI b) (nI c) hC) rfl rfl ?_
  rintro _ _ ⟨rfl, rfl⟩
  refine zq_go zt_X8_copy 1 [] (if ¬ (zb (yfit (H.2.2.1 2) (nI b) (nI c))) = 0 then 103 else 97) [(0, .ref 0), (1, .int (nI 3)), (2, .int (nI a)), (3, .int (nI 2)), (4, .int (nI b)), (5, .int (nI c)), (6, .ref 31), (7, .ref 29)] [] μ0 rfl trivial ?_
  rw [if_pos (zb_n (yfit_n hzb h2))]
  refine zq_go zt_X8_copy 9 [¬ (nI a) < 0 ∧ ¬ (nI b) < 0 ∧ ¬ (nI c) < 0 ∧ (nI a).toNatClampNeg + (nI c).toNatClampNeg ≤ 60 ∧ (nI b).toNatClampNeg + (nI c).toNatClampNeg ≤ 60] 122 [(0, .ref 0), (1, .int (nI 3)), (2, .int (nI a)), (3, .int (nI 2)), (4, .int (nI b)), (5, .int (nI c)), (6, .ref 31), (7, .ref 29)] [.int (nI 1)] (zq_ur μ0 30 (va_cpy (μ0.1 32) (μ0.1 30) (nI a).toNatClampNeg (nI b).toNatClampNeg (nI c).toNatClampNeg)) rfl ⟨⟨zn_notneg (by omega), zn_notneg (by omega), zn_notneg (by omega), by rw [zn_cl (by omega), zn_cl (by omega)]; omega, by rw [zn_cl (by omega), zn_cl (by omega)]; omega⟩, trivial⟩ ?_
  obtain ⟨μ1, hμ1⟩ : ∃ k9 : zq_Me, k9 = (zq_ur μ0 30 (va_cpy (μ0.1 32) (μ0.1 30) (nI a).toNatClampNeg (nI b).toNatClampNeg (nI c).toNatClampNeg)) := ⟨_, rfl⟩
  rw [← hμ1]
  have f1 : zq_fr [26 + 2 * 2] μ0 μ1 := by rw [hμ1]; exact zq_fr.rf.ur (by simp)
  have hI := hC.it (s := 2) (by decide) (va_cpy (H.2.2.2.1 3) (H.2.2.2.1 2) a b c) f1 (fun i hi9 => by
    rw [hμ1]
    show va_cpy (μ0.1 32) (μ0.1 30) (nI a).toNatClampNeg (nI b).toNatClampNeg (nI c).toNatClampNeg i = _
    rw [zn_cl (by omega), zn_cl (by omega), zn_cl (by omega)]
    by_cases q : b ≤ i ∧ i < b + c
    · rw [pk_cpy_in q.1 q.2, pk_cpy_in q.1 q.2]; exact hia _ (by omega)
    · rw [pk_cpy_out (by omega), pk_cpy_out (by omega)]; exact hib i hi9)
  exact zq_retn zt_X8_copy rfl rfl (⟨rfl, hI, f1.wk (by simp [zSC])⟩)
set_option maxRecDepth 100000 in
set_option maxHeartbeats 400000 in
theorem zs_copy_3_3 {τ : zTd} {S : zES} {H : zSH} {μ0 : zq_Me} {a b c : Nat} (ht : H.1 3 = true) (hu : H.1 3 = true) (hq : H.2.1 3 = H.2.1 3) (h1 : a + c ≤ H.2.2.1 3) (h2 : b + c ≤ H.2.2.1 3) (hC : zIc τ S H μ0) : zq_Wp zn_X8_copy 0 [(0, .ref 0), (1, .int (nI 3)), (2, .int (nI a)), (3, .int (nI 3)), (4, .int (nI b)), (5, .int (nI c))] [] μ0 (zRc (.int (nI 1)) τ S (yhi H 3 (va_cpy (H.2.2.2.1 3) (H.2.2.2.1 3) a b c)) μ0) := by
  have hza := (hC.2.2.2.2.2.2.2.2.2 3 (by decide)).2
  have hs1a : μ0.1 31 1 = nI (H.2.1 3) := ((hC.2.2.2.2.2.2.2.2.1.1 3 (by decide)).1 ht).1
  have hs2a : μ0.1 31 2 = nI (H.2.2.1 3) := ((hC.2.2.2.2.2.2.2.2.1.1 3 (by decide)).1 ht).2
  have hia : ∀ i, i < 60 → μ0.1 32 i = H.2.2.2.1 3 i := (hC.2.2.2.2.2.2.2.2.1.1 3 (by decide)).2.2
  have hfma := (hC.2.2.2.2.2.2.2.2.2 3 (by decide)).1
  have hzb := (hC.2.2.2.2.2.2.2.2.2 3 (by decide)).2
  have hs1b : μ0.1 31 1 = nI (H.2.1 3) := ((hC.2.2.2.2.2.2.2.2.1.1 3 (by decide)).1 hu).1
  have hs2b : μ0.1 31 2 = nI (H.2.2.1 3) := ((hC.2.2.2.2.2.2.2.2.1.1 3 (by decide)).1 hu).2
  have hib : ∀ i, i < 60 → μ0.1 32 i = H.2.2.2.1 3 i := (hC.2.2.2.2.2.2.2.2.1.1 3 (by decide)).2.2
  have hfmb := (hC.2.2.2.2.2.2.2.2.2 3 (by decide)).1
  refine zq_go zt_X8_copy 1 [] 1 [(0, .ref 0), (1, .int (nI 3)), (2, .int (nI a)), (3, .int (nI 3)), (4, .int (nI b)), (5, .int (nI c))] [.int (nI 3)] μ0 rfl trivial ?_
  refine zq_call zt_X8_copy [.int (nI 3)] [] (zs_isSheet (nI 3) μ0) rfl rfl ?_
  rintro _ _ ⟨rfl, rfl⟩
  refine zq_go zt_X8_copy 1 [] (if (zb (0 ≤ nI 3 ∧ nI 3 ≤ nI 3)) = 0 then 14 else 7) [(0, .ref 0), (1, .int (nI 3)), (2, .int (nI a)), (3, .int (nI 3)), (4, .int (nI b)), (5, .int (nI c))] [] μ0 rfl trivial ?_
  rw [if_neg (zb_n (yin (by omega) (by decide)))]
  refine zq_go zt_X8_copy 1 [] 8 [(0, .ref 0), (1, .int (nI 3)), (2, .int (nI a)), (3, .int (nI 3)), (4, .int (nI b)), (5, .int (nI c))] [.int (nI 3)] μ0 rfl trivial ?_
  refine zq_call zt_X8_copy [.int (nI 3)] [] (zs_isSheet (nI 3) μ0) rfl rfl ?_
  rintro _ _ ⟨rfl, rfl⟩
  refine zq_go zt_X8_copy 1 [] (if ¬ (zb (0 ≤ nI 3 ∧ nI 3 ≤ nI 3)) = 0 then 17 else 14) [(0, .ref 0), (1, .int (nI 3)), (2, .int (nI a)), (3, .int (nI 3)), (4, .int (nI b)), (5, .int (nI c))] [] μ0 rfl trivial ?_
  rw [if_pos (zb_n (yin (by omega) (by decide)))]
  refine zq_go zt_X8_copy 11 [vp_in (nI 3) 4, vp_in (nI 3) 4] 35 [(0, .ref 0), (1, .int (nI 3)), (2, .int (nI a)), (3, .int (nI 3)), (4, .int (nI b)), (5, .int (nI c)), (6, .ref 31), (7, .ref 31)] [.ref 31] μ0 rfl ⟨zn_in rfl (by decide) (by decide), ⟨zn_in rfl (by decide) (by decide), trivial⟩⟩ ?_
  refine zq_call zt_X8_copy [.ref 31] [] (zs_isLost_3 ht hC) rfl rfl ?_
  rintro _ _ ⟨rfl, rfl⟩
  refine zq_go zt_X8_copy 1 [] (if ¬ (nI 0) = 0 then 49 else 41) [(0, .ref 0), (1, .int (nI 3)), (2, .int (nI a)), (3, .int (nI 3)), (4, .int (nI b)), (5, .int (nI c)), (6, .ref 31), (7, .ref 31)] [] μ0 rfl trivial ?_
  rw [if_neg (by decide)]
  refine zq_go zt_X8_copy 1 [] 43 [(0, .ref 0), (1, .int (nI 3)), (2, .int (nI a)), (3, .int (nI 3)), (4, .int (nI b)), (5, .int (nI c)), (6, .ref 31), (7, .ref 31)] [.ref 31] μ0 rfl trivial ?_
  refine zq_call zt_X8_copy [.ref 31] [] (zs_isLost_3 hu hC) rfl rfl ?_
  rintro _ _ ⟨rfl, rfl⟩
  refine zq_go zt_X8_copy 1 [] (if (nI 0) = 0 then 55 else 49) [(0, .ref 0), (1, .int (nI 3)), (2, .int (nI a)), (3, .int (nI 3)), (4, .int (nI b)), (5, .int (nI c)), (6, .ref 31), (7, .ref 31)] [] μ0 rfl trivial ?_
  rw [if_pos (by decide)]
  refine zq_go zt_X8_copy 5 [] (if (μ0.1 31 1) = (μ0.1 31 1) then 74 else 68) [(0, .ref 0), (1, .int (nI 3)), (2, .int (nI a)), (3, .int (nI 3)), (4, .int (nI b)), (5, .int (nI c)), (6, .ref 31), (7, .ref 31)] [] μ0 rfl trivial ?_
  rw [hs1b]
  rw [if_pos (congrArg nI hq)]
  refine zq_go zt_X8_copy 3 [] 79 [(0, .ref 0), (1, .int (nI 3)), (2, .int (nI a)), (3, .int (nI 3)), (4, .int (nI b)), (5, .int (nI c)), (6, .ref 31), (7, .ref 31)] [.int (nI c), .int (nI a), .ref 31] μ0 rfl trivial ?_
  refine zq_call zt_X8_copy [.ref 31, .int (nI a), .int (nI c)] [] (zs_holds_3 ht (nI a) (nI c) hC) rfl rfl ?_
  rintro _ _ ⟨rfl, rfl⟩
  refine zq_go zt_X8_copy 1 [] (if (zb (yfit (H.2.2.1 3) (nI a) (nI c))) = 0 then 97 else 85) [(0, .ref 0), (1, .int (nI 3)), (2, .int (nI a)), (3, .int (nI 3)), (4, .int (nI b)), (5, .int (nI c)), (6, .ref 31), (7, .ref 31)] [] μ0 rfl trivial ?_
  rw [if_neg (zb_n (yfit_n hza h1))]
  refine zq_go zt_X8_copy 3 [] 91 [(0, .ref 0), (1, .int (nI 3)), (2, .int (nI a)), (3, .int (nI 3)), (4, .int (nI b)), (5, .int (nI c)), (6, .ref 31), (7, .ref 31)] [.int (nI c), .int (nI b), .ref 31] μ0 rfl trivial ?_
  refine zq_call zt_X8_copy [.ref 31, .int (nI b), .int (nI c)] [] (zs_holds_3 hu (nI b) (nI c) hC) rfl rfl ?_
  rintro _ _ ⟨rfl, rfl⟩
  refine zq_go zt_X8_copy 1 [] (if ¬ (zb (yfit (H.2.2.1 3) (nI b) (nI c))) = 0 then 103 else 97) [(0, .ref 0), (1, .int (nI 3)), (2, .int (nI a)), (3, .int (nI 3)), (4, .int (nI b)), (5, .int (nI c)), (6, .ref 31), (7, .ref 31)] [] μ0 rfl trivial ?_
  rw [if_pos (zb_n (yfit_n hzb h2))]
  refine zq_go zt_X8_copy 9 [¬ (nI a) < 0 ∧ ¬ (nI b) < 0 ∧ ¬ (nI c) < 0 ∧ (nI a).toNatClampNeg + (nI c).toNatClampNeg ≤ 60 ∧ (nI b).toNatClampNeg + (nI c).toNatClampNeg ≤ 60] 122 [(0, .ref 0), (1, .int (nI 3)), (2, .int (nI a)), (3, .int (nI 3)), (4, .int (nI b)), (5, .int (nI c)), (6, .ref 31), (7, .ref 31)] [.int (nI 1)] (zq_ur μ0 32 (va_cpy (μ0.1 32) (μ0.1 32) (nI a).toNatClampNeg (nI b).toNatClampNeg (nI c).toNatClampNeg)) rfl ⟨⟨zn_notneg (by omega), zn_notneg (by omega), zn_notneg (by omega), by rw [zn_cl (by omega), zn_cl (by omega)]; omega, by rw [zn_cl (by omega), zn_cl (by omega)]; omega⟩, trivial⟩ ?_
  obtain ⟨μ1, hμ1⟩ : ∃ k9 : zq_Me, k9 = (zq_ur μ0 32 (va_cpy (μ0.1 32) (μ0.1 32) (nI a).toNatClampNeg (nI b).toNatClampNeg (nI c).toNatClampNeg)) := ⟨_, rfl⟩
  rw [← hμ1]
  have f1 : zq_fr [26 + 2 * 3] μ0 μ1 := by rw [hμ1]; exact zq_fr.rf.ur (by simp)
  have hI := hC.it (s := 3) (by decide) (va_cpy (H.2.2.2.1 3) (H.2.2.2.1 3) a b c) f1 (fun i hi9 => by
    rw [hμ1]
    show va_cpy (μ0.1 32) (μ0.1 32) (nI a).toNatClampNeg (nI b).toNatClampNeg (nI c).toNatClampNeg i = _
    rw [zn_cl (by omega), zn_cl (by omega), zn_cl (by omega)]
    by_cases q : b ≤ i ∧ i < b + c
    · rw [pk_cpy_in q.1 q.2, pk_cpy_in q.1 q.2]; exact hia _ (by omega)
    · rw [pk_cpy_out (by omega), pk_cpy_out (by omega)]; exact hib i hi9)
  exact zq_retn zt_X8_copy rfl rfl (⟨rfl, hI, f1.wk (by simp [zSC])⟩)
theorem zs_copy {τ : zTd} {S : zES} {H : zSH} {μ0 : zq_Me} {s t : Nat} (ls : s ≤ 3) (lt : t ≤ 3) {a b c : Nat} (ht : H.1 s = true) (hu : H.1 t = true) (hq : H.2.1 s = H.2.1 t) (h1 : a + c ≤ H.2.2.1 s) (h2 : b + c ≤ H.2.2.1 t) (hC : zIc τ S H μ0) : zq_Wp zn_X8_copy 0 [(0, .ref 0), (1, .int (nI s)), (2, .int (nI a)), (3, .int (nI t)), (4, .int (nI b)), (5, .int (nI c))] [] μ0 (zRc (.int (nI 1)) τ S (yhi H t (va_cpy (H.2.2.2.1 s) (H.2.2.2.1 t) a b c)) μ0) := by
  obtain rfl | rfl | rfl | rfl : s = 0 ∨ s = 1 ∨ s = 2 ∨ s = 3 := by omega
  · obtain rfl | rfl | rfl | rfl : t = 0 ∨ t = 1 ∨ t = 2 ∨ t = 3 := by omega
    · exact zs_copy_0_0 ht hu hq h1 h2 hC
    · exact zs_copy_0_1 ht hu hq h1 h2 hC
    · exact zs_copy_0_2 ht hu hq h1 h2 hC
    · exact zs_copy_0_3 ht hu hq h1 h2 hC
  · obtain rfl | rfl | rfl | rfl : t = 0 ∨ t = 1 ∨ t = 2 ∨ t = 3 := by omega
    · exact zs_copy_1_0 ht hu hq h1 h2 hC
    · exact zs_copy_1_1 ht hu hq h1 h2 hC
    · exact zs_copy_1_2 ht hu hq h1 h2 hC
    · exact zs_copy_1_3 ht hu hq h1 h2 hC
  · obtain rfl | rfl | rfl | rfl : t = 0 ∨ t = 1 ∨ t = 2 ∨ t = 3 := by omega
    · exact zs_copy_2_0 ht hu hq h1 h2 hC
    · exact zs_copy_2_1 ht hu hq h1 h2 hC
    · exact zs_copy_2_2 ht hu hq h1 h2 hC
    · exact zs_copy_2_3 ht hu hq h1 h2 hC
  · obtain rfl | rfl | rfl | rfl : t = 0 ∨ t = 1 ∨ t = 2 ∨ t = 3 := by omega
    · exact zs_copy_3_0 ht hu hq h1 h2 hC
    · exact zs_copy_3_1 ht hu hq h1 h2 hC
    · exact zs_copy_3_2 ht hu hq h1 h2 hC
    · exact zs_copy_3_3 ht hu hq h1 h2 hC
set_option maxRecDepth 100000 in
set_option maxHeartbeats 400000 in
theorem zs_copy_b (v1 v2 v3 v4 v5 : Int32) (hg : ¬ ((0 ≤ v1 ∧ v1 ≤ nI 3) ∧ (0 ≤ v3 ∧ v3 ≤ nI 3))) {τ : zTd} {S : zES} {H : zSH} {μ0 : zq_Me} (hC : zIc τ S H μ0) : zq_Wp zn_X8_copy 0 [(0, .ref 0), (1, .int v1), (2, .int v2), (3, .int v3), (4, .int v4), (5, .int v5)] [] μ0 (zRc (.int (-2)) τ S H μ0) := by
  refine zq_go zt_X8_copy 1 [] 1 [(0, .ref 0), (1, .int v1), (2, .int v2), (3, .int v3), (4, .int v4), (5, .int v5)] [.int v1] μ0 rfl trivial ?_
  refine zq_call zt_X8_copy [.int v1] [] (zs_isSheet v1 μ0) rfl rfl ?_
  rintro _ _ ⟨rfl, rfl⟩
  refine zq_go zt_X8_copy 1 [] (if (zb (0 ≤ v1 ∧ v1 ≤ nI 3)) = 0 then 14 else 7) [(0, .ref 0), (1, .int v1), (2, .int v2), (3, .int v3), (4, .int v4), (5, .int v5)] [] μ0 rfl trivial ?_
  refine zq_ite (fun h4 => ?_) (fun h4 => ?_)
  · refine zq_go zt_X8_copy 1 [] 16 [(0, .ref 0), (1, .int v1), (2, .int v2), (3, .int v3), (4, .int v4), (5, .int v5)] [.int (-2)] μ0 rfl trivial ?_
    exact zq_retn zt_X8_copy rfl rfl (⟨rfl, hC, zq_fr.rf⟩)
  · have g0 := zb_p h4
    refine zq_go zt_X8_copy 1 [] 8 [(0, .ref 0), (1, .int v1), (2, .int v2), (3, .int v3), (4, .int v4), (5, .int v5)] [.int v3] μ0 rfl trivial ?_
    refine zq_call zt_X8_copy [.int v3] [] (zs_isSheet v3 μ0) rfl rfl ?_
    rintro _ _ ⟨rfl, rfl⟩
    refine zq_go zt_X8_copy 1 [] (if ¬ (zb (0 ≤ v3 ∧ v3 ≤ nI 3)) = 0 then 17 else 14) [(0, .ref 0), (1, .int v1), (2, .int v2), (3, .int v3), (4, .int v4), (5, .int v5)] [] μ0 rfl trivial ?_
    refine zq_ite (fun h12 => ?_) (fun h12 => ?_)
    · have g1 := zb_p h12
      exact absurd ⟨g0, g1⟩ hg
    · refine zq_go zt_X8_copy 1 [] 16 [(0, .ref 0), (1, .int v1), (2, .int v2), (3, .int v3), (4, .int v4), (5, .int v5)] [.int (-2)] μ0 rfl trivial ?_
      exact zq_retn zt_X8_copy rfl rfl (⟨rfl, hC, zq_fr.rf⟩)
set_option maxRecDepth 100000 in
set_option maxHeartbeats 400000 in
theorem zs_copym_b (v1 v2 v3 v4 v5 : Int32) (hg : ¬ ((0 ≤ v1 ∧ v1 ≤ nI 3) ∧ (0 ≤ v3 ∧ v3 ≤ nI 3))) {τ : zTd} {S : zES} {H : zSH} {μ0 : zq_Me} (hM : zIm τ S H μ0) : zq_Wp zn_X9_copy 0 [(0, .ref 50), (1, .int v1), (2, .int v2), (3, .int v3), (4, .int v4), (5, .int v5)] [] μ0 (zRm' (.int (-2)) τ S H μ0) := by
  refine zq_go zt_X9_copy 1 [] 1 [(0, .ref 50), (1, .int v1), (2, .int v2), (3, .int v3), (4, .int v4), (5, .int v5)] [.int v1] μ0 rfl trivial ?_
  refine zq_call zt_X9_copy [.int v1] [] (zs_isSheetm v1 μ0) rfl rfl ?_
  rintro _ _ ⟨rfl, rfl⟩
  refine zq_go zt_X9_copy 1 [] (if (zb (0 ≤ v1 ∧ v1 ≤ nI 3)) = 0 then 14 else 7) [(0, .ref 50), (1, .int v1), (2, .int v2), (3, .int v3), (4, .int v4), (5, .int v5)] [] μ0 rfl trivial ?_
  refine zq_ite (fun h4 => ?_) (fun h4 => ?_)
  · refine zq_go zt_X9_copy 1 [] 16 [(0, .ref 50), (1, .int v1), (2, .int v2), (3, .int v3), (4, .int v4), (5, .int v5)] [.int (-2)] μ0 rfl trivial ?_
    exact zq_retn zt_X9_copy rfl rfl (⟨rfl, hM, zq_fr.rf⟩)
  · have g0 := zb_p h4
    refine zq_go zt_X9_copy 1 [] 8 [(0, .ref 50), (1, .int v1), (2, .int v2), (3, .int v3), (4, .int v4), (5, .int v5)] [.int v3] μ0 rfl trivial ?_
    refine zq_call zt_X9_copy [.int v3] [] (zs_isSheetm v3 μ0) rfl rfl ?_
    rintro _ _ ⟨rfl, rfl⟩
    refine zq_go zt_X9_copy 1 [] (if ¬ (zb (0 ≤ v3 ∧ v3 ≤ nI 3)) = 0 then 17 else 14) [(0, .ref 50), (1, .int v1), (2, .int v2), (3, .int v3), (4, .int v4), (5, .int v5)] [] μ0 rfl trivial ?_
    refine zq_ite (fun h12 => ?_) (fun h12 => ?_)
    · have g1 := zb_p h12
      exact absurd ⟨g0, g1⟩ hg
    · refine zq_go zt_X9_copy 1 [] 16 [(0, .ref 50), (1, .int v1), (2, .int v2), (3, .int v3), (4, .int v4), (5, .int v5)] [.int (-2)] μ0 rfl trivial ?_
      exact zq_retn zt_X9_copy rfl rfl (⟨rfl, hM, zq_fr.rf⟩)
set_option maxRecDepth 100000 in
set_option maxHeartbeats 400000 in
theorem zs_copym_l {τ : zTd} {S : zES} {H : zSH} {μ0 : zq_Me} {s t : Nat} (ls : s ≤ 3) (lt : t ≤ 3) (h : H.1 s = false ∨ H.1 t = false) (i j n : Int32) (hM : zIm τ S H μ0) : zq_Wp zn_X9_copy 0 [(0, .ref 50), (1, .int (nI s)), (2, .int i), (3, .int (nI t)), (4, .int j), (5, .int n)] [] μ0 (zRm' (.int (-10 - nI 1)) τ S (yhf H (nI 1)) μ0) := by
  refine zq_go zt_X9_copy 1 [] 1 [(0, .ref 50), (1, .int (nI s)), (2, .int i), (3, .int (nI t)), (4, .int j), (5, .int n)] [.int (nI s)] μ0 rfl trivial ?_
  refine zq_call zt_X9_copy [.int (nI s)] [] (zs_isSheetm (nI s) μ0) rfl rfl ?_
  rintro _ _ ⟨rfl, rfl⟩
  refine zq_go zt_X9_copy 1 [] (if (zb (0 ≤ nI s ∧ nI s ≤ nI 3)) = 0 then 14 else 7) [(0, .ref 50), (1, .int (nI s)), (2, .int i), (3, .int (nI t)), (4, .int j), (5, .int n)] [] μ0 rfl trivial ?_
  rw [if_neg (zb_n (yin (by omega) (by decide)))]
  refine zq_go zt_X9_copy 1 [] 8 [(0, .ref 50), (1, .int (nI s)), (2, .int i), (3, .int (nI t)), (4, .int j), (5, .int n)] [.int (nI t)] μ0 rfl trivial ?_
  refine zq_call zt_X9_copy [.int (nI t)] [] (zs_isSheetm (nI t) μ0) rfl rfl ?_
  rintro _ _ ⟨rfl, rfl⟩
  refine zq_go zt_X9_copy 1 [] (if ¬ (zb (0 ≤ nI t ∧ nI t ≤ nI 3)) = 0 then 17 else 14) [(0, .ref 50), (1, .int (nI s)), (2, .int i), (3, .int (nI t)), (4, .int j), (5, .int n)] [] μ0 rfl trivial ?_
  rw [if_pos (zb_n (yin (by omega) (by decide)))]
  by_cases hs : H.1 s = false
  · have h72a : μ0.1 72 s = nI 0 := by rw [(hM.2.2.2.2.1.1 s (by omega)).1, if_neg (by rw [hs]; decide)]; rfl
    refine zq_go zt_X9_copy 5 [vp_in (nI s) 4] (if (μ0.1 72 ((nI s).toNatClampNeg)) = 0 then 35 else 26) [(0, .ref 50), (1, .int (nI s)), (2, .int i), (3, .int (nI t)), (4, .int j), (5, .int n)] [] μ0 rfl ⟨zn_in (k := s) rfl (by omega) (by decide), trivial⟩ ?_
    rw [zn_cl (n := s) (by omega), h72a]
    rw [if_pos (by decide)]
    refine zq_go zt_X9_copy 2 [] 37 [(0, .ref 50), (1, .int (nI s)), (2, .int i), (3, .int (nI t)), (4, .int j), (5, .int n)] [.int (nI 1), .ref 50] μ0 rfl trivial ?_
    refine zq_call zt_X9_copy [.ref 50, .int (nI 1)] [] (zs_meets 1 hM) rfl rfl ?_
    rintro _ μ1 ⟨rfl, hM1, f1⟩
    exact zq_retn zt_X9_copy rfl rfl (⟨rfl, hM1, f1⟩)
  · have ht : H.1 s = true := by
      cases q : H.1 s
      · exact absurd q hs
      · rfl
    have hu : H.1 t = false := h.resolve_left hs
    have h72a : μ0.1 72 s = nI 1 := by rw [(hM.2.2.2.2.1.1 s (by omega)).1, if_pos (ht)]; rfl
    have h72b : μ0.1 72 t = nI 0 := by rw [(hM.2.2.2.2.1.1 t (by omega)).1, if_neg (by rw [hu]; decide)]; rfl
    refine zq_go zt_X9_copy 5 [vp_in (nI s) 4] (if (μ0.1 72 ((nI s).toNatClampNeg)) = 0 then 35 else 26) [(0, .ref 50), (1, .int (nI s)), (2, .int i), (3, .int (nI t)), (4, .int j), (5, .int n)] [] μ0 rfl ⟨zn_in (k := s) rfl (by omega) (by decide), trivial⟩ ?_
    rw [zn_cl (n := s) (by omega), h72a]
    rw [if_neg (by decide)]
    refine zq_go zt_X9_copy 5 [vp_in (nI t) 4] (if ¬ (μ0.1 72 ((nI t).toNatClampNeg)) = 0 then 41 else 35) [(0, .ref 50), (1, .int (nI s)), (2, .int i), (3, .int (nI t)), (4, .int j), (5, .int n)] [] μ0 rfl ⟨zn_in (k := t) rfl (by omega) (by decide), trivial⟩ ?_
    rw [zn_cl (n := t) (by omega), h72b]
    rw [if_neg (by decide)]
    refine zq_go zt_X9_copy 2 [] 37 [(0, .ref 50), (1, .int (nI s)), (2, .int i), (3, .int (nI t)), (4, .int j), (5, .int n)] [.int (nI 1), .ref 50] μ0 rfl trivial ?_
    refine zq_call zt_X9_copy [.ref 50, .int (nI 1)] [] (zs_meets 1 hM) rfl rfl ?_
    rintro _ μ1 ⟨rfl, hM1, f1⟩
    exact zq_retn zt_X9_copy rfl rfl (⟨rfl, hM1, f1⟩)
set_option maxRecDepth 100000 in
set_option maxHeartbeats 400000 in
theorem zs_copym_f {τ : zTd} {S : zES} {H : zSH} {μ0 : zq_Me} {s t : Nat} (ls : s ≤ 3) (lt : t ≤ 3) (ht : H.1 s = true) (hu : H.1 t = true) (hq : ¬ H.2.1 s = H.2.1 t) (i j n : Int32) (hM : zIm τ S H μ0) : zq_Wp zn_X9_copy 0 [(0, .ref 50), (1, .int (nI s)), (2, .int i), (3, .int (nI t)), (4, .int j), (5, .int n)] [] μ0 (zRm' (.int (-10 - nI 4)) τ S (yhf H (nI 4)) μ0) := by
  have hza := (hM.2.2.2.2.2 s (by omega)).2
  have hfma := (hM.2.2.2.2.2 s (by omega)).1
  have h72a : μ0.1 72 s = nI 1 := by rw [(hM.2.2.2.2.1.1 s (by omega)).1, if_pos ht]; rfl
  have h73a : μ0.1 73 s = nI (H.2.1 s) := ((hM.2.2.2.2.1.1 s (by omega)).2.1 ht).1
  have h74a : μ0.1 74 s = nI (H.2.2.1 s) := ((hM.2.2.2.2.1.1 s (by omega)).2.1 ht).2
  have h75a : ∀ i, i < 60 → μ0.1 75 (60 * s + i) = H.2.2.2.1 s i := (hM.2.2.2.2.1.1 s (by omega)).2.2
  have hzb := (hM.2.2.2.2.2 t (by omega)).2
  have hfmb := (hM.2.2.2.2.2 t (by omega)).1
  have h72b : μ0.1 72 t = nI 1 := by rw [(hM.2.2.2.2.1.1 t (by omega)).1, if_pos hu]; rfl
  have h73b : μ0.1 73 t = nI (H.2.1 t) := ((hM.2.2.2.2.1.1 t (by omega)).2.1 hu).1
  have h74b : μ0.1 74 t = nI (H.2.2.1 t) := ((hM.2.2.2.2.1.1 t (by omega)).2.1 hu).2
  have h75b : ∀ i, i < 60 → μ0.1 75 (60 * t + i) = H.2.2.2.1 t i := (hM.2.2.2.2.1.1 t (by omega)).2.2
  refine zq_go zt_X9_copy 1 [] 1 [(0, .ref 50), (1, .int (nI s)), (2, .int i), (3, .int (nI t)), (4, .int j), (5, .int n)] [.int (nI s)] μ0 rfl trivial ?_
  refine zq_call zt_X9_copy [.int (nI s)] [] (zs_isSheetm (nI s) μ0) rfl rfl ?_
  rintro _ _ ⟨rfl, rfl⟩
  refine zq_go zt_X9_copy 1 [] (if (zb (0 ≤ nI s ∧ nI s ≤ nI 3)) = 0 then 14 else 7) [(0, .ref 50), (1, .int (nI s)), (2, .int i), (3, .int (nI t)), (4, .int j), (5, .int n)] [] μ0 rfl trivial ?_
  rw [if_neg (zb_n (yin (by omega) (by decide)))]
  refine zq_go zt_X9_copy 1 [] 8 [(0, .ref 50), (1, .int (nI s)), (2, .int i), (3, .int (nI t)), (4, .int j), (5, .int n)] [.int (nI t)] μ0 rfl trivial ?_
  refine zq_call zt_X9_copy [.int (nI t)] [] (zs_isSheetm (nI t) μ0) rfl rfl ?_
  rintro _ _ ⟨rfl, rfl⟩
  refine zq_go zt_X9_copy 1 [] (if ¬ (zb (0 ≤ nI t ∧ nI t ≤ nI 3)) = 0 then 17 else 14) [(0, .ref 50), (1, .int (nI s)), (2, .int i), (3, .int (nI t)), (4, .int j), (5, .int n)] [] μ0 rfl trivial ?_
  rw [if_pos (zb_n (yin (by omega) (by decide)))]
  refine zq_go zt_X9_copy 5 [vp_in (nI s) 4] (if (μ0.1 72 ((nI s).toNatClampNeg)) = 0 then 35 else 26) [(0, .ref 50), (1, .int (nI s)), (2, .int i), (3, .int (nI t)), (4, .int j), (5, .int n)] [] μ0 rfl ⟨zn_in (k := s) rfl (by omega) (by decide), trivial⟩ ?_
  rw [zn_cl (n := s) (by omega), h72a]
  rw [if_neg (by decide)]
  refine zq_go zt_X9_copy 5 [vp_in (nI t) 4] (if ¬ (μ0.1 72 ((nI t).toNatClampNeg)) = 0 then 41 else 35) [(0, .ref 50), (1, .int (nI s)), (2, .int i), (3, .int (nI t)), (4, .int j), (5, .int n)] [] μ0 rfl ⟨zn_in (k := t) rfl (by omega) (by decide), trivial⟩ ?_
  rw [zn_cl (n := t) (by omega), h72b]
  rw [if_pos (by decide)]
  refine zq_go zt_X9_copy 9 [vp_in (nI s) 4, vp_in (nI t) 4] (if (μ0.1 73 ((nI s).toNatClampNeg)) = (μ0.1 73 ((nI t).toNatClampNeg)) then 62 else 56) [(0, .ref 50), (1, .int (nI s)), (2, .int i), (3, .int (nI t)), (4, .int j), (5, .int n)] [] μ0 rfl ⟨zn_in (k := s) rfl (by omega) (by decide), ⟨zn_in (k := t) rfl (by omega) (by decide), trivial⟩⟩ ?_
  rw [zn_cl (n := s) (by omega), h73a, zn_cl (n := t) (by omega), h73b]
  rw [if_neg (fun q => hq (by rw [zn_eq (by omega) (by omega)] at q; exact q))]
  refine zq_go zt_X9_copy 2 [] 58 [(0, .ref 50), (1, .int (nI s)), (2, .int i), (3, .int (nI t)), (4, .int j), (5, .int n)] [.int (nI 4), .ref 50] μ0 rfl trivial ?_
  refine zq_call zt_X9_copy [.ref 50, .int (nI 4)] [] (zs_meets 4 hM) rfl rfl ?_
  rintro _ μ1 ⟨rfl, hM1, f1⟩
  exact zq_retn zt_X9_copy rfl rfl (⟨rfl, hM1, f1⟩)
set_option maxRecDepth 100000 in
set_option maxHeartbeats 400000 in
theorem zs_copym_i {τ : zTd} {S : zES} {H : zSH} {μ0 : zq_Me} {s t : Nat} (ls : s ≤ 3) (lt : t ≤ 3) (ht : H.1 s = true) (hu : H.1 t = true) (hq : H.2.1 s = H.2.1 t) (i j n : Int32) (hn : ¬ (yfit (H.2.2.1 s) i n ∧ yfit (H.2.2.1 t) j n)) (hM : zIm τ S H μ0) : zq_Wp zn_X9_copy 0 [(0, .ref 50), (1, .int (nI s)), (2, .int i), (3, .int (nI t)), (4, .int j), (5, .int n)] [] μ0 (zRm' (.int (-10 - nI 2)) τ S (yhf H (nI 2)) μ0) := by
  have hza := (hM.2.2.2.2.2 s (by omega)).2
  have hfma := (hM.2.2.2.2.2 s (by omega)).1
  have h72a : μ0.1 72 s = nI 1 := by rw [(hM.2.2.2.2.1.1 s (by omega)).1, if_pos ht]; rfl
  have h73a : μ0.1 73 s = nI (H.2.1 s) := ((hM.2.2.2.2.1.1 s (by omega)).2.1 ht).1
  have h74a : μ0.1 74 s = nI (H.2.2.1 s) := ((hM.2.2.2.2.1.1 s (by omega)).2.1 ht).2
  have h75a : ∀ i, i < 60 → μ0.1 75 (60 * s + i) = H.2.2.2.1 s i := (hM.2.2.2.2.1.1 s (by omega)).2.2
  have hzb := (hM.2.2.2.2.2 t (by omega)).2
  have hfmb := (hM.2.2.2.2.2 t (by omega)).1
  have h72b : μ0.1 72 t = nI 1 := by rw [(hM.2.2.2.2.1.1 t (by omega)).1, if_pos hu]; rfl
  have h73b : μ0.1 73 t = nI (H.2.1 t) := ((hM.2.2.2.2.1.1 t (by omega)).2.1 hu).1
  have h74b : μ0.1 74 t = nI (H.2.2.1 t) := ((hM.2.2.2.2.1.1 t (by omega)).2.1 hu).2
  have h75b : ∀ i, i < 60 → μ0.1 75 (60 * t + i) = H.2.2.2.1 t i := (hM.2.2.2.2.1.1 t (by omega)).2.2
  refine zq_go zt_X9_copy 1 [] 1 [(0, .ref 50), (1, .int (nI s)), (2, .int i), (3, .int (nI t)), (4, .int j), (5, .int n)] [.int (nI s)] μ0 rfl trivial ?_
  refine zq_call zt_X9_copy [.int (nI s)] [] (zs_isSheetm (nI s) μ0) rfl rfl ?_
  rintro _ _ ⟨rfl, rfl⟩
  refine zq_go zt_X9_copy 1 [] (if (zb (0 ≤ nI s ∧ nI s ≤ nI 3)) = 0 then 14 else 7) [(0, .ref 50), (1, .int (nI s)), (2, .int i), (3, .int (nI t)), (4, .int j), (5, .int n)] [] μ0 rfl trivial ?_
  rw [if_neg (zb_n (yin (by omega) (by decide)))]
  refine zq_go zt_X9_copy 1 [] 8 [(0, .ref 50), (1, .int (nI s)), (2, .int i), (3, .int (nI t)), (4, .int j), (5, .int n)] [.int (nI t)] μ0 rfl trivial ?_
  refine zq_call zt_X9_copy [.int (nI t)] [] (zs_isSheetm (nI t) μ0) rfl rfl ?_
  rintro _ _ ⟨rfl, rfl⟩
  refine zq_go zt_X9_copy 1 [] (if ¬ (zb (0 ≤ nI t ∧ nI t ≤ nI 3)) = 0 then 17 else 14) [(0, .ref 50), (1, .int (nI s)), (2, .int i), (3, .int (nI t)), (4, .int j), (5, .int n)] [] μ0 rfl trivial ?_
  rw [if_pos (zb_n (yin (by omega) (by decide)))]
  refine zq_go zt_X9_copy 5 [vp_in (nI s) 4] (if (μ0.1 72 ((nI s).toNatClampNeg)) = 0 then 35 else 26) [(0, .ref 50), (1, .int (nI s)), (2, .int i), (3, .int (nI t)), (4, .int j), (5, .int n)] [] μ0 rfl ⟨zn_in (k := s) rfl (by omega) (by decide), trivial⟩ ?_
  rw [zn_cl (n := s) (by omega), h72a]
  rw [if_neg (by decide)]
  refine zq_go zt_X9_copy 5 [vp_in (nI t) 4] (if ¬ (μ0.1 72 ((nI t).toNatClampNeg)) = 0 then 41 else 35) [(0, .ref 50), (1, .int (nI s)), (2, .int i), (3, .int (nI t)), (4, .int j), (5, .int n)] [] μ0 rfl ⟨zn_in (k := t) rfl (by omega) (by decide), trivial⟩ ?_
  rw [zn_cl (n := t) (by omega), h72b]
  rw [if_pos (by decide)]
  refine zq_go zt_X9_copy 9 [vp_in (nI s) 4, vp_in (nI t) 4] (if (μ0.1 73 ((nI s).toNatClampNeg)) = (μ0.1 73 ((nI t).toNatClampNeg)) then 62 else 56) [(0, .ref 50), (1, .int (nI s)), (2, .int i), (3, .int (nI t)), (4, .int j), (5, .int n)] [] μ0 rfl ⟨zn_in (k := s) rfl (by omega) (by decide), ⟨zn_in (k := t) rfl (by omega) (by decide), trivial⟩⟩ ?_
  rw [zn_cl (n := s) (by omega), h73a, zn_cl (n := t) (by omega), h73b]
  rw [if_pos (congrArg nI hq)]
  refine zq_go zt_X9_copy 2 [] (if i < 0 then 111 else 66) [(0, .ref 50), (1, .int (nI s)), (2, .int i), (3, .int (nI t)), (4, .int j), (5, .int n)] [] μ0 rfl trivial ?_
  refine zq_ite (fun h32 => ?_) (fun h32 => ?_)
  · refine zq_go zt_X9_copy 2 [] 113 [(0, .ref 50), (1, .int (nI s)), (2, .int i), (3, .int (nI t)), (4, .int j), (5, .int n)] [.int (nI 2), .ref 50] μ0 rfl trivial ?_
    refine zq_call zt_X9_copy [.ref 50, .int (nI 2)] [] (zs_meets 2 hM) rfl rfl ?_
    rintro _ μ1 ⟨rfl, hM1, f1⟩
    exact zq_retn zt_X9_copy rfl rfl (⟨rfl, hM1, f1⟩)
  · refine zq_go zt_X9_copy 2 [] (if j < 0 then 111 else 71) [(0, .ref 50), (1, .int (nI s)), (2, .int i), (3, .int (nI t)), (4, .int j), (5, .int n)] [] μ0 rfl trivial ?_
    refine zq_ite (fun h38 => ?_) (fun h38 => ?_)
    · refine zq_go zt_X9_copy 2 [] 113 [(0, .ref 50), (1, .int (nI s)), (2, .int i), (3, .int (nI t)), (4, .int j), (5, .int n)] [.int (nI 2), .ref 50] μ0 rfl trivial ?_
      refine zq_call zt_X9_copy [.ref 50, .int (nI 2)] [] (zs_meets 2 hM) rfl rfl ?_
      rintro _ μ1 ⟨rfl, hM1, f1⟩
      exact zq_retn zt_X9_copy rfl rfl (⟨rfl, hM1, f1⟩)
    · refine zq_go zt_X9_copy 2 [] (if n < 0 then 111 else 76) [(0, .ref 50), (1, .int (nI s)), (2, .int i), (3, .int (nI t)), (4, .int j), (5, .int n)] [] μ0 rfl trivial ?_
      refine zq_ite (fun h44 => ?_) (fun h44 => ?_)
      · refine zq_go zt_X9_copy 2 [] 113 [(0, .ref 50), (1, .int (nI s)), (2, .int i), (3, .int (nI t)), (4, .int j), (5, .int n)] [.int (nI 2), .ref 50] μ0 rfl trivial ?_
        refine zq_call zt_X9_copy [.ref 50, .int (nI 2)] [] (zs_meets 2 hM) rfl rfl ?_
        rintro _ μ1 ⟨rfl, hM1, f1⟩
        exact zq_retn zt_X9_copy rfl rfl (⟨rfl, hM1, f1⟩)
      · obtain ⟨a, la, rfl⟩ := nI_of h32
        obtain ⟨b, lb, rfl⟩ := nI_of h38
        obtain ⟨c, lc, rfl⟩ := nI_of h44
        refine zq_go zt_X9_copy 12 [vp_in (nI s) 4] (if 0 < (lg_cmp (((nI a).toInt64) + ((nI c).toInt64)) ((μ0.1 74 ((nI s).toNatClampNeg)).toInt64)) then 111 else 93) [(0, .ref 50), (1, .int (nI s)), (2, .int (nI a)), (3, .int (nI t)), (4, .int (nI b)), (5, .int (nI c))] [] μ0 rfl ⟨zn_in (k := s) rfl (by omega) (by decide), trivial⟩ ?_
        rw [zn_cl (n := s) (by omega), h74a]
        refine zq_ite (fun h54 => ?_) (fun h54 => ?_)
        · refine zq_go zt_X9_copy 2 [] 113 [(0, .ref 50), (1, .int (nI s)), (2, .int (nI a)), (3, .int (nI t)), (4, .int (nI b)), (5, .int (nI c))] [.int (nI 2), .ref 50] μ0 rfl trivial ?_
          refine zq_call zt_X9_copy [.ref 50, .int (nI 2)] [] (zs_meets 2 hM) rfl rfl ?_
          rintro _ μ1 ⟨rfl, hM1, f1⟩
          exact zq_retn zt_X9_copy rfl rfl (⟨rfl, hM1, f1⟩)
        · rw [zl_gt (by omega) (by omega) (by omega)] at h54
          refine zq_go zt_X9_copy 12 [vp_in (nI t) 4] (if (lg_cmp (((nI b).toInt64) + ((nI c).toInt64)) ((μ0.1 74 ((nI t).toNatClampNeg)).toInt64)) ≤ 0 then 117 else 111) [(0, .ref 50), (1, .int (nI s)), (2, .int (nI a)), (3, .int (nI t)), (4, .int (nI b)), (5, .int (nI c))] [] μ0 rfl ⟨zn_in (k := t) rfl (by omega) (by decide), trivial⟩ ?_
          rw [zn_cl (n := t) (by omega), h74b]
          refine zq_ite (fun h62 => ?_) (fun h62 => ?_)
          · rw [zl_le (by omega) (by omega) (by omega)] at h62
            exact absurd ⟨yfit_n hza (by omega), yfit_n hzb (by omega)⟩ hn
          · refine zq_go zt_X9_copy 2 [] 113 [(0, .ref 50), (1, .int (nI s)), (2, .int (nI a)), (3, .int (nI t)), (4, .int (nI b)), (5, .int (nI c))] [.int (nI 2), .ref 50] μ0 rfl trivial ?_
            refine zq_call zt_X9_copy [.ref 50, .int (nI 2)] [] (zs_meets 2 hM) rfl rfl ?_
            rintro _ μ1 ⟨rfl, hM1, f1⟩
            exact zq_retn zt_X9_copy rfl rfl (⟨rfl, hM1, f1⟩)
set_option maxRecDepth 100000 in
set_option maxHeartbeats 400000 in
theorem zs_copym_1 {Q : zq_Post} {s t a b c : Nat} (ls : s ≤ 3) (h1 : a + c ≤ 60) {μ0 : zq_Me} (kk : ∀ μ : zq_Me, (zq_fr [76] μ0 μ ∧ ∀ x, x < c → μ.1 76 x = μ0.1 75 (60 * s + a + x)) → zq_Wp zn_X9_copy 154 [(0, .ref 50), (1, .int (nI s)), (2, .int (nI a)), (3, .int (nI t)), (4, .int (nI b)), (5, .int (nI c))] [] μ Q) : ∀ (d k : Nat) (μ : zq_Me), k + d = c → (zq_fr [76] μ0 μ ∧ ∀ x, x < k → μ.1 76 x = μ0.1 75 (60 * s + a + x)) → zq_Wp zn_X9_copy 120 [(0, .ref 50), (1, .int (nI s)), (2, .int (nI a)), (3, .int (nI t)), (4, .int (nI b)), (5, .int (nI c)), (6, .int (nI k))] [] μ Q := by
  intro d
  induction d with
  | zero =>
    rintro k μ hij hI
    obtain rfl : k = c := by omega
    refine zq_go zt_X9_copy 3 [] (if (nI k) ≤ (nI k) then 154 else 127) [(0, .ref 50), (1, .int (nI s)), (2, .int (nI a)), (3, .int (nI t)), (4, .int (nI b)), (5, .int (nI k)), (6, .int (nI k))] [] μ rfl trivial ?_
    rw [if_pos (by rw [zn_le (by omega) (by omega)]; omega)]
    exact zq_drp [0, 1, 2, 3, 4, 5] _ rfl (kk μ hI)
  | succ d ih =>
    rintro k μ hij ⟨hF, hA⟩
    have e75 : μ.1 75 (60 * s + a + k) = μ0.1 75 (60 * s + a + k) := by rw [hF.a (b := 75) (by decide)]
    refine zq_go zt_X9_copy 3 [] (if (nI c) ≤ (nI k) then 154 else 127) [(0, .ref 50), (1, .int (nI s)), (2, .int (nI a)), (3, .int (nI t)), (4, .int (nI b)), (5, .int (nI c)), (6, .int (nI k))] [] μ rfl trivial ?_
    rw [if_neg (by rw [zn_le (by omega) (by omega)]; omega)]
    refine zq_go zt_X9_copy 16 [vp_in ((((nI 60) * (nI s)) + (nI a)) + (nI k)) 240, vp_in (nI k) 60] 120 [(0, .ref 50), (1, .int (nI s)), (2, .int (nI a)), (3, .int (nI t)), (4, .int (nI b)), (5, .int (nI c)), (6, .int ((nI k) + (nI 1)))] [] (zq_u1 μ 76 ((nI k).toNatClampNeg) (μ.1 75 (((((nI 60) * (nI s)) + (nI a)) + (nI k)).toNatClampNeg))) rfl ⟨zn_in (k := ((60 * s) + a) + k) (by rw [zn_mul 60 s, zn_add (60 * s) a, zn_add ((60 * s) + a) k]) (by omega) (by decide), ⟨zn_in (k := k) rfl (by omega) (by decide), trivial⟩⟩ ?_
    rw [zn_add k 1, zn_mul 60 s, zn_add (60 * s) a, zn_add ((60 * s) + a) k, zn_cl (n := ((60 * s) + a) + k) (by omega), e75, zn_cl (n := k) (by omega)]
    refine ih (k + 1) _ (by omega) ⟨hF.u1 (by simp), fun x hx => ?_⟩
    rw [zq_u1_rd]
    by_cases q : x = k
    · rw [if_pos q, q]
    · rw [if_neg q]; exact hA x (by omega)
set_option maxRecDepth 100000 in
set_option maxHeartbeats 400000 in
theorem zs_copym_2 {Q : zq_Post} {s t a b c : Nat} (lt : t ≤ 3) (h2 : b + c ≤ 60) {μ0 : zq_Me} (kk : ∀ μ : zq_Me, (zq_fr [75] μ0 μ ∧ ∀ j, μ.1 75 j = if 60 * t + b ≤ j ∧ j < 60 * t + b + c then μ0.1 76 (j - (60 * t + b)) else μ0.1 75 j) → zq_Wp zn_X9_copy 192 [(0, .ref 50), (1, .int (nI s)), (2, .int (nI a)), (3, .int (nI t)), (4, .int (nI b)), (5, .int (nI c))] [] μ Q) : ∀ (d k : Nat) (μ : zq_Me), k + d = c → (zq_fr [75] μ0 μ ∧ ∀ j, μ.1 75 j = if 60 * t + b ≤ j ∧ j < 60 * t + b + k then μ0.1 76 (j - (60 * t + b)) else μ0.1 75 j) → zq_Wp zn_X9_copy 157 [(0, .ref 50), (1, .int (nI s)), (2, .int (nI a)), (3, .int (nI t)), (4, .int (nI b)), (5, .int (nI c)), (6, .int (nI k))] [] μ Q := by
  intro d
  induction d with
  | zero =>
    rintro k μ hij hI
    obtain rfl : k = c := by omega
    refine zq_go zt_X9_copy 3 [] (if (nI k) ≤ (nI k) then 192 else 164) [(0, .ref 50), (1, .int (nI s)), (2, .int (nI a)), (3, .int (nI t)), (4, .int (nI b)), (5, .int (nI k)), (6, .int (nI k))] [] μ rfl trivial ?_
    rw [if_pos (by rw [zn_le (by omega) (by omega)]; omega)]
    exact zq_drp [0, 1, 2, 3, 4, 5] _ rfl (kk μ hI)
  | succ d ih =>
    rintro k μ hij ⟨hF, hA⟩
    have e76 : μ.1 76 k = μ0.1 76 k := by rw [hF.a (b := 76) (by decide)]
    refine zq_go zt_X9_copy 3 [] (if (nI c) ≤ (nI k) then 192 else 164) [(0, .ref 50), (1, .int (nI s)), (2, .int (nI a)), (3, .int (nI t)), (4, .int (nI b)), (5, .int (nI c)), (6, .int (nI k))] [] μ rfl trivial ?_
    rw [if_neg (by rw [zn_le (by omega) (by omega)]; omega)]
    refine zq_go zt_X9_copy 16 [vp_in (nI k) 60, vp_in ((((nI 60) * (nI t)) + (nI b)) + (nI k)) 240] 157 [(0, .ref 50), (1, .int (nI s)), (2, .int (nI a)), (3, .int (nI t)), (4, .int (nI b)), (5, .int (nI c)), (6, .int ((nI k) + (nI 1)))] [] (zq_u1 μ 75 (((((nI 60) * (nI t)) + (nI b)) + (nI k)).toNatClampNeg) (μ.1 76 ((nI k).toNatClampNeg))) rfl ⟨zn_in (k := k) rfl (by omega) (by decide), ⟨zn_in (k := ((60 * t) + b) + k) (by rw [zn_mul 60 t, zn_add (60 * t) b, zn_add ((60 * t) + b) k]) (by omega) (by decide), trivial⟩⟩ ?_
    rw [zn_add k 1, zn_cl (n := k) (by omega), e76, zn_mul 60 t, zn_add (60 * t) b, zn_add ((60 * t) + b) k, zn_cl (n := ((60 * t) + b) + k) (by omega)]
    refine ih (k + 1) _ (by omega) ⟨hF.u1 (by simp), fun j => ?_⟩
    rw [zq_u1_rd, hA]
    by_cases q : j = 60 * t + b + k
    · rw [if_pos q, if_pos (by omega), q, Nat.add_sub_cancel_left]
    · rw [if_neg q]
      by_cases q2 : 60 * t + b ≤ j ∧ j < 60 * t + b + k
      · rw [if_pos q2, if_pos (by omega)]
      · rw [if_neg q2, if_neg (by omega)]
set_option maxRecDepth 100000 in
set_option maxHeartbeats 400000 in
theorem zs_copym {τ : zTd} {S : zES} {H : zSH} {μ0 : zq_Me} {s t : Nat} (ls : s ≤ 3) (lt : t ≤ 3) {a b c : Nat} (ht : H.1 s = true) (hu : H.1 t = true) (hq : H.2.1 s = H.2.1 t) (h1 : a + c ≤ H.2.2.1 s) (h2 : b + c ≤ H.2.2.1 t) (hM : zIm τ S H μ0) : zq_Wp zn_X9_copy 0 [(0, .ref 50), (1, .int (nI s)), (2, .int (nI a)), (3, .int (nI t)), (4, .int (nI b)), (5, .int (nI c))] [] μ0 (zRm' (.int (nI 1)) τ S (yhi H t (va_cpy (H.2.2.2.1 s) (H.2.2.2.1 t) a b c)) μ0) := by
  have hza := (hM.2.2.2.2.2 s (by omega)).2
  have hfma := (hM.2.2.2.2.2 s (by omega)).1
  have h72a : μ0.1 72 s = nI 1 := by rw [(hM.2.2.2.2.1.1 s (by omega)).1, if_pos ht]; rfl
  have h73a : μ0.1 73 s = nI (H.2.1 s) := ((hM.2.2.2.2.1.1 s (by omega)).2.1 ht).1
  have h74a : μ0.1 74 s = nI (H.2.2.1 s) := ((hM.2.2.2.2.1.1 s (by omega)).2.1 ht).2
  have h75a : ∀ i, i < 60 → μ0.1 75 (60 * s + i) = H.2.2.2.1 s i := (hM.2.2.2.2.1.1 s (by omega)).2.2
  have hzb := (hM.2.2.2.2.2 t (by omega)).2
  have hfmb := (hM.2.2.2.2.2 t (by omega)).1
  have h72b : μ0.1 72 t = nI 1 := by rw [(hM.2.2.2.2.1.1 t (by omega)).1, if_pos hu]; rfl
  have h73b : μ0.1 73 t = nI (H.2.1 t) := ((hM.2.2.2.2.1.1 t (by omega)).2.1 hu).1
  have h74b : μ0.1 74 t = nI (H.2.2.1 t) := ((hM.2.2.2.2.1.1 t (by omega)).2.1 hu).2
  have h75b : ∀ i, i < 60 → μ0.1 75 (60 * t + i) = H.2.2.2.1 t i := (hM.2.2.2.2.1.1 t (by omega)).2.2
  refine zq_go zt_X9_copy 1 [] 1 [(0, .ref 50), (1, .int (nI s)), (2, .int (nI a)), (3, .int (nI t)), (4, .int (nI b)), (5, .int (nI c))] [.int (nI s)] μ0 rfl trivial ?_
  refine zq_call zt_X9_copy [.int (nI s)] [] (zs_isSheetm (nI s) μ0) rfl rfl ?_
  rintro _ _ ⟨rfl, rfl⟩
  refine zq_go zt_X9_copy 1 [] (if (zb (0 ≤ nI s ∧ nI s ≤ nI 3)) = 0 then 14 else 7) [(0, .ref 50), (1, .int (nI s)), (2, .int (nI a)), (3, .int (nI t)), (4, .int (nI b)), (5, .int (nI c))] [] μ0 rfl trivial ?_
  rw [if_neg (zb_n (yin (by omega) (by decide)))]
  refine zq_go zt_X9_copy 1 [] 8 [(0, .ref 50), (1, .int (nI s)), (2, .int (nI a)), (3, .int (nI t)), (4, .int (nI b)), (5, .int (nI c))] [.int (nI t)] μ0 rfl trivial ?_
  refine zq_call zt_X9_copy [.int (nI t)] [] (zs_isSheetm (nI t) μ0) rfl rfl ?_
  rintro _ _ ⟨rfl, rfl⟩
  refine zq_go zt_X9_copy 1 [] (if ¬ (zb (0 ≤ nI t ∧ nI t ≤ nI 3)) = 0 then 17 else 14) [(0, .ref 50), (1, .int (nI s)), (2, .int (nI a)), (3, .int (nI t)), (4, .int (nI b)), (5, .int (nI c))] [] μ0 rfl trivial ?_
  rw [if_pos (zb_n (yin (by omega) (by decide)))]
  refine zq_go zt_X9_copy 5 [vp_in (nI s) 4] (if (μ0.1 72 ((nI s).toNatClampNeg)) = 0 then 35 else 26) [(0, .ref 50), (1, .int (nI s)), (2, .int (nI a)), (3, .int (nI t)), (4, .int (nI b)), (5, .int (nI c))] [] μ0 rfl ⟨zn_in (k := s) rfl (by omega) (by decide), trivial⟩ ?_
  rw [zn_cl (n := s) (by omega), h72a]
  rw [if_neg (by decide)]
  refine zq_go zt_X9_copy 5 [vp_in (nI t) 4] (if ¬ (μ0.1 72 ((nI t).toNatClampNeg)) = 0 then 41 else 35) [(0, .ref 50), (1, .int (nI s)), (2, .int (nI a)), (3, .int (nI t)), (4, .int (nI b)), (5, .int (nI c))] [] μ0 rfl ⟨zn_in (k := t) rfl (by omega) (by decide), trivial⟩ ?_
  rw [zn_cl (n := t) (by omega), h72b]
  rw [if_pos (by decide)]
  refine zq_go zt_X9_copy 9 [vp_in (nI s) 4, vp_in (nI t) 4] (if (μ0.1 73 ((nI s).toNatClampNeg)) = (μ0.1 73 ((nI t).toNatClampNeg)) then 62 else 56) [(0, .ref 50), (1, .int (nI s)), (2, .int (nI a)), (3, .int (nI t)), (4, .int (nI b)), (5, .int (nI c))] [] μ0 rfl ⟨zn_in (k := s) rfl (by omega) (by decide), ⟨zn_in (k := t) rfl (by omega) (by decide), trivial⟩⟩ ?_
  rw [zn_cl (n := s) (by omega), h73a, zn_cl (n := t) (by omega), h73b]
  rw [if_pos (congrArg nI hq)]
  refine zq_go zt_X9_copy 2 [] (if (nI a) < 0 then 111 else 66) [(0, .ref 50), (1, .int (nI s)), (2, .int (nI a)), (3, .int (nI t)), (4, .int (nI b)), (5, .int (nI c))] [] μ0 rfl trivial ?_
  rw [if_neg (zn_notneg (by omega))]
  refine zq_go zt_X9_copy 2 [] (if (nI b) < 0 then 111 else 71) [(0, .ref 50), (1, .int (nI s)), (2, .int (nI a)), (3, .int (nI t)), (4, .int (nI b)), (5, .int (nI c))] [] μ0 rfl trivial ?_
  rw [if_neg (zn_notneg (by omega))]
  refine zq_go zt_X9_copy 2 [] (if (nI c) < 0 then 111 else 76) [(0, .ref 50), (1, .int (nI s)), (2, .int (nI a)), (3, .int (nI t)), (4, .int (nI b)), (5, .int (nI c))] [] μ0 rfl trivial ?_
  rw [if_neg (zn_notneg (by omega))]
  refine zq_go zt_X9_copy 12 [vp_in (nI s) 4] (if 0 < (lg_cmp (((nI a).toInt64) + ((nI c).toInt64)) ((μ0.1 74 ((nI s).toNatClampNeg)).toInt64)) then 111 else 93) [(0, .ref 50), (1, .int (nI s)), (2, .int (nI a)), (3, .int (nI t)), (4, .int (nI b)), (5, .int (nI c))] [] μ0 rfl ⟨zn_in (k := s) rfl (by omega) (by decide), trivial⟩ ?_
  rw [zn_cl (n := s) (by omega), h74a]
  rw [if_neg (by rw [zl_gt (by omega) (by omega) (by omega)]; omega)]
  refine zq_go zt_X9_copy 12 [vp_in (nI t) 4] (if (lg_cmp (((nI b).toInt64) + ((nI c).toInt64)) ((μ0.1 74 ((nI t).toNatClampNeg)).toInt64)) ≤ 0 then 117 else 111) [(0, .ref 50), (1, .int (nI s)), (2, .int (nI a)), (3, .int (nI t)), (4, .int (nI b)), (5, .int (nI c))] [] μ0 rfl ⟨zn_in (k := t) rfl (by omega) (by decide), trivial⟩ ?_
  rw [zn_cl (n := t) (by omega), h74b]
  rw [if_pos (by rw [zl_le (by omega) (by omega) (by omega)]; omega)]
  refine zq_go zt_X9_copy 2 [] 120 [(0, .ref 50), (1, .int (nI s)), (2, .int (nI a)), (3, .int (nI t)), (4, .int (nI b)), (5, .int (nI c)), (6, .int (nI 0))] [] μ0 rfl trivial ?_
  refine zs_copym_1 ls (by omega) (μ0 := μ0) (fun μ1 p1 => ?_) c 0 μ0 (by omega) ⟨zq_fr.rf, fun x hx => absurd hx (Nat.not_lt_zero x)⟩
  refine zq_go zt_X9_copy 2 [] 157 [(0, .ref 50), (1, .int (nI s)), (2, .int (nI a)), (3, .int (nI t)), (4, .int (nI b)), (5, .int (nI c)), (6, .int (nI 0))] [] μ1 rfl trivial ?_
  refine zs_copym_2 lt (by omega) (μ0 := μ1) (fun μ2 p2 => ?_) c 0 μ1 (by omega) ⟨zq_fr.rf, fun j => by rw [if_neg (by omega)]⟩
  obtain ⟨g1, a1⟩ := p1
  obtain ⟨g2, a2⟩ := p2
  have f9 : zq_fr [75, 76] μ0 μ2 := (g1.wk (by simp)).tr (g2.wk (by simp))
  have e75 : μ1.1 75 = μ0.1 75 := g1.a (by decide)
  have hI := hM.it (s := t) (by omega) (va_cpy (H.2.2.2.1 s) (H.2.2.2.1 t) a b c) f9 (fun j hj => by rw [a2, if_neg (by omega), e75]) (fun i hi9 => by
    rw [a2]
    by_cases q : b ≤ i ∧ i < b + c
    · rw [if_pos (by omega), pk_cpy_in q.1 q.2, show 60 * t + i - (60 * t + b) = i - b by omega, a1 (i - b) (by omega), Nat.add_assoc]
      exact h75a (a + (i - b)) (by omega)
    · rw [if_neg (by omega), pk_cpy_out (by omega), e75]
      exact h75b i hi9)
  refine zq_go zt_X9_copy 1 [] 193 [(0, .ref 50), (1, .int (nI s)), (2, .int (nI a)), (3, .int (nI t)), (4, .int (nI b)), (5, .int (nI c))] [.int (nI 1)] μ2 rfl trivial ?_
  exact zq_retn zt_X9_copy rfl rfl (⟨rfl, hI, f9.wk (by simp +contextual [zSM])⟩)
theorem zo_copy (v1 v2 v3 v4 v5 : Int32) : zop zn_X8_copy [(0, .ref 0), (1, .int v1), (2, .int v2), (3, .int v3), (4, .int v4), (5, .int v5)] zn_X9_copy [(0, .ref 50), (1, .int v1), (2, .int v2), (3, .int v3), (4, .int v4), (5, .int v5)] := by
  intro τ S H μ hC hM
  by_cases hg : (0 ≤ v1 ∧ v1 ≤ nI 3) ∧ (0 ≤ v3 ∧ v3 ≤ nI 3)
  · obtain ⟨s, ls, rfl⟩ := yix (by decide) hg.1
    obtain ⟨t, lt, rfl⟩ := yix (by decide) hg.2
    by_cases h : H.1 s = false ∨ H.1 t = false
    · exact ⟨_, τ, S, _, zs_copy_l ls lt h v2 v4 v5 hC, fun _ q => zs_copym_l ls lt h v2 v4 v5 q⟩
    · have ht : H.1 s = true := by
        cases q : H.1 s
        · exact absurd (Or.inl q) h
        · rfl
      have hu : H.1 t = true := by
        cases q : H.1 t
        · exact absurd (Or.inr q) h
        · rfl
      by_cases hq : H.2.1 s = H.2.1 t
      · by_cases hy : yfit (H.2.2.1 s) v2 v5 ∧ yfit (H.2.2.1 t) v4 v5
        · have hz1 := (hC.2.2.2.2.2.2.2.2.2 s (by omega)).2
          have hz2 := (hC.2.2.2.2.2.2.2.2.2 t (by omega)).2
          obtain ⟨a, c, rfl, rfl, h1⟩ := yfit_e hz1 hy.1
          obtain ⟨b, c', rfl, e, h2⟩ := yfit_e hz2 hy.2
          have e9 : c = c' := by
            rw [zn_eq (by omega) (by omega)] at e
            exact e
          subst e9
          exact ⟨_, τ, S, _, zs_copy ls lt ht hu hq h1 h2 hC, fun _ q => zs_copym ls lt ht hu hq h1 h2 q⟩
        · exact ⟨_, τ, S, _, zs_copy_i ls lt ht hu hq v2 v4 v5 hy hC, fun _ q => zs_copym_i ls lt ht hu hq v2 v4 v5 hy q⟩
      · exact ⟨_, τ, S, _, zs_copy_f ls lt ht hu hq v2 v4 v5 hC, fun _ q => zs_copym_f ls lt ht hu hq v2 v4 v5 q⟩
  · exact ⟨_, τ, S, H, zs_copy_b v1 v2 v3 v4 v5 hg hC, fun _ q => zs_copym_b v1 v2 v3 v4 v5 hg q⟩
