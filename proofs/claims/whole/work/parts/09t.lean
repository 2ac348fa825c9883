set_option maxRecDepth 100000 in
set_option maxHeartbeats 4000000 in
theorem zs_within (v a b : Int32) (μ : zq_Me) : zq_Wp zn_X8_within 0 [(0, .int v), (1, .int a), (2, .int b)] [] μ (zq_pi (zb (a ≤ v ∧ v ≤ b)) μ) := by
  refine zq_go zt_X8_within 3 [] (if v < a then 14 else 5) [(0, .int v), (1, .int a), (2, .int b)] [] μ rfl trivial ?_
  refine zq_ite (fun h1 => ?_) (fun h1 => ?_)
  · refine zq_go zt_X8_within 1 [] 15 [(0, .int v), (1, .int a), (2, .int b)] [.int (nI 0)] μ rfl trivial ?_
    have e9 : zb (a ≤ v ∧ v ≤ b) = 0 := zb_f (fun q => Int32.not_lt.mpr q.1 h1)
    exact zq_retz zt_X8_within rfl (Or.inl rfl) (by rw [e9]; exact ⟨rfl, rfl⟩)
  · refine zq_go zt_X8_within 3 [] (if b < v then 14 else 10) [(0, .int v), (1, .int a), (2, .int b)] [] μ rfl trivial ?_
    refine zq_ite (fun h6 => ?_) (fun h6 => ?_)
    · refine zq_go zt_X8_within 1 [] 15 [(0, .int v), (1, .int a), (2, .int b)] [.int (nI 0)] μ rfl trivial ?_
      have e9 : zb (a ≤ v ∧ v ≤ b) = 0 := zb_f (fun q => Int32.not_lt.mpr q.2 h6)
      exact zq_retz zt_X8_within rfl (Or.inl rfl) (by rw [e9]; exact ⟨rfl, rfl⟩)
    · refine zq_go zt_X8_within 2 [] 15 [(0, .int v), (1, .int a), (2, .int b)] [.int (nI 1)] μ rfl trivial ?_
      have e9 : zb (a ≤ v ∧ v ≤ b) = 1 := zb_t ⟨Int32.not_lt.mp h1, Int32.not_lt.mp h6⟩
      exact zq_retz zt_X8_within rfl (Or.inr rfl) (by rw [e9]; exact ⟨rfl, rfl⟩)
set_option maxRecDepth 100000 in
set_option maxHeartbeats 4000000 in
theorem zs_in (v a b : Int32) (μ : zq_Me) : zq_Wp zn_X9_in 0 [(0, .int v), (1, .int a), (2, .int b)] [] μ (zq_pi (zb (a ≤ v ∧ v ≤ b)) μ) := by
  refine zq_go zt_X9_in 3 [] (if v < a then 14 else 5) [(0, .int v), (1, .int a), (2, .int b)] [] μ rfl trivial ?_
  refine zq_ite (fun h1 => ?_) (fun h1 => ?_)
  · refine zq_go zt_X9_in 1 [] 15 [(0, .int v), (1, .int a), (2, .int b)] [.int (nI 0)] μ rfl trivial ?_
    have e9 : zb (a ≤ v ∧ v ≤ b) = 0 := zb_f (fun q => Int32.not_lt.mpr q.1 h1)
    exact zq_retz zt_X9_in rfl (Or.inl rfl) (by rw [e9]; exact ⟨rfl, rfl⟩)
  · refine zq_go zt_X9_in 3 [] (if b < v then 14 else 10) [(0, .int v), (1, .int a), (2, .int b)] [] μ rfl trivial ?_
    refine zq_ite (fun h6 => ?_) (fun h6 => ?_)
    · refine zq_go zt_X9_in 1 [] 15 [(0, .int v), (1, .int a), (2, .int b)] [.int (nI 0)] μ rfl trivial ?_
      have e9 : zb (a ≤ v ∧ v ≤ b) = 0 := zb_f (fun q => Int32.not_lt.mpr q.2 h6)
      exact zq_retz zt_X9_in rfl (Or.inl rfl) (by rw [e9]; exact ⟨rfl, rfl⟩)
    · refine zq_go zt_X9_in 2 [] 15 [(0, .int v), (1, .int a), (2, .int b)] [.int (nI 1)] μ rfl trivial ?_
      have e9 : zb (a ≤ v ∧ v ≤ b) = 1 := zb_t ⟨Int32.not_lt.mp h1, Int32.not_lt.mp h6⟩
      exact zq_retz zt_X9_in rfl (Or.inr rfl) (by rw [e9]; exact ⟨rfl, rfl⟩)
set_option maxRecDepth 100000 in
set_option maxHeartbeats 4000000 in
theorem zs_roomOf (μ : zq_Me) (R : Nat → Int32) (hR : ∀ i, μ.1 34 i = R i) (h p : Nat) (hh : h < 24) (hp : p < 8) : zq_Wp zn_X7_roomOf 0 [(0, .ref 33), (1, .int (nI h)), (2, .int (nI p))] [] μ (zq_pi (R (h * 8 + p)) μ) := by
  refine zq_go zt_X7_roomOf 8 [vp_in (((nI h) * (nI 8)) + (nI p)) 192] 11 [(0, .ref 33), (1, .int (nI h)), (2, .int (nI p))] [.int (μ.1 34 ((((nI h) * (nI 8)) + (nI p)).toNatClampNeg))] μ rfl ⟨zn_in (k := (h * 8) + p) (by rw [zn_mul h 8, zn_add (h * 8) p]) (by omega) (by decide), trivial⟩ ?_
  rw [zn_mul h 8, zn_add (h * 8) p, zn_cl (n := (h * 8) + p) (by omega), hR ((h * 8) + p)]
  exact zq_retn zt_X7_roomOf rfl rfl (⟨rfl, rfl⟩)
