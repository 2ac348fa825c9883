/-! ===== read, write, count ===== -/
noncomputable def yrd (it : Nat → Int32) (z : Nat) : Nat → Nat → zES → Nat × zES
  | 0, n, E => (n, E)
  | j + 1, n, E => if 3 * n + 2 < z then (if (vEv E (it (3 * n)) (it (3 * n + 1)) (it (3 * n + 2))).1 < 0 then (n, E) else yrd it z j (n + 1) (vEv E (it (3 * n)) (it (3 * n + 1)) (it (3 * n + 2))).2) else (n, E)
theorem yrd_s (it : Nat → Int32) (z j n : Nat) (E : zES) : yrd it z (j + 1) n E = if 3 * n + 2 < z then (if (vEv E (it (3 * n)) (it (3 * n + 1)) (it (3 * n + 2))).1 < 0 then (n, E) else yrd it z j (n + 1) (vEv E (it (3 * n)) (it (3 * n + 1)) (it (3 * n + 2))).2) else (n, E) := rfl
def ymn (z : Nat) : Nat := if 24 < z then 24 else z
theorem ymin {z : Nat} (h : z < 2 ^ 31) : (if nI 24 < nI z then nI 24 else nI z) = nI (ymn z) := by
  unfold ymn
  by_cases q : 24 < z
  · rw [if_pos (by rw [zn_lt (by decide) h]; exact q), if_pos q]
  · rw [if_neg (by rw [zn_lt (by decide) h]; exact q), if_neg q]
theorem ymn_le (z : Nat) : ymn z ≤ 24 ∧ ymn z ≤ z ∧ (ymn z = 24 ∨ ymn z = z) := by unfold ymn; split <;> omega
def ywr (H : zSH) (s : Nat) (R : Nat → Nat) (m : Nat) : Nat → Int32 := fun i => if i < m then znr (H.2.1 s) (nI (R i)) else H.2.2.2.1 s i
def yeh8 (np : Nat) (R : Nat → Nat → Nat) : Nat → Nat
  | 0 => 0
  | r + 1 => yeh8 np R r + zc (zemp np R r).testBit 24
theorem yeh8_le (np : Nat) (R : Nat → Nat → Nat) : ∀ r, yeh8 np R r ≤ 24 * r
  | 0 => Nat.le_refl 0
  | r + 1 => by
    have h1 := yeh8_le np R r
    have h2 : zc (zemp np R r).testBit 24 ≤ 24 := zc_le _ _
    show yeh8 np R r + zc (zemp np R r).testBit 24 ≤ 24 * (r + 1)
    omega
theorem zemp_lt (np : Nat) (R : Nat → Nat → Nat) (r : Nat) : zemp np R r < 2 ^ 24 := zm_lt _ _
theorem ytgt {v : Int32} (h : ¬ (0 ≤ v ∧ v ≤ nI 8)) : v.toInt < 0 ∨ 8 < v.toInt := by
  rw [Int32.le_iff_toInt_le, Int32.le_iff_toInt_le, show (0 : Int32).toInt = 0 from rfl, show (nI 8).toInt = 8 by decide] at h
  omega
set_option maxRecDepth 100000 in
set_option maxHeartbeats 400000 in
theorem zs_read_l_0 {τ : zTd} {S : zES} {H : zSH} {μ0 : zq_Me} (ht : H.1 0 = true) : ∀ (j n : Nat) (E : zES) (μ : zq_Me), n + j = 21 → zIc (τ.1, τ.2.1, τ.2.2.1, E) S H μ → zq_fr zSC μ0 μ → zq_Wp zn_X8_read 35 [(0, .ref 0), (1, .int (nI 0)), (2, .ref 25), (3, .int (nI n)), (4, .int (nI (3 * n)))] [] μ (zRc (.int (nI (yrd (H.2.2.2.1 0) (H.2.2.1 0) j n E).1)) (τ.1, τ.2.1, τ.2.2.1, (yrd (H.2.2.2.1 0) (H.2.2.1 0) j n E).2) S H μ0) := by
  intro j
  induction j with
  | zero =>
    intro n E μ hj hI hf
    have hz := (hI.2.2.2.2.2.2.2.2.2 0 (by decide)).2
    have hs1 : μ.1 25 1 = nI (H.2.1 0) := ((hI.2.2.2.2.2.2.2.2.1.1 0 (by decide)).1 ht).1
    have hs2 : μ.1 25 2 = nI (H.2.2.1 0) := ((hI.2.2.2.2.2.2.2.2.1.1 0 (by decide)).1 ht).2
    have hi : ∀ i, i < 60 → μ.1 26 i = H.2.2.2.1 0 i := (hI.2.2.2.2.2.2.2.2.1.1 0 (by decide)).2.2
    have hfm := (hI.2.2.2.2.2.2.2.2.2 0 (by decide)).1
    refine zq_go zt_X8_read 6 [] (if (μ.1 25 2) ≤ ((nI (3 * n)) + (nI 2)) then 90 else 46) [(0, .ref 0), (1, .int (nI 0)), (2, .ref 25), (3, .int (nI n)), (4, .int (nI (3 * n)))] [] μ rfl trivial ?_
    rw [zn_add (3 * n) 2, hs2]
    rw [if_pos (by rw [zn_le (by omega) (by omega)]; omega)]
    refine zq_go zt_X8_read 1 [] 91 [(0, .ref 0), (1, .int (nI 0)), (2, .ref 25), (3, .int (nI n)), (4, .int (nI (3 * n)))] [.int (nI n)] μ rfl trivial ?_
    exact zq_retn zt_X8_read rfl rfl (⟨rfl, hI, hf⟩)
  | succ j ih =>
    intro n E μ hj hI hf
    have hz := (hI.2.2.2.2.2.2.2.2.2 0 (by decide)).2
    have hs1 : μ.1 25 1 = nI (H.2.1 0) := ((hI.2.2.2.2.2.2.2.2.1.1 0 (by decide)).1 ht).1
    have hs2 : μ.1 25 2 = nI (H.2.2.1 0) := ((hI.2.2.2.2.2.2.2.2.1.1 0 (by decide)).1 ht).2
    have hi : ∀ i, i < 60 → μ.1 26 i = H.2.2.2.1 0 i := (hI.2.2.2.2.2.2.2.2.1.1 0 (by decide)).2.2
    have hfm := (hI.2.2.2.2.2.2.2.2.2 0 (by decide)).1
    have hE8 : E.1 ≤ 8 := hI.2.2.2.1.2
    rw [yrd_s]
    refine zq_go zt_X8_read 6 [] (if (μ.1 25 2) ≤ ((nI (3 * n)) + (nI 2)) then 90 else 46) [(0, .ref 0), (1, .int (nI 0)), (2, .ref 25), (3, .int (nI n)), (4, .int (nI (3 * n)))] [] μ rfl trivial ?_
    rw [zn_add (3 * n) 2, hs2]
    refine zq_ite (fun h25 => ?_) (fun h25 => ?_)
    · rw [zn_le (by omega) (by omega)] at h25
      rw [if_neg (by omega)]
      refine zq_go zt_X8_read 1 [] 91 [(0, .ref 0), (1, .int (nI 0)), (2, .ref 25), (3, .int (nI n)), (4, .int (nI (3 * n)))] [.int (nI n)] μ rfl trivial ?_
      exact zq_retn zt_X8_read rfl rfl (⟨rfl, hI, hf⟩)
    · rw [zn_le (by omega) (by omega)] at h25
      have h3 : 3 * n + 2 < H.2.2.1 0 := by omega
      rw [if_pos h3]
      refine zq_go zt_X8_read 17 [vp_in (nI (3 * n)) 60, vp_in ((nI (3 * n)) + (nI 1)) 60, vp_in ((nI (3 * n)) + (nI 2)) 60] 72 [(0, .ref 0), (1, .int (nI 0)), (2, .ref 25), (3, .int (nI n)), (4, .int (nI (3 * n)))] [.int (μ.1 26 (((nI (3 * n)) + (nI 2)).toNatClampNeg)), .int (μ.1 26 (((nI (3 * n)) + (nI 1)).toNatClampNeg)), .int (μ.1 26 ((nI (3 * n)).toNatClampNeg)), .ref 0] μ rfl ⟨zn_in (k := 3 * n) rfl (by omega) (by decide), ⟨zn_in (k := (3 * n) + 1) (by rw [zn_add (3 * n) 1]) (by omega) (by decide), ⟨zn_in (k := (3 * n) + 2) (by rw [zn_add (3 * n) 2]) (by omega) (by decide), trivial⟩⟩⟩ ?_
      rw [zn_add (3 * n) 2, zn_cl (n := (3 * n) + 2) (by omega), hi ((3 * n) + 2) (by omega), zn_add (3 * n) 1, zn_cl (n := (3 * n) + 1) (by omega), hi ((3 * n) + 1) (by omega), zn_cl (n := 3 * n) (by omega), hi (3 * n) (by omega)]
      refine zq_call zt_X8_read [.ref 0, .int (H.2.2.2.1 0 (3 * n)), .int (H.2.2.2.1 0 ((3 * n) + 1)), .int (H.2.2.2.1 0 ((3 * n) + 2))] [] (zs_evc (H.2.2.2.1 0 (3 * n)) (H.2.2.2.1 0 (3 * n + 1)) (H.2.2.2.1 0 (3 * n + 2)) hI) rfl rfl ?_
      rintro _ ν ⟨rfl, hJ, g1⟩
      obtain ⟨b8, bb⟩ := vEv_b hE8 (H.2.2.2.1 0 (3 * n)) (H.2.2.2.1 0 (3 * n + 1)) (H.2.2.2.1 0 (3 * n + 2))
      refine zq_go zt_X8_read 1 [] (if 0 ≤ ((vEv E (H.2.2.2.1 0 (3 * n)) (H.2.2.2.1 0 (3 * n + 1)) (H.2.2.2.1 0 (3 * n + 2))).1) then 81 else 78) [(0, .ref 0), (1, .int (nI 0)), (2, .ref 25), (3, .int (nI n)), (4, .int (nI (3 * n)))] [] ν rfl trivial ?_
      refine zq_ite (fun h39 => ?_) (fun h39 => ?_)
      · rw [if_neg (Int32.not_lt.mpr h39)]
        refine zq_go zt_X8_read 3 [] 35 [(0, .ref 0), (1, .int (nI 0)), (2, .ref 25), (3, .int ((nI n) + (nI 1))), (4, .int ((nI (3 * n)) + (nI 3)))] [] ν rfl trivial ?_
        rw [zn_add n 1, zn_add (3 * n) 3]
        exact ih (n + 1) (vEv E (H.2.2.2.1 0 (3 * n)) (H.2.2.2.1 0 (3 * n + 1)) (H.2.2.2.1 0 (3 * n + 2))).2 ν (by omega) hJ (hf.tr g1)
      · have h9 := Int32.not_le.mp h39
        rw [if_pos h9]
        have e9 : (vEv E (H.2.2.2.1 0 (3 * n)) (H.2.2.2.1 0 (3 * n + 1)) (H.2.2.2.1 0 (3 * n + 2))).2 = E := by
          rcases bb with q | q
          · exact q.2
          · exact absurd h9 q.1
        have hJ9 : zIc (τ.1, τ.2.1, τ.2.2.1, E) S H ν := by
          have hJ8 : zIc (τ.1, τ.2.1, τ.2.2.1, (vEv E (H.2.2.2.1 0 (3 * n)) (H.2.2.2.1 0 (3 * n + 1)) (H.2.2.2.1 0 (3 * n + 2))).2) S H ν := hJ
          rw [e9] at hJ8
          exact hJ8
        refine zq_go zt_X8_read 1 [] 90 [(0, .ref 0), (1, .int (nI 0)), (2, .ref 25), (3, .int (nI n)), (4, .int (nI (3 * n)))] [] ν rfl trivial ?_
        refine zq_go zt_X8_read 1 [] 91 [(0, .ref 0), (1, .int (nI 0)), (2, .ref 25), (3, .int (nI n)), (4, .int (nI (3 * n)))] [.int (nI n)] ν rfl trivial ?_
        exact zq_retn zt_X8_read rfl rfl (⟨rfl, hJ9, hf.tr g1⟩)
set_option maxRecDepth 100000 in
set_option maxHeartbeats 400000 in
theorem zs_read_l_1 {τ : zTd} {S : zES} {H : zSH} {μ0 : zq_Me} (ht : H.1 1 = true) : ∀ (j n : Nat) (E : zES) (μ : zq_Me), n + j = 21 → zIc (τ.1, τ.2.1, τ.2.2.1, E) S H μ → zq_fr zSC μ0 μ → zq_Wp zn_X8_read 35 [(0, .ref 0), (1, .int (nI 1)), (2, .ref 27), (3, .int (nI n)), (4, .int (nI (3 * n)))] [] μ (zRc (.int (nI (yrd (H.2.2.2.1 1) (H.2.2.1 1) j n E).1)) (τ.1, τ.2.1, τ.2.2.1, (yrd (H.2.2.2.1 1) (H.2.2.1 1) j n E).2) S H μ0) := by
  intro j
  induction j with
  | zero =>
    intro n E μ hj hI hf
    have hz := (hI.2.2.2.2.2.2.2.2.2 1 (by decide)).2
    have hs1 : μ.1 27 1 = nI (H.2.1 1) := ((hI.2.2.2.2.2.2.2.2.1.1 1 (by decide)).1 ht).1
    have hs2 : μ.1 27 2 = nI (H.2.2.1 1) := ((hI.2.2.2.2.2.2.2.2.1.1 1 (by decide)).1 ht).2
    have hi : ∀ i, i < 60 → μ.1 28 i = H.2.2.2.1 1 i := (hI.2.2.2.2.2.2.2.2.1.1 1 (by decide)).2.2
    have hfm := (hI.2.2.2.2.2.2.2.2.2 1 (by decide)).1
    refine zq_go zt_X8_read 6 [] (if (μ.1 27 2) ≤ ((nI (3 * n)) + (nI 2)) then 90 else 46) [(0, .ref 0), (1, .int (nI 1)), (2, .ref 27), (3, .int (nI n)), (4, .int (nI (3 * n)))] [] μ rfl trivial ?_
    rw [zn_add (3 * n) 2, hs2]
    rw [if_pos (by rw [zn_le (by omega) (by omega)]; omega)]
    refine zq_go zt_X8_read 1 [] 91 [(0, .ref 0), (1, .int (nI 1)), (2, .ref 27), (3, .int (nI n)), (4, .int (nI (3 * n)))] [.int (nI n)] μ rfl trivial ?_
    exact zq_retn zt_X8_read rfl rfl (⟨rfl, hI, hf⟩)
  | succ j ih =>
    intro n E μ hj hI hf
    have hz := (hI.2.2.2.2.2.2.2.2.2 1 (by decide)).2
    have hs1 : μ.1 27 1 = nI (H.2.1 1) := ((hI.2.2.2.2.2.2.2.2.1.1 1 (by decide)).1 ht).1
    have hs2 : μ.1 27 2 = nI (H.2.2.1 1) := ((hI.2.2.2.2.2.2.2.2.1.1 1 (by decide)).1 ht).2
    have hi : ∀ i, i < 60 → μ.1 28 i = H.2.2.2.1 1 i := (hI.2.2.2.2.2.2.2.2.1.1 1 (by decide)).2.2
    have hfm := (hI.2.2.2.2.2.2.2.2.2 1 (by decide)).1
    have hE8 : E.1 ≤ 8 := hI.2.2.2.1.2
    rw [yrd_s]
    refine zq_go zt_X8_read 6 [] (if (μ.1 27 2) ≤ ((nI (3 * n)) + (nI 2)) then 90 else 46) [(0, .ref 0), (1, .int (nI 1)), (2, .ref 27), (3, .int (nI n)), (4, .int (nI (3 * n)))] [] μ rfl trivial ?_
    rw [zn_add (3 * n) 2, hs2]
    refine zq_ite (fun h25 => ?_) (fun h25 => ?_)
    · rw [zn_le (by omega) (by omega)] at h25
      rw [if_neg (by omega)]
      refine zq_go zt_X8_read 1 [] 91 [(0, .ref 0), (1, .int (nI 1)), (2, .ref 27), (3, .int (nI n)), (4, .int (nI (3 * n)))] [.int (nI n)] μ rfl trivial ?_
      exact zq_retn zt_X8_read rfl rfl (⟨rfl, hI, hf⟩)
    · rw [zn_le (by omega) (by omega)] at h25
      have h3 : 3 * n + 2 < H.2.2.1 1 := by omega
      rw [if_pos h3]
      refine zq_go zt_X8_read 17 [vp_in (nI (3 * n)) 60, vp_in ((nI (3 * n)) + (nI 1)) 60, vp_in ((nI (3 * n)) + (nI 2)) 60] 72 [(0, .ref 0), (1, .int (nI 1)), (2, .ref 27), (3, .int (nI n)), (4, .int (nI (3 * n)))] [.int (μ.1 28 (((nI (3 * n)) + (nI 2)).toNatClampNeg)), .int (μ.1 28 (((nI (3 * n)) + (nI 1)).toNatClampNeg)), .int (μ.1 28 ((nI (3 * n)).toNatClampNeg)), .ref 0] μ rfl ⟨zn_in (k := 3 * n) rfl (by omega) (by decide), ⟨zn_in (k := (3 * n) + 1) (by rw [zn_add (3 * n) 1]) (by omega) (by decide), ⟨zn_in (k := (3 * n) + 2) (by rw [zn_add (3 * n) 2]) (by omega) (by decide), trivial⟩⟩⟩ ?_
      rw [zn_add (3 * n) 2, zn_cl (n := (3 * n) + 2) (by omega), hi ((3 * n) + 2) (by omega), zn_add (3 * n) 1, zn_cl (n := (3 * n) + 1) (by omega), hi ((3 * n) + 1) (by omega), zn_cl (n := 3 * n) (by omega), hi (3 * n) (by omega)]
      refine zq_call zt_X8_read [.ref 0, .int (H.2.2.2.1 1 (3 * n)), .int (H.2.2.2.1 1 ((3 * n) + 1)), .int (H.2.2.2.1 1 ((3 * n) + 2))] [] (zs_evc (H.2.2.2.1 1 (3 * n)) (H.2.2.2.1 1 (3 * n + 1)) (H.2.2.2.1 1 (3 * n + 2)) hI) rfl rfl ?_
      rintro _ ν ⟨rfl, hJ, g1⟩
      obtain ⟨b8, bb⟩ := vEv_b hE8 (H.2.2.2.1 1 (3 * n)) (H.2.2.2.1 1 (3 * n + 1)) (H.2.2.2.1 1 (3 * n + 2))
      refine zq_go zt_X8_read 1 [] (if 0 ≤ ((vEv E (H.2.2.2.1 1 (3 * n)) (H.2.2.2.1 1 (3 * n + 1)) (H.2.2.2.1 1 (3 * n + 2))).1) then 81 else 78) [(0, .ref 0), (1, .int (nI 1)), (2, .ref 27), (3, .int (nI n)), (4, .int (nI (3 * n)))] [] ν rfl trivial ?_
      refine zq_ite (fun h39 => ?_) (fun h39 => ?_)
      · rw [if_neg (Int32.not_lt.mpr h39)]
        refine zq_go zt_X8_read 3 [] 35 [(0, .ref 0), (1, .int (nI 1)), (2, .ref 27), (3, .int ((nI n) + (nI 1))), (4, .int ((nI (3 * n)) + (nI 3)))] [] ν rfl trivial ?_
        rw [zn_add n 1, zn_add (3 * n) 3]
        exact ih (n + 1) (vEv E (H.2.2.2.1 1 (3 * n)) (H.2.2.2.1 1 (3 * n + 1)) (H.2.2.2.1 1 (3 * n + 2))).2 ν (by omega) hJ (hf.tr g1)
      · have h9 := Int32.not_le.mp h39
        rw [if_pos h9]
        have e9 : (vEv E (H.2.2.2.1 1 (3 * n)) (H.2.2.2.1 1 (3 * n + 1)) (H.2.2.2.1 1 (3 * n + 2))).2 = E := by
          rcases bb with q | q
          · exact q.2
          · exact absurd h9 q.1
        have hJ9 : zIc (τ.1, τ.2.1, τ.2.2.1, E) S H ν := by
          have hJ8 : zIc (τ.1, τ.2.1, τ.2.2.1, (vEv E (H.2.2.2.1 1 (3 * n)) (H.2.2.2.1 1 (3 * n + 1)) (H.2.2.2.1 1 (3 * n + 2))).2) S H ν := hJ
          rw [e9] at hJ8
          exact hJ8
        refine zq_go zt_X8_read 1 [] 90 [(0, .ref 0), (1, .int (nI 1)), (2, .ref 27), (3, .int (nI n)), (4, .int (nI (3 * n)))] [] ν rfl trivial ?_
        refine zq_go zt_X8_read 1 [] 91 [(0, .ref 0), (1, .int (nI 1)), (2, .ref 27), (3, .int (nI n)), (4, .int (nI (3 * n)))] [.int (nI n)] ν rfl trivial ?_
        exact zq_retn zt_X8_read rfl rfl (⟨rfl, hJ9, hf.tr g1⟩)
set_option maxRecDepth 100000 in
set_option maxHeartbeats 400000 in
theorem zs_read_l_2 {τ : zTd} {S : zES} {H : zSH} {μ0 : zq_Me} (ht : H.1 2 = true) : ∀ (j n : Nat) (E : zES) (μ : zq_Me), n + j = 21 → zIc (τ.1, τ.2.1, τ.2.2.1, E) S H μ → zq_fr zSC μ0 μ → zq_Wp zn_X8_read 35 [(0, .ref 0), (1, .int (nI 2)), (2, .ref 29), (3, .int (nI n)), (4, .int (nI (3 * n)))] [] μ (zRc (.int (nI (yrd (H.2.2.2.1 2) (H.2.2.1 2) j n E).1)) (τ.1, τ.2.1, τ.2.2.1, (yrd (H.2.2.2.1 2) (H.2.2.1 2) j n E).2) S H μ0) := by
  intro j
  induction j with
  | zero =>
    intro n E μ hj hI hf
    have hz := (hI.2.2.2.2.2.2.2.2.2 2 (by decide)).2
    have hs1 : μ.1 29 1 = nI (H.2.1 2) := ((hI.2.2.2.2.2.2.2.2.1.1 2 (by decide)).1 ht).1
    have hs2 : μ.1 29 2 = nI (H.2.2.1 2) := ((hI.2.2.2.2.2.2.2.2.1.1 2 (by decide)).1 ht).2
    have hi : ∀ i, i < 60 → μ.1 30 i = H.2.2.2.1 2 i := (hI.2.2.2.2.2.2.2.2.1.1 2 (by decide)).2.2
    have hfm := (hI.2.2.2.2.2.2.2.2.2 2 (by decide)).1
    refine zq_go zt_X8_read 6 [] (if (μ.1 29 2) ≤ ((nI (3 * n)) + (nI 2)) then 90 else 46) [(0, .ref 0), (1, .int (nI 2)), (2, .ref 29), (3, .int (nI n)), (4, .int (nI (3 * n)))] [] μ rfl trivial ?_
    rw [zn_add (3 * n) 2, hs2]
    rw [if_pos (by rw [zn_le (by omega) (by omega)]; omega)]
    refine zq_go zt_X8_read 1 [] 91 [(0, .ref 0), (1, .int (nI 2)), (2, .ref 29), (3, .int (nI n)), (4, .int (nI (3 * n)))] [.int (nI n)] μ rfl trivial ?_
    exact zq_retn zt_X8_read rfl rfl (⟨rfl, hI, hf⟩)
  | succ j ih =>
    intro n E μ hj hI hf
    have hz := (hI.2.2.2.2.2.2.2.2.2 2 (by decide)).2
    have hs1 : μ.1 29 1 = nI (H.2.1 2) := ((hI.2.2.2.2.2.2.2.2.1.1 2 (by decide)).1 ht).1
    have hs2 : μ.1 29 2 = nI (H.2.2.1 2) := ((hI.2.2.2.2.2.2.2.2.1.1 2 (by decide)).1 ht).2
    have hi : ∀ i, i < 60 → μ.1 30 i = H.2.2.2.1 2 i := (hI.2.2.2.2.2.2.2.2.1.1 2 (by decide)).2.2
    have hfm := (hI.2.2.2.2.2.2.2.2.2 2 (by decide)).1
    have hE8 : E.1 ≤ 8 := hI.2.2.2.1.2
    rw [yrd_s]
    refine zq_go zt_X8_read 6 [] (if (μ.1 29 2) ≤ ((nI (3 * n)) + (nI 2)) then 90 else 46) [(0, .ref 0), (1, .int (nI 2)), (2, .ref 29), (3, .int (nI n)), (4, .int (nI (3 * n)))] [] μ rfl trivial ?_
    rw [zn_add (3 * n) 2, hs2]
    refine zq_ite (fun h25 => ?_) (fun h25 => ?_)
    · rw [zn_le (by omega) (by omega)] at h25
      rw [if_neg (by omega)]
      refine zq_go zt_X8_read 1 [] 91 [(0, .ref 0), (1, .int (nI 2)), (2, .ref 29), (3, .int (nI n)), (4, .int (nI (3 * n)))] [.int (nI n)] μ rfl trivial ?_
      exact zq_retn zt_X8_read rfl rfl (⟨rfl, hI, hf⟩)
    · rw [zn_le (by omega) (by omega)] at h25
      have h3 : 3 * n + 2 < H.2.2.1 2 := by omega
      rw [if_pos h3]
      refine zq_go zt_X8_read 17 [vp_in (nI (3 * n)) 60, vp_in ((nI (3 * n)) + (nI 1)) 60, vp_in ((nI (3 * n)) + (nI 2)) 60] 72 [(0, .ref 0), (1, .int (nI 2)), (2, .ref 29), (3, .int (nI n)), (4, .int (nI (3 * n)))] [.int (μ.1 30 (((nI (3 * n)) + (nI 2)).toNatClampNeg)), .int (μ.1 30 (((nI (3 * n)) + (nI 1)).toNatClampNeg)), .int (μ.1 30 ((nI (3 * n)).toNatClampNeg)), .ref 0] μ rfl ⟨zn_in (k := 3 * n) rfl (by omega) (by decide), ⟨zn_in (k := (3 * n) + 1) (by rw [zn_add (3 * n) 1]) (by omega) (by decide), ⟨zn_in (k := (3 * n) + 2) (by rw [zn_add (3 * n) 2]) (by omega) (by decide), trivial⟩⟩⟩ ?_
      rw [zn_add (3 * n) 2, zn_cl (n := (3 * n) + 2) (by omega), hi ((3 * n) + 2) (by omega), zn_add (3 * n) 1, zn_cl (n := (3 * n) + 1) (by omega), hi ((3 * n) + 1) (by omega), zn_cl (n := 3 * n) (by omega), hi (3 * n) (by omega)]
      refine zq_call zt_X8_read [.ref 0, .int (H.2.2.2.1 2 (3 * n)), .int (H.2.2.2.1 2 ((3 * n) + 1)), .int (H.2.2.2.1 2 ((3 * n) + 2))] [] (zs_evc (H.2.2.2.1 2 (3 * n)) (H.2.2.2.1 2 (3 * n + 1)) (H.2.2.2.1 2 (3 * n + 2)) hI) rfl rfl ?_
      rintro _ ν ⟨rfl, hJ, g1⟩
      obtain ⟨b8, bb⟩ := vEv_b hE8 (H.2.2.2.1 2 (3 * n)) (H.2.2.2.1 2 (3 * n + 1)) (H.2.2.2.1 2 (3 * n + 2))
      refine zq_go zt_X8_read 1 [] (if 0 ≤ ((vEv E (H.2.2.2.1 2 (3 * n)) (H.2.2.2.1 2 (3 * n + 1)) (H.2.2.2.1 2 (3 * n + 2))).1) then 81 else 78) [(0, .ref 0), (1, .int (nI 2)), (2, .ref 29), (3, .int (nI n)), (4, .int (nI (3 * n)))] [] ν rfl trivial ?_
      refine zq_ite (fun h39 => ?_) (fun h39 => ?_)
      · rw [if_neg (Int32.not_lt.mpr h39)]
        refine zq_go zt_X8_read 3 [] 35 [(0, .ref 0), (1, .int (nI 2)), (2, .ref 29), (3, .int ((nI n) + (nI 1))), (4, .int ((nI (3 * n)) + (nI 3)))] [] ν rfl trivial ?_
        rw [zn_add n 1, zn_add (3 * n) 3]
        exact ih (n + 1) (vEv E (H.2.2.2.1 2 (3 * n)) (H.2.2.2.1 2 (3 * n + 1)) (H.2.2.2.1 2 (3 * n + 2))).2 ν (by omega) hJ (hf.tr g1)
      · have h9 := Int32.not_le.mp h39
        rw [if_pos h9]
        have e9 : (vEv E (H.2.2.2.1 2 (3 * n)) (H.2.2.2.1 2 (3 * n + 1)) (H.2.2.2.1 2 (3 * n + 2))).2 = E := by
          rcases bb with q | q
          · exact q.2
          · exact absurd h9 q.1
        have hJ9 : zIc (τ.1, τ.2.1, τ.2.2.1, E) S H ν := by
          have hJ8 : zIc (τ.1, τ.2.1, τ.2.2.1, (vEv E (H.2.2.2.1 2 (3 * n)) (H.2.2.2.1 2 (3 * n + 1)) (H.2.2.2.1 2 (3 * n + 2))).2) S H ν := hJ
          rw [e9] at hJ8
          exact hJ8
        refine zq_go zt_X8_read 1 [] 90 [(0, .ref 0), (1, .int (nI 2)), (2, .ref 29), (3, .int (nI n)), (4, .int (nI (3 * n)))] [] ν rfl trivial ?_
        refine zq_go zt_X8_read 1 [] 91 [(0, .ref 0), (1, .int (nI 2)), (2, .ref 29), (3, .int (nI n)), (4, .int (nI (3 * n)))] [.int (nI n)] ν rfl trivial ?_
        exact zq_retn zt_X8_read rfl rfl (⟨rfl, hJ9, hf.tr g1⟩)
set_option maxRecDepth 100000 in
set_option maxHeartbeats 400000 in
theorem zs_read_l_3 {τ : zTd} {S : zES} {H : zSH} {μ0 : zq_Me} (ht : H.1 3 = true) : ∀ (j n : Nat) (E : zES) (μ : zq_Me), n + j = 21 → zIc (τ.1, τ.2.1, τ.2.2.1, E) S H μ → zq_fr zSC μ0 μ → zq_Wp zn_X8_read 35 [(0, .ref 0), (1, .int (nI 3)), (2, .ref 31), (3, .int (nI n)), (4, .int (nI (3 * n)))] [] μ (zRc (.int (nI (yrd (H.2.2.2.1 3) (H.2.2.1 3) j n E).1)) (τ.1, τ.2.1, τ.2.2.1, (yrd (H.2.2.2.1 3) (H.2.2.1 3) j n E).2) S H μ0) := by
  intro j
  induction j with
  | zero =>
    intro n E μ hj hI hf
    have hz := (hI.2.2.2.2.2.2.2.2.2 3 (by decide)).2
    have hs1 : μ.1 31 1 = nI (H.2.1 3) := ((hI.2.2.2.2.2.2.2.2.1.1 3 (by decide)).1 ht).1
    have hs2 : μ.1 31 2 = nI (H.2.2.1 3) := ((hI.2.2.2.2.2.2.2.2.1.1 3 (by decide)).1 ht).2
    have hi : ∀ i, i < 60 → μ.1 32 i = H.2.2.2.1 3 i := (hI.2.2.2.2.2.2.2.2.1.1 3 (by decide)).2.2
    have hfm := (hI.2.2.2.2.2.2.2.2.2 3 (by decide)).1
    refine zq_go zt_X8_read 6 [] (if (μ.1 31 2) ≤ ((nI (3 * n)) + (nI 2)) then 90 else 46) [(0, .ref 0), (1, .int (nI 3)), (2, .ref 31), (3, .int (nI n)), (4, .int (nI (3 * n)))] [] μ rfl trivial ?_
    rw [zn_add (3 * n) 2, hs2]
    rw [if_pos (by rw [zn_le (by omega) (by omega)]; omega)]
    refine zq_go zt_X8_read 1 [] 91 [(0, .ref 0), (1, .int (nI 3)), (2, .ref 31), (3, .int (nI n)), (4, .int (nI (3 * n)))] [.int (nI n)] μ rfl trivial ?_
    exact zq_retn zt_X8_read rfl rfl (⟨rfl, hI, hf⟩)
  | succ j ih =>
    intro n E μ hj hI hf
    have hz := (hI.2.2.2.2.2.2.2.2.2 3 (by decide)).2
    have hs1 : μ.1 31 1 = nI (H.2.1 3) := ((hI.2.2.2.2.2.2.2.2.1.1 3 (by decide)).1 ht).1
    have hs2 : μ.1 31 2 = nI (H.2.2.1 3) := ((hI.2.2.2.2.2.2.2.2.1.1 3 (by decide)).1 ht).2
    have hi : ∀ i, i < 60 → μ.1 32 i = H.2.2.2.1 3 i := (hI.2.2.2.2.2.2.2.2.1.1 3 (by decide)).2.2
    have hfm := (hI.2.2.2.2.2.2.2.2.2 3 (by decide)).1
    have hE8 : E.1 ≤ 8 := hI.2.2.2.1.2
    rw [yrd_s]
    refine zq_go zt_X8_read 6 [] (if (μ.1 31 2) ≤ ((nI (3 * n)) + (nI 2)) then 90 else 46) [(0, .ref 0), (1, .int (nI 3)), (2, .ref 31), (3, .int (nI n)), (4, .int (nI (3 * n)))] [] μ rfl trivial ?_
    rw [zn_add (3 * n) 2, hs2]
    refine zq_ite (fun h25 => ?_) (fun h25 => ?_)
    · rw [zn_le (by omega) (by omega)] at h25
      rw [if_neg (by omega)]
      refine zq_go zt_X8_read 1 [] 91 [(0, .ref 0), (1, .int (nI 3)), (2, .ref 31), (3, .int (nI n)), (4, .int (nI (3 * n)))] [.int (nI n)] μ rfl trivial ?_
      exact zq_retn zt_X8_read rfl rfl (⟨rfl, hI, hf⟩)
    · rw [zn_le (by omega) (by omega)] at h25
      have h3 : 3 * n + 2 < H.2.2.1 3 := by omega
      rw [if_pos h3]
      refine zq_go zt_X8_read 17 [vp_in (nI (3 * n)) 60, vp_in ((nI (3 * n)) + (nI 1)) 60, vp_in ((nI (3 * n)) + (nI 2)) 60] 72 [(0, .ref 0), (1, .int (nI 3)), (2, .ref 31), (3, .int (nI n)), (4, .int (nI (3 * n)))] [.int (μ.1 32 (((nI (3 * n)) + (nI 2)).toNatClampNeg)), .int (μ.1 32 (((nI (3 * n)) + (nI 1)).toNatClampNeg)), .int (μ.1 32 ((nI (3 * n)).toNatClampNeg)), .ref 0] μ rfl ⟨zn_in (k := 3 * n) rfl (by omega) (by decide), ⟨zn_in (k := (3 * n) + 1) (by rw [zn_add (3 * n) 1]) (by omega) (by decide), ⟨zn_in (k := (3 * n) + 2) (by rw [zn_add (3 * n) 2]) (by omega) (by decide), trivial⟩⟩⟩ ?_
      rw [zn_add (3 * n) 2, zn_cl (n := (3 * n) + 2) (by omega), hi ((3 * n) + 2) (by omega), zn_add (3 * n) 1, zn_cl (n := (3 * n) + 1) (by omega), hi ((3 * n) + 1) (by omega), zn_cl (n := 3 * n) (by omega), hi (3 * n) (by omega)]
      refine zq_call zt_X8_read [.ref 0, .int (H.2.2.2.1 3 (3 * n)), .int (H.2.2.2.1 3 ((3 * n) + 1)), .int (H.2.2.2.1 3 ((3 * n) + 2))] [] (zs_evc (H.2.2.2.1 3 (3 * n)) (H.2.2.2.1 3 (3 * n + 1)) (H.2.2.2.1 3 (3 * n + 2)) hI) rfl rfl ?_
      rintro _ ν ⟨rfl, hJ, g1⟩
      obtain ⟨b8, bb⟩ := vEv_b hE8 (H.2.2.2.1 3 (3 * n)) (H.2.2.2.1 3 (3 * n + 1)) (H.2.2.2.1 3 (3 * n + 2))
      refine zq_go zt_X8_read 1 [] (if 0 ≤ ((vEv E (H.2.2.2.1 3 (3 * n)) (H.2.2.2.1 3 (3 * n + 1)) (H.2.2.2.1 3 (3 * n + 2))).1) then 81 else 78) [(0, .ref 0), (1, .int (nI 3)), (2, .ref 31), (3, .int (nI n)), (4, .int (nI (3 * n)))] [] ν rfl trivial ?_
      refine zq_ite (fun h39 => ?_) (fun h39 => ?_)
      · rw [if_neg (Int32.not_lt.mpr h39)]
        refine zq_go zt_X8_read 3 [] 35 [(0, .ref 0), (1, .int (nI 3)), (2, .ref 31), (3, .int ((nI n) + (nI 1))), (4, .int ((nI (3 * n)) + (nI 3)))] [] ν rfl trivial ?_
        rw [zn_add n 1, zn_add (3 * n) 3]
        exact ih (n + 1) (vEv E (H.2.2.2.1 3 (3 * n)) (H.2.2.2.1 3 (3 * n + 1)) (H.2.2.2.1 3 (3 * n + 2))).2 ν (by omega) hJ (hf.tr g1)
      · have h9 := Int32.not_le.mp h39
        rw [if_pos h9]
        have e9 : (vEv E (H.2.2.2.1 3 (3 * n)) (H.2.2.2.1 3 (3 * n + 1)) (H.2.2.2.1 3 (3 * n + 2))).2 = E := by
          rcases bb with q | q
          · exact q.2
          · exact absurd h9 q.1
        have hJ9 : zIc (τ.1, τ.2.1, τ.2.2.1, E) S H ν := by
          have hJ8 : zIc (τ.1, τ.2.1, τ.2.2.1, (vEv E (H.2.2.2.1 3 (3 * n)) (H.2.2.2.1 3 (3 * n + 1)) (H.2.2.2.1 3 (3 * n + 2))).2) S H ν := hJ
          rw [e9] at hJ8
          exact hJ8
        refine zq_go zt_X8_read 1 [] 90 [(0, .ref 0), (1, .int (nI 3)), (2, .ref 31), (3, .int (nI n)), (4, .int (nI (3 * n)))] [] ν rfl trivial ?_
        refine zq_go zt_X8_read 1 [] 91 [(0, .ref 0), (1, .int (nI 3)), (2, .ref 31), (3, .int (nI n)), (4, .int (nI (3 * n)))] [.int (nI n)] ν rfl trivial ?_
        exact zq_retn zt_X8_read rfl rfl (⟨rfl, hJ9, hf.tr g1⟩)
set_option maxRecDepth 100000 in
set_option maxHeartbeats 400000 in
theorem zs_read_0 {τ : zTd} {S : zES} {H : zSH} {μ0 : zq_Me} (ht : H.1 0 = true) (hC : zIc τ S H μ0) : zq_Wp zn_X8_read 0 [(0, .ref 0), (1, .int (nI 0))] [] μ0 (zRc (.int (nI (yrd (H.2.2.2.1 0) (H.2.2.1 0) 21 0 τ.2.2.2).1)) (τ.1, τ.2.1, τ.2.2.1, (yrd (H.2.2.2.1 0) (H.2.2.1 0) 21 0 τ.2.2.2).2) S H μ0) := by
  refine zq_go zt_X8_read 1 [] 1 [(0, .ref 0), (1, .int (nI 0))] [.int (nI 0)] μ0 rfl trivial ?_
  refine zq_call zt_X8_read [.int (nI 0)] [] (zs_isSheet (nI 0) μ0) rfl rfl ?_
  rintro _ _ ⟨rfl, rfl⟩
  refine zq_go zt_X8_read 1 [] (if ¬ (zb (0 ≤ nI 0 ∧ nI 0 ≤ nI 3)) = 0 then 10 else 7) [(0, .ref 0), (1, .int (nI 0))] [] μ0 rfl trivial ?_
  rw [if_pos (zb_n (yin (by omega) (by decide)))]
  refine zq_go zt_X8_read 6 [vp_in (nI 0) 4] 18 [(0, .ref 0), (1, .int (nI 0)), (2, .ref 25)] [.ref 25] μ0 rfl ⟨zn_in rfl (by decide) (by decide), trivial⟩ ?_
  refine zq_call zt_X8_read [.ref 25] [] (zs_isLost_0 ht hC) rfl rfl ?_
  rintro _ _ ⟨rfl, rfl⟩
  refine zq_go zt_X8_read 1 [] (if (nI 0) = 0 then 30 else 24) [(0, .ref 0), (1, .int (nI 0)), (2, .ref 25)] [] μ0 rfl trivial ?_
  rw [if_pos (by decide)]
  refine zq_go zt_X8_read 4 [] 35 [(0, .ref 0), (1, .int (nI 0)), (2, .ref 25), (3, .int (nI 0)), (4, .int (nI 0))] [] μ0 rfl trivial ?_
  exact zs_read_l_0 ht 21 0 τ.2.2.2 μ0 (by omega) hC zq_fr.rf
set_option maxRecDepth 100000 in
set_option maxHeartbeats 400000 in
theorem zs_read_1 {τ : zTd} {S : zES} {H : zSH} {μ0 : zq_Me} (ht : H.1 1 = true) (hC : zIc τ S H μ0) : zq_Wp zn_X8_read 0 [(0, .ref 0), (1, .int (nI 1))] [] μ0 (zRc (.int (nI (yrd (H.2.2.2.1 1) (H.2.2.1 1) 21 0 τ.2.2.2).1)) (τ.1, τ.2.1, τ.2.2.1, (yrd (H.2.2.2.1 1) (H.2.2.1 1) 21 0 τ.2.2.2).2) S H μ0) := by
  refine zq_go zt_X8_read 1 [] 1 [(0, .ref 0), (1, .int (nI 1))] [.int (nI 1)] μ0 rfl trivial ?_
  refine zq_call zt_X8_read [.int (nI 1)] [] (zs_isSheet (nI 1) μ0) rfl rfl ?_
  rintro _ _ ⟨rfl, rfl⟩
  refine zq_go zt_X8_read 1 [] (if ¬ (zb (0 ≤ nI 1 ∧ nI 1 ≤ nI 3)) = 0 then 10 else 7) [(0, .ref 0), (1, .int (nI 1))] [] μ0 rfl trivial ?_
  rw [if_pos (zb_n (yin (by omega) (by decide)))]
  refine zq_go zt_X8_read 6 [vp_in (nI 1) 4] 18 [(0, .ref 0), (1, .int (nI 1)), (2, .ref 27)] [.ref 27] μ0 rfl ⟨zn_in rfl (by decide) (by decide), trivial⟩ ?_
  refine zq_call zt_X8_read [.ref 27] [] (zs_isLost_1 ht hC) rfl rfl ?_
  rintro _ _ ⟨rfl, rfl⟩
  refine zq_go zt_X8_read 1 [] (if (nI 0) = 0 then 30 else 24) [(0, .ref 0), (1, .int (nI 1)), (2, .ref 27)] [] μ0 rfl trivial ?_
  rw [if_pos (by decide)]
  refine zq_go zt_X8_read 4 [] 35 [(0, .ref 0), (1, .int (nI 1)), (2, .ref 27), (3, .int (nI 0)), (4, .int (nI 0))] [] μ0 rfl trivial ?_
  exact zs_read_l_1 ht 21 0 τ.2.2.2 μ0 (by omega) hC zq_fr.rf
set_option maxRecDepth 100000 in
set_option maxHeartbeats 400000 in
theorem zs_read_2 {τ : zTd} {S : zES} {H : zSH} {μ0 : zq_Me} (ht : H.1 2 = true) (hC : zIc τ S H μ0) : zq_Wp zn_X8_read 0 [(0, .ref 0), (1, .int (nI 2))] [] μ0 (zRc (.int (nI (yrd (H.2.2.2.1 2) (H.2.2.1 2) 21 0 τ.2.2.2).1)) (τ.1, τ.2.1, τ.2.2.1, (yrd (H.2.2.2.1 2) (H.2.2.1 2) 21 0 τ.2.2.2).2) S H μ0) := by
  refine zq_go zt_X8_read 1 [] 1 [(0, .ref 0), (1, .int (nI 2))] [.int (nI 2)] μ0 rfl trivial ?_
  refine zq_call zt_X8_read [.int (nI 2)] [] (zs_isSheet (nI 2) μ0) rfl rfl ?_
  rintro _ _ ⟨rfl, rfl⟩
  refine zq_go zt_X8_read 1 [] (if ¬ (zb (0 ≤ nI 2 ∧ nI 2 ≤ nI 3)) = 0 then 10 else 7) [(0, .ref 0), (1, .int (nI 2))] [] μ0 rfl trivial ?_
  rw [if_pos (zb_n (yin (by omega) (by decide)))]
  refine zq_go zt_X8_read 6 [vp_in (nI 2) 4] 18 [(0, .ref 0), (1, .int (nI 2)), (2, .ref 29)] [.ref 29] μ0 rfl ⟨zn_in rfl (by decide) (by decide), trivial⟩ ?_
  refine zq_call zt_X8_read [.ref 29] [] (zs_isLost_2 ht hC) rfl rfl ?_
  rintro _ _ ⟨rfl, rfl⟩
  refine zq_go zt_X8_read 1 [] (if (nI 0) = 0 then 30 else 24) [(0, .ref 0), (1, .int (nI 2)), (2, .ref 29)] [] μ0 rfl trivial ?_
  rw [if_pos (by decide)]
  refine zq_go zt_X8_read 4 [] 35 [(0, .ref 0), (1, .int (nI 2)), (2, .ref 29), (3, .int (nI 0)), (4, .int (nI 0))] [] μ0 rfl trivial ?_
  exact zs_read_l_2 ht 21 0 τ.2.2.2 μ0 (by omega) hC zq_fr.rf
set_option maxRecDepth 100000 in
set_option maxHeartbeats 400000 in
theorem zs_read_3 {τ : zTd} {S : zES} {H : zSH} {μ0 : zq_Me} (ht : H.1 3 = true) (hC : zIc τ S H μ0) : zq_Wp zn_X8_read 0 [(0, .ref 0), (1, .int (nI 3))] [] μ0 (zRc (.int (nI (yrd (H.2.2.2.1 3) (H.2.2.1 3) 21 0 τ.2.2.2).1)) (τ.1, τ.2.1, τ.2.2.1, (yrd (H.2.2.2.1 3) (H.2.2.1 3) 21 0 τ.2.2.2).2) S H μ0) := by
  refine zq_go zt_X8_read 1 [] 1 [(0, .ref 0), (1, .int (nI 3))] [.int (nI 3)] μ0 rfl trivial ?_
  refine zq_call zt_X8_read [.int (nI 3)] [] (zs_isSheet (nI 3) μ0) rfl rfl ?_
  rintro _ _ ⟨rfl, rfl⟩
  refine zq_go zt_X8_read 1 [] (if ¬ (zb (0 ≤ nI 3 ∧ nI 3 ≤ nI 3)) = 0 then 10 else 7) [(0, .ref 0), (1, .int (nI 3))] [] μ0 rfl trivial ?_
  rw [if_pos (zb_n (yin (by omega) (by decide)))]
  refine zq_go zt_X8_read 6 [vp_in (nI 3) 4] 18 [(0, .ref 0), (1, .int (nI 3)), (2, .ref 31)] [.ref 31] μ0 rfl ⟨zn_in rfl (by decide) (by decide), trivial⟩ ?_
  refine zq_call zt_X8_read [.ref 31] [] (zs_isLost_3 ht hC) rfl rfl ?_
  rintro _ _ ⟨rfl, rfl⟩
  refine zq_go zt_X8_read 1 [] (if (nI 0) = 0 then 30 else 24) [(0, .ref 0), (1, .int (nI 3)), (2, .ref 31)] [] μ0 rfl trivial ?_
  rw [if_pos (by decide)]
  refine zq_go zt_X8_read 4 [] 35 [(0, .ref 0), (1, .int (nI 3)), (2, .ref 31), (3, .int (nI 0)), (4, .int (nI 0))] [] μ0 rfl trivial ?_
  exact zs_read_l_3 ht 21 0 τ.2.2.2 μ0 (by omega) hC zq_fr.rf
theorem zs_read {τ : zTd} {S : zES} {H : zSH} {μ0 : zq_Me} {s : Nat} (ls : s ≤ 3) (ht : H.1 s = true) (hC : zIc τ S H μ0) : zq_Wp zn_X8_read 0 [(0, .ref 0), (1, .int (nI s))] [] μ0 (zRc (.int (nI (yrd (H.2.2.2.1 s) (H.2.2.1 s) 21 0 τ.2.2.2).1)) (τ.1, τ.2.1, τ.2.2.1, (yrd (H.2.2.2.1 s) (H.2.2.1 s) 21 0 τ.2.2.2).2) S H μ0) := by
  obtain rfl | rfl | rfl | rfl : s = 0 ∨ s = 1 ∨ s = 2 ∨ s = 3 := by omega
  · exact zs_read_0 ht hC
  · exact zs_read_1 ht hC
  · exact zs_read_2 ht hC
  · exact zs_read_3 ht hC
set_option maxRecDepth 100000 in
set_option maxHeartbeats 400000 in
theorem zs_read_n_0 {τ : zTd} {S : zES} {H : zSH} {μ0 : zq_Me} (ht : H.1 0 = false) (hC : zIc τ S H μ0) : zq_Wp zn_X8_read 0 [(0, .ref 0), (1, .int (nI 0))] [] μ0 (zRc (.int (-10 - nI 1)) τ S (yhf H (nI 1)) μ0) := by
  refine zq_go zt_X8_read 1 [] 1 [(0, .ref 0), (1, .int (nI 0))] [.int (nI 0)] μ0 rfl trivial ?_
  refine zq_call zt_X8_read [.int (nI 0)] [] (zs_isSheet (nI 0) μ0) rfl rfl ?_
  rintro _ _ ⟨rfl, rfl⟩
  refine zq_go zt_X8_read 1 [] (if ¬ (zb (0 ≤ nI 0 ∧ nI 0 ≤ nI 3)) = 0 then 10 else 7) [(0, .ref 0), (1, .int (nI 0))] [] μ0 rfl trivial ?_
  rw [if_pos (zb_n (yin (by omega) (by decide)))]
  refine zq_go zt_X8_read 6 [vp_in (nI 0) 4] 18 [(0, .ref 0), (1, .int (nI 0)), (2, .ref 25)] [.ref 25] μ0 rfl ⟨zn_in rfl (by decide) (by decide), trivial⟩ ?_
  refine zq_call zt_X8_read [.ref 25] [] (zs_isLostN_0 ht hC) rfl rfl ?_
  rintro _ _ ⟨rfl, rfl⟩
  refine zq_go zt_X8_read 1 [] (if (nI 1) = 0 then 30 else 24) [(0, .ref 0), (1, .int (nI 0)), (2, .ref 25)] [] μ0 rfl trivial ?_
  rw [if_neg (by decide)]
  refine zq_go zt_X8_read 2 [] 26 [(0, .ref 0), (1, .int (nI 0)), (2, .ref 25)] [.int (nI 1), .ref 0] μ0 rfl trivial ?_
  refine zq_call zt_X8_read [.ref 0, .int (nI 1)] [] (zs_refuse 1 hC) rfl rfl ?_
  rintro _ μ1 ⟨rfl, hC1, f1⟩
  exact zq_retn zt_X8_read rfl rfl (⟨rfl, hC1, f1⟩)
set_option maxRecDepth 100000 in
set_option maxHeartbeats 400000 in
theorem zs_read_n_1 {τ : zTd} {S : zES} {H : zSH} {μ0 : zq_Me} (ht : H.1 1 = false) (hC : zIc τ S H μ0) : zq_Wp zn_X8_read 0 [(0, .ref 0), (1, .int (nI 1))] [] μ0 (zRc (.int (-10 - nI 1)) τ S (yhf H (nI 1)) μ0) := by
  refine zq_go zt_X8_read 1 [] 1 [(0, .ref 0), (1, .int (nI 1))] [.int (nI 1)] μ0 rfl trivial ?_
  refine zq_call zt_X8_read [.int (nI 1)] [] (zs_isSheet (nI 1) μ0) rfl rfl ?_
  rintro _ _ ⟨rfl, rfl⟩
  refine zq_go zt_X8_read 1 [] (if ¬ (zb (0 ≤ nI 1 ∧ nI 1 ≤ nI 3)) = 0 then 10 else 7) [(0, .ref 0), (1, .int (nI 1))] [] μ0 rfl trivial ?_
  rw [if_pos (zb_n (yin (by omega) (by decide)))]
  refine zq_go zt_X8_read 6 [vp_in (nI 1) 4] 18 [(0, .ref 0), (1, .int (nI 1)), (2, .ref 27)] [.ref 27] μ0 rfl ⟨zn_in rfl (by decide) (by decide), trivial⟩ ?_
  refine zq_call zt_X8_read [.ref 27] [] (zs_isLostN_1 ht hC) rfl rfl ?_
  rintro _ _ ⟨rfl, rfl⟩
  refine zq_go zt_X8_read 1 [] (if (nI 1) = 0 then 30 else 24) [(0, .ref 0), (1, .int (nI 1)), (2, .ref 27)] [] μ0 rfl trivial ?_
  rw [if_neg (by decide)]
  refine zq_go zt_X8_read 2 [] 26 [(0, .ref 0), (1, .int (nI 1)), (2, .ref 27)] [.int (nI 1), .ref 0] μ0 rfl trivial ?_
  refine zq_call zt_X8_read [.ref 0, .int (nI 1)] [] (zs_refuse 1 hC) rfl rfl ?_
  rintro _ μ1 ⟨rfl, hC1, f1⟩
  exact zq_retn zt_X8_read rfl rfl (⟨rfl, hC1, f1⟩)
set_option maxRecDepth 100000 in
set_option maxHeartbeats 400000 in
theorem zs_read_n_2 {τ : zTd} {S : zES} {H : zSH} {μ0 : zq_Me} (ht : H.1 2 = false) (hC : zIc τ S H μ0) : zq_Wp zn_X8_read 0 [(0, .ref 0), (1, .int (nI 2))] [] μ0 (zRc (.int (-10 - nI 1)) τ S (yhf H (nI 1)) μ0) := by
  refine zq_go zt_X8_read 1 [] 1 [(0, .ref 0), (1, .int (nI 2))] [.int (nI 2)] μ0 rfl trivial ?_
  refine zq_call zt_X8_read [.int (nI 2)] [] (zs_isSheet (nI 2) μ0) rfl rfl ?_
  rintro _ _ ⟨rfl, rfl⟩
  refine zq_go zt_X8_read 1 [] (if ¬ (zb (0 ≤ nI 2 ∧ nI 2 ≤ nI 3)) = 0 then 10 else 7) [(0, .ref 0), (1, .int (nI 2))] [] μ0 rfl trivial ?_
  rw [if_pos (zb_n (yin (by omega) (by decide)))]
  refine zq_go zt_X8_read 6 [vp_in (nI 2) 4] 18 [(0, .ref 0), (1, .int (nI 2)), (2, .ref 29)] [.ref 29] μ0 rfl ⟨zn_in rfl (by decide) (by decide), trivial⟩ ?_
  refine zq_call zt_X8_read [.ref 29] [] (zs_isLostN_2 ht hC) rfl rfl ?_
  rintro _ _ ⟨rfl, rfl⟩
  refine zq_go zt_X8_read 1 [] (if (nI 1) = 0 then 30 else 24) [(0, .ref 0), (1, .int (nI 2)), (2, .ref 29)] [] μ0 rfl trivial ?_
  rw [if_neg (by decide)]
  refine zq_go zt_X8_read 2 [] 26 [(0, .ref 0), (1, .int (nI 2)), (2, .ref 29)] [.int (nI 1), .ref 0] μ0 rfl trivial ?_
  refine zq_call zt_X8_read [.ref 0, .int (nI 1)] [] (zs_refuse 1 hC) rfl rfl ?_
  rintro _ μ1 ⟨rfl, hC1, f1⟩
  exact zq_retn zt_X8_read rfl rfl (⟨rfl, hC1, f1⟩)
set_option maxRecDepth 100000 in
set_option maxHeartbeats 400000 in
theorem zs_read_n_3 {τ : zTd} {S : zES} {H : zSH} {μ0 : zq_Me} (ht : H.1 3 = false) (hC : zIc τ S H μ0) : zq_Wp zn_X8_read 0 [(0, .ref 0), (1, .int (nI 3))] [] μ0 (zRc (.int (-10 - nI 1)) τ S (yhf H (nI 1)) μ0) := by
  refine zq_go zt_X8_read 1 [] 1 [(0, .ref 0), (1, .int (nI 3))] [.int (nI 3)] μ0 rfl trivial ?_
  refine zq_call zt_X8_read [.int (nI 3)] [] (zs_isSheet (nI 3) μ0) rfl rfl ?_
  rintro _ _ ⟨rfl, rfl⟩
  refine zq_go zt_X8_read 1 [] (if ¬ (zb (0 ≤ nI 3 ∧ nI 3 ≤ nI 3)) = 0 then 10 else 7) [(0, .ref 0), (1, .int (nI 3))] [] μ0 rfl trivial ?_
  rw [if_pos (zb_n (yin (by omega) (by decide)))]
  refine zq_go zt_X8_read 6 [vp_in (nI 3) 4] 18 [(0, .ref 0), (1, .int (nI 3)), (2, .ref 31)] [.ref 31] μ0 rfl ⟨zn_in rfl (by decide) (by decide), trivial⟩ ?_
  refine zq_call zt_X8_read [.ref 31] [] (zs_isLostN_3 ht hC) rfl rfl ?_
  rintro _ _ ⟨rfl, rfl⟩
  refine zq_go zt_X8_read 1 [] (if (nI 1) = 0 then 30 else 24) [(0, .ref 0), (1, .int (nI 3)), (2, .ref 31)] [] μ0 rfl trivial ?_
  rw [if_neg (by decide)]
  refine zq_go zt_X8_read 2 [] 26 [(0, .ref 0), (1, .int (nI 3)), (2, .ref 31)] [.int (nI 1), .ref 0] μ0 rfl trivial ?_
  refine zq_call zt_X8_read [.ref 0, .int (nI 1)] [] (zs_refuse 1 hC) rfl rfl ?_
  rintro _ μ1 ⟨rfl, hC1, f1⟩
  exact zq_retn zt_X8_read rfl rfl (⟨rfl, hC1, f1⟩)
theorem zs_read_n {τ : zTd} {S : zES} {H : zSH} {μ0 : zq_Me} {s : Nat} (ls : s ≤ 3) (ht : H.1 s = false) (hC : zIc τ S H μ0) : zq_Wp zn_X8_read 0 [(0, .ref 0), (1, .int (nI s))] [] μ0 (zRc (.int (-10 - nI 1)) τ S (yhf H (nI 1)) μ0) := by
  obtain rfl | rfl | rfl | rfl : s = 0 ∨ s = 1 ∨ s = 2 ∨ s = 3 := by omega
  · exact zs_read_n_0 ht hC
  · exact zs_read_n_1 ht hC
  · exact zs_read_n_2 ht hC
  · exact zs_read_n_3 ht hC
set_option maxRecDepth 100000 in
set_option maxHeartbeats 400000 in
theorem zs_read_b (v1 : Int32) (hg : ¬ (0 ≤ v1 ∧ v1 ≤ nI 3)) {τ : zTd} {S : zES} {H : zSH} {μ0 : zq_Me} (hC : zIc τ S H μ0) : zq_Wp zn_X8_read 0 [(0, .ref 0), (1, .int v1)] [] μ0 (zRc (.int (-2)) τ S H μ0) := by
  refine zq_go zt_X8_read 1 [] 1 [(0, .ref 0), (1, .int v1)] [.int v1] μ0 rfl trivial ?_
  refine zq_call zt_X8_read [.int v1] [] (zs_isSheet v1 μ0) rfl rfl ?_
  rintro _ _ ⟨rfl, rfl⟩
  refine zq_go zt_X8_read 1 [] (if ¬ (zb (0 ≤ v1 ∧ v1 ≤ nI 3)) = 0 then 10 else 7) [(0, .ref 0), (1, .int v1)] [] μ0 rfl trivial ?_
  refine zq_ite (fun h4 => ?_) (fun h4 => ?_)
  · have g0 := zb_p h4
    exact absurd g0 hg
  · refine zq_go zt_X8_read 1 [] 9 [(0, .ref 0), (1, .int v1)] [.int (-2)] μ0 rfl trivial ?_
    exact zq_retn zt_X8_read rfl rfl (⟨rfl, hC, zq_fr.rf⟩)
set_option maxRecDepth 100000 in
set_option maxHeartbeats 400000 in
theorem zs_readm_b (v1 : Int32) (hg : ¬ (0 ≤ v1 ∧ v1 ≤ nI 3)) {τ : zTd} {S : zES} {H : zSH} {μ0 : zq_Me} (hM : zIm τ S H μ0) : zq_Wp zn_X9_read 0 [(0, .ref 50), (1, .int v1)] [] μ0 (zRm' (.int (-2)) τ S H μ0) := by
  refine zq_go zt_X9_read 1 [] 1 [(0, .ref 50), (1, .int v1)] [.int v1] μ0 rfl trivial ?_
  refine zq_call zt_X9_read [.int v1] [] (zs_isSheetm v1 μ0) rfl rfl ?_
  rintro _ _ ⟨rfl, rfl⟩
  refine zq_go zt_X9_read 1 [] (if ¬ (zb (0 ≤ v1 ∧ v1 ≤ nI 3)) = 0 then 10 else 7) [(0, .ref 50), (1, .int v1)] [] μ0 rfl trivial ?_
  refine zq_ite (fun h4 => ?_) (fun h4 => ?_)
  · have g0 := zb_p h4
    exact absurd g0 hg
  · refine zq_go zt_X9_read 1 [] 9 [(0, .ref 50), (1, .int v1)] [.int (-2)] μ0 rfl trivial ?_
    exact zq_retn zt_X9_read rfl rfl (⟨rfl, hM, zq_fr.rf⟩)
set_option maxRecDepth 100000 in
set_option maxHeartbeats 400000 in
theorem zs_readm_l {τ : zTd} {S : zES} {H : zSH} {μ0 : zq_Me} {s : Nat} (ls : s ≤ 3) (ht : H.1 s = true) : ∀ (j n : Nat) (E : zES) (μ : zq_Me), n + j = 21 → zIm (τ.1, τ.2.1, τ.2.2.1, E) S H μ → zq_fr zSM μ0 μ → zq_Wp zn_X9_read 32 [(0, .ref 50), (1, .int (nI s)), (2, .int (nI n)), (3, .int (nI (60 * s)))] [] μ (zRm' (.int (nI (yrd (H.2.2.2.1 s) (H.2.2.1 s) j n E).1)) (τ.1, τ.2.1, τ.2.2.1, (yrd (H.2.2.2.1 s) (H.2.2.1 s) j n E).2) S H μ0) := by
  intro j
  induction j with
  | zero =>
    intro n E μ hj hI hf
    have hz := (hI.2.2.2.2.2 s (by omega)).2
    have hfm := (hI.2.2.2.2.2 s (by omega)).1
    have h72 : μ.1 72 s = nI 1 := by rw [(hI.2.2.2.2.1.1 s (by omega)).1, if_pos ht]; rfl
    have h73 : μ.1 73 s = nI (H.2.1 s) := ((hI.2.2.2.2.1.1 s (by omega)).2.1 ht).1
    have h74 : μ.1 74 s = nI (H.2.2.1 s) := ((hI.2.2.2.2.1.1 s (by omega)).2.1 ht).2
    have h75 : ∀ i, i < 60 → μ.1 75 (60 * s + i) = H.2.2.2.1 s i := (hI.2.2.2.2.1.1 s (by omega)).2.2
    refine zq_go zt_X9_read 10 [vp_in (nI s) 4] (if (μ.1 74 ((nI s).toNatClampNeg)) ≤ (((nI 3) * (nI n)) + (nI 2)) then 93 else 46) [(0, .ref 50), (1, .int (nI s)), (2, .int (nI n)), (3, .int (nI (60 * s)))] [] μ rfl ⟨zn_in (k := s) rfl (by omega) (by decide), trivial⟩ ?_
    rw [zn_mul 3 n, zn_add (3 * n) 2, zn_cl (n := s) (by omega), h74]
    rw [if_pos (by rw [zn_le (by omega) (by omega)]; omega)]
    refine zq_go zt_X9_read 1 [] 94 [(0, .ref 50), (1, .int (nI s)), (2, .int (nI n)), (3, .int (nI (60 * s)))] [.int (nI n)] μ rfl trivial ?_
    exact zq_retn zt_X9_read rfl rfl (⟨rfl, hI, hf⟩)
  | succ j ih =>
    intro n E μ hj hI hf
    have hz := (hI.2.2.2.2.2 s (by omega)).2
    have hfm := (hI.2.2.2.2.2 s (by omega)).1
    have h72 : μ.1 72 s = nI 1 := by rw [(hI.2.2.2.2.1.1 s (by omega)).1, if_pos ht]; rfl
    have h73 : μ.1 73 s = nI (H.2.1 s) := ((hI.2.2.2.2.1.1 s (by omega)).2.1 ht).1
    have h74 : μ.1 74 s = nI (H.2.2.1 s) := ((hI.2.2.2.2.1.1 s (by omega)).2.1 ht).2
    have h75 : ∀ i, i < 60 → μ.1 75 (60 * s + i) = H.2.2.2.1 s i := (hI.2.2.2.2.1.1 s (by omega)).2.2
    have hE8 : E.1 ≤ 8 := hI.2.2.1.2
    rw [yrd_s]
    refine zq_go zt_X9_read 10 [vp_in (nI s) 4] (if (μ.1 74 ((nI s).toNatClampNeg)) ≤ (((nI 3) * (nI n)) + (nI 2)) then 93 else 46) [(0, .ref 50), (1, .int (nI s)), (2, .int (nI n)), (3, .int (nI (60 * s)))] [] μ rfl ⟨zn_in (k := s) rfl (by omega) (by decide), trivial⟩ ?_
    rw [zn_mul 3 n, zn_add (3 * n) 2, zn_cl (n := s) (by omega), h74]
    refine zq_ite (fun h27 => ?_) (fun h27 => ?_)
    · rw [zn_le (by omega) (by omega)] at h27
      rw [if_neg (by omega)]
      refine zq_go zt_X9_read 1 [] 94 [(0, .ref 50), (1, .int (nI s)), (2, .int (nI n)), (3, .int (nI (60 * s)))] [.int (nI n)] μ rfl trivial ?_
      exact zq_retn zt_X9_read rfl rfl (⟨rfl, hI, hf⟩)
    · rw [zn_le (by omega) (by omega)] at h27
      have h3 : 3 * n + 2 < H.2.2.1 s := by omega
      rw [if_pos h3]
      have i0 : μ.1 75 (60 * s + 3 * n) = H.2.2.2.1 s (3 * n) := h75 (3 * n) (by omega)
      have i1 : μ.1 75 (60 * s + 3 * n + 1) = H.2.2.2.1 s (3 * n + 1) := h75 (3 * n + 1) (by omega)
      have i2 : μ.1 75 (60 * s + 3 * n + 2) = H.2.2.2.1 s (3 * n + 2) := h75 (3 * n + 2) (by omega)
      refine zq_go zt_X9_read 29 [vp_in ((nI (60 * s)) + ((nI 3) * (nI n))) 240, vp_in (((nI (60 * s)) + ((nI 3) * (nI n))) + (nI 1)) 240, vp_in (((nI (60 * s)) + ((nI 3) * (nI n))) + (nI 2)) 240] 81 [(0, .ref 50), (1, .int (nI s)), (2, .int (nI n)), (3, .int (nI (60 * s)))] [.int (μ.1 75 ((((nI (60 * s)) + ((nI 3) * (nI n))) + (nI 2)).toNatClampNeg)), .int (μ.1 75 ((((nI (60 * s)) + ((nI 3) * (nI n))) + (nI 1)).toNatClampNeg)), .int (μ.1 75 (((nI (60 * s)) + ((nI 3) * (nI n))).toNatClampNeg)), .ref 50] μ rfl ⟨zn_in (k := (60 * s) + (3 * n)) (by rw [zn_mul 3 n, zn_add (60 * s) (3 * n)]) (by omega) (by decide), ⟨zn_in (k := ((60 * s) + (3 * n)) + 1) (by rw [zn_mul 3 n, zn_add (60 * s) (3 * n), zn_add ((60 * s) + (3 * n)) 1]) (by omega) (by decide), ⟨zn_in (k := ((60 * s) + (3 * n)) + 2) (by rw [zn_mul 3 n, zn_add (60 * s) (3 * n), zn_add ((60 * s) + (3 * n)) 2]) (by omega) (by decide), trivial⟩⟩⟩ ?_
      rw [zn_mul 3 n, zn_add (60 * s) (3 * n), zn_add ((60 * s) + (3 * n)) 2, zn_cl (n := ((60 * s) + (3 * n)) + 2) (by omega), i2, zn_add ((60 * s) + (3 * n)) 1, zn_cl (n := ((60 * s) + (3 * n)) + 1) (by omega), i1, zn_cl (n := (60 * s) + (3 * n)) (by omega), i0]
      refine zq_call zt_X9_read [.ref 50, .int (H.2.2.2.1 s (3 * n)), .int (H.2.2.2.1 s (3 * n + 1)), .int (H.2.2.2.1 s (3 * n + 2))] [] (zs_evm (H.2.2.2.1 s (3 * n)) (H.2.2.2.1 s (3 * n + 1)) (H.2.2.2.1 s (3 * n + 2)) hI) rfl rfl ?_
      rintro _ ν ⟨rfl, hJ, g1⟩
      obtain ⟨b8, bb⟩ := vEv_b hE8 (H.2.2.2.1 s (3 * n)) (H.2.2.2.1 s (3 * n + 1)) (H.2.2.2.1 s (3 * n + 2))
      refine zq_go zt_X9_read 1 [] (if ((vEv E (H.2.2.2.1 s (3 * n)) (H.2.2.2.1 s (3 * n + 1)) (H.2.2.2.1 s (3 * n + 2))).1) ≤ 0 then 93 else 87) [(0, .ref 50), (1, .int (nI s)), (2, .int (nI n)), (3, .int (nI (60 * s)))] [] ν rfl trivial ?_
      refine zq_ite (fun h44 => ?_) (fun h44 => ?_)
      · have h9 : (vEv E (H.2.2.2.1 s (3 * n)) (H.2.2.2.1 s (3 * n + 1)) (H.2.2.2.1 s (3 * n + 2))).1 < 0 := by
          rcases bb with q | q
          · exact q.1
          · exact absurd q.2 (Int32.not_lt.mpr h44)
        rw [if_pos h9]
        have e9 : (vEv E (H.2.2.2.1 s (3 * n)) (H.2.2.2.1 s (3 * n + 1)) (H.2.2.2.1 s (3 * n + 2))).2 = E := by
          rcases bb with q | q
          · exact q.2
          · exact absurd h9 q.1
        have hJ9 : zIm (τ.1, τ.2.1, τ.2.2.1, E) S H ν := by
          have hJ8 : zIm (τ.1, τ.2.1, τ.2.2.1, (vEv E (H.2.2.2.1 s (3 * n)) (H.2.2.2.1 s (3 * n + 1)) (H.2.2.2.1 s (3 * n + 2))).2) S H ν := hJ
          rw [e9] at hJ8
          exact hJ8
        refine zq_go zt_X9_read 1 [] 94 [(0, .ref 50), (1, .int (nI s)), (2, .int (nI n)), (3, .int (nI (60 * s)))] [.int (nI n)] ν rfl trivial ?_
        exact zq_retn zt_X9_read rfl rfl (⟨rfl, hJ9, hf.tr g1⟩)
      · have h9 : ¬ (vEv E (H.2.2.2.1 s (3 * n)) (H.2.2.2.1 s (3 * n + 1)) (H.2.2.2.1 s (3 * n + 2))).1 < 0 := by
          rcases bb with q | q
          · exact absurd (Int32.le_of_lt q.1) h44
          · exact q.1
        rw [if_neg h9]
        refine zq_go zt_X9_read 2 [] 32 [(0, .ref 50), (1, .int (nI s)), (2, .int ((nI n) + (nI 1))), (3, .int (nI (60 * s)))] [] ν rfl trivial ?_
        rw [zn_add n 1]
        exact ih (n + 1) (vEv E (H.2.2.2.1 s (3 * n)) (H.2.2.2.1 s (3 * n + 1)) (H.2.2.2.1 s (3 * n + 2))).2 ν (by omega) hJ (hf.tr g1)
set_option maxRecDepth 100000 in
set_option maxHeartbeats 400000 in
theorem zs_readm {τ : zTd} {S : zES} {H : zSH} {μ0 : zq_Me} {s : Nat} (ls : s ≤ 3) (ht : H.1 s = true) (hM : zIm τ S H μ0) : zq_Wp zn_X9_read 0 [(0, .ref 50), (1, .int (nI s))] [] μ0 (zRm' (.int (nI (yrd (H.2.2.2.1 s) (H.2.2.1 s) 21 0 τ.2.2.2).1)) (τ.1, τ.2.1, τ.2.2.1, (yrd (H.2.2.2.1 s) (H.2.2.1 s) 21 0 τ.2.2.2).2) S H μ0) := by
  have hz := (hM.2.2.2.2.2 s (by omega)).2
  have hfm := (hM.2.2.2.2.2 s (by omega)).1
  have h72 : μ0.1 72 s = nI 1 := by rw [(hM.2.2.2.2.1.1 s (by omega)).1, if_pos ht]; rfl
  have h73 : μ0.1 73 s = nI (H.2.1 s) := ((hM.2.2.2.2.1.1 s (by omega)).2.1 ht).1
  have h74 : μ0.1 74 s = nI (H.2.2.1 s) := ((hM.2.2.2.2.1.1 s (by omega)).2.1 ht).2
  have h75 : ∀ i, i < 60 → μ0.1 75 (60 * s + i) = H.2.2.2.1 s i := (hM.2.2.2.2.1.1 s (by omega)).2.2
  refine zq_go zt_X9_read 1 [] 1 [(0, .ref 50), (1, .int (nI s))] [.int (nI s)] μ0 rfl trivial ?_
  refine zq_call zt_X9_read [.int (nI s)] [] (zs_isSheetm (nI s) μ0) rfl rfl ?_
  rintro _ _ ⟨rfl, rfl⟩
  refine zq_go zt_X9_read 1 [] (if ¬ (zb (0 ≤ nI s ∧ nI s ≤ nI 3)) = 0 then 10 else 7) [(0, .ref 50), (1, .int (nI s))] [] μ0 rfl trivial ?_
  rw [if_pos (zb_n (yin (by omega) (by decide)))]
  refine zq_go zt_X9_read 5 [vp_in (nI s) 4] (if ¬ (μ0.1 72 ((nI s).toNatClampNeg)) = 0 then 25 else 19) [(0, .ref 50), (1, .int (nI s))] [] μ0 rfl ⟨zn_in (k := s) rfl (by omega) (by decide), trivial⟩ ?_
  rw [zn_cl (n := s) (by omega), h72]
  rw [if_pos (by decide)]
  refine zq_go zt_X9_read 6 [] 32 [(0, .ref 50), (1, .int (nI s)), (2, .int (nI 0)), (3, .int ((nI 60) * (nI s)))] [] μ0 rfl trivial ?_
  rw [zn_mul 60 s]
  exact zs_readm_l ls ht 21 0 τ.2.2.2 μ0 (by omega) hM zq_fr.rf
set_option maxRecDepth 100000 in
set_option maxHeartbeats 400000 in
theorem zs_readm_n {τ : zTd} {S : zES} {H : zSH} {μ0 : zq_Me} {s : Nat} (ls : s ≤ 3) (ht : ¬ H.1 s = true) (hM : zIm τ S H μ0) : zq_Wp zn_X9_read 0 [(0, .ref 50), (1, .int (nI s))] [] μ0 (zRm' (.int (-10 - nI 1)) τ S (yhf H (nI 1)) μ0) := by
  have h72 : μ0.1 72 s = nI 0 := by rw [(hM.2.2.2.2.1.1 s (by omega)).1, if_neg ht]; rfl
  refine zq_go zt_X9_read 1 [] 1 [(0, .ref 50), (1, .int (nI s))] [.int (nI s)] μ0 rfl trivial ?_
  refine zq_call zt_X9_read [.int (nI s)] [] (zs_isSheetm (nI s) μ0) rfl rfl ?_
  rintro _ _ ⟨rfl, rfl⟩
  refine zq_go zt_X9_read 1 [] (if ¬ (zb (0 ≤ nI s ∧ nI s ≤ nI 3)) = 0 then 10 else 7) [(0, .ref 50), (1, .int (nI s))] [] μ0 rfl trivial ?_
  rw [if_pos (zb_n (yin (by omega) (by decide)))]
  refine zq_go zt_X9_read 5 [vp_in (nI s) 4] (if ¬ (μ0.1 72 ((nI s).toNatClampNeg)) = 0 then 25 else 19) [(0, .ref 50), (1, .int (nI s))] [] μ0 rfl ⟨zn_in (k := s) rfl (by omega) (by decide), trivial⟩ ?_
  rw [zn_cl (n := s) (by omega), h72]
  rw [if_neg (by decide)]
  refine zq_go zt_X9_read 2 [] 21 [(0, .ref 50), (1, .int (nI s))] [.int (nI 1), .ref 50] μ0 rfl trivial ?_
  refine zq_call zt_X9_read [.ref 50, .int (nI 1)] [] (zs_meets 1 hM) rfl rfl ?_
  rintro _ μ1 ⟨rfl, hM1, f1⟩
  exact zq_retn zt_X9_read rfl rfl (⟨rfl, hM1, f1⟩)
theorem zo_read (v1 : Int32) : zop zn_X8_read [(0, .ref 0), (1, .int v1)] zn_X9_read [(0, .ref 50), (1, .int v1)] := by
  intro τ S H μ hC hM
  by_cases hg : 0 ≤ v1 ∧ v1 ≤ nI 3
  · obtain ⟨s, ls, rfl⟩ := yix (by decide) hg
    by_cases ht : H.1 s = true
    · exact ⟨_, _, S, H, zs_read ls ht hC, fun _ h => zs_readm ls ht h⟩
    · exact ⟨_, τ, S, _, zs_read_n ls (yfalse ht) hC, fun _ h => zs_readm_n ls ht h⟩
  · exact ⟨_, τ, S, H, zs_read_b v1 hg hC, fun _ h => zs_readm_b v1 hg h⟩
set_option maxRecDepth 100000 in
set_option maxHeartbeats 400000 in
theorem zs_write_l_0 {τ : zTd} {S : zES} {H : zSH} {μ0 μ1 : zq_Me} (hC1 : zIc τ S H μ1) (f1 : zq_fr zSC μ0 μ1) (hs1 : ySn τ μ1) (ht : H.1 0 = true) {p : Nat} (lp : p < ynp τ) : ∀ (j h : Nat) (μ : zq_Me), h + j = ymn (H.2.2.1 0) → (zq_fr [26 + 2 * 0] μ1 μ ∧ ∀ i, i < 60 → μ.1 26 i = (ywr H 0 (yRt τ 0 p) h) i) → zq_Wp zn_X8_write 58 [(0, .ref 0), (1, .int (nI p)), (2, .int (nI 0)), (3, .ref 25), (4, .ref 33), (5, .int (nI (ymn (H.2.2.1 0)))), (6, .int (nI h))] [] μ (zRc (.int (nI (ymn (H.2.2.1 0)))) τ S (yhi H 0 (ywr H 0 (yRt τ 0 p) (ymn (H.2.2.1 0)))) μ0) := by
  have hm9 := ymn_le (H.2.2.1 0)
  have hnp := hC1.2.1.2.1
  intro j
  induction j with
  | zero =>
    rintro h μ hij ⟨hF, hA⟩
    obtain rfl : h = ymn (H.2.2.1 0) := by omega
    refine zq_go zt_X8_write 3 [] (if (nI (ymn (H.2.2.1 0))) ≤ (nI (ymn (H.2.2.1 0))) then 85 else 65) [(0, .ref 0), (1, .int (nI p)), (2, .int (nI 0)), (3, .ref 25), (4, .ref 33), (5, .int (nI (ymn (H.2.2.1 0)))), (6, .int (nI (ymn (H.2.2.1 0))))] [] μ rfl trivial ?_
    rw [if_pos (by rw [zn_le (by omega) (by omega)]; omega)]
    refine zq_go zt_X8_write 1 [] 87 [(0, .ref 0), (1, .int (nI p)), (2, .int (nI 0)), (3, .ref 25), (4, .ref 33), (5, .int (nI (ymn (H.2.2.1 0)))), (6, .int (nI (ymn (H.2.2.1 0))))] [.int (nI (ymn (H.2.2.1 0)))] μ rfl trivial ?_
    have hI := hC1.it (s := 0) (by decide) (ywr H 0 (yRt τ 0 p) (ymn (H.2.2.1 0))) hF hA
    exact zq_retn zt_X8_write rfl rfl (⟨rfl, hI, f1.tr (hF.wk (by simp [zSC]))⟩)
  | succ j ih =>
    rintro h μ hij ⟨hF, hA⟩
    refine zq_go zt_X8_write 3 [] (if (nI (ymn (H.2.2.1 0))) ≤ (nI h) then 85 else 65) [(0, .ref 0), (1, .int (nI p)), (2, .int (nI 0)), (3, .ref 25), (4, .ref 33), (5, .int (nI (ymn (H.2.2.1 0)))), (6, .int (nI h))] [] μ rfl trivial ?_
    rw [if_neg (by rw [zn_le (by omega) (by omega)]; omega)]
    refine zq_go zt_X8_write 5 [] 73 [(0, .ref 0), (1, .int (nI p)), (2, .int (nI 0)), (3, .ref 25), (4, .ref 33), (5, .int (nI (ymn (H.2.2.1 0)))), (6, .int (nI h))] [.int (nI p), .int (nI h), .ref 33, .int (nI h), .ref 25] μ rfl trivial ?_
    have hI := hC1.it (s := 0) (by decide) (ywr H 0 (yRt τ 0 p) h) hF hA
    have hr : μ.1 34 (h * 8 + p) = nI (yRt τ 0 p h) := by rw [hF.a (b := 34) (by decide)]; exact (hs1.2.2.2 p h lp (by omega)).1
    refine zq_call zt_X8_write [.ref 33, .int (nI h), .int (nI p)] [.int (nI h), .ref 25] (zs_roomOf33 (show h < 24 by omega) (show p < 8 by omega) hr) rfl rfl ?_
    rintro _ _ ⟨rfl, rfl⟩
    refine zq_call zt_X8_write [.ref 25, .int (nI h), .int (nI (yRt τ 0 p h))] [] (zs_lay_0 (H := yhi H 0 (ywr H 0 (yRt τ 0 p) h)) ht (show h < 60 by omega) (nI (yRt τ 0 p h)) hI) rfl rfl ?_
    rintro _ μ2 ⟨rfl, e2⟩
    refine zq_go zt_X8_write 2 [] 58 [(0, .ref 0), (1, .int (nI p)), (2, .int (nI 0)), (3, .ref 25), (4, .ref 33), (5, .int (nI (ymn (H.2.2.1 0)))), (6, .int ((nI h) + (nI 1)))] [] μ2 rfl trivial ?_
    rw [zn_add h 1]
    have e3 : μ2 = zq_u1 μ 26 h (znr (H.2.1 0) (nI (yRt τ 0 p h))) := e2
    refine ih (h + 1) μ2 (by omega) ⟨by rw [e3]; exact hF.u1 (by simp), fun i hi9 => ?_⟩
    rw [e3, zq_u1_rd, hA i hi9]
    unfold ywr
    by_cases q : i = h
    · rw [if_pos q, if_pos (by omega), q]
    · rw [if_neg q]
      by_cases q2 : i < h
      · rw [if_pos q2, if_pos (by omega)]
      · rw [if_neg q2, if_neg (by omega)]
set_option maxRecDepth 100000 in
set_option maxHeartbeats 400000 in
theorem zs_write_l_1 {τ : zTd} {S : zES} {H : zSH} {μ0 μ1 : zq_Me} (hC1 : zIc τ S H μ1) (f1 : zq_fr zSC μ0 μ1) (hs1 : ySn τ μ1) (ht : H.1 1 = true) {p : Nat} (lp : p < ynp τ) : ∀ (j h : Nat) (μ : zq_Me), h + j = ymn (H.2.2.1 1) → (zq_fr [26 + 2 * 1] μ1 μ ∧ ∀ i, i < 60 → μ.1 28 i = (ywr H 1 (yRt τ 0 p) h) i) → zq_Wp zn_X8_write 58 [(0, .ref 0), (1, .int (nI p)), (2, .int (nI 1)), (3, .ref 27), (4, .ref 33), (5, .int (nI (ymn (H.2.2.1 1)))), (6, .int (nI h))] [] μ (zRc (.int (nI (ymn (H.2.2.1 1)))) τ S (yhi H 1 (ywr H 1 (yRt τ 0 p) (ymn (H.2.2.1 1)))) μ0) := by
  have hm9 := ymn_le (H.2.2.1 1)
  have hnp := hC1.2.1.2.1
  intro j
  induction j with
  | zero =>
    rintro h μ hij ⟨hF, hA⟩
    obtain rfl : h = ymn (H.2.2.1 1) := by omega
    refine zq_go zt_X8_write 3 [] (if (nI (ymn (H.2.2.1 1))) ≤ (nI (ymn (H.2.2.1 1))) then 85 else 65) [(0, .ref 0), (1, .int (nI p)), (2, .int (nI 1)), (3, .ref 27), (4, .ref 33), (5, .int (nI (ymn (H.2.2.1 1)))), (6, .int (nI (ymn (H.2.2.1 1))))] [] μ rfl trivial ?_
    rw [if_pos (by rw [zn_le (by omega) (by omega)]; omega)]
    refine zq_go zt_X8_write 1 [] 87 [(0, .ref 0), (1, .int (nI p)), (2, .int (nI 1)), (3, .ref 27), (4, .ref 33), (5, .int (nI (ymn (H.2.2.1 1)))), (6, .int (nI (ymn (H.2.2.1 1))))] [.int (nI (ymn (H.2.2.1 1)))] μ rfl trivial ?_
    have hI := hC1.it (s := 1) (by decide) (ywr H 1 (yRt τ 0 p) (ymn (H.2.2.1 1))) hF hA
    exact zq_retn zt_X8_write rfl rfl (⟨rfl, hI, f1.tr (hF.wk (by simp [zSC]))⟩)
  | succ j ih =>
    rintro h μ hij ⟨hF, hA⟩
    refine zq_go zt_X8_write 3 [] (if (nI (ymn (H.2.2.1 1))) ≤ (nI h) then 85 else 65) [(0, .ref 0), (1, .int (nI p)), (2, .int (nI 1)), (3, .ref 27), (4, .ref 33), (5, .int (nI (ymn (H.2.2.1 1)))), (6, .int (nI h))] [] μ rfl trivial ?_
    rw [if_neg (by rw [zn_le (by omega) (by omega)]; omega)]
    refine zq_go zt_X8_write 5 [] 73 [(0, .ref 0), (1, .int (nI p)), (2, .int (nI 1)), (3, .ref 27), (4, .ref 33), (5, .int (nI (ymn (H.2.2.1 1)))), (6, .int (nI h))] [.int (nI p), .int (nI h), .ref 33, .int (nI h), .ref 27] μ rfl trivial ?_
    have hI := hC1.it (s := 1) (by decide) (ywr H 1 (yRt τ 0 p) h) hF hA
    have hr : μ.1 34 (h * 8 + p) = nI (yRt τ 0 p h) := by rw [hF.a (b := 34) (by decide)]; exact (hs1.2.2.2 p h lp (by omega)).1
    refine zq_call zt_X8_write [.ref 33, .int (nI h), .int (nI p)] [.int (nI h), .ref 27] (zs_roomOf33 (show h < 24 by omega) (show p < 8 by omega) hr) rfl rfl ?_
    rintro _ _ ⟨rfl, rfl⟩
    refine zq_call zt_X8_write [.ref 27, .int (nI h), .int (nI (yRt τ 0 p h))] [] (zs_lay_1 (H := yhi H 1 (ywr H 1 (yRt τ 0 p) h)) ht (show h < 60 by omega) (nI (yRt τ 0 p h)) hI) rfl rfl ?_
    rintro _ μ2 ⟨rfl, e2⟩
    refine zq_go zt_X8_write 2 [] 58 [(0, .ref 0), (1, .int (nI p)), (2, .int (nI 1)), (3, .ref 27), (4, .ref 33), (5, .int (nI (ymn (H.2.2.1 1)))), (6, .int ((nI h) + (nI 1)))] [] μ2 rfl trivial ?_
    rw [zn_add h 1]
    have e3 : μ2 = zq_u1 μ 28 h (znr (H.2.1 1) (nI (yRt τ 0 p h))) := e2
    refine ih (h + 1) μ2 (by omega) ⟨by rw [e3]; exact hF.u1 (by simp), fun i hi9 => ?_⟩
    rw [e3, zq_u1_rd, hA i hi9]
    unfold ywr
    by_cases q : i = h
    · rw [if_pos q, if_pos (by omega), q]
    · rw [if_neg q]
      by_cases q2 : i < h
      · rw [if_pos q2, if_pos (by omega)]
      · rw [if_neg q2, if_neg (by omega)]
set_option maxRecDepth 100000 in
set_option maxHeartbeats 400000 in
theorem zs_write_l_2 {τ : zTd} {S : zES} {H : zSH} {μ0 μ1 : zq_Me} (hC1 : zIc τ S H μ1) (f1 : zq_fr zSC μ0 μ1) (hs1 : ySn τ μ1) (ht : H.1 2 = true) {p : Nat} (lp : p < ynp τ) : ∀ (j h : Nat) (μ : zq_Me), h + j = ymn (H.2.2.1 2) → (zq_fr [26 + 2 * 2] μ1 μ ∧ ∀ i, i < 60 → μ.1 30 i = (ywr H 2 (yRt τ 0 p) h) i) → zq_Wp zn_X8_write 58 [(0, .ref 0), (1, .int (nI p)), (2, .int (nI 2)), (3, .ref 29), (4, .ref 33), (5, .int (nI (ymn (H.2.2.1 2)))), (6, .int (nI h))] [] μ (zRc (.int (nI (ymn (H.2.2.1 2)))) τ S (yhi H 2 (ywr H 2 (yRt τ 0 p) (ymn (H.2.2.1 2)))) μ0) := by
  have hm9 := ymn_le (H.2.2.1 2)
  have hnp := hC1.2.1.2.1
  intro j
  induction j with
  | zero =>
    rintro h μ hij ⟨hF, hA⟩
    obtain rfl : h = ymn (H.2.2.1 2) := by omega
    refine zq_go zt_X8_write 3 [] (if (nI (ymn (H.2.2.1 2))) ≤ (nI (ymn (H.2.2.1 2))) then 85 else 65) [(0, .ref 0), (1, .int (nI p)), (2, .int (nI 2)), (3, .ref 29), (4, .ref 33), (5, .int (nI (ymn (H.2.2.1 2)))), (6, .int (nI (ymn (H.2.2.1 2))))] [] μ rfl trivial ?_
    rw [if_pos (by rw [zn_le (by omega) (by omega)]; omega)]
    refine zq_go zt_X8_write 1 [] 87 [(0, .ref 0), (1, .int (nI p)), (2, .int (nI 2)), (3, .ref 29), (4, .ref 33), (5, .int (nI (ymn (H.2.2.1 2)))), (6, .int (nI (ymn (H.2.2.1 2))))] [.int (nI (ymn (H.2.2.1 2)))] μ rfl trivial ?_
    have hI := hC1.it (s := 2) (by decide) (ywr H 2 (yRt τ 0 p) (ymn (H.2.2.1 2))) hF hA
    exact zq_retn zt_X8_write rfl rfl (⟨rfl, hI, f1.tr (hF.wk (by simp [zSC]))⟩)
  | succ j ih =>
    rintro h μ hij ⟨hF, hA⟩
    refine zq_go zt_X8_write 3 [] (if (nI (ymn (H.2.2.1 2))) ≤ (nI h) then 85 else 65) [(0, .ref 0), (1, .int (nI p)), (2, .int (nI 2)), (3, .ref 29), (4, .ref 33), (5, .int (nI (ymn (H.2.2.1 2)))), (6, .int (nI h))] [] μ rfl trivial ?_
    rw [if_neg (by rw [zn_le (by omega) (by omega)]; omega)]
    refine zq_go zt_X8_write 5 [] 73 [(0, .ref 0), (1, .int (nI p)), (2, .int (nI 2)), (3, .ref 29), (4, .ref 33), (5, .int (nI (ymn (H.2.2.1 2)))), (6, .int (nI h))] [.int (nI p), .int (nI h), .ref 33, .int (nI h), .ref 29] μ rfl trivial ?_
    have hI := hC1.it (s := 2) (by decide) (ywr H 2 (yRt τ 0 p) h) hF hA
    have hr : μ.1 34 (h * 8 + p) = nI (yRt τ 0 p h) := by rw [hF.a (b := 34) (by decide)]; exact (hs1.2.2.2 p h lp (by omega)).1
    refine zq_call zt_X8_write [.ref 33, .int (nI h), .int (nI p)] [.int (nI h), .ref 29] (zs_roomOf33 (show h < 24 by omega) (show p < 8 by omega) hr) rfl rfl ?_
    rintro _ _ ⟨rfl, rfl⟩
    refine zq_call zt_X8_write [.ref 29, .int (nI h), .int (nI (yRt τ 0 p h))] [] (zs_lay_2 (H := yhi H 2 (ywr H 2 (yRt τ 0 p) h)) ht (show h < 60 by omega) (nI (yRt τ 0 p h)) hI) rfl rfl ?_
    rintro _ μ2 ⟨rfl, e2⟩
    refine zq_go zt_X8_write 2 [] 58 [(0, .ref 0), (1, .int (nI p)), (2, .int (nI 2)), (3, .ref 29), (4, .ref 33), (5, .int (nI (ymn (H.2.2.1 2)))), (6, .int ((nI h) + (nI 1)))] [] μ2 rfl trivial ?_
    rw [zn_add h 1]
    have e3 : μ2 = zq_u1 μ 30 h (znr (H.2.1 2) (nI (yRt τ 0 p h))) := e2
    refine ih (h + 1) μ2 (by omega) ⟨by rw [e3]; exact hF.u1 (by simp), fun i hi9 => ?_⟩
    rw [e3, zq_u1_rd, hA i hi9]
    unfold ywr
    by_cases q : i = h
    · rw [if_pos q, if_pos (by omega), q]
    · rw [if_neg q]
      by_cases q2 : i < h
      · rw [if_pos q2, if_pos (by omega)]
      · rw [if_neg q2, if_neg (by omega)]
set_option maxRecDepth 100000 in
set_option maxHeartbeats 400000 in
theorem zs_write_l_3 {τ : zTd} {S : zES} {H : zSH} {μ0 μ1 : zq_Me} (hC1 : zIc τ S H μ1) (f1 : zq_fr zSC μ0 μ1) (hs1 : ySn τ μ1) (ht : H.1 3 = true) {p : Nat} (lp : p < ynp τ) : ∀ (j h : Nat) (μ : zq_Me), h + j = ymn (H.2.2.1 3) → (zq_fr [26 + 2 * 3] μ1 μ ∧ ∀ i, i < 60 → μ.1 32 i = (ywr H 3 (yRt τ 0 p) h) i) → zq_Wp zn_X8_write 58 [(0, .ref 0), (1, .int (nI p)), (2, .int (nI 3)), (3, .ref 31), (4, .ref 33), (5, .int (nI (ymn (H.2.2.1 3)))), (6, .int (nI h))] [] μ (zRc (.int (nI (ymn (H.2.2.1 3)))) τ S (yhi H 3 (ywr H 3 (yRt τ 0 p) (ymn (H.2.2.1 3)))) μ0) := by
  have hm9 := ymn_le (H.2.2.1 3)
  have hnp := hC1.2.1.2.1
  intro j
  induction j with
  | zero =>
    rintro h μ hij ⟨hF, hA⟩
    obtain rfl : h = ymn (H.2.2.1 3) := by omega
    refine zq_go zt_X8_write 3 [] (if (nI (ymn (H.2.2.1 3))) ≤ (nI (ymn (H.2.2.1 3))) then 85 else 65) [(0, .ref 0), (1, .int (nI p)), (2, .int (nI 3)), (3, .ref 31), (4, .ref 33), (5, .int (nI (ymn (H.2.2.1 3)))), (6, .int (nI (ymn (H.2.2.1 3))))] [] μ rfl trivial ?_
    rw [if_pos (by rw [zn_le (by omega) (by omega)]; omega)]
    refine zq_go zt_X8_write 1 [] 87 [(0, .ref 0), (1, .int (nI p)), (2, .int (nI 3)), (3, .ref 31), (4, .ref 33), (5, .int (nI (ymn (H.2.2.1 3)))), (6, .int (nI (ymn (H.2.2.1 3))))] [.int (nI (ymn (H.2.2.1 3)))] μ rfl trivial ?_
    have hI := hC1.it (s := 3) (by decide) (ywr H 3 (yRt τ 0 p) (ymn (H.2.2.1 3))) hF hA
    exact zq_retn zt_X8_write rfl rfl (⟨rfl, hI, f1.tr (hF.wk (by simp [zSC]))⟩)
  | succ j ih =>
    rintro h μ hij ⟨hF, hA⟩
    refine zq_go zt_X8_write 3 [] (if (nI (ymn (H.2.2.1 3))) ≤ (nI h) then 85 else 65) [(0, .ref 0), (1, .int (nI p)), (2, .int (nI 3)), (3, .ref 31), (4, .ref 33), (5, .int (nI (ymn (H.2.2.1 3)))), (6, .int (nI h))] [] μ rfl trivial ?_
    rw [if_neg (by rw [zn_le (by omega) (by omega)]; omega)]
    refine zq_go zt_X8_write 5 [] 73 [(0, .ref 0), (1, .int (nI p)), (2, .int (nI 3)), (3, .ref 31), (4, .ref 33), (5, .int (nI (ymn (H.2.2.1 3)))), (6, .int (nI h))] [.int (nI p), .int (nI h), .ref 33, .int (nI h), .ref 31] μ rfl trivial ?_
    have hI := hC1.it (s := 3) (by decide) (ywr H 3 (yRt τ 0 p) h) hF hA
    have hr : μ.1 34 (h * 8 + p) = nI (yRt τ 0 p h) := by rw [hF.a (b := 34) (by decide)]; exact (hs1.2.2.2 p h lp (by omega)).1
    refine zq_call zt_X8_write [.ref 33, .int (nI h), .int (nI p)] [.int (nI h), .ref 31] (zs_roomOf33 (show h < 24 by omega) (show p < 8 by omega) hr) rfl rfl ?_
    rintro _ _ ⟨rfl, rfl⟩
    refine zq_call zt_X8_write [.ref 31, .int (nI h), .int (nI (yRt τ 0 p h))] [] (zs_lay_3 (H := yhi H 3 (ywr H 3 (yRt τ 0 p) h)) ht (show h < 60 by omega) (nI (yRt τ 0 p h)) hI) rfl rfl ?_
    rintro _ μ2 ⟨rfl, e2⟩
    refine zq_go zt_X8_write 2 [] 58 [(0, .ref 0), (1, .int (nI p)), (2, .int (nI 3)), (3, .ref 31), (4, .ref 33), (5, .int (nI (ymn (H.2.2.1 3)))), (6, .int ((nI h) + (nI 1)))] [] μ2 rfl trivial ?_
    rw [zn_add h 1]
    have e3 : μ2 = zq_u1 μ 32 h (znr (H.2.1 3) (nI (yRt τ 0 p h))) := e2
    refine ih (h + 1) μ2 (by omega) ⟨by rw [e3]; exact hF.u1 (by simp), fun i hi9 => ?_⟩
    rw [e3, zq_u1_rd, hA i hi9]
    unfold ywr
    by_cases q : i = h
    · rw [if_pos q, if_pos (by omega), q]
    · rw [if_neg q]
      by_cases q2 : i < h
      · rw [if_pos q2, if_pos (by omega)]
      · rw [if_neg q2, if_neg (by omega)]
set_option maxRecDepth 100000 in
set_option maxHeartbeats 400000 in
theorem zs_write_0 {τ : zTd} {S : zES} {H : zSH} {μ0 : zq_Me} {p : Nat} (lp : p < ynp τ) (ht : H.1 0 = true) (hC : zIc τ S H μ0) : zq_Wp zn_X8_write 0 [(0, .ref 0), (1, .int (nI p)), (2, .int (nI 0))] [] μ0 (zRc (.int (nI (ymn (H.2.2.1 0)))) τ S (yhi H 0 (ywr H 0 (yRt τ 0 p) (ymn (H.2.2.1 0)))) μ0) := by
  have hnp := hC.2.1.2.1
  refine zq_go zt_X8_write 2 [] 2 [(0, .ref 0), (1, .int (nI p)), (2, .int (nI 0))] [.int (nI p), .ref 0] μ0 rfl trivial ?_
  refine zq_call zt_X8_write [.ref 0, .int (nI p)] [] (zs_isPerson (nI p) hC) rfl rfl ?_
  rintro _ _ ⟨rfl, rfl⟩
  refine zq_go zt_X8_write 1 [] (if (zb (0 ≤ nI p ∧ nI p ≤ nI (ynp τ) - nI 1)) = 0 then 15 else 8) [(0, .ref 0), (1, .int (nI p)), (2, .int (nI 0))] [] μ0 rfl trivial ?_
  rw [if_neg (zb_n (yip (by omega) (by omega)))]
  refine zq_go zt_X8_write 1 [] 9 [(0, .ref 0), (1, .int (nI p)), (2, .int (nI 0))] [.int (nI 0)] μ0 rfl trivial ?_
  refine zq_call zt_X8_write [.int (nI 0)] [] (zs_isSheet (nI 0) μ0) rfl rfl ?_
  rintro _ _ ⟨rfl, rfl⟩
  refine zq_go zt_X8_write 1 [] (if ¬ (zb (0 ≤ nI 0 ∧ nI 0 ≤ nI 3)) = 0 then 18 else 15) [(0, .ref 0), (1, .int (nI p)), (2, .int (nI 0))] [] μ0 rfl trivial ?_
  rw [if_pos (zb_n (yin (by omega) (by decide)))]
  refine zq_go zt_X8_write 6 [vp_in (nI 0) 4] 26 [(0, .ref 0), (1, .int (nI p)), (2, .int (nI 0)), (3, .ref 25)] [.ref 25] μ0 rfl ⟨zn_in rfl (by decide) (by decide), trivial⟩ ?_
  refine zq_call zt_X8_write [.ref 25] [] (zs_isLost_0 ht hC) rfl rfl ?_
  rintro _ _ ⟨rfl, rfl⟩
  refine zq_go zt_X8_write 1 [] (if (nI 0) = 0 then 38 else 32) [(0, .ref 0), (1, .int (nI p)), (2, .int (nI 0)), (3, .ref 25)] [] μ0 rfl trivial ?_
  rw [if_pos (by decide)]
  refine zq_go zt_X8_write 1 [] 39 [(0, .ref 0), (1, .int (nI p)), (2, .int (nI 0)), (3, .ref 25)] [.ref 0] μ0 rfl trivial ?_
  refine zq_call zt_X8_write [.ref 0] [] (zs_weekAsTold hC) rfl rfl ?_
  rintro _ μ1 ⟨rfl, hC1, f1, hs1⟩
  have hzb := (hC1.2.2.2.2.2.2.2.2.2 0 (by decide)).2
  have hs1b : μ1.1 25 1 = nI (H.2.1 0) := ((hC1.2.2.2.2.2.2.2.2.1.1 0 (by decide)).1 ht).1
  have hs2b : μ1.1 25 2 = nI (H.2.2.1 0) := ((hC1.2.2.2.2.2.2.2.2.1.1 0 (by decide)).1 ht).2
  have hib : ∀ i, i < 60 → μ1.1 26 i = H.2.2.2.1 0 i := (hC1.2.2.2.2.2.2.2.2.1.1 0 (by decide)).2.2
  have hfmb := (hC1.2.2.2.2.2.2.2.2.2 0 (by decide)).1
  refine zq_go zt_X8_write 8 [] 58 [(0, .ref 0), (1, .int (nI p)), (2, .int (nI 0)), (3, .ref 25), (4, .ref 33), (5, .int (if (nI 24) < (μ1.1 25 2) then (nI 24) else (μ1.1 25 2))), (6, .int (nI 0))] [] μ1 rfl trivial ?_
  rw [hs2b]
  rw [ymin (by omega)]
  have f2 : zq_fr zSC μ0 μ1 := f1.wk (by simp +contextual [zSC])
  exact zs_write_l_0 hC1 f2 hs1 ht lp (ymn (H.2.2.1 0)) 0 μ1 (by omega) ⟨zq_fr.rf, fun i hi9 => by unfold ywr; rw [if_neg (Nat.not_lt_zero i)]; exact hib i hi9⟩
set_option maxRecDepth 100000 in
set_option maxHeartbeats 400000 in
theorem zs_write_1 {τ : zTd} {S : zES} {H : zSH} {μ0 : zq_Me} {p : Nat} (lp : p < ynp τ) (ht : H.1 1 = true) (hC : zIc τ S H μ0) : zq_Wp zn_X8_write 0 [(0, .ref 0), (1, .int (nI p)), (2, .int (nI 1))] [] μ0 (zRc (.int (nI (ymn (H.2.2.1 1)))) τ S (yhi H 1 (ywr H 1 (yRt τ 0 p) (ymn (H.2.2.1 1)))) μ0) := by
  have hnp := hC.2.1.2.1
  refine zq_go zt_X8_write 2 [] 2 [(0, .ref 0), (1, .int (nI p)), (2, .int (nI 1))] [.int (nI p), .ref 0] μ0 rfl trivial ?_
  refine zq_call zt_X8_write [.ref 0, .int (nI p)] [] (zs_isPerson (nI p) hC) rfl rfl ?_
  rintro _ _ ⟨rfl, rfl⟩
  refine zq_go zt_X8_write 1 [] (if (zb (0 ≤ nI p ∧ nI p ≤ nI (ynp τ) - nI 1)) = 0 then 15 else 8) [(0, .ref 0), (1, .int (nI p)), (2, .int (nI 1))] [] μ0 rfl trivial ?_
  rw [if_neg (zb_n (yip (by omega) (by omega)))]
  refine zq_go zt_X8_write 1 [] 9 [(0, .ref 0), (1, .int (nI p)), (2, .int (nI 1))] [.int (nI 1)] μ0 rfl trivial ?_
  refine zq_call zt_X8_write [.int (nI 1)] [] (zs_isSheet (nI 1) μ0) rfl rfl ?_
  rintro _ _ ⟨rfl, rfl⟩
  refine zq_go zt_X8_write 1 [] (if ¬ (zb (0 ≤ nI 1 ∧ nI 1 ≤ nI 3)) = 0 then 18 else 15) [(0, .ref 0), (1, .int (nI p)), (2, .int (nI 1))] [] μ0 rfl trivial ?_
  rw [if_pos (zb_n (yin (by omega) (by decide)))]
  refine zq_go zt_X8_write 6 [vp_in (nI 1) 4] 26 [(0, .ref 0), (1, .int (nI p)), (2, .int (nI 1)), (3, .ref 27)] [.ref 27] μ0 rfl ⟨zn_in rfl (by decide) (by decide), trivial⟩ ?_
  refine zq_call zt_X8_write [.ref 27] [] (zs_isLost_1 ht hC) rfl rfl ?_
  rintro _ _ ⟨rfl, rfl⟩
  refine zq_go zt_X8_write 1 [] (if (nI 0) = 0 then 38 else 32) [(0, .ref 0), (1, .int (nI p)), (2, .int (nI 1)), (3, .ref 27)] [] μ0 rfl trivial ?_
  rw [if_pos (by decide)]
  refine zq_go zt_X8_write 1 [] 39 [(0, .ref 0), (1, .int (nI p)), (2, .int (nI 1)), (3, .ref 27)] [.ref 0] μ0 rfl trivial ?_
  refine zq_call zt_X8_write [.ref 0] [] (zs_weekAsTold hC) rfl rfl ?_
  rintro _ μ1 ⟨rfl, hC1, f1, hs1⟩
  have hzb := (hC1.2.2.2.2.2.2.2.2.2 1 (by decide)).2
  have hs1b : μ1.1 27 1 = nI (H.2.1 1) := ((hC1.2.2.2.2.2.2.2.2.1.1 1 (by decide)).1 ht).1
  have hs2b : μ1.1 27 2 = nI (H.2.2.1 1) := ((hC1.2.2.2.2.2.2.2.2.1.1 1 (by decide)).1 ht).2
  have hib : ∀ i, i < 60 → μ1.1 28 i = H.2.2.2.1 1 i := (hC1.2.2.2.2.2.2.2.2.1.1 1 (by decide)).2.2
  have hfmb := (hC1.2.2.2.2.2.2.2.2.2 1 (by decide)).1
  refine zq_go zt_X8_write 8 [] 58 [(0, .ref 0), (1, .int (nI p)), (2, .int (nI 1)), (3, .ref 27), (4, .ref 33), (5, .int (if (nI 24) < (μ1.1 27 2) then (nI 24) else (μ1.1 27 2))), (6, .int (nI 0))] [] μ1 rfl trivial ?_
  rw [hs2b]
  rw [ymin (by omega)]
  have f2 : zq_fr zSC μ0 μ1 := f1.wk (by simp +contextual [zSC])
  exact zs_write_l_1 hC1 f2 hs1 ht lp (ymn (H.2.2.1 1)) 0 μ1 (by omega) ⟨zq_fr.rf, fun i hi9 => by unfold ywr; rw [if_neg (Nat.not_lt_zero i)]; exact hib i hi9⟩
set_option maxRecDepth 100000 in
set_option maxHeartbeats 400000 in
theorem zs_write_2 {τ : zTd} {S : zES} {H : zSH} {μ0 : zq_Me} {p : Nat} (lp : p < ynp τ) (ht : H.1 2 = true) (hC : zIc τ S H μ0) : zq_Wp zn_X8_write 0 [(0, .ref 0), (1, .int (nI p)), (2, .int (nI 2))] [] μ0 (zRc (.int (nI (ymn (H.2.2.1 2)))) τ S (yhi H 2 (ywr H 2 (yRt τ 0 p) (ymn (H.2.2.1 2)))) μ0) := by
  have hnp := hC.2.1.2.1
  refine zq_go zt_X8_write 2 [] 2 [(0, .ref 0), (1, .int (nI p)), (2, .int (nI 2))] [.int (nI p), .ref 0] μ0 rfl trivial ?_
  refine zq_call zt_X8_write [.ref 0, .int (nI p)] [] (zs_isPerson (nI p) hC) rfl rfl ?_
  rintro _ _ ⟨rfl, rfl⟩
  refine zq_go zt_X8_write 1 [] (if (zb (0 ≤ nI p ∧ nI p ≤ nI (ynp τ) - nI 1)) = 0 then 15 else 8) [(0, .ref 0), (1, .int (nI p)), (2, .int (nI 2))] [] μ0 rfl trivial ?_
  rw [if_neg (zb_n (yip (by omega) (by omega)))]
  refine zq_go zt_X8_write 1 [] 9 [(0, .ref 0), (1, .int (nI p)), (2, .int (nI 2))] [.int (nI 2)] μ0 rfl trivial ?_
  refine zq_call zt_X8_write [.int (nI 2)] [] (zs_isSheet (nI 2) μ0) rfl rfl ?_
  rintro _ _ ⟨rfl, rfl⟩
  refine zq_go zt_X8_write 1 [] (if ¬ (zb (0 ≤ nI 2 ∧ nI 2 ≤ nI 3)) = 0 then 18 else 15) [(0, .ref 0), (1, .int (nI p)), (2, .int (nI 2))] [] μ0 rfl trivial ?_
  rw [if_pos (zb_n (yin (by omega) (by decide)))]
  refine zq_go zt_X8_write 6 [vp_in (nI 2) 4] 26 [(0, .ref 0), (1, .int (nI p)), (2, .int (nI 2)), (3, .ref 29)] [.ref 29] μ0 rfl ⟨zn_in rfl (by decide) (by decide), trivial⟩ ?_
  refine zq_call zt_X8_write [.ref 29] [] (zs_isLost_2 ht hC) rfl rfl ?_
  rintro _ _ ⟨rfl, rfl⟩
  refine zq_go zt_X8_write 1 [] (if (nI 0) = 0 then 38 else 32) [(0, .ref 0), (1, .int (nI p)), (2, .int (nI 2)), (3, .ref 29)] [] μ0 rfl trivial ?_
  rw [if_pos (by decide)]
  refine zq_go zt_X8_write 1 [] 39 [(0, .ref 0), (1, .int (nI p)), (2, .int (nI 2)), (3, .ref 29)] [.ref 0] μ0 rfl trivial ?_
  refine zq_call zt_X8_write [.ref 0] [] (zs_weekAsTold hC) rfl rfl ?_
  rintro _ μ1 ⟨rfl, hC1, f1, hs1⟩
  have hzb := (hC1.2.2.2.2.2.2.2.2.2 2 (by decide)).2
  have hs1b : μ1.1 29 1 = nI (H.2.1 2) := ((hC1.2.2.2.2.2.2.2.2.1.1 2 (by decide)).1 ht).1
  have hs2b : μ1.1 29 2 = nI (H.2.2.1 2) := ((hC1.2.2.2.2.2.2.2.2.1.1 2 (by decide)).1 ht).2
  have hib : ∀ i, i < 60 → μ1.1 30 i = H.2.2.2.1 2 i := (hC1.2.2.2.2.2.2.2.2.1.1 2 (by decide)).2.2
  have hfmb := (hC1.2.2.2.2.2.2.2.2.2 2 (by decide)).1
  refine zq_go zt_X8_write 8 [] 58 [(0, .ref 0), (1, .int (nI p)), (2, .int (nI 2)), (3, .ref 29), (4, .ref 33), (5, .int (if (nI 24) < (μ1.1 29 2) then (nI 24) else (μ1.1 29 2))), (6, .int (nI 0))] [] μ1 rfl trivial ?_
  rw [hs2b]
  rw [ymin (by omega)]
  have f2 : zq_fr zSC μ0 μ1 := f1.wk (by simp +contextual [zSC])
  exact zs_write_l_2 hC1 f2 hs1 ht lp (ymn (H.2.2.1 2)) 0 μ1 (by omega) ⟨zq_fr.rf, fun i hi9 => by unfold ywr; rw [if_neg (Nat.not_lt_zero i)]; exact hib i hi9⟩
set_option maxRecDepth 100000 in
set_option maxHeartbeats 400000 in
theorem zs_write_3 {τ : zTd} {S : zES} {H : zSH} {μ0 : zq_Me} {p : Nat} (lp : p < ynp τ) (ht : H.1 3 = true) (hC : zIc τ S H μ0) : zq_Wp zn_X8_write 0 [(0, .ref 0), (1, .int (nI p)), (2, .int (nI 3))] [] μ0 (zRc (.int (nI (ymn (H.2.2.1 3)))) τ S (yhi H 3 (ywr H 3 (yRt τ 0 p) (ymn (H.2.2.1 3)))) μ0) := by
  have hnp := hC.2.1.2.1
  refine zq_go zt_X8_write 2 [] 2 [(0, .ref 0), (1, .int (nI p)), (2, .int (nI 3))] [.int (nI p), .ref 0] μ0 rfl trivial ?_
  refine zq_call zt_X8_write [.ref 0, .int (nI p)] [] (zs_isPerson (nI p) hC) rfl rfl ?_
  rintro _ _ ⟨rfl, rfl⟩
  refine zq_go zt_X8_write 1 [] (if (zb (0 ≤ nI p ∧ nI p ≤ nI (ynp τ) - nI 1)) = 0 then 15 else 8) [(0, .ref 0), (1, .int (nI p)), (2, .int (nI 3))] [] μ0 rfl trivial ?_
  rw [if_neg (zb_n (yip (by omega) (by omega)))]
  refine zq_go zt_X8_write 1 [] 9 [(0, .ref 0), (1, .int (nI p)), (2, .int (nI 3))] [.int (nI 3)] μ0 rfl trivial ?_
  refine zq_call zt_X8_write [.int (nI 3)] [] (zs_isSheet (nI 3) μ0) rfl rfl ?_
  rintro _ _ ⟨rfl, rfl⟩
  refine zq_go zt_X8_write 1 [] (if ¬ (zb (0 ≤ nI 3 ∧ nI 3 ≤ nI 3)) = 0 then 18 else 15) [(0, .ref 0), (1, .int (nI p)), (2, .int (nI 3))] [] μ0 rfl trivial ?_
  rw [if_pos (zb_n (yin (by omega) (by decide)))]
  refine zq_go zt_X8_write 6 [vp_in (nI 3) 4] 26 [(0, .ref 0), (1, .int (nI p)), (2, .int (nI 3)), (3, .ref 31)] [.ref 31] μ0 rfl ⟨zn_in rfl (by decide) (by decide), trivial⟩ ?_
  refine zq_call zt_X8_write [.ref 31] [] (zs_isLost_3 ht hC) rfl rfl ?_
  rintro _ _ ⟨rfl, rfl⟩
  refine zq_go zt_X8_write 1 [] (if (nI 0) = 0 then 38 else 32) [(0, .ref 0), (1, .int (nI p)), (2, .int (nI 3)), (3, .ref 31)] [] μ0 rfl trivial ?_
  rw [if_pos (by decide)]
  refine zq_go zt_X8_write 1 [] 39 [(0, .ref 0), (1, .int (nI p)), (2, .int (nI 3)), (3, .ref 31)] [.ref 0] μ0 rfl trivial ?_
  refine zq_call zt_X8_write [.ref 0] [] (zs_weekAsTold hC) rfl rfl ?_
  rintro _ μ1 ⟨rfl, hC1, f1, hs1⟩
  have hzb := (hC1.2.2.2.2.2.2.2.2.2 3 (by decide)).2
  have hs1b : μ1.1 31 1 = nI (H.2.1 3) := ((hC1.2.2.2.2.2.2.2.2.1.1 3 (by decide)).1 ht).1
  have hs2b : μ1.1 31 2 = nI (H.2.2.1 3) := ((hC1.2.2.2.2.2.2.2.2.1.1 3 (by decide)).1 ht).2
  have hib : ∀ i, i < 60 → μ1.1 32 i = H.2.2.2.1 3 i := (hC1.2.2.2.2.2.2.2.2.1.1 3 (by decide)).2.2
  have hfmb := (hC1.2.2.2.2.2.2.2.2.2 3 (by decide)).1
  refine zq_go zt_X8_write 8 [] 58 [(0, .ref 0), (1, .int (nI p)), (2, .int (nI 3)), (3, .ref 31), (4, .ref 33), (5, .int (if (nI 24) < (μ1.1 31 2) then (nI 24) else (μ1.1 31 2))), (6, .int (nI 0))] [] μ1 rfl trivial ?_
  rw [hs2b]
  rw [ymin (by omega)]
  have f2 : zq_fr zSC μ0 μ1 := f1.wk (by simp +contextual [zSC])
  exact zs_write_l_3 hC1 f2 hs1 ht lp (ymn (H.2.2.1 3)) 0 μ1 (by omega) ⟨zq_fr.rf, fun i hi9 => by unfold ywr; rw [if_neg (Nat.not_lt_zero i)]; exact hib i hi9⟩
theorem zs_write {τ : zTd} {S : zES} {H : zSH} {μ0 : zq_Me} {s : Nat} (ls : s ≤ 3) {p : Nat} (lp : p < ynp τ) (ht : H.1 s = true) (hC : zIc τ S H μ0) : zq_Wp zn_X8_write 0 [(0, .ref 0), (1, .int (nI p)), (2, .int (nI s))] [] μ0 (zRc (.int (nI (ymn (H.2.2.1 s)))) τ S (yhi H s (ywr H s (yRt τ 0 p) (ymn (H.2.2.1 s)))) μ0) := by
  obtain rfl | rfl | rfl | rfl : s = 0 ∨ s = 1 ∨ s = 2 ∨ s = 3 := by omega
  · exact zs_write_0 lp ht hC
  · exact zs_write_1 lp ht hC
  · exact zs_write_2 lp ht hC
  · exact zs_write_3 lp ht hC
set_option maxRecDepth 100000 in
set_option maxHeartbeats 400000 in
theorem zs_write_n_0 {τ : zTd} {S : zES} {H : zSH} {μ0 : zq_Me} {p : Nat} (lp : p < ynp τ) (ht : H.1 0 = false) (hC : zIc τ S H μ0) : zq_Wp zn_X8_write 0 [(0, .ref 0), (1, .int (nI p)), (2, .int (nI 0))] [] μ0 (zRc (.int (-10 - nI 1)) τ S (yhf H (nI 1)) μ0) := by
  have hnp := hC.2.1.2.1
  refine zq_go zt_X8_write 2 [] 2 [(0, .ref 0), (1, .int (nI p)), (2, .int (nI 0))] [.int (nI p), .ref 0] μ0 rfl trivial ?_
  refine zq_call zt_X8_write [.ref 0, .int (nI p)] [] (zs_isPerson (nI p) hC) rfl rfl ?_
  rintro _ _ ⟨rfl, rfl⟩
  refine zq_go zt_X8_write 1 [] (if (zb (0 ≤ nI p ∧ nI p ≤ nI (ynp τ) - nI 1)) = 0 then 15 else 8) [(0, .ref 0), (1, .int (nI p)), (2, .int (nI 0))] [] μ0 rfl trivial ?_
  rw [if_neg (zb_n (yip (by omega) (by omega)))]
  refine zq_go zt_X8_write 1 [] 9 [(0, .ref 0), (1, .int (nI p)), (2, .int (nI 0))] [.int (nI 0)] μ0 rfl trivial ?_
  refine zq_call zt_X8_write [.int (nI 0)] [] (zs_isSheet (nI 0) μ0) rfl rfl ?_
  rintro _ _ ⟨rfl, rfl⟩
  refine zq_go zt_X8_write 1 [] (if ¬ (zb (0 ≤ nI 0 ∧ nI 0 ≤ nI 3)) = 0 then 18 else 15) [(0, .ref 0), (1, .int (nI p)), (2, .int (nI 0))] [] μ0 rfl trivial ?_
  rw [if_pos (zb_n (yin (by omega) (by decide)))]
  refine zq_go zt_X8_write 6 [vp_in (nI 0) 4] 26 [(0, .ref 0), (1, .int (nI p)), (2, .int (nI 0)), (3, .ref 25)] [.ref 25] μ0 rfl ⟨zn_in rfl (by decide) (by decide), trivial⟩ ?_
  refine zq_call zt_X8_write [.ref 25] [] (zs_isLostN_0 ht hC) rfl rfl ?_
  rintro _ _ ⟨rfl, rfl⟩
  refine zq_go zt_X8_write 1 [] (if (nI 1) = 0 then 38 else 32) [(0, .ref 0), (1, .int (nI p)), (2, .int (nI 0)), (3, .ref 25)] [] μ0 rfl trivial ?_
  rw [if_neg (by decide)]
  refine zq_go zt_X8_write 2 [] 34 [(0, .ref 0), (1, .int (nI p)), (2, .int (nI 0)), (3, .ref 25)] [.int (nI 1), .ref 0] μ0 rfl trivial ?_
  refine zq_call zt_X8_write [.ref 0, .int (nI 1)] [] (zs_refuse 1 hC) rfl rfl ?_
  rintro _ μ1 ⟨rfl, hC1, f1⟩
  exact zq_retn zt_X8_write rfl rfl (⟨rfl, hC1, f1⟩)
set_option maxRecDepth 100000 in
set_option maxHeartbeats 400000 in
theorem zs_write_n_1 {τ : zTd} {S : zES} {H : zSH} {μ0 : zq_Me} {p : Nat} (lp : p < ynp τ) (ht : H.1 1 = false) (hC : zIc τ S H μ0) : zq_Wp zn_X8_write 0 [(0, .ref 0), (1, .int (nI p)), (2, .int (nI 1))] [] μ0 (zRc (.int (-10 - nI 1)) τ S (yhf H (nI 1)) μ0) := by
  have hnp := hC.2.1.2.1
  refine zq_go zt_X8_write 2 [] 2 [(0, .ref 0), (1, .int (nI p)), (2, .int (nI 1))] [.int (nI p), .ref 0] μ0 rfl trivial ?_
  refine zq_call zt_X8_write [.ref 0, .int (nI p)] [] (zs_isPerson (nI p) hC) rfl rfl ?_
  rintro _ _ ⟨rfl, rfl⟩
  refine zq_go zt_X8_write 1 [] (if (zb (0 ≤ nI p ∧ nI p ≤ nI (ynp τ) - nI 1)) = 0 then 15 else 8) [(0, .ref 0), (1, .int (nI p)), (2, .int (nI 1))] [] μ0 rfl trivial ?_
  rw [if_neg (zb_n (yip (by omega) (by omega)))]
  refine zq_go zt_X8_write 1 [] 9 [(0, .ref 0), (1, .int (nI p)), (2, .int (nI 1))] [.int (nI 1)] μ0 rfl trivial ?_
  refine zq_call zt_X8_write [.int (nI 1)] [] (zs_isSheet (nI 1) μ0) rfl rfl ?_
  rintro _ _ ⟨rfl, rfl⟩
  refine zq_go zt_X8_write 1 [] (if ¬ (zb (0 ≤ nI 1 ∧ nI 1 ≤ nI 3)) = 0 then 18 else 15) [(0, .ref 0), (1, .int (nI p)), (2, .int (nI 1))] [] μ0 rfl trivial ?_
  rw [if_pos (zb_n (yin (by omega) (by decide)))]
  refine zq_go zt_X8_write 6 [vp_in (nI 1) 4] 26 [(0, .ref 0), (1, .int (nI p)), (2, .int (nI 1)), (3, .ref 27)] [.ref 27] μ0 rfl ⟨zn_in rfl (by decide) (by decide), trivial⟩ ?_
  refine zq_call zt_X8_write [.ref 27] [] (zs_isLostN_1 ht hC) rfl rfl ?_
  rintro _ _ ⟨rfl, rfl⟩
  refine zq_go zt_X8_write 1 [] (if (nI 1) = 0 then 38 else 32) [(0, .ref 0), (1, .int (nI p)), (2, .int (nI 1)), (3, .ref 27)] [] μ0 rfl trivial ?_
  rw [if_neg (by decide)]
  refine zq_go zt_X8_write 2 [] 34 [(0, .ref 0), (1, .int (nI p)), (2, .int (nI 1)), (3, .ref 27)] [.int (nI 1), .ref 0] μ0 rfl trivial ?_
  refine zq_call zt_X8_write [.ref 0, .int (nI 1)] [] (zs_refuse 1 hC) rfl rfl ?_
  rintro _ μ1 ⟨rfl, hC1, f1⟩
  exact zq_retn zt_X8_write rfl rfl (⟨rfl, hC1, f1⟩)
set_option maxRecDepth 100000 in
set_option maxHeartbeats 400000 in
theorem zs_write_n_2 {τ : zTd} {S : zES} {H : zSH} {μ0 : zq_Me} {p : Nat} (lp : p < ynp τ) (ht : H.1 2 = false) (hC : zIc τ S H μ0) : zq_Wp zn_X8_write 0 [(0, .ref 0), (1, .int (nI p)), (2, .int (nI 2))] [] μ0 (zRc (.int (-10 - nI 1)) τ S (yhf H (nI 1)) μ0) := by
  have hnp := hC.2.1.2.1
  refine zq_go zt_X8_write 2 [] 2 [(0, .ref 0), (1, .int (nI p)), (2, .int (nI 2))] [.int (nI p), .ref 0] μ0 rfl trivial ?_
  refine zq_call zt_X8_write [.ref 0, .int (nI p)] [] (zs_isPerson (nI p) hC) rfl rfl ?_
  rintro _ _ ⟨rfl, rfl⟩
  refine zq_go zt_X8_write 1 [] (if (zb (0 ≤ nI p ∧ nI p ≤ nI (ynp τ) - nI 1)) = 0 then 15 else 8) [(0, .ref 0), (1, .int (nI p)), (2, .int (nI 2))] [] μ0 rfl trivial ?_
  rw [if_neg (zb_n (yip (by omega) (by omega)))]
  refine zq_go zt_X8_write 1 [] 9 [(0, .ref 0), (1, .int (nI p)), (2, .int (nI 2))] [.int (nI 2)] μ0 rfl trivial ?_
  refine zq_call zt_X8_write [.int (nI 2)] [] (zs_isSheet (nI 2) μ0) rfl rfl ?_
  rintro _ _ ⟨rfl, rfl⟩
  refine zq_go zt_X8_write 1 [] (if ¬ (zb (0 ≤ nI 2 ∧ nI 2 ≤ nI 3)) = 0 then 18 else 15) [(0, .ref 0), (1, .int (nI p)), (2, .int (nI 2))] [] μ0 rfl trivial ?_
  rw [if_pos (zb_n (yin (by omega) (by decide)))]
  refine zq_go zt_X8_write 6 [vp_in (nI 2) 4] 26 [(0, .ref 0), (1, .int (nI p)), (2, .int (nI 2)), (3, .ref 29)] [.ref 29] μ0 rfl ⟨zn_in rfl (by decide) (by decide), trivial⟩ ?_
  refine zq_call zt_X8_write [.ref 29] [] (zs_isLostN_2 ht hC) rfl rfl ?_
  rintro _ _ ⟨rfl, rfl⟩
  refine zq_go zt_X8_write 1 [] (if (nI 1) = 0 then 38 else 32) [(0, .ref 0), (1, .int (nI p)), (2, .int (nI 2)), (3, .ref 29)] [] μ0 rfl trivial ?_
  rw [if_neg (by decide)]
  refine zq_go zt_X8_write 2 [] 34 [(0, .ref 0), (1, .int (nI p)), (2, .int (nI 2)), (3, .ref 29)] [.int (nI 1), .ref 0] μ0 rfl trivial ?_
  refine zq_call zt_X8_write [.ref 0, .int (nI 1)] [] (zs_refuse 1 hC) rfl rfl ?_
  rintro _ μ1 ⟨rfl, hC1, f1⟩
  exact zq_retn zt_X8_write rfl rfl (⟨rfl, hC1, f1⟩)
set_option maxRecDepth 100000 in
set_option maxHeartbeats 400000 in
theorem zs_write_n_3 {τ : zTd} {S : zES} {H : zSH} {μ0 : zq_Me} {p : Nat} (lp : p < ynp τ) (ht : H.1 3 = false) (hC : zIc τ S H μ0) : zq_Wp zn_X8_write 0 [(0, .ref 0), (1, .int (nI p)), (2, .int (nI 3))] [] μ0 (zRc (.int (-10 - nI 1)) τ S (yhf H (nI 1)) μ0) := by
  have hnp := hC.2.1.2.1
  refine zq_go zt_X8_write 2 [] 2 [(0, .ref 0), (1, .int (nI p)), (2, .int (nI 3))] [.int (nI p), .ref 0] μ0 rfl trivial ?_
  refine zq_call zt_X8_write [.ref 0, .int (nI p)] [] (zs_isPerson (nI p) hC) rfl rfl ?_
  rintro _ _ ⟨rfl, rfl⟩
  refine zq_go zt_X8_write 1 [] (if (zb (0 ≤ nI p ∧ nI p ≤ nI (ynp τ) - nI 1)) = 0 then 15 else 8) [(0, .ref 0), (1, .int (nI p)), (2, .int (nI 3))] [] μ0 rfl trivial ?_
  rw [if_neg (zb_n (yip (by omega) (by omega)))]
  refine zq_go zt_X8_write 1 [] 9 [(0, .ref 0), (1, .int (nI p)), (2, .int (nI 3))] [.int (nI 3)] μ0 rfl trivial ?_
  refine zq_call zt_X8_write [.int (nI 3)] [] (zs_isSheet (nI 3) μ0) rfl rfl ?_
  rintro _ _ ⟨rfl, rfl⟩
  refine zq_go zt_X8_write 1 [] (if ¬ (zb (0 ≤ nI 3 ∧ nI 3 ≤ nI 3)) = 0 then 18 else 15) [(0, .ref 0), (1, .int (nI p)), (2, .int (nI 3))] [] μ0 rfl trivial ?_
  rw [if_pos (zb_n (yin (by omega) (by decide)))]
  refine zq_go zt_X8_write 6 [vp_in (nI 3) 4] 26 [(0, .ref 0), (1, .int (nI p)), (2, .int (nI 3)), (3, .ref 31)] [.ref 31] μ0 rfl ⟨zn_in rfl (by decide) (by decide), trivial⟩ ?_
  refine zq_call zt_X8_write [.ref 31] [] (zs_isLostN_3 ht hC) rfl rfl ?_
  rintro _ _ ⟨rfl, rfl⟩
  refine zq_go zt_X8_write 1 [] (if (nI 1) = 0 then 38 else 32) [(0, .ref 0), (1, .int (nI p)), (2, .int (nI 3)), (3, .ref 31)] [] μ0 rfl trivial ?_
  rw [if_neg (by decide)]
  refine zq_go zt_X8_write 2 [] 34 [(0, .ref 0), (1, .int (nI p)), (2, .int (nI 3)), (3, .ref 31)] [.int (nI 1), .ref 0] μ0 rfl trivial ?_
  refine zq_call zt_X8_write [.ref 0, .int (nI 1)] [] (zs_refuse 1 hC) rfl rfl ?_
  rintro _ μ1 ⟨rfl, hC1, f1⟩
  exact zq_retn zt_X8_write rfl rfl (⟨rfl, hC1, f1⟩)
theorem zs_write_n {τ : zTd} {S : zES} {H : zSH} {μ0 : zq_Me} {s : Nat} (ls : s ≤ 3) {p : Nat} (lp : p < ynp τ) (ht : H.1 s = false) (hC : zIc τ S H μ0) : zq_Wp zn_X8_write 0 [(0, .ref 0), (1, .int (nI p)), (2, .int (nI s))] [] μ0 (zRc (.int (-10 - nI 1)) τ S (yhf H (nI 1)) μ0) := by
  obtain rfl | rfl | rfl | rfl : s = 0 ∨ s = 1 ∨ s = 2 ∨ s = 3 := by omega
  · exact zs_write_n_0 lp ht hC
  · exact zs_write_n_1 lp ht hC
  · exact zs_write_n_2 lp ht hC
  · exact zs_write_n_3 lp ht hC
set_option maxRecDepth 100000 in
set_option maxHeartbeats 400000 in
theorem zs_write_b {τ : zTd} {S : zES} {H : zSH} {μ0 : zq_Me} (v1 v2 : Int32) (hg : ¬ ((0 ≤ v1 ∧ v1 ≤ nI (ynp τ) - nI 1) ∧ (0 ≤ v2 ∧ v2 ≤ nI 3))) (hC : zIc τ S H μ0) : zq_Wp zn_X8_write 0 [(0, .ref 0), (1, .int v1), (2, .int v2)] [] μ0 (zRc (.int (-2)) τ S H μ0) := by
  refine zq_go zt_X8_write 2 [] 2 [(0, .ref 0), (1, .int v1), (2, .int v2)] [.int v1, .ref 0] μ0 rfl trivial ?_
  refine zq_call zt_X8_write [.ref 0, .int v1] [] (zs_isPerson v1 hC) rfl rfl ?_
  rintro _ _ ⟨rfl, rfl⟩
  refine zq_go zt_X8_write 1 [] (if (zb (0 ≤ v1 ∧ v1 ≤ nI (ynp τ) - nI 1)) = 0 then 15 else 8) [(0, .ref 0), (1, .int v1), (2, .int v2)] [] μ0 rfl trivial ?_
  refine zq_ite (fun h4 => ?_) (fun h4 => ?_)
  · refine zq_go zt_X8_write 1 [] 17 [(0, .ref 0), (1, .int v1), (2, .int v2)] [.int (-2)] μ0 rfl trivial ?_
    exact zq_retn zt_X8_write rfl rfl (⟨rfl, hC, zq_fr.rf⟩)
  · have g0 := zb_p h4
    refine zq_go zt_X8_write 1 [] 9 [(0, .ref 0), (1, .int v1), (2, .int v2)] [.int v2] μ0 rfl trivial ?_
    refine zq_call zt_X8_write [.int v2] [] (zs_isSheet v2 μ0) rfl rfl ?_
    rintro _ _ ⟨rfl, rfl⟩
    refine zq_go zt_X8_write 1 [] (if ¬ (zb (0 ≤ v2 ∧ v2 ≤ nI 3)) = 0 then 18 else 15) [(0, .ref 0), (1, .int v1), (2, .int v2)] [] μ0 rfl trivial ?_
    refine zq_ite (fun h12 => ?_) (fun h12 => ?_)
    · have g1 := zb_p h12
      exact absurd ⟨g0, g1⟩ hg
    · refine zq_go zt_X8_write 1 [] 17 [(0, .ref 0), (1, .int v1), (2, .int v2)] [.int (-2)] μ0 rfl trivial ?_
      exact zq_retn zt_X8_write rfl rfl (⟨rfl, hC, zq_fr.rf⟩)
set_option maxRecDepth 100000 in
set_option maxHeartbeats 400000 in
theorem zs_writem_b {τ : zTd} {S : zES} {H : zSH} {μ0 : zq_Me} (v1 v2 : Int32) (hg : ¬ ((0 ≤ v1 ∧ v1 ≤ nI (ynp τ) - nI 1) ∧ (0 ≤ v2 ∧ v2 ≤ nI 3))) (hM : zIm τ S H μ0) : zq_Wp zn_X9_write 0 [(0, .ref 50), (1, .int v1), (2, .int v2)] [] μ0 (zRm' (.int (-2)) τ S H μ0) := by
  refine zq_go zt_X9_write 2 [] 2 [(0, .ref 50), (1, .int v1), (2, .int v2)] [.int v1, .ref 50] μ0 rfl trivial ?_
  refine zq_call zt_X9_write [.ref 50, .int v1] [] (zs_isPersonm v1 hM) rfl rfl ?_
  rintro _ μ1 ⟨rfl, m1, f1, d1, p1⟩
  refine zq_go zt_X9_write 1 [] (if (zb (0 ≤ v1 ∧ v1 ≤ nI (ynp τ) - nI 1)) = 0 then 15 else 8) [(0, .ref 50), (1, .int v1), (2, .int v2)] [] μ1 rfl trivial ?_
  refine zq_ite (fun h4 => ?_) (fun h4 => ?_)
  · refine zq_go zt_X9_write 1 [] 17 [(0, .ref 50), (1, .int v1), (2, .int v2)] [.int (-2)] μ1 rfl trivial ?_
    exact zq_retn zt_X9_write rfl rfl (⟨rfl, m1, f1⟩)
  · have g0 := zb_p h4
    refine zq_go zt_X9_write 1 [] 9 [(0, .ref 50), (1, .int v1), (2, .int v2)] [.int v2] μ1 rfl trivial ?_
    refine zq_call zt_X9_write [.int v2] [] (zs_isSheetm v2 μ1) rfl rfl ?_
    rintro _ _ ⟨rfl, rfl⟩
    refine zq_go zt_X9_write 1 [] (if ¬ (zb (0 ≤ v2 ∧ v2 ≤ nI 3)) = 0 then 18 else 15) [(0, .ref 50), (1, .int v1), (2, .int v2)] [] μ1 rfl trivial ?_
    refine zq_ite (fun h12 => ?_) (fun h12 => ?_)
    · have g1 := zb_p h12
      exact absurd ⟨g0, g1⟩ hg
    · refine zq_go zt_X9_write 1 [] 17 [(0, .ref 50), (1, .int v1), (2, .int v2)] [.int (-2)] μ1 rfl trivial ?_
      exact zq_retn zt_X9_write rfl rfl (⟨rfl, m1, f1⟩)
set_option maxRecDepth 100000 in
set_option maxHeartbeats 400000 in
theorem zs_writem_l {τ : zTd} {S : zES} {H : zSH} {μ0 ν1 : zq_Me} (hM1 : zIm τ S H ν1) (f1 : zq_fr zSM μ0 ν1) (q1 : zQm (ynp τ) (yRt τ 0) ν1) {s p : Nat} (ls : s ≤ 3) (ht : H.1 s = true) (lp : p < ynp τ) : ∀ (j n : Nat) (μ : zq_Me), n + j = ymn (H.2.2.1 s) → (zq_fr [75] ν1 μ ∧ ∀ j, μ.1 75 j = if 60 * s ≤ j ∧ j < 60 * s + n then znr (H.2.1 s) (nI (yRt τ 0 p (j - 60 * s))) else ν1.1 75 j) → zq_Wp zn_X9_write 39 [(0, .ref 50), (1, .int (nI p)), (2, .int (nI s)), (3, .int (nI n))] [] μ (zRm' (.int (nI (ymn (H.2.2.1 s)))) τ S (yhi H s (ywr H s (yRt τ 0 p) (ymn (H.2.2.1 s)))) μ0) := by
  have hm9 := ymn_le (H.2.2.1 s)
  have hnp := q1.1
  have hz := (hM1.2.2.2.2.2 s (by omega)).2
  have hfm := (hM1.2.2.2.2.2 s (by omega)).1
  have h72 : ν1.1 72 s = nI 1 := by rw [(hM1.2.2.2.2.1.1 s (by omega)).1, if_pos ht]; rfl
  have h73 : ν1.1 73 s = nI (H.2.1 s) := ((hM1.2.2.2.2.1.1 s (by omega)).2.1 ht).1
  have h74 : ν1.1 74 s = nI (H.2.2.1 s) := ((hM1.2.2.2.2.1.1 s (by omega)).2.1 ht).2
  have h75 : ∀ i, i < 60 → ν1.1 75 (60 * s + i) = H.2.2.2.1 s i := (hM1.2.2.2.2.1.1 s (by omega)).2.2
  intro j
  induction j with
  | zero =>
    rintro n μ hij ⟨hF, hA⟩
    have en : n = ymn (H.2.2.1 s) := by omega
    have hI := hM1.it (s := s) (by omega) (ywr H s (yRt τ 0 p) n) (hF.wk (by simp)) (fun j hj => by rw [hA, if_neg (by omega)]) (fun i hi9 => by
      rw [hA]
      unfold ywr
      by_cases q : i < n
      · rw [if_pos (by omega), if_pos q, Nat.add_sub_cancel_left]
      · rw [if_neg (by omega), if_neg q]; exact h75 i hi9)
    have z74 : μ.1 74 s = nI (H.2.2.1 s) := by rw [hF.a (b := 74) (by decide)]; exact h74
    refine zq_go zt_X9_write 6 [vp_in (nI s) 4] (if (μ.1 74 ((nI s).toNatClampNeg)) ≤ (nI n) then 78 else 49) [(0, .ref 50), (1, .int (nI p)), (2, .int (nI s)), (3, .int (nI n))] [] μ rfl ⟨zn_in (k := s) rfl (by omega) (by decide), trivial⟩ ?_
    rw [zn_cl (n := s) (by omega), z74]
    refine zq_ite (fun h22 => ?_) (fun h22 => ?_)
    · refine zq_go zt_X9_write 1 [] 79 [(0, .ref 50), (1, .int (nI p)), (2, .int (nI s)), (3, .int (nI n))] [.int (nI n)] μ rfl trivial ?_
      rw [← en]
      exact zq_retn zt_X9_write rfl rfl (⟨rfl, hI, f1.tr (hF.wk (by simp [zSM]))⟩)
    · rw [zn_le (by omega) (by omega)] at h22
      refine zq_go zt_X9_write 3 [] (if (nI 24) ≤ (nI n) then 78 else 55) [(0, .ref 50), (1, .int (nI p)), (2, .int (nI s)), (3, .int (nI n))] [] μ rfl trivial ?_
      rw [if_pos (by rw [zn_le (by omega) (by omega)]; omega)]
      refine zq_go zt_X9_write 1 [] 79 [(0, .ref 50), (1, .int (nI p)), (2, .int (nI s)), (3, .int (nI n))] [.int (nI n)] μ rfl trivial ?_
      rw [← en]
      exact zq_retn zt_X9_write rfl rfl (⟨rfl, hI, f1.tr (hF.wk (by simp [zSM]))⟩)
  | succ j ih =>
    rintro n μ hij ⟨hF, hA⟩
    have hI := hM1.it (s := s) (by omega) (ywr H s (yRt τ 0 p) n) (hF.wk (by simp)) (fun j hj => by rw [hA, if_neg (by omega)]) (fun i hi9 => by
      rw [hA]
      unfold ywr
      by_cases q : i < n
      · rw [if_pos (by omega), if_pos q, Nat.add_sub_cancel_left]
      · rw [if_neg (by omega), if_neg q]; exact h75 i hi9)
    have z74 : μ.1 74 s = nI (H.2.2.1 s) := by rw [hF.a (b := 74) (by decide)]; exact h74
    refine zq_go zt_X9_write 6 [vp_in (nI s) 4] (if (μ.1 74 ((nI s).toNatClampNeg)) ≤ (nI n) then 78 else 49) [(0, .ref 50), (1, .int (nI p)), (2, .int (nI s)), (3, .int (nI n))] [] μ rfl ⟨zn_in (k := s) rfl (by omega) (by decide), trivial⟩ ?_
    rw [zn_cl (n := s) (by omega), z74]
    rw [if_neg (by rw [zn_le (by omega) (by omega)]; omega)]
    refine zq_go zt_X9_write 3 [] (if (nI 24) ≤ (nI n) then 78 else 55) [(0, .ref 50), (1, .int (nI p)), (2, .int (nI s)), (3, .int (nI n))] [] μ rfl trivial ?_
    rw [if_neg (by rw [zn_le (by omega) (by omega)]; omega)]
    have e66 : μ.1 66 (8 * n + p) = nI (yRt τ 0 p n) := by rw [hF.a (b := 66) (by decide)]; exact (q1.2.2 p n lp (by omega)).1
    refine zq_go zt_X9_write 11 [vp_in (((nI 8) * (nI n)) + (nI p)) 192] 69 [(0, .ref 50), (1, .int (nI p)), (2, .int (nI s)), (3, .int (nI n))] [.int (μ.1 66 ((((nI 8) * (nI n)) + (nI p)).toNatClampNeg)), .int (nI n), .int (nI s), .ref 50] μ rfl ⟨zn_in (k := (8 * n) + p) (by rw [zn_mul 8 n, zn_add (8 * n) p]) (by omega) (by decide), trivial⟩ ?_
    rw [zn_mul 8 n, zn_add (8 * n) p, zn_cl (n := (8 * n) + p) (by omega), e66]
    refine zq_call zt_X9_write [.ref 50, .int (nI s), .int (nI n), .int (nI (yRt τ 0 p n))] [] (zs_keep (H := yhi H s (ywr H s (yRt τ 0 p) n)) ls ht (show n < 60 by omega) (nI (yRt τ 0 p n)) hI) rfl rfl ?_
    rintro _ μ2 ⟨rfl, e2⟩
    refine zq_go zt_X9_write 2 [] 39 [(0, .ref 50), (1, .int (nI p)), (2, .int (nI s)), (3, .int ((nI n) + (nI 1)))] [] μ2 rfl trivial ?_
    rw [zn_add n 1]
    have e3 : μ2 = zq_u1 μ 75 (60 * s + n) (znr (H.2.1 s) (nI (yRt τ 0 p n))) := e2
    refine ih (n + 1) μ2 (by omega) ⟨by rw [e3]; exact hF.u1 (by simp), fun j => ?_⟩
    rw [e3, zq_u1_rd, hA]
    by_cases q : j = 60 * s + n
    · rw [if_pos q, if_pos (by omega), q, Nat.add_sub_cancel_left]
    · rw [if_neg q]
      by_cases q2 : 60 * s ≤ j ∧ j < 60 * s + n
      · rw [if_pos q2, if_pos (by omega)]
      · rw [if_neg q2, if_neg (by omega)]
set_option maxRecDepth 100000 in
set_option maxHeartbeats 400000 in
theorem zs_writem {τ : zTd} {S : zES} {H : zSH} {μ0 : zq_Me} {s p : Nat} (ls : s ≤ 3) (lp : p < ynp τ) (ht : H.1 s = true) (hM : zIm τ S H μ0) : zq_Wp zn_X9_write 0 [(0, .ref 50), (1, .int (nI p)), (2, .int (nI s))] [] μ0 (zRm' (.int (nI (ymn (H.2.2.1 s)))) τ S (yhi H s (ywr H s (yRt τ 0 p) (ymn (H.2.2.1 s)))) μ0) := by
  refine zq_go zt_X9_write 2 [] 2 [(0, .ref 50), (1, .int (nI p)), (2, .int (nI s))] [.int (nI p), .ref 50] μ0 rfl trivial ?_
  refine zq_call zt_X9_write [.ref 50, .int (nI p)] [] (zs_isPersonm (nI p) hM) rfl rfl ?_
  rintro _ ν0 ⟨rfl, n0, k0, d0, p0⟩
  have hnp := p0.1
  refine zq_go zt_X9_write 1 [] (if (zb (0 ≤ (nI p) ∧ (nI p) ≤ nI (ynp τ) - nI 1)) = 0 then 15 else 8) [(0, .ref 50), (1, .int (nI p)), (2, .int (nI s))] [] ν0 rfl trivial ?_
  rw [if_neg (zb_n (yip lp (by omega)))]
  refine zq_go zt_X9_write 1 [] 9 [(0, .ref 50), (1, .int (nI p)), (2, .int (nI s))] [.int (nI s)] ν0 rfl trivial ?_
  refine zq_call zt_X9_write [.int (nI s)] [] (zs_isSheetm (nI s) ν0) rfl rfl ?_
  rintro _ _ ⟨rfl, rfl⟩
  refine zq_go zt_X9_write 1 [] (if ¬ (zb (0 ≤ (nI s) ∧ (nI s) ≤ nI 3)) = 0 then 18 else 15) [(0, .ref 50), (1, .int (nI p)), (2, .int (nI s))] [] ν0 rfl trivial ?_
  rw [if_pos (zb_n (yin (by omega) (by decide)))]
  have hz := (n0.2.2.2.2.2 s (by omega)).2
  have hfm := (n0.2.2.2.2.2 s (by omega)).1
  have h72 : ν0.1 72 s = nI 1 := by rw [(n0.2.2.2.2.1.1 s (by omega)).1, if_pos ht]; rfl
  have h73 : ν0.1 73 s = nI (H.2.1 s) := ((n0.2.2.2.2.1.1 s (by omega)).2.1 ht).1
  have h74 : ν0.1 74 s = nI (H.2.2.1 s) := ((n0.2.2.2.2.1.1 s (by omega)).2.1 ht).2
  have h75 : ∀ i, i < 60 → ν0.1 75 (60 * s + i) = H.2.2.2.1 s i := (n0.2.2.2.2.1.1 s (by omega)).2.2
  refine zq_go zt_X9_write 5 [vp_in (nI s) 4] (if ¬ (ν0.1 72 ((nI s).toNatClampNeg)) = 0 then 33 else 27) [(0, .ref 50), (1, .int (nI p)), (2, .int (nI s))] [] ν0 rfl ⟨zn_in (k := s) rfl (by omega) (by decide), trivial⟩ ?_
  rw [zn_cl (n := s) (by omega), h72]
  rw [if_pos (by decide)]
  refine zq_go zt_X9_write 1 [] 34 [(0, .ref 50), (1, .int (nI p)), (2, .int (nI s))] [.ref 50] ν0 rfl trivial ?_
  refine zq_call zt_X9_write [.ref 50] [] (zs_runsTold n0) rfl rfl ?_
  rintro _ ν1 ⟨rfl, n1, k1, o1, r1, q1⟩
  refine zq_go zt_X9_write 2 [] 39 [(0, .ref 50), (1, .int (nI p)), (2, .int (nI s)), (3, .int (nI 0))] [] ν1 rfl trivial ?_
  exact zs_writem_l n1 (k0.tr k1) q1 ls ht lp (ymn (H.2.2.1 s)) 0 ν1 (by omega) ⟨zq_fr.rf, fun j => by rw [if_neg (by omega)]⟩
set_option maxRecDepth 100000 in
set_option maxHeartbeats 400000 in
theorem zs_writem_n {τ : zTd} {S : zES} {H : zSH} {μ0 : zq_Me} {s p : Nat} (ls : s ≤ 3) (lp : p < ynp τ) (ht : ¬ H.1 s = true) (hM : zIm τ S H μ0) : zq_Wp zn_X9_write 0 [(0, .ref 50), (1, .int (nI p)), (2, .int (nI s))] [] μ0 (zRm' (.int (-10 - nI 1)) τ S (yhf H (nI 1)) μ0) := by
  refine zq_go zt_X9_write 2 [] 2 [(0, .ref 50), (1, .int (nI p)), (2, .int (nI s))] [.int (nI p), .ref 50] μ0 rfl trivial ?_
  refine zq_call zt_X9_write [.ref 50, .int (nI p)] [] (zs_isPersonm (nI p) hM) rfl rfl ?_
  rintro _ ν0 ⟨rfl, n0, k0, d0, p0⟩
  have hnp := p0.1
  refine zq_go zt_X9_write 1 [] (if (zb (0 ≤ (nI p) ∧ (nI p) ≤ nI (ynp τ) - nI 1)) = 0 then 15 else 8) [(0, .ref 50), (1, .int (nI p)), (2, .int (nI s))] [] ν0 rfl trivial ?_
  rw [if_neg (zb_n (yip lp (by omega)))]
  refine zq_go zt_X9_write 1 [] 9 [(0, .ref 50), (1, .int (nI p)), (2, .int (nI s))] [.int (nI s)] ν0 rfl trivial ?_
  refine zq_call zt_X9_write [.int (nI s)] [] (zs_isSheetm (nI s) ν0) rfl rfl ?_
  rintro _ _ ⟨rfl, rfl⟩
  refine zq_go zt_X9_write 1 [] (if ¬ (zb (0 ≤ (nI s) ∧ (nI s) ≤ nI 3)) = 0 then 18 else 15) [(0, .ref 50), (1, .int (nI p)), (2, .int (nI s))] [] ν0 rfl trivial ?_
  rw [if_pos (zb_n (yin (by omega) (by decide)))]
  have h72 : ν0.1 72 s = nI 0 := by rw [(n0.2.2.2.2.1.1 s (by omega)).1, if_neg ht]; rfl
  refine zq_go zt_X9_write 5 [vp_in (nI s) 4] (if ¬ (ν0.1 72 ((nI s).toNatClampNeg)) = 0 then 33 else 27) [(0, .ref 50), (1, .int (nI p)), (2, .int (nI s))] [] ν0 rfl ⟨zn_in (k := s) rfl (by omega) (by decide), trivial⟩ ?_
  rw [zn_cl (n := s) (by omega), h72]
  rw [if_neg (by decide)]
  refine zq_go zt_X9_write 2 [] 29 [(0, .ref 50), (1, .int (nI p)), (2, .int (nI s))] [.int (nI 1), .ref 50] ν0 rfl trivial ?_
  refine zq_call zt_X9_write [.ref 50, .int (nI 1)] [] (zs_meets 1 n0) rfl rfl ?_
  rintro _ ν1 ⟨rfl, n1, k1⟩
  exact zq_retn zt_X9_write rfl rfl (⟨rfl, n1, k0.tr k1⟩)
theorem zo_write (v1 v2 : Int32) : zop zn_X8_write [(0, .ref 0), (1, .int v1), (2, .int v2)] zn_X9_write [(0, .ref 50), (1, .int v1), (2, .int v2)] := by
  intro τ S H μ hC hM
  by_cases hg : (0 ≤ v1 ∧ v1 ≤ nI (ynp τ) - nI 1) ∧ (0 ≤ v2 ∧ v2 ≤ nI 3)
  · have hnp := hC.2.1.2.1
    obtain ⟨p, lp, rfl⟩ := ypx (by omega) hg.1
    obtain ⟨s, ls, rfl⟩ := yix (by decide) hg.2
    by_cases ht : H.1 s = true
    · exact ⟨_, τ, S, _, zs_write ls lp ht hC, fun _ h => zs_writem ls lp ht h⟩
    · exact ⟨_, τ, S, _, zs_write_n ls lp (yfalse ht) hC, fun _ h => zs_writem_n ls lp ht h⟩
  · exact ⟨_, τ, S, H, zs_write_b v1 v2 hg hC, fun _ h => zs_writem_b v1 v2 hg h⟩
def yCnt (τ : zTd) (S : zES) (H : zSH) (n : Nat) : Int32 := if n = 0 then nI (ynd τ) else if n = 1 then nI (ynp τ) else if n = 2 then nI (yn0 τ) else if n = 3 then nI (yn1 τ) else if n = 4 then nI (yne τ) else if n = 5 then nI (zc (zal (ynp τ) (yRt τ 0) 23).testBit 24) else if n = 6 then nI (yeh8 (ynp τ) (yRt τ 0) 8) else if n = 7 then nI S.1 else if n = 8 then H.2.2.2.2 else -2
set_option maxRecDepth 100000 in
set_option maxHeartbeats 400000 in
theorem zs_eha_l {τ : zTd} {μ : zq_Me} (hQ : zQ33 (ynp τ) (yRt τ 0) μ) : ∀ (j r : Nat), r + j = 8 → zq_Wp zn_X8_emptyHoursOfAll 9 [(0, .ref 0), (1, .ref 33), (2, .int (nI (yeh8 (ynp τ) (yRt τ 0) r))), (3, .int (nI r))] [] μ (zq_pi (nI (yeh8 (ynp τ) (yRt τ 0) 8)) μ) := by
  intro j
  induction j with
  | zero =>
    intro r hij
    obtain rfl : r = 8 := by omega
    refine zq_go zt_X8_emptyHoursOfAll 3 [] (if (nI 8) ≤ (nI 8) then 32 else 15) [(0, .ref 0), (1, .ref 33), (2, .int (nI (yeh8 (ynp τ) (yRt τ 0) 8))), (3, .int (nI 8))] [] μ rfl trivial ?_
    rw [if_pos (by decide)]
    refine zq_go zt_X8_emptyHoursOfAll 1 [] 33 [(0, .ref 0), (1, .ref 33), (2, .int (nI (yeh8 (ynp τ) (yRt τ 0) 8))), (3, .int (nI 8))] [.int (nI (yeh8 (ynp τ) (yRt τ 0) 8))] μ rfl trivial ?_
    exact zq_retn zt_X8_emptyHoursOfAll rfl rfl (⟨rfl, rfl⟩)
  | succ j ih =>
    intro r hij
    refine zq_go zt_X8_emptyHoursOfAll 3 [] (if (nI 8) ≤ (nI r) then 32 else 15) [(0, .ref 0), (1, .ref 33), (2, .int (nI (yeh8 (ynp τ) (yRt τ 0) r))), (3, .int (nI r))] [] μ rfl trivial ?_
    rw [if_neg (by rw [zn_le (by omega) (by omega)]; omega)]
    refine zq_go zt_X8_emptyHoursOfAll 3 [] 18 [(0, .ref 0), (1, .ref 33), (2, .int (nI (yeh8 (ynp τ) (yRt τ 0) r))), (3, .int (nI r))] [.int (nI r), .ref 33, .int (nI (yeh8 (ynp τ) (yRt τ 0) r))] μ rfl trivial ?_
    refine zq_call zt_X8_emptyHoursOfAll [.ref 33, .int (nI r)] [.int (nI (yeh8 (ynp τ) (yRt τ 0) r))] (zs_emptyHours33 hQ (show r < 2 ^ 31 by omega)) rfl rfl ?_
    rintro _ _ ⟨rfl, rfl⟩
    refine zq_call zt_X8_emptyHoursOfAll [.int (nI (zemp (ynp τ) (yRt τ 0) r))] [.int (nI (yeh8 (ynp τ) (yRt τ 0) r))] (zs_bc (zemp_lt _ _ _) μ) rfl rfl ?_
    rintro _ _ ⟨rfl, rfl⟩
    refine zq_go zt_X8_emptyHoursOfAll 4 [] 9 [(0, .ref 0), (1, .ref 33), (2, .int ((nI (yeh8 (ynp τ) (yRt τ 0) r)) + (nI (zc (zemp (ynp τ) (yRt τ 0) r).testBit 24)))), (3, .int ((nI r) + (nI 1)))] [] μ rfl trivial ?_
    rw [zn_add (yeh8 (ynp τ) (yRt τ 0) r) (zc (zemp (ynp τ) (yRt τ 0) r).testBit 24), zn_add r 1]
    exact ih (r + 1) (by omega)
set_option maxRecDepth 100000 in
set_option maxHeartbeats 400000 in
theorem zs_eha {τ : zTd} {S : zES} {H : zSH} {μ0 : zq_Me} (hC : zIc τ S H μ0) : zq_Wp zn_X8_emptyHoursOfAll 0 [(0, .ref 0)] [] μ0 (zRc (.int (nI (yeh8 (ynp τ) (yRt τ 0) 8))) τ S H μ0) := by
  refine zq_go zt_X8_emptyHoursOfAll 1 [] 1 [(0, .ref 0)] [.ref 0] μ0 rfl trivial ?_
  refine zq_call zt_X8_emptyHoursOfAll [.ref 0] [] (zs_weekAsTold hC) rfl rfl ?_
  rintro _ μ1 ⟨rfl, hC1, f1, hs1⟩
  refine zq_go zt_X8_emptyHoursOfAll 5 [] 9 [(0, .ref 0), (1, .ref 33), (2, .int (nI 0)), (3, .int (nI 0))] [] μ1 rfl trivial ?_
  refine zq_Wp_mono (zs_eha_l hs1.2 8 0 (by omega)) ?_
  rintro _ _ ⟨rfl, rfl⟩
  exact ⟨rfl, hC1, f1.wk (by simp +contextual [zSC])⟩
set_option maxRecDepth 100000 in
set_option maxHeartbeats 400000 in
theorem zs_sumOf_l {Q : zq_Post} {τ : zTd} {μ : zq_Me} (hQ : zQm (ynp τ) (yRt τ 0) μ) {x : Nat} (kk : zq_Wp zn_X9_sumOf 32 [(0, .ref 50), (1, .int (nI x)), (2, .int (nI (yeh8 (ynp τ) (yRt τ 0) 8)))] [] μ Q) : ∀ (j r : Nat), r + j = 8 → zq_Wp zn_X9_sumOf 8 [(0, .ref 50), (1, .int (nI x)), (2, .int (nI (yeh8 (ynp τ) (yRt τ 0) r))), (3, .int (nI r))] [] μ Q := by
  intro j
  induction j with
  | zero =>
    intro r hij
    obtain rfl : r = 8 := by omega
    refine zq_go zt_X9_sumOf 3 [] (if (nI 8) ≤ (nI 8) then 32 else 14) [(0, .ref 50), (1, .int (nI x)), (2, .int (nI (yeh8 (ynp τ) (yRt τ 0) 8))), (3, .int (nI 8))] [] μ rfl trivial ?_
    rw [if_pos (by decide)]
    exact zq_drp [0, 1, 2] _ rfl kk
  | succ j ih =>
    intro r hij
    refine zq_go zt_X9_sumOf 3 [] (if (nI 8) ≤ (nI r) then 32 else 14) [(0, .ref 50), (1, .int (nI x)), (2, .int (nI (yeh8 (ynp τ) (yRt τ 0) r))), (3, .int (nI r))] [] μ rfl trivial ?_
    rw [if_neg (by rw [zn_le (by omega) (by omega)]; omega)]
    refine zq_go zt_X9_sumOf 4 [] 18 [(0, .ref 50), (1, .int (nI x)), (2, .int (nI (yeh8 (ynp τ) (yRt τ 0) r))), (3, .int (nI r))] [.int (nI r), .ref 50, .ref 50, .int (nI (yeh8 (ynp τ) (yRt τ 0) r))] μ rfl trivial ?_
    refine zq_call zt_X9_sumOf [.ref 50, .int (nI r)] [.ref 50, .int (nI (yeh8 (ynp τ) (yRt τ 0) r))] (zs_emptyNow hQ (show r < 2 ^ 31 by omega)) rfl rfl ?_
    rintro _ _ ⟨rfl, rfl⟩
    refine zq_call zt_X9_sumOf [.ref 50, .int (nI (zemp (ynp τ) (yRt τ 0) r))] [.int (nI (yeh8 (ynp τ) (yRt τ 0) r))] (zs_many (Nat.lt_trans (zemp_lt _ _ _) (by decide)) μ) rfl rfl ?_
    rintro _ _ ⟨rfl, rfl⟩
    refine zq_go zt_X9_sumOf 4 [] 8 [(0, .ref 50), (1, .int (nI x)), (2, .int ((nI (yeh8 (ynp τ) (yRt τ 0) r)) + (nI (zc (zemp (ynp τ) (yRt τ 0) r).testBit 24)))), (3, .int ((nI r) + (nI 1)))] [] μ rfl trivial ?_
    rw [zn_add (yeh8 (ynp τ) (yRt τ 0) r) (zc (zemp (ynp τ) (yRt τ 0) r).testBit 24), zn_add r 1]
    exact ih (r + 1) (by omega)
set_option maxRecDepth 100000 in
set_option maxHeartbeats 400000 in
theorem zs_sumOf_0 {τ : zTd} {S : zES} {H : zSH} {μ0 : zq_Me} (hM : zIm τ S H μ0) : zq_Wp zn_X9_sumOf 0 [(0, .ref 50), (1, .int (nI 0))] [] μ0 (zRm' (.int (yCnt τ S H 0)) τ S H μ0) := by
  refine zq_go zt_X9_sumOf 1 [] 1 [(0, .ref 50), (1, .int (nI 0))] [.ref 50] μ0 rfl trivial ?_
  refine zq_call zt_X9_sumOf [.ref 50] [] (zs_runsTold hM) rfl rfl ?_
  rintro _ ν1 ⟨rfl, n1, k1, o1, r1, q1⟩
  refine zq_go zt_X9_sumOf 4 [] 8 [(0, .ref 50), (1, .int (nI 0)), (2, .int (nI 0)), (3, .int (nI 0))] [] ν1 rfl trivial ?_
  refine zs_sumOf_l q1 ?_ 8 0 (by omega)
  refine zq_go zt_X9_sumOf 2 [] (if ¬ (nI 0) = 0 then 43 else 36) [(0, .ref 50), (1, .int (nI 0)), (2, .int (nI (yeh8 (ynp τ) (yRt τ 0) 8)))] [] ν1 rfl trivial ?_
  rw [if_neg (by decide)]
  refine zq_go zt_X9_sumOf 3 [] 72 [(0, .ref 50), (1, .int (nI 0)), (2, .int (nI (yeh8 (ynp τ) (yRt τ 0) 8)))] [.int (ν1.1 50 2)] ν1 rfl trivial ?_
  rw [o1.1.2.1]
  exact zq_retn zt_X9_sumOf rfl rfl (⟨rfl, n1, k1⟩)
set_option maxRecDepth 100000 in
set_option maxHeartbeats 400000 in
theorem zs_sumOf_1 {τ : zTd} {S : zES} {H : zSH} {μ0 : zq_Me} (hM : zIm τ S H μ0) : zq_Wp zn_X9_sumOf 0 [(0, .ref 50), (1, .int (nI 1))] [] μ0 (zRm' (.int (yCnt τ S H 1)) τ S H μ0) := by
  refine zq_go zt_X9_sumOf 1 [] 1 [(0, .ref 50), (1, .int (nI 1))] [.ref 50] μ0 rfl trivial ?_
  refine zq_call zt_X9_sumOf [.ref 50] [] (zs_runsTold hM) rfl rfl ?_
  rintro _ ν1 ⟨rfl, n1, k1, o1, r1, q1⟩
  refine zq_go zt_X9_sumOf 4 [] 8 [(0, .ref 50), (1, .int (nI 1)), (2, .int (nI 0)), (3, .int (nI 0))] [] ν1 rfl trivial ?_
  refine zs_sumOf_l q1 ?_ 8 0 (by omega)
  refine zq_go zt_X9_sumOf 2 [] (if ¬ (nI 1) = 0 then 43 else 36) [(0, .ref 50), (1, .int (nI 1)), (2, .int (nI (yeh8 (ynp τ) (yRt τ 0) 8)))] [] ν1 rfl trivial ?_
  rw [if_pos (by decide)]
  refine zq_go zt_X9_sumOf 3 [] (if ¬ (nI 1) = (nI 1) then 55 else 48) [(0, .ref 50), (1, .int (nI 1)), (2, .int (nI (yeh8 (ynp τ) (yRt τ 0) 8)))] [] ν1 rfl trivial ?_
  rw [if_neg (by decide)]
  refine zq_go zt_X9_sumOf 3 [] 72 [(0, .ref 50), (1, .int (nI 1)), (2, .int (nI (yeh8 (ynp τ) (yRt τ 0) 8)))] [.int (ν1.1 50 5)] ν1 rfl trivial ?_
  rw [q1.2.1]
  exact zq_retn zt_X9_sumOf rfl rfl (⟨rfl, n1, k1⟩)
set_option maxRecDepth 100000 in
set_option maxHeartbeats 400000 in
theorem zs_sumOf_5 {τ : zTd} {S : zES} {H : zSH} {μ0 : zq_Me} (hM : zIm τ S H μ0) : zq_Wp zn_X9_sumOf 0 [(0, .ref 50), (1, .int (nI 5))] [] μ0 (zRm' (.int (yCnt τ S H 5)) τ S H μ0) := by
  refine zq_go zt_X9_sumOf 1 [] 1 [(0, .ref 50), (1, .int (nI 5))] [.ref 50] μ0 rfl trivial ?_
  refine zq_call zt_X9_sumOf [.ref 50] [] (zs_runsTold hM) rfl rfl ?_
  rintro _ ν1 ⟨rfl, n1, k1, o1, r1, q1⟩
  refine zq_go zt_X9_sumOf 4 [] 8 [(0, .ref 50), (1, .int (nI 5)), (2, .int (nI 0)), (3, .int (nI 0))] [] ν1 rfl trivial ?_
  refine zs_sumOf_l q1 ?_ 8 0 (by omega)
  refine zq_go zt_X9_sumOf 2 [] (if ¬ (nI 5) = 0 then 43 else 36) [(0, .ref 50), (1, .int (nI 5)), (2, .int (nI (yeh8 (ynp τ) (yRt τ 0) 8)))] [] ν1 rfl trivial ?_
  rw [if_pos (by decide)]
  refine zq_go zt_X9_sumOf 3 [] (if ¬ (nI 5) = (nI 1) then 55 else 48) [(0, .ref 50), (1, .int (nI 5)), (2, .int (nI (yeh8 (ynp τ) (yRt τ 0) 8)))] [] ν1 rfl trivial ?_
  rw [if_pos (by decide)]
  refine zq_go zt_X9_sumOf 3 [] (if ¬ (nI 5) = (nI 5) then 71 else 60) [(0, .ref 50), (1, .int (nI 5)), (2, .int (nI (yeh8 (ynp τ) (yRt τ 0) 8)))] [] ν1 rfl trivial ?_
  rw [if_neg (by decide)]
  refine zq_go zt_X9_sumOf 2 [] 62 [(0, .ref 50), (1, .int (nI 5)), (2, .int (nI (yeh8 (ynp τ) (yRt τ 0) 8)))] [.ref 50, .ref 50] ν1 rfl trivial ?_
  refine zq_call zt_X9_sumOf [.ref 50] [.ref 50] (zs_aloneNow q1) rfl rfl ?_
  rintro _ _ ⟨rfl, rfl⟩
  refine zq_call zt_X9_sumOf [.ref 50, .int (nI (zal (ynp τ) (yRt τ 0) 23))] [] (zs_many (Nat.lt_trans (zal_lt q1.1 _ _) (by decide)) ν1) rfl rfl ?_
  rintro _ _ ⟨rfl, rfl⟩
  refine zq_go zt_X9_sumOf 1 [] 72 [(0, .ref 50), (1, .int (nI 5)), (2, .int (nI (yeh8 (ynp τ) (yRt τ 0) 8)))] [.int (nI (zc (zal (ynp τ) (yRt τ 0) 23).testBit 24))] ν1 rfl trivial ?_
  exact zq_retn zt_X9_sumOf rfl rfl (⟨rfl, n1, k1⟩)
set_option maxRecDepth 100000 in
set_option maxHeartbeats 400000 in
theorem zs_sumOf_6 {τ : zTd} {S : zES} {H : zSH} {μ0 : zq_Me} (hM : zIm τ S H μ0) : zq_Wp zn_X9_sumOf 0 [(0, .ref 50), (1, .int (nI 6))] [] μ0 (zRm' (.int (yCnt τ S H 6)) τ S H μ0) := by
  refine zq_go zt_X9_sumOf 1 [] 1 [(0, .ref 50), (1, .int (nI 6))] [.ref 50] μ0 rfl trivial ?_
  refine zq_call zt_X9_sumOf [.ref 50] [] (zs_runsTold hM) rfl rfl ?_
  rintro _ ν1 ⟨rfl, n1, k1, o1, r1, q1⟩
  refine zq_go zt_X9_sumOf 4 [] 8 [(0, .ref 50), (1, .int (nI 6)), (2, .int (nI 0)), (3, .int (nI 0))] [] ν1 rfl trivial ?_
  refine zs_sumOf_l q1 ?_ 8 0 (by omega)
  refine zq_go zt_X9_sumOf 2 [] (if ¬ (nI 6) = 0 then 43 else 36) [(0, .ref 50), (1, .int (nI 6)), (2, .int (nI (yeh8 (ynp τ) (yRt τ 0) 8)))] [] ν1 rfl trivial ?_
  rw [if_pos (by decide)]
  refine zq_go zt_X9_sumOf 3 [] (if ¬ (nI 6) = (nI 1) then 55 else 48) [(0, .ref 50), (1, .int (nI 6)), (2, .int (nI (yeh8 (ynp τ) (yRt τ 0) 8)))] [] ν1 rfl trivial ?_
  rw [if_pos (by decide)]
  refine zq_go zt_X9_sumOf 3 [] (if ¬ (nI 6) = (nI 5) then 71 else 60) [(0, .ref 50), (1, .int (nI 6)), (2, .int (nI (yeh8 (ynp τ) (yRt τ 0) 8)))] [] ν1 rfl trivial ?_
  rw [if_pos (by decide)]
  refine zq_go zt_X9_sumOf 1 [] 72 [(0, .ref 50), (1, .int (nI 6)), (2, .int (nI (yeh8 (ynp τ) (yRt τ 0) 8)))] [.int (nI (yeh8 (ynp τ) (yRt τ 0) 8))] ν1 rfl trivial ?_
  exact zq_retn zt_X9_sumOf rfl rfl (⟨rfl, n1, k1⟩)
set_option maxRecDepth 100000 in
set_option maxHeartbeats 400000 in
theorem zs_count_0 {τ : zTd} {S : zES} {H : zSH} {μ0 : zq_Me} (hC : zIc τ S H μ0) : zq_Wp zn_X8_count 0 [(0, .ref 0), (1, .int (nI 0))] [] μ0 (zRc (.int (yCnt τ S H 0)) τ S H μ0) := by
  refine zq_go zt_X8_count 2 [] (zq_tgt 0 8 118 [52, 60, 68, 76, 84, 92, 100, 105, 113] (nI 0)) [(0, .ref 0), (1, .int (nI 0))] [] μ0 rfl trivial ?_
  rw [show zq_tgt 0 8 118 [52, 60, 68, 76, 84, 92, 100, 105, 113] (nI 0) = 52 by decide +kernel]
  refine zq_go zt_X8_count 3 [] 59 [(0, .ref 0), (1, .int (nI 0))] [.int (μ0.1 1 5)] μ0 rfl trivial ?_
  rw [hC.2.1.1.2.1]
  exact zq_retn zt_X8_count rfl rfl (⟨rfl, hC, zq_fr.rf⟩)
set_option maxRecDepth 100000 in
set_option maxHeartbeats 400000 in
theorem zs_count_1 {τ : zTd} {S : zES} {H : zSH} {μ0 : zq_Me} (hC : zIc τ S H μ0) : zq_Wp zn_X8_count 0 [(0, .ref 0), (1, .int (nI 1))] [] μ0 (zRc (.int (yCnt τ S H 1)) τ S H μ0) := by
  refine zq_go zt_X8_count 2 [] (zq_tgt 0 8 118 [52, 60, 68, 76, 84, 92, 100, 105, 113] (nI 1)) [(0, .ref 0), (1, .int (nI 1))] [] μ0 rfl trivial ?_
  rw [show zq_tgt 0 8 118 [52, 60, 68, 76, 84, 92, 100, 105, 113] (nI 1) = 60 by decide +kernel]
  refine zq_go zt_X8_count 3 [] 67 [(0, .ref 0), (1, .int (nI 1))] [.int (μ0.1 6 5)] μ0 rfl trivial ?_
  rw [hC.2.1.2.2.1]
  exact zq_retn zt_X8_count rfl rfl (⟨rfl, hC, zq_fr.rf⟩)
set_option maxRecDepth 100000 in
set_option maxHeartbeats 400000 in
theorem zs_count_2 {τ : zTd} {S : zES} {H : zSH} {μ0 : zq_Me} (hC : zIc τ S H μ0) : zq_Wp zn_X8_count 0 [(0, .ref 0), (1, .int (nI 2))] [] μ0 (zRc (.int (yCnt τ S H 2)) τ S H μ0) := by
  refine zq_go zt_X8_count 2 [] (zq_tgt 0 8 118 [52, 60, 68, 76, 84, 92, 100, 105, 113] (nI 2)) [(0, .ref 0), (1, .int (nI 2))] [] μ0 rfl trivial ?_
  rw [show zq_tgt 0 8 118 [52, 60, 68, 76, 84, 92, 100, 105, 113] (nI 2) = 68 by decide +kernel]
  refine zq_go zt_X8_count 3 [] 75 [(0, .ref 0), (1, .int (nI 2))] [.int (μ0.1 1 3)] μ0 rfl trivial ?_
  rw [hC.1.1.2.2.2.1]
  exact zq_retn zt_X8_count rfl rfl (⟨rfl, hC, zq_fr.rf⟩)
set_option maxRecDepth 100000 in
set_option maxHeartbeats 400000 in
theorem zs_count_3 {τ : zTd} {S : zES} {H : zSH} {μ0 : zq_Me} (hC : zIc τ S H μ0) : zq_Wp zn_X8_count 0 [(0, .ref 0), (1, .int (nI 3))] [] μ0 (zRc (.int (yCnt τ S H 3)) τ S H μ0) := by
  refine zq_go zt_X8_count 2 [] (zq_tgt 0 8 118 [52, 60, 68, 76, 84, 92, 100, 105, 113] (nI 3)) [(0, .ref 0), (1, .int (nI 3))] [] μ0 rfl trivial ?_
  rw [show zq_tgt 0 8 118 [52, 60, 68, 76, 84, 92, 100, 105, 113] (nI 3) = 76 by decide +kernel]
  refine zq_go zt_X8_count 3 [] 83 [(0, .ref 0), (1, .int (nI 3))] [.int (μ0.1 6 3)] μ0 rfl trivial ?_
  rw [hC.1.2.1.2.2.2.1]
  exact zq_retn zt_X8_count rfl rfl (⟨rfl, hC, zq_fr.rf⟩)
set_option maxRecDepth 100000 in
set_option maxHeartbeats 400000 in
theorem zs_count_4 {τ : zTd} {S : zES} {H : zSH} {μ0 : zq_Me} (hC : zIc τ S H μ0) : zq_Wp zn_X8_count 0 [(0, .ref 0), (1, .int (nI 4))] [] μ0 (zRc (.int (yCnt τ S H 4)) τ S H μ0) := by
  refine zq_go zt_X8_count 2 [] (zq_tgt 0 8 118 [52, 60, 68, 76, 84, 92, 100, 105, 113] (nI 4)) [(0, .ref 0), (1, .int (nI 4))] [] μ0 rfl trivial ?_
  rw [show zq_tgt 0 8 118 [52, 60, 68, 76, 84, 92, 100, 105, 113] (nI 4) = 84 by decide +kernel]
  refine zq_go zt_X8_count 3 [] 91 [(0, .ref 0), (1, .int (nI 4))] [.int (μ0.1 11 3)] μ0 rfl trivial ?_
  rw [hC.2.2.2.1.1.2.1]
  exact zq_retn zt_X8_count rfl rfl (⟨rfl, hC, zq_fr.rf⟩)
set_option maxRecDepth 100000 in
set_option maxHeartbeats 400000 in
theorem zs_count_5 {τ : zTd} {S : zES} {H : zSH} {μ0 : zq_Me} (hC : zIc τ S H μ0) : zq_Wp zn_X8_count 0 [(0, .ref 0), (1, .int (nI 5))] [] μ0 (zRc (.int (yCnt τ S H 5)) τ S H μ0) := by
  refine zq_go zt_X8_count 2 [] (zq_tgt 0 8 118 [52, 60, 68, 76, 84, 92, 100, 105, 113] (nI 5)) [(0, .ref 0), (1, .int (nI 5))] [] μ0 rfl trivial ?_
  rw [show zq_tgt 0 8 118 [52, 60, 68, 76, 84, 92, 100, 105, 113] (nI 5) = 92 by decide +kernel]
  refine zq_go zt_X8_count 1 [] 93 [(0, .ref 0), (1, .int (nI 5))] [.ref 0] μ0 rfl trivial ?_
  refine zq_call zt_X8_count [.ref 0] [] (zs_alone hC) rfl rfl ?_
  rintro _ μ1 ⟨rfl, hC1, f1⟩
  refine zq_call zt_X8_count [.int (nI (zal (ynp τ) (yRt τ 0) 23))] [] (zs_bc (Nat.lt_trans (zal_lt hC.2.1.2.1 _ _) (by decide)) μ1) rfl rfl ?_
  rintro _ _ ⟨rfl, rfl⟩
  exact zq_retn zt_X8_count rfl rfl (⟨rfl, hC1, f1⟩)
set_option maxRecDepth 100000 in
set_option maxHeartbeats 400000 in
theorem zs_count_6 {τ : zTd} {S : zES} {H : zSH} {μ0 : zq_Me} (hC : zIc τ S H μ0) : zq_Wp zn_X8_count 0 [(0, .ref 0), (1, .int (nI 6))] [] μ0 (zRc (.int (yCnt τ S H 6)) τ S H μ0) := by
  refine zq_go zt_X8_count 2 [] (zq_tgt 0 8 118 [52, 60, 68, 76, 84, 92, 100, 105, 113] (nI 6)) [(0, .ref 0), (1, .int (nI 6))] [] μ0 rfl trivial ?_
  rw [show zq_tgt 0 8 118 [52, 60, 68, 76, 84, 92, 100, 105, 113] (nI 6) = 100 by decide +kernel]
  refine zq_go zt_X8_count 1 [] 101 [(0, .ref 0), (1, .int (nI 6))] [.ref 0] μ0 rfl trivial ?_
  refine zq_call zt_X8_count [.ref 0] [] (zs_eha hC) rfl rfl ?_
  rintro _ μ1 ⟨rfl, hC1, f1⟩
  exact zq_retn zt_X8_count rfl rfl (⟨rfl, hC1, f1⟩)
set_option maxRecDepth 100000 in
set_option maxHeartbeats 400000 in
theorem zs_count_7 {τ : zTd} {S : zES} {H : zSH} {μ0 : zq_Me} (hC : zIc τ S H μ0) : zq_Wp zn_X8_count 0 [(0, .ref 0), (1, .int (nI 7))] [] μ0 (zRc (.int (yCnt τ S H 7)) τ S H μ0) := by
  refine zq_go zt_X8_count 2 [] (zq_tgt 0 8 118 [52, 60, 68, 76, 84, 92, 100, 105, 113] (nI 7)) [(0, .ref 0), (1, .int (nI 7))] [] μ0 rfl trivial ?_
  rw [show zq_tgt 0 8 118 [52, 60, 68, 76, 84, 92, 100, 105, 113] (nI 7) = 105 by decide +kernel]
  refine zq_go zt_X8_count 3 [] 112 [(0, .ref 0), (1, .int (nI 7))] [.int (μ0.1 20 3)] μ0 rfl trivial ?_
  rw [hC.2.2.2.2.2.2.2.1.2.1]
  exact zq_retn zt_X8_count rfl rfl (⟨rfl, hC, zq_fr.rf⟩)
set_option maxRecDepth 100000 in
set_option maxHeartbeats 400000 in
theorem zs_count_8 {τ : zTd} {S : zES} {H : zSH} {μ0 : zq_Me} (hC : zIc τ S H μ0) : zq_Wp zn_X8_count 0 [(0, .ref 0), (1, .int (nI 8))] [] μ0 (zRc (.int (yCnt τ S H 8)) τ S H μ0) := by
  refine zq_go zt_X8_count 2 [] (zq_tgt 0 8 118 [52, 60, 68, 76, 84, 92, 100, 105, 113] (nI 8)) [(0, .ref 0), (1, .int (nI 8))] [] μ0 rfl trivial ?_
  rw [show zq_tgt 0 8 118 [52, 60, 68, 76, 84, 92, 100, 105, 113] (nI 8) = 113 by decide +kernel]
  refine zq_go zt_X8_count 2 [] 117 [(0, .ref 0), (1, .int (nI 8))] [.int (μ0.1 0 13)] μ0 rfl trivial ?_
  rw [hC.2.2.2.2.2.2.2.2.1.2]
  exact zq_retn zt_X8_count rfl rfl (⟨rfl, hC, zq_fr.rf⟩)
set_option maxRecDepth 100000 in
set_option maxHeartbeats 400000 in
theorem zs_count_b (v1 : Int32) (hg : ¬ (0 ≤ v1 ∧ v1 ≤ nI 8)) {τ : zTd} {S : zES} {H : zSH} {μ0 : zq_Me} (hC : zIc τ S H μ0) : zq_Wp zn_X8_count 0 [(0, .ref 0), (1, .int v1)] [] μ0 (zRc (.int (-2)) τ S H μ0) := by
  refine zq_go zt_X8_count 2 [] (zq_tgt 0 8 118 [52, 60, 68, 76, 84, 92, 100, 105, 113] v1) [(0, .ref 0), (1, .int v1)] [] μ0 rfl trivial ?_
  rw [show zq_tgt 0 8 118 [52, 60, 68, 76, 84, 92, 100, 105, 113] v1 = 118 from if_pos (ytgt hg)]
  refine zq_go zt_X8_count 1 [] 120 [(0, .ref 0), (1, .int v1)] [.int (-2)] μ0 rfl trivial ?_
  exact zq_retn zt_X8_count rfl rfl (⟨rfl, hC, zq_fr.rf⟩)
theorem zs_count {n : Nat} (ln : n ≤ 8) {τ : zTd} {S : zES} {H : zSH} {μ0 : zq_Me} (hC : zIc τ S H μ0) : zq_Wp zn_X8_count 0 [(0, .ref 0), (1, .int (nI n))] [] μ0 (zRc (.int (yCnt τ S H n)) τ S H μ0) := by
  obtain rfl | rfl | rfl | rfl | rfl | rfl | rfl | rfl | rfl : n = 0 ∨ n = 1 ∨ n = 2 ∨ n = 3 ∨ n = 4 ∨ n = 5 ∨ n = 6 ∨ n = 7 ∨ n = 8 := by omega
  · exact zs_count_0 hC
  · exact zs_count_1 hC
  · exact zs_count_2 hC
  · exact zs_count_3 hC
  · exact zs_count_4 hC
  · exact zs_count_5 hC
  · exact zs_count_6 hC
  · exact zs_count_7 hC
  · exact zs_count_8 hC
set_option maxRecDepth 100000 in
set_option maxHeartbeats 400000 in
theorem zs_countm_0 {τ : zTd} {S : zES} {H : zSH} {μ0 : zq_Me} (hM : zIm τ S H μ0) : zq_Wp zn_X9_count 0 [(0, .ref 50), (1, .int (nI 0))] [] μ0 (zRm' (.int (yCnt τ S H 0)) τ S H μ0) := by
  refine zq_go zt_X9_count 2 [] (zq_tgt 0 8 82 [52, 52, 58, 58, 67, 52, 52, 72, 77] (nI 0)) [(0, .ref 50), (1, .int (nI 0))] [] μ0 rfl trivial ?_
  rw [show zq_tgt 0 8 82 [52, 52, 58, 58, 67, 52, 52, 72, 77] (nI 0) = 52 by decide +kernel]
  have h51a : μ0.1 51 (2 - 2) = nI (yn0 τ) := hM.1.1.2.2.2.1
  have h51b : μ0.1 51 (3 - 2) = nI (yn1 τ) := hM.1.2.2.2.2.1
  refine zq_go zt_X9_count 2 [] 54 [(0, .ref 50), (1, .int (nI 0))] [.int (nI 0), .ref 50] μ0 rfl trivial ?_
  refine zq_call zt_X9_count [.ref 50, .int (nI 0)] [] (zs_sumOf_0 hM) rfl rfl ?_
  rintro _ μ1 ⟨rfl, hM1, f1⟩
  exact zq_retn zt_X9_count rfl rfl (⟨rfl, hM1, f1⟩)
set_option maxRecDepth 100000 in
set_option maxHeartbeats 400000 in
theorem zs_countm_1 {τ : zTd} {S : zES} {H : zSH} {μ0 : zq_Me} (hM : zIm τ S H μ0) : zq_Wp zn_X9_count 0 [(0, .ref 50), (1, .int (nI 1))] [] μ0 (zRm' (.int (yCnt τ S H 1)) τ S H μ0) := by
  refine zq_go zt_X9_count 2 [] (zq_tgt 0 8 82 [52, 52, 58, 58, 67, 52, 52, 72, 77] (nI 1)) [(0, .ref 50), (1, .int (nI 1))] [] μ0 rfl trivial ?_
  rw [show zq_tgt 0 8 82 [52, 52, 58, 58, 67, 52, 52, 72, 77] (nI 1) = 52 by decide +kernel]
  have h51a : μ0.1 51 (2 - 2) = nI (yn0 τ) := hM.1.1.2.2.2.1
  have h51b : μ0.1 51 (3 - 2) = nI (yn1 τ) := hM.1.2.2.2.2.1
  refine zq_go zt_X9_count 2 [] 54 [(0, .ref 50), (1, .int (nI 1))] [.int (nI 1), .ref 50] μ0 rfl trivial ?_
  refine zq_call zt_X9_count [.ref 50, .int (nI 1)] [] (zs_sumOf_1 hM) rfl rfl ?_
  rintro _ μ1 ⟨rfl, hM1, f1⟩
  exact zq_retn zt_X9_count rfl rfl (⟨rfl, hM1, f1⟩)
set_option maxRecDepth 100000 in
set_option maxHeartbeats 400000 in
theorem zs_countm_2 {τ : zTd} {S : zES} {H : zSH} {μ0 : zq_Me} (hM : zIm τ S H μ0) : zq_Wp zn_X9_count 0 [(0, .ref 50), (1, .int (nI 2))] [] μ0 (zRm' (.int (yCnt τ S H 2)) τ S H μ0) := by
  refine zq_go zt_X9_count 2 [] (zq_tgt 0 8 82 [52, 52, 58, 58, 67, 52, 52, 72, 77] (nI 2)) [(0, .ref 50), (1, .int (nI 2))] [] μ0 rfl trivial ?_
  rw [show zq_tgt 0 8 82 [52, 52, 58, 58, 67, 52, 52, 72, 77] (nI 2) = 58 by decide +kernel]
  have h51a : μ0.1 51 (2 - 2) = nI (yn0 τ) := hM.1.1.2.2.2.1
  have h51b : μ0.1 51 (3 - 2) = nI (yn1 τ) := hM.1.2.2.2.2.1
  refine zq_go zt_X9_count 6 [vp_in ((nI 2) - (nI 2)) 2] 66 [(0, .ref 50), (1, .int (nI 2))] [.int (μ0.1 51 (((nI 2) - (nI 2)).toNatClampNeg))] μ0 rfl ⟨zn_in (k := 2 - 2) (by rw [zn_sub (show 2 ≤ 2 by omega)]) (by omega) (by decide), trivial⟩ ?_
  rw [zn_sub (show 2 ≤ 2 by omega), zn_cl (n := 2 - 2) (by omega), h51a]
  exact zq_retn zt_X9_count rfl rfl (⟨rfl, hM, zq_fr.rf⟩)
set_option maxRecDepth 100000 in
set_option maxHeartbeats 400000 in
theorem zs_countm_3 {τ : zTd} {S : zES} {H : zSH} {μ0 : zq_Me} (hM : zIm τ S H μ0) : zq_Wp zn_X9_count 0 [(0, .ref 50), (1, .int (nI 3))] [] μ0 (zRm' (.int (yCnt τ S H 3)) τ S H μ0) := by
  refine zq_go zt_X9_count 2 [] (zq_tgt 0 8 82 [52, 52, 58, 58, 67, 52, 52, 72, 77] (nI 3)) [(0, .ref 50), (1, .int (nI 3))] [] μ0 rfl trivial ?_
  rw [show zq_tgt 0 8 82 [52, 52, 58, 58, 67, 52, 52, 72, 77] (nI 3) = 58 by decide +kernel]
  have h51a : μ0.1 51 (2 - 2) = nI (yn0 τ) := hM.1.1.2.2.2.1
  have h51b : μ0.1 51 (3 - 2) = nI (yn1 τ) := hM.1.2.2.2.2.1
  refine zq_go zt_X9_count 6 [vp_in ((nI 3) - (nI 2)) 2] 66 [(0, .ref 50), (1, .int (nI 3))] [.int (μ0.1 51 (((nI 3) - (nI 2)).toNatClampNeg))] μ0 rfl ⟨zn_in (k := 3 - 2) (by rw [zn_sub (show 2 ≤ 3 by omega)]) (by omega) (by decide), trivial⟩ ?_
  rw [zn_sub (show 2 ≤ 3 by omega), zn_cl (n := 3 - 2) (by omega), h51b]
  exact zq_retn zt_X9_count rfl rfl (⟨rfl, hM, zq_fr.rf⟩)
set_option maxRecDepth 100000 in
set_option maxHeartbeats 400000 in
theorem zs_countm_4 {τ : zTd} {S : zES} {H : zSH} {μ0 : zq_Me} (hM : zIm τ S H μ0) : zq_Wp zn_X9_count 0 [(0, .ref 50), (1, .int (nI 4))] [] μ0 (zRm' (.int (yCnt τ S H 4)) τ S H μ0) := by
  refine zq_go zt_X9_count 2 [] (zq_tgt 0 8 82 [52, 52, 58, 58, 67, 52, 52, 72, 77] (nI 4)) [(0, .ref 50), (1, .int (nI 4))] [] μ0 rfl trivial ?_
  rw [show zq_tgt 0 8 82 [52, 52, 58, 58, 67, 52, 52, 72, 77] (nI 4) = 67 by decide +kernel]
  have h51a : μ0.1 51 (2 - 2) = nI (yn0 τ) := hM.1.1.2.2.2.1
  have h51b : μ0.1 51 (3 - 2) = nI (yn1 τ) := hM.1.2.2.2.2.1
  refine zq_go zt_X9_count 2 [] 71 [(0, .ref 50), (1, .int (nI 4))] [.int (μ0.1 50 10)] μ0 rfl trivial ?_
  rw [hM.2.2.1.1.2.1]
  exact zq_retn zt_X9_count rfl rfl (⟨rfl, hM, zq_fr.rf⟩)
set_option maxRecDepth 100000 in
set_option maxHeartbeats 400000 in
theorem zs_countm_5 {τ : zTd} {S : zES} {H : zSH} {μ0 : zq_Me} (hM : zIm τ S H μ0) : zq_Wp zn_X9_count 0 [(0, .ref 50), (1, .int (nI 5))] [] μ0 (zRm' (.int (yCnt τ S H 5)) τ S H μ0) := by
  refine zq_go zt_X9_count 2 [] (zq_tgt 0 8 82 [52, 52, 58, 58, 67, 52, 52, 72, 77] (nI 5)) [(0, .ref 50), (1, .int (nI 5))] [] μ0 rfl trivial ?_
  rw [show zq_tgt 0 8 82 [52, 52, 58, 58, 67, 52, 52, 72, 77] (nI 5) = 52 by decide +kernel]
  have h51a : μ0.1 51 (2 - 2) = nI (yn0 τ) := hM.1.1.2.2.2.1
  have h51b : μ0.1 51 (3 - 2) = nI (yn1 τ) := hM.1.2.2.2.2.1
  refine zq_go zt_X9_count 2 [] 54 [(0, .ref 50), (1, .int (nI 5))] [.int (nI 5), .ref 50] μ0 rfl trivial ?_
  refine zq_call zt_X9_count [.ref 50, .int (nI 5)] [] (zs_sumOf_5 hM) rfl rfl ?_
  rintro _ μ1 ⟨rfl, hM1, f1⟩
  exact zq_retn zt_X9_count rfl rfl (⟨rfl, hM1, f1⟩)
set_option maxRecDepth 100000 in
set_option maxHeartbeats 400000 in
theorem zs_countm_6 {τ : zTd} {S : zES} {H : zSH} {μ0 : zq_Me} (hM : zIm τ S H μ0) : zq_Wp zn_X9_count 0 [(0, .ref 50), (1, .int (nI 6))] [] μ0 (zRm' (.int (yCnt τ S H 6)) τ S H μ0) := by
  refine zq_go zt_X9_count 2 [] (zq_tgt 0 8 82 [52, 52, 58, 58, 67, 52, 52, 72, 77] (nI 6)) [(0, .ref 50), (1, .int (nI 6))] [] μ0 rfl trivial ?_
  rw [show zq_tgt 0 8 82 [52, 52, 58, 58, 67, 52, 52, 72, 77] (nI 6) = 52 by decide +kernel]
  have h51a : μ0.1 51 (2 - 2) = nI (yn0 τ) := hM.1.1.2.2.2.1
  have h51b : μ0.1 51 (3 - 2) = nI (yn1 τ) := hM.1.2.2.2.2.1
  refine zq_go zt_X9_count 2 [] 54 [(0, .ref 50), (1, .int (nI 6))] [.int (nI 6), .ref 50] μ0 rfl trivial ?_
  refine zq_call zt_X9_count [.ref 50, .int (nI 6)] [] (zs_sumOf_6 hM) rfl rfl ?_
  rintro _ μ1 ⟨rfl, hM1, f1⟩
  exact zq_retn zt_X9_count rfl rfl (⟨rfl, hM1, f1⟩)
set_option maxRecDepth 100000 in
set_option maxHeartbeats 400000 in
theorem zs_countm_7 {τ : zTd} {S : zES} {H : zSH} {μ0 : zq_Me} (hM : zIm τ S H μ0) : zq_Wp zn_X9_count 0 [(0, .ref 50), (1, .int (nI 7))] [] μ0 (zRm' (.int (yCnt τ S H 7)) τ S H μ0) := by
  refine zq_go zt_X9_count 2 [] (zq_tgt 0 8 82 [52, 52, 58, 58, 67, 52, 52, 72, 77] (nI 7)) [(0, .ref 50), (1, .int (nI 7))] [] μ0 rfl trivial ?_
  rw [show zq_tgt 0 8 82 [52, 52, 58, 58, 67, 52, 52, 72, 77] (nI 7) = 72 by decide +kernel]
  have h51a : μ0.1 51 (2 - 2) = nI (yn0 τ) := hM.1.1.2.2.2.1
  have h51b : μ0.1 51 (3 - 2) = nI (yn1 τ) := hM.1.2.2.2.2.1
  refine zq_go zt_X9_count 2 [] 76 [(0, .ref 50), (1, .int (nI 7))] [.int (μ0.1 50 26)] μ0 rfl trivial ?_
  rw [hM.2.2.2.1.2.1]
  exact zq_retn zt_X9_count rfl rfl (⟨rfl, hM, zq_fr.rf⟩)
set_option maxRecDepth 100000 in
set_option maxHeartbeats 400000 in
theorem zs_countm_8 {τ : zTd} {S : zES} {H : zSH} {μ0 : zq_Me} (hM : zIm τ S H μ0) : zq_Wp zn_X9_count 0 [(0, .ref 50), (1, .int (nI 8))] [] μ0 (zRm' (.int (yCnt τ S H 8)) τ S H μ0) := by
  refine zq_go zt_X9_count 2 [] (zq_tgt 0 8 82 [52, 52, 58, 58, 67, 52, 52, 72, 77] (nI 8)) [(0, .ref 50), (1, .int (nI 8))] [] μ0 rfl trivial ?_
  rw [show zq_tgt 0 8 82 [52, 52, 58, 58, 67, 52, 52, 72, 77] (nI 8) = 77 by decide +kernel]
  have h51a : μ0.1 51 (2 - 2) = nI (yn0 τ) := hM.1.1.2.2.2.1
  have h51b : μ0.1 51 (3 - 2) = nI (yn1 τ) := hM.1.2.2.2.2.1
  refine zq_go zt_X9_count 2 [] 81 [(0, .ref 50), (1, .int (nI 8))] [.int (μ0.1 50 36)] μ0 rfl trivial ?_
  rw [hM.2.2.2.2.1.2]
  exact zq_retn zt_X9_count rfl rfl (⟨rfl, hM, zq_fr.rf⟩)
set_option maxRecDepth 100000 in
set_option maxHeartbeats 400000 in
theorem zs_countm_b (v1 : Int32) (hg : ¬ (0 ≤ v1 ∧ v1 ≤ nI 8)) {τ : zTd} {S : zES} {H : zSH} {μ0 : zq_Me} (hM : zIm τ S H μ0) : zq_Wp zn_X9_count 0 [(0, .ref 50), (1, .int v1)] [] μ0 (zRm' (.int (-2)) τ S H μ0) := by
  refine zq_go zt_X9_count 2 [] (zq_tgt 0 8 82 [52, 52, 58, 58, 67, 52, 52, 72, 77] v1) [(0, .ref 50), (1, .int v1)] [] μ0 rfl trivial ?_
  rw [show zq_tgt 0 8 82 [52, 52, 58, 58, 67, 52, 52, 72, 77] v1 = 82 from if_pos (ytgt hg)]
  refine zq_go zt_X9_count 1 [] 84 [(0, .ref 50), (1, .int v1)] [.int (-2)] μ0 rfl trivial ?_
  exact zq_retn zt_X9_count rfl rfl (⟨rfl, hM, zq_fr.rf⟩)
theorem zs_countm {n : Nat} (ln : n ≤ 8) {τ : zTd} {S : zES} {H : zSH} {μ0 : zq_Me} (hM : zIm τ S H μ0) : zq_Wp zn_X9_count 0 [(0, .ref 50), (1, .int (nI n))] [] μ0 (zRm' (.int (yCnt τ S H n)) τ S H μ0) := by
  obtain rfl | rfl | rfl | rfl | rfl | rfl | rfl | rfl | rfl : n = 0 ∨ n = 1 ∨ n = 2 ∨ n = 3 ∨ n = 4 ∨ n = 5 ∨ n = 6 ∨ n = 7 ∨ n = 8 := by omega
  · exact zs_countm_0 hM
  · exact zs_countm_1 hM
  · exact zs_countm_2 hM
  · exact zs_countm_3 hM
  · exact zs_countm_4 hM
  · exact zs_countm_5 hM
  · exact zs_countm_6 hM
  · exact zs_countm_7 hM
  · exact zs_countm_8 hM
theorem zo_count (v1 : Int32) : zop zn_X8_count [(0, .ref 0), (1, .int v1)] zn_X9_count [(0, .ref 50), (1, .int v1)] := by
  intro τ S H μ hC hM
  by_cases hg : 0 ≤ v1 ∧ v1 ≤ nI 8
  · obtain ⟨n, ln, rfl⟩ := yix (by decide) hg
    exact ⟨_, τ, S, H, zs_count ln hC, fun _ h => zs_countm ln h⟩
  · exact ⟨_, τ, S, H, zs_count_b v1 hg hC, fun _ h => zs_countm_b v1 hg h⟩
