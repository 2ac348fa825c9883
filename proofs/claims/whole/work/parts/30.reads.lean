/-! ===== the reference's reading of the texts ===== -/
theorem ztf_st {ok : Nat → Bool} {p n q : Nat} (hm : ∀ i, i < q → ok i = true) (hq : q ≤ n) (h1 : q < n → ok q = false) (h2 : q = n → ¬ q = 0 ∧ ¬ q % p = p - 1) : ztf ok p n = q + 1 := by
  by_cases h : q < n
  · exact ztf_at h (h1 h) hm
  · have e : q = n := by omega
    subst e
    rw [ztf_all hm, if_neg (by have := h2 rfl; omega)]
theorem ztm_st {ok : Nat → Bool} {p n q : Nat} (h : ztf ok p n = q + 1) : ztm ok p n = 0 := by unfold ztm; rw [if_neg (by omega)]
def zTm (t lim : Nat) (b : Nat → Nat) (n : Nat) (μ : zq_Me) : Prop := n ≤ lim ∧ lim ≤ 35 ∧ t ≤ 1 ∧ μ.1 51 t = nI n ∧ ∀ i, i < n → μ.1 52 (35 * t + i) = nI (b i) ∧ b i < 256
theorem zTm.fr {t lim n : Nat} {b : Nat → Nat} {μ μ1 : zq_Me} {S : List Nat} (h : zTm t lim b n μ) (hf : zq_fr S μ μ1) (hs : 51 ∉ S ∧ 52 ∉ S) : zTm t lim b n μ1 := ⟨h.1, h.2.1, h.2.2.1, by rw [hf.a hs.1]; exact h.2.2.2.1, by rw [hf.a hs.2]; exact h.2.2.2.2⟩
def zbt (b : Nat → Nat) (n k : Nat) : Int32 := if k < n then nI (b k) else -1
theorem zbt_fig : ∀ x, x < 256 → ((0 ≤ nI x - nI 48 ∧ nI x - nI 48 ≤ nI 7) ↔ zfig x = true) := by decide +kernel
theorem zbt_8 {b : Nat → Nat} {n k : Nat} (hb : ∀ i, i < n → b i < 256) : (0 ≤ zbt b n k - nI 48 ∧ zbt b n k - nI 48 ≤ nI 7) ↔ (k < n ∧ zfig (b k) = true) := by
  unfold zbt
  by_cases h : k < n
  · rw [if_pos h]
    exact ⟨fun q => ⟨h, (zbt_fig _ (hb k h)).mp q⟩, fun q => (zbt_fig _ (hb k h)).mpr q.2⟩
  · rw [if_neg h]
    exact ⟨fun q => absurd q (by decide), fun q => absurd q.1 h⟩
theorem zbt_v {b : Nat → Nat} {n k : Nat} (h : k < n ∧ zfig (b k) = true) : zbt b n k - nI 48 = nI (b k - 48) := by
  unfold zbt
  rw [if_pos h.1, zn_sub (zfig_iff.mp h.2).1]
theorem zbt_eq {b : Nat → Nat} {n k v : Nat} (hb : ∀ i, i < n → b i < 256) (hv : v < 256) : (zbt b n k = nI v) = (k < n ∧ b k = v) := by
  unfold zbt
  by_cases h : k < n
  · rw [if_pos h, zn_eq (by have := hb k h; omega) (by omega)]
    exact propext ⟨fun q => ⟨h, q⟩, fun q => q.2⟩
  · rw [if_neg h]
    exact propext ⟨fun q => absurd q.symm (zn_neg1 (by omega)), fun q => absurd q.1 h⟩
def zst (b : Nat → Nat) (n k : Nat) : Nat := if k < n then zsrt (b k) else 0
set_option maxRecDepth 100000 in
set_option maxHeartbeats 4000000 in
theorem zs_in (v lo hi : Int32) (μ : zq_Me) : zq_Wp zn_X9_in 0 [(0, .int v), (1, .int lo), (2, .int hi)] [] μ (zq_pi (zb (lo ≤ v ∧ v ≤ hi)) μ) := by
  refine zq_go zt_X9_in 3 [] (if v < lo then 14 else 5) [(0, .int v), (1, .int lo), (2, .int hi)] [] μ rfl trivial ?_
  refine zq_ite (fun h1 => ?_) (fun h1 => ?_)
  · refine zq_go zt_X9_in 1 [] 15 [(0, .int v), (1, .int lo), (2, .int hi)] [.int (nI 0)] μ rfl trivial ?_
    rw [zb_f (fun q => absurd q.1 (Int32.not_le.mpr h1))]
    exact zq_retz zt_X9_in rfl (Or.inl rfl) (⟨rfl, rfl⟩)
  · refine zq_go zt_X9_in 3 [] (if hi < v then 14 else 10) [(0, .int v), (1, .int lo), (2, .int hi)] [] μ rfl trivial ?_
    refine zq_ite (fun h6 => ?_) (fun h6 => ?_)
    · refine zq_go zt_X9_in 1 [] 15 [(0, .int v), (1, .int lo), (2, .int hi)] [.int (nI 0)] μ rfl trivial ?_
      rw [zb_f (fun q => absurd q.2 (Int32.not_le.mpr h6))]
      exact zq_retz zt_X9_in rfl (Or.inl rfl) (⟨rfl, rfl⟩)
    · refine zq_go zt_X9_in 2 [] 15 [(0, .int v), (1, .int lo), (2, .int hi)] [.int (nI 1)] μ rfl trivial ?_
      rw [zb_t ⟨Int32.not_lt.mp h1, Int32.not_lt.mp h6⟩]
      exact zq_retz zt_X9_in rfl (Or.inr rfl) (⟨rfl, rfl⟩)
set_option maxRecDepth 100000 in
set_option maxHeartbeats 4000000 in
theorem zs_within (v lo hi : Int32) (μ : zq_Me) : zq_Wp zn_X8_within 0 [(0, .int v), (1, .int lo), (2, .int hi)] [] μ (zq_pi (zb (lo ≤ v ∧ v ≤ hi)) μ) := by
  refine zq_go zt_X8_within 3 [] (if v < lo then 14 else 5) [(0, .int v), (1, .int lo), (2, .int hi)] [] μ rfl trivial ?_
  refine zq_ite (fun h1 => ?_) (fun h1 => ?_)
  · refine zq_go zt_X8_within 1 [] 15 [(0, .int v), (1, .int lo), (2, .int hi)] [.int (nI 0)] μ rfl trivial ?_
    rw [zb_f (fun q => absurd q.1 (Int32.not_le.mpr h1))]
    exact zq_retz zt_X8_within rfl (Or.inl rfl) (⟨rfl, rfl⟩)
  · refine zq_go zt_X8_within 3 [] (if hi < v then 14 else 10) [(0, .int v), (1, .int lo), (2, .int hi)] [] μ rfl trivial ?_
    refine zq_ite (fun h6 => ?_) (fun h6 => ?_)
    · refine zq_go zt_X8_within 1 [] 15 [(0, .int v), (1, .int lo), (2, .int hi)] [.int (nI 0)] μ rfl trivial ?_
      rw [zb_f (fun q => absurd q.2 (Int32.not_le.mpr h6))]
      exact zq_retz zt_X8_within rfl (Or.inl rfl) (⟨rfl, rfl⟩)
    · refine zq_go zt_X8_within 2 [] 15 [(0, .int v), (1, .int lo), (2, .int hi)] [.int (nI 1)] μ rfl trivial ?_
      rw [zb_t ⟨Int32.not_lt.mp h1, Int32.not_lt.mp h6⟩]
      exact zq_retz zt_X8_within rfl (Or.inr rfl) (⟨rfl, rfl⟩)
set_option maxRecDepth 100000 in
set_option maxHeartbeats 4000000 in
theorem zs_isTextm (v : Int32) (μ : zq_Me) : zq_Wp zn_X9_isText 0 [(0, .int v)] [] μ (zq_pi (zb (0 ≤ v ∧ v ≤ nI 1)) μ) := by
  refine zq_go zt_X9_isText 3 [] 3 [(0, .int v)] [.int (nI 1), .int (nI 0), .int v] μ rfl trivial ?_
  refine zq_call zt_X9_isText [.int v, .int (nI 0), .int (nI 1)] [] (zs_in v (nI 0) (nI 1) μ) rfl rfl ?_
  rintro _ _ ⟨rfl, rfl⟩
  exact zq_retz zt_X9_isText rfl (zb_01 _) (⟨rfl, rfl⟩)
set_option maxRecDepth 100000 in
set_option maxHeartbeats 4000000 in
theorem zs_isHourm (v : Int32) (μ : zq_Me) : zq_Wp zn_X9_isHour 0 [(0, .int v)] [] μ (zq_pi (zb (0 ≤ v ∧ v ≤ nI 23)) μ) := by
  refine zq_go zt_X9_isHour 3 [] 4 [(0, .int v)] [.int (nI 23), .int (nI 0), .int v] μ rfl trivial ?_
  refine zq_call zt_X9_isHour [.int v, .int (nI 0), .int (nI 23)] [] (zs_in v (nI 0) (nI 23) μ) rfl rfl ?_
  rintro _ _ ⟨rfl, rfl⟩
  exact zq_retz zt_X9_isHour rfl (zb_01 _) (⟨rfl, rfl⟩)
set_option maxRecDepth 100000 in
set_option maxHeartbeats 4000000 in
theorem zs_isTwom (v : Int32) (μ : zq_Me) : zq_Wp zn_X9_isTwo 0 [(0, .int v)] [] μ (zq_pi (zb (0 ≤ v ∧ v ≤ nI 1)) μ) := by
  refine zq_go zt_X9_isTwo 3 [] 3 [(0, .int v)] [.int (nI 1), .int (nI 0), .int v] μ rfl trivial ?_
  refine zq_call zt_X9_isTwo [.int v, .int (nI 0), .int (nI 1)] [] (zs_in v (nI 0) (nI 1) μ) rfl rfl ?_
  rintro _ _ ⟨rfl, rfl⟩
  exact zq_retz zt_X9_isTwo rfl (zb_01 _) (⟨rfl, rfl⟩)
set_option maxRecDepth 100000 in
set_option maxHeartbeats 4000000 in
theorem zs_isThreem (v : Int32) (μ : zq_Me) : zq_Wp zn_X9_isThree 0 [(0, .int v)] [] μ (zq_pi (zb (0 ≤ v ∧ v ≤ nI 2)) μ) := by
  refine zq_go zt_X9_isThree 3 [] 3 [(0, .int v)] [.int (nI 2), .int (nI 0), .int v] μ rfl trivial ?_
  refine zq_call zt_X9_isThree [.int v, .int (nI 0), .int (nI 2)] [] (zs_in v (nI 0) (nI 2) μ) rfl rfl ?_
  rintro _ _ ⟨rfl, rfl⟩
  exact zq_retz zt_X9_isThree rfl (zb_01 _) (⟨rfl, rfl⟩)
set_option maxRecDepth 100000 in
set_option maxHeartbeats 4000000 in
theorem zs_isEightm (v : Int32) (μ : zq_Me) : zq_Wp zn_X9_isEight 0 [(0, .int v)] [] μ (zq_pi (zb (0 ≤ v ∧ v ≤ nI 7)) μ) := by
  refine zq_go zt_X9_isEight 3 [] 4 [(0, .int v)] [.int (nI 7), .int (nI 0), .int v] μ rfl trivial ?_
  refine zq_call zt_X9_isEight [.int v, .int (nI 0), .int (nI 7)] [] (zs_in v (nI 0) (nI 7) μ) rfl rfl ?_
  rintro _ _ ⟨rfl, rfl⟩
  exact zq_retz zt_X9_isEight rfl (zb_01 _) (⟨rfl, rfl⟩)
set_option maxRecDepth 100000 in
set_option maxHeartbeats 4000000 in
theorem zs_isSheetm (v : Int32) (μ : zq_Me) : zq_Wp zn_X9_isSheet 0 [(0, .int v)] [] μ (zq_pi (zb (0 ≤ v ∧ v ≤ nI 3)) μ) := by
  refine zq_go zt_X9_isSheet 3 [] 3 [(0, .int v)] [.int (nI 3), .int (nI 0), .int v] μ rfl trivial ?_
  refine zq_call zt_X9_isSheet [.int v, .int (nI 0), .int (nI 3)] [] (zs_in v (nI 0) (nI 3) μ) rfl rfl ?_
  rintro _ _ ⟨rfl, rfl⟩
  exact zq_retz zt_X9_isSheet rfl (zb_01 _) (⟨rfl, rfl⟩)
set_option maxRecDepth 100000 in
set_option maxHeartbeats 4000000 in
theorem zs_isHour (v : Int32) (μ : zq_Me) : zq_Wp zn_X8_isHour 0 [(0, .int v)] [] μ (zq_pi (zb (0 ≤ v ∧ v ≤ nI 23)) μ) := by
  refine zq_go zt_X8_isHour 3 [] 4 [(0, .int v)] [.int (nI 23), .int (nI 0), .int v] μ rfl trivial ?_
  refine zq_call zt_X8_isHour [.int v, .int (nI 0), .int (nI 23)] [] (zs_within v (nI 0) (nI 23) μ) rfl rfl ?_
  rintro _ _ ⟨rfl, rfl⟩
  exact zq_retz zt_X8_isHour rfl (zb_01 _) (⟨rfl, rfl⟩)
set_option maxRecDepth 100000 in
set_option maxHeartbeats 4000000 in
theorem zs_isRoom (v : Int32) (μ : zq_Me) : zq_Wp zn_X8_isRoom 0 [(0, .int v)] [] μ (zq_pi (zb (0 ≤ v ∧ v ≤ nI 7)) μ) := by
  refine zq_go zt_X8_isRoom 3 [] 4 [(0, .int v)] [.int (nI 7), .int (nI 0), .int v] μ rfl trivial ?_
  refine zq_call zt_X8_isRoom [.int v, .int (nI 0), .int (nI 7)] [] (zs_within v (nI 0) (nI 7) μ) rfl rfl ?_
  rintro _ _ ⟨rfl, rfl⟩
  exact zq_retz zt_X8_isRoom rfl (zb_01 _) (⟨rfl, rfl⟩)
set_option maxRecDepth 100000 in
set_option maxHeartbeats 4000000 in
theorem zs_isSheet (v : Int32) (μ : zq_Me) : zq_Wp zn_X8_isSheet 0 [(0, .int v)] [] μ (zq_pi (zb (0 ≤ v ∧ v ≤ nI 3)) μ) := by
  refine zq_go zt_X8_isSheet 3 [] 3 [(0, .int v)] [.int (nI 3), .int (nI 0), .int v] μ rfl trivial ?_
  refine zq_call zt_X8_isSheet [.int v, .int (nI 0), .int (nI 3)] [] (zs_within v (nI 0) (nI 3) μ) rfl rfl ?_
  rintro _ _ ⟨rfl, rfl⟩
  exact zq_retz zt_X8_isSheet rfl (zb_01 _) (⟨rfl, rfl⟩)
set_option maxRecDepth 100000 in
set_option maxHeartbeats 4000000 in
theorem zs_isForm (v : Int32) (μ : zq_Me) : zq_Wp zn_X8_isForm 0 [(0, .int v)] [] μ (zq_pi (zb (0 ≤ v ∧ v ≤ nI 2)) μ) := by
  refine zq_go zt_X8_isForm 3 [] 3 [(0, .int v)] [.int (nI 2), .int (nI 0), .int v] μ rfl trivial ?_
  refine zq_call zt_X8_isForm [.int v, .int (nI 0), .int (nI 2)] [] (zs_within v (nI 0) (nI 2) μ) rfl rfl ?_
  rintro _ _ ⟨rfl, rfl⟩
  exact zq_retz zt_X8_isForm rfl (zb_01 _) (⟨rfl, rfl⟩)
set_option maxRecDepth 100000 in
set_option maxHeartbeats 4000000 in
theorem zs_byteAt0 {lim n : Nat} {b : Nat → Nat} {μ : zq_Me} (hT : zTm 0 lim b n μ) {k : Nat} (hk : k < 2 ^ 30) : zq_Wp zn_X9_byteAt 0 [(0, .ref 50), (1, .int (nI 0)), (2, .int (nI k))] [] μ (zq_pi (zbt b n k) μ) := by
  have hn9 := hT.1
  have hn8 := hT.2.1
  refine zq_go zt_X9_byteAt 6 [vp_in (nI 0) 2] (if (μ.1 51 0) ≤ (nI k) then 24 else 10) [(0, .ref 50), (1, .int (nI 0)), (2, .int (nI k))] [] μ rfl ⟨zn_in rfl (by decide) (by decide), trivial⟩ ?_
  rw [hT.2.2.2.1]
  refine zq_ite (fun h4 => ?_) (fun h4 => ?_)
  · rw [zn_le (by omega) (by omega)] at h4
    refine zq_go zt_X9_byteAt 1 [] 25 [(0, .ref 50), (1, .int (nI 0)), (2, .int (nI k))] [.int (-1)] μ rfl trivial ?_
    rw [show zbt b n k = -1 from if_neg (by omega)]
    exact zq_retn zt_X9_byteAt rfl rfl (⟨rfl, rfl⟩)
  · rw [zn_le (by omega) (by omega)] at h4
    have hk9 : k < n := by omega
    obtain ⟨hb9, hb7⟩ := hT.2.2.2.2 k hk9
    refine zq_go zt_X9_byteAt 9 [vp_in (((nI 35) * (nI 0)) + (nI k)) 70] 25 [(0, .ref 50), (1, .int (nI 0)), (2, .int (nI k))] [.int (μ.1 52 ((((nI 35) * (nI 0)) + (nI k)).toNatClampNeg))] μ rfl ⟨zn_in (k := (35 * 0) + k) (by rw [zn_mul 35 0, zn_add (35 * 0) k]) (by omega) (by decide), trivial⟩ ?_
    rw [zn_mul 35 0, zn_add (35 * 0) k, zn_cl (n := (35 * 0) + k) (by omega), hb9]
    rw [show zbt b n k = nI (b k) from if_pos hk9]
    exact zq_retn zt_X9_byteAt rfl rfl (⟨rfl, rfl⟩)
set_option maxRecDepth 100000 in
set_option maxHeartbeats 4000000 in
theorem zs_byteAt1 {lim n : Nat} {b : Nat → Nat} {μ : zq_Me} (hT : zTm 1 lim b n μ) {k : Nat} (hk : k < 2 ^ 30) : zq_Wp zn_X9_byteAt 0 [(0, .ref 50), (1, .int (nI 1)), (2, .int (nI k))] [] μ (zq_pi (zbt b n k) μ) := by
  have hn9 := hT.1
  have hn8 := hT.2.1
  refine zq_go zt_X9_byteAt 6 [vp_in (nI 1) 2] (if (μ.1 51 1) ≤ (nI k) then 24 else 10) [(0, .ref 50), (1, .int (nI 1)), (2, .int (nI k))] [] μ rfl ⟨zn_in rfl (by decide) (by decide), trivial⟩ ?_
  rw [hT.2.2.2.1]
  refine zq_ite (fun h4 => ?_) (fun h4 => ?_)
  · rw [zn_le (by omega) (by omega)] at h4
    refine zq_go zt_X9_byteAt 1 [] 25 [(0, .ref 50), (1, .int (nI 1)), (2, .int (nI k))] [.int (-1)] μ rfl trivial ?_
    rw [show zbt b n k = -1 from if_neg (by omega)]
    exact zq_retn zt_X9_byteAt rfl rfl (⟨rfl, rfl⟩)
  · rw [zn_le (by omega) (by omega)] at h4
    have hk9 : k < n := by omega
    obtain ⟨hb9, hb7⟩ := hT.2.2.2.2 k hk9
    refine zq_go zt_X9_byteAt 9 [vp_in (((nI 35) * (nI 1)) + (nI k)) 70] 25 [(0, .ref 50), (1, .int (nI 1)), (2, .int (nI k))] [.int (μ.1 52 ((((nI 35) * (nI 1)) + (nI k)).toNatClampNeg))] μ rfl ⟨zn_in (k := (35 * 1) + k) (by rw [zn_mul 35 1, zn_add (35 * 1) k]) (by omega) (by decide), trivial⟩ ?_
    rw [zn_mul 35 1, zn_add (35 * 1) k, zn_cl (n := (35 * 1) + k) (by omega), hb9]
    rw [show zbt b n k = nI (b k) from if_pos hk9]
    exact zq_retn zt_X9_byteAt rfl rfl (⟨rfl, rfl⟩)
def zRD (b : Nat → Nat) (n q k : Nat) (μ : zq_Me) : zq_Post := fun v μ' =>
  (v = some (.int (nI 0)) ∧ ¬ (q < n ∧ zfig (b (q)) = true) ∧ μ' = μ) ∨ (v = some (.int (nI 1)) ∧ (q < n ∧ zfig (b (q)) = true) ∧ ¬ ((q + 1 < n ∧ zfig (b (q + 1)) = true) ∧ ¬ b (q + 1) = b q) ∧ μ' = μ) ∨
  (v = some (.int (nI 2)) ∧ (q < n ∧ zfig (b (q)) = true) ∧ (q + 1 < n ∧ zfig (b (q + 1)) = true) ∧ ¬ b (q + 1) = b q ∧ μ' = zq_u1 (zq_u1 μ 53 k (nI (b q - 48))) 54 k (nI (b (q + 1) - 48)))
def zRP (b : Nat → Nat) (n q k : Nat) (μ : zq_Me) : zq_Post := fun v μ' =>
  (v = some (.int (nI 0)) ∧ zst b n q = 0 ∧ μ' = μ) ∨ (v = some (.int (nI 1)) ∧ ¬ zst b n q = 0 ∧ ¬ (q + 1 < n ∧ zfig (b (q + 1)) = true) ∧ μ' = μ) ∨
  (v = some (.int (nI 2)) ∧ ¬ zst b n q = 0 ∧ (q + 1 < n ∧ zfig (b (q + 1)) = true) ∧ ¬ (q + 2 < n ∧ zfig (b (q + 2)) = true) ∧ μ' = μ) ∨
  (v = some (.int (nI 3)) ∧ ¬ zst b n q = 0 ∧ (q + 1 < n ∧ zfig (b (q + 1)) = true) ∧ (q + 2 < n ∧ zfig (b (q + 2)) = true) ∧ μ' = zq_u1 (zq_u1 (zq_u1 μ 55 k (nI (zst b n q - 1))) 56 k (nI (b (q + 1) - 48))) 57 k (nI (b (q + 2) - 48)))
theorem zst_le (b : Nat → Nat) (n q : Nat) : zst b n q ≤ 3 := by unfold zst; split; exact zsrt_le _; omega
set_option maxRecDepth 100000 in
set_option maxHeartbeats 4000000 in
theorem zs_readsDoor {lim n q k : Nat} {b : Nat → Nat} {μ : zq_Me} (hT : zTm 0 lim b n μ) (hq : q < 2 ^ 20) (hk : k < 12) : zq_Wp zn_X9_readsDoor 0 [(0, .ref 50), (1, .int (nI k)), (2, .int (nI q))] [] μ (zRD b n q k μ) := by
  have hb : ∀ i, i < n → b i < 256 := fun i hi => (hT.2.2.2.2 i hi).2
  refine zq_go zt_X9_readsDoor 3 [] 3 [(0, .ref 50), (1, .int (nI k)), (2, .int (nI q))] [.int (nI q), .int (nI 0), .ref 50] μ rfl trivial ?_
  refine zq_call zt_X9_readsDoor [.ref 50, .int (nI 0), .int (nI q)] [] (zs_byteAt0 hT (k := q) (by omega)) rfl rfl ?_
  rintro _ _ ⟨rfl, rfl⟩
  refine zq_go zt_X9_readsDoor 8 [] 15 [(0, .ref 50), (1, .int (nI k)), (2, .int (nI q)), (3, .int ((zbt b n q) - (nI 48)))] [.int ((nI q) + (nI 1)), .int (nI 0), .ref 50] μ rfl trivial ?_
  rw [zn_add q 1]
  refine zq_call zt_X9_readsDoor [.ref 50, .int (nI 0), .int (nI (q + 1))] [] (zs_byteAt0 hT (k := q + 1) (by omega)) rfl rfl ?_
  rintro _ _ ⟨rfl, rfl⟩
  refine zq_go zt_X9_readsDoor 6 [] (if (nI k) = (nI 12) then 36 else 29) [(0, .ref 50), (1, .int (nI k)), (2, .int (nI q)), (3, .int ((zbt b n q) - (nI 48))), (4, .int ((zbt b n (q + 1)) - (nI 48)))] [] μ rfl trivial ?_
  rw [if_neg (by rw [zn_eq (by omega) (by omega)]; omega)]
  refine zq_go zt_X9_readsDoor 1 [] 30 [(0, .ref 50), (1, .int (nI k)), (2, .int (nI q)), (3, .int ((zbt b n q) - (nI 48))), (4, .int ((zbt b n (q + 1)) - (nI 48)))] [.int ((zbt b n q) - (nI 48))] μ rfl trivial ?_
  refine zq_call zt_X9_readsDoor [.int ((zbt b n q) - (nI 48))] [] (zs_isEightm (zbt b n q - nI 48) μ) rfl rfl ?_
  rintro _ _ ⟨rfl, rfl⟩
  refine zq_go zt_X9_readsDoor 1 [] (if ¬ (zb (0 ≤ zbt b n q - nI 48 ∧ zbt b n q - nI 48 ≤ nI 7)) = 0 then 38 else 36) [(0, .ref 50), (1, .int (nI k)), (2, .int (nI q)), (3, .int ((zbt b n q) - (nI 48))), (4, .int ((zbt b n (q + 1)) - (nI 48)))] [] μ rfl trivial ?_
  refine zq_ite (fun h14 => ?_) (fun h14 => ?_)
  · rw [zb_0, zbt_8 hb] at h14
    have q1 := Classical.not_not.mp h14
    refine zq_go zt_X9_readsDoor 1 [] 40 [(0, .ref 50), (1, .int (nI k)), (2, .int (nI q)), (3, .int ((zbt b n q) - (nI 48))), (4, .int ((zbt b n (q + 1)) - (nI 48)))] [.int ((zbt b n (q + 1)) - (nI 48))] μ rfl trivial ?_
    refine zq_call zt_X9_readsDoor [.int ((zbt b n (q + 1)) - (nI 48))] [] (zs_isEightm (zbt b n (q + 1) - nI 48) μ) rfl rfl ?_
    rintro _ _ ⟨rfl, rfl⟩
    refine zq_go zt_X9_readsDoor 1 [] (if (zb (0 ≤ zbt b n (q + 1) - nI 48 ∧ zbt b n (q + 1) - nI 48 ≤ nI 7)) = 0 then 52 else 46) [(0, .ref 50), (1, .int (nI k)), (2, .int (nI q)), (3, .int ((zbt b n q) - (nI 48))), (4, .int ((zbt b n (q + 1)) - (nI 48)))] [] μ rfl trivial ?_
    refine zq_ite (fun h21 => ?_) (fun h21 => ?_)
    · rw [zb_0, zbt_8 hb] at h21
      refine zq_go zt_X9_readsDoor 1 [] 53 [(0, .ref 50), (1, .int (nI k)), (2, .int (nI q)), (3, .int ((zbt b n q) - (nI 48))), (4, .int ((zbt b n (q + 1)) - (nI 48)))] [.int (nI 1)] μ rfl trivial ?_
      exact zq_retn zt_X9_readsDoor rfl rfl (Or.inr (Or.inl ⟨rfl, q1, fun e => h21 e.1, rfl⟩))
    · rw [zb_0, zbt_8 hb] at h21
      have q2 := Classical.not_not.mp h21
      refine zq_go zt_X9_readsDoor 3 [] (if ¬ ((zbt b n (q + 1)) - (nI 48)) = ((zbt b n q) - (nI 48)) then 54 else 52) [(0, .ref 50), (1, .int (nI k)), (2, .int (nI q)), (3, .int ((zbt b n q) - (nI 48))), (4, .int ((zbt b n (q + 1)) - (nI 48)))] [] μ rfl trivial ?_
      rw [zbt_v q1, zbt_v q2]
      have w1 := zfig_iff.mp q1.2
      have w2 := zfig_iff.mp q2.2
      refine zq_ite (fun h31 => ?_) (fun h31 => ?_)
      · rw [zn_eq (by omega) (by omega)] at h31
        refine zq_go zt_X9_readsDoor 11 [vp_in (nI k) 13, vp_in (nI k) 13] 70 [(0, .ref 50), (1, .int (nI k)), (2, .int (nI q)), (3, .int (nI (b q - 48))), (4, .int (nI (b (q + 1) - 48)))] [.int (nI 2)] (zq_u1 (zq_u1 μ 53 ((nI k).toNatClampNeg) (nI (b q - 48))) 54 ((nI k).toNatClampNeg) (nI (b (q + 1) - 48))) rfl ⟨zn_in (k := k) rfl (by omega) (by decide), ⟨zn_in (k := k) rfl (by omega) (by decide), trivial⟩⟩ ?_
        rw [zn_cl (n := k) (by omega)]
        exact zq_retn zt_X9_readsDoor rfl rfl (Or.inr (Or.inr ⟨rfl, q1, q2, fun e => h31 (by omega), rfl⟩))
      · rw [zn_eq (by omega) (by omega)] at h31
        refine zq_go zt_X9_readsDoor 1 [] 53 [(0, .ref 50), (1, .int (nI k)), (2, .int (nI q)), (3, .int (nI (b q - 48))), (4, .int (nI (b (q + 1) - 48)))] [.int (nI 1)] μ rfl trivial ?_
        exact zq_retn zt_X9_readsDoor rfl rfl (Or.inr (Or.inl ⟨rfl, q1, fun e => e.2 (by omega), rfl⟩))
  · have h149 := Classical.not_not.mp h14
    rw [zb_0, zbt_8 hb] at h149
    refine zq_go zt_X9_readsDoor 1 [] 37 [(0, .ref 50), (1, .int (nI k)), (2, .int (nI q)), (3, .int ((zbt b n q) - (nI 48))), (4, .int ((zbt b n (q + 1)) - (nI 48)))] [.int (nI 0)] μ rfl trivial ?_
    exact zq_retn zt_X9_readsDoor rfl rfl (Or.inl ⟨rfl, h149, rfl⟩)
set_option maxRecDepth 100000 in
set_option maxHeartbeats 4000000 in
theorem zs_readsPerson {lim n q k : Nat} {b : Nat → Nat} {μ : zq_Me} (hT : zTm 1 lim b n μ) (hq : q < 2 ^ 20) (hk : k < 8) : zq_Wp zn_X9_readsPerson 0 [(0, .ref 50), (1, .int (nI k)), (2, .int (nI q))] [] μ (zRP b n q k μ) := by
  have hb : ∀ i, i < n → b i < 256 := fun i hi => (hT.2.2.2.2 i hi).2
  have hz9 := zst_le b n q
  have key : zq_Wp zn_X9_readsPerson 38 [(0, .ref 50), (1, .int (nI k)), (2, .int (nI q)), (3, .int (zbt b n q))] [.int (zdn (zst b n q))] μ (zRP b n q k μ) := by
    refine zq_go zt_X9_readsPerson 6 [] 45 [(0, .ref 50), (1, .int (nI k)), (2, .int (nI q)), (3, .int (zbt b n q)), (4, .int (zdn (zst b n q)))] [.int ((nI q) + (nI 1)), .int (nI 1), .ref 50] μ rfl trivial ?_
    rw [zn_add q 1]
    refine zq_call zt_X9_readsPerson [.ref 50, .int (nI 1), .int (nI (q + 1))] [] (zs_byteAt1 hT (k := q + 1) (by omega)) rfl rfl ?_
    rintro _ _ ⟨rfl, rfl⟩
    refine zq_go zt_X9_readsPerson 8 [] 58 [(0, .ref 50), (1, .int (nI k)), (2, .int (nI q)), (3, .int (zbt b n q)), (4, .int (zdn (zst b n q))), (5, .int ((zbt b n (q + 1)) - (nI 48)))] [.int ((nI q) + (nI 2)), .int (nI 1), .ref 50] μ rfl trivial ?_
    rw [zn_add q 2]
    refine zq_call zt_X9_readsPerson [.ref 50, .int (nI 1), .int (nI (q + 2))] [] (zs_byteAt1 hT (k := q + 2) (by omega)) rfl rfl ?_
    rintro _ _ ⟨rfl, rfl⟩
    refine zq_go zt_X9_readsPerson 6 [] (if (nI k) = (nI 8) then 78 else 72) [(0, .ref 50), (1, .int (nI k)), (2, .int (nI q)), (3, .int (zbt b n q)), (4, .int (zdn (zst b n q))), (5, .int ((zbt b n (q + 1)) - (nI 48))), (6, .int ((zbt b n (q + 2)) - (nI 48)))] [] μ rfl trivial ?_
    rw [if_neg (by rw [zn_eq (by omega) (by omega)]; omega)]
    refine zq_go zt_X9_readsPerson 3 [] (if ¬ (zdn (zst b n q)) = (-1) then 80 else 78) [(0, .ref 50), (1, .int (nI k)), (2, .int (nI q)), (3, .int (zbt b n q)), (4, .int (zdn (zst b n q))), (5, .int ((zbt b n (q + 1)) - (nI 48))), (6, .int ((zbt b n (q + 2)) - (nI 48)))] [] μ rfl trivial ?_
    refine zq_ite (fun h14 => ?_) (fun h14 => ?_)
    · rw [zdn_m1 (by omega)] at h14
      have q0 := h14
      refine zq_go zt_X9_readsPerson 1 [] 82 [(0, .ref 50), (1, .int (nI k)), (2, .int (nI q)), (3, .int (zbt b n q)), (4, .int (zdn (zst b n q))), (5, .int ((zbt b n (q + 1)) - (nI 48))), (6, .int ((zbt b n (q + 2)) - (nI 48)))] [.int ((zbt b n (q + 1)) - (nI 48))] μ rfl trivial ?_
      refine zq_call zt_X9_readsPerson [.int ((zbt b n (q + 1)) - (nI 48))] [] (zs_isEightm (zbt b n (q + 1) - nI 48) μ) rfl rfl ?_
      rintro _ _ ⟨rfl, rfl⟩
      refine zq_go zt_X9_readsPerson 1 [] (if ¬ (zb (0 ≤ zbt b n (q + 1) - nI 48 ∧ zbt b n (q + 1) - nI 48 ≤ nI 7)) = 0 then 90 else 88) [(0, .ref 50), (1, .int (nI k)), (2, .int (nI q)), (3, .int (zbt b n q)), (4, .int (zdn (zst b n q))), (5, .int ((zbt b n (q + 1)) - (nI 48))), (6, .int ((zbt b n (q + 2)) - (nI 48)))] [] μ rfl trivial ?_
      refine zq_ite (fun h21 => ?_) (fun h21 => ?_)
      · rw [zb_0, zbt_8 hb] at h21
        have q1 := Classical.not_not.mp h21
        refine zq_go zt_X9_readsPerson 1 [] 92 [(0, .ref 50), (1, .int (nI k)), (2, .int (nI q)), (3, .int (zbt b n q)), (4, .int (zdn (zst b n q))), (5, .int ((zbt b n (q + 1)) - (nI 48))), (6, .int ((zbt b n (q + 2)) - (nI 48)))] [.int ((zbt b n (q + 2)) - (nI 48))] μ rfl trivial ?_
        refine zq_call zt_X9_readsPerson [.int ((zbt b n (q + 2)) - (nI 48))] [] (zs_isEightm (zbt b n (q + 2) - nI 48) μ) rfl rfl ?_
        rintro _ _ ⟨rfl, rfl⟩
        refine zq_go zt_X9_readsPerson 1 [] (if ¬ (zb (0 ≤ zbt b n (q + 2) - nI 48 ∧ zbt b n (q + 2) - nI 48 ≤ nI 7)) = 0 then 100 else 98) [(0, .ref 50), (1, .int (nI k)), (2, .int (nI q)), (3, .int (zbt b n q)), (4, .int (zdn (zst b n q))), (5, .int ((zbt b n (q + 1)) - (nI 48))), (6, .int ((zbt b n (q + 2)) - (nI 48)))] [] μ rfl trivial ?_
        refine zq_ite (fun h28 => ?_) (fun h28 => ?_)
        · rw [zb_0, zbt_8 hb] at h28
          have q2 := Classical.not_not.mp h28
          refine zq_go zt_X9_readsPerson 16 [vp_in (nI k) 9, vp_in (nI k) 9, vp_in (nI k) 9] 125 [(0, .ref 50), (1, .int (nI k)), (2, .int (nI q)), (3, .int (zbt b n q)), (4, .int (zdn (zst b n q))), (5, .int ((zbt b n (q + 1)) - (nI 48))), (6, .int ((zbt b n (q + 2)) - (nI 48)))] [.int (nI 3)] (zq_u1 (zq_u1 (zq_u1 μ 55 ((nI k).toNatClampNeg) (zdn (zst b n q))) 56 ((nI k).toNatClampNeg) ((zbt b n (q + 1)) - (nI 48))) 57 ((nI k).toNatClampNeg) ((zbt b n (q + 2)) - (nI 48))) rfl ⟨zn_in (k := k) rfl (by omega) (by decide), ⟨zn_in (k := k) rfl (by omega) (by decide), ⟨zn_in (k := k) rfl (by omega) (by decide), trivial⟩⟩⟩ ?_
          rw [zn_cl (n := k) (by omega)]
          have e0 : zdn (zst b n q) = nI (zst b n q - 1) := by
            cases h8 : zst b n q with
            | zero => exact absurd h8 q0
            | succ c => rfl
          rw [zbt_v q1, zbt_v q2, e0]
          exact zq_retn zt_X9_readsPerson rfl rfl (Or.inr (Or.inr (Or.inr ⟨rfl, q0, q1, q2, rfl⟩)))
        · rw [zb_0, zbt_8 hb] at h28
          refine zq_go zt_X9_readsPerson 1 [] 99 [(0, .ref 50), (1, .int (nI k)), (2, .int (nI q)), (3, .int (zbt b n q)), (4, .int (zdn (zst b n q))), (5, .int ((zbt b n (q + 1)) - (nI 48))), (6, .int ((zbt b n (q + 2)) - (nI 48)))] [.int (nI 2)] μ rfl trivial ?_
          exact zq_retn zt_X9_readsPerson rfl rfl (Or.inr (Or.inr (Or.inl ⟨rfl, q0, q1, Classical.not_not.mp h28, rfl⟩)))
      · rw [zb_0, zbt_8 hb] at h21
        refine zq_go zt_X9_readsPerson 1 [] 89 [(0, .ref 50), (1, .int (nI k)), (2, .int (nI q)), (3, .int (zbt b n q)), (4, .int (zdn (zst b n q))), (5, .int ((zbt b n (q + 1)) - (nI 48))), (6, .int ((zbt b n (q + 2)) - (nI 48)))] [.int (nI 1)] μ rfl trivial ?_
        exact zq_retn zt_X9_readsPerson rfl rfl (Or.inr (Or.inl ⟨rfl, q0, Classical.not_not.mp h21, rfl⟩))
    · rw [zdn_m1 (by omega)] at h14
      refine zq_go zt_X9_readsPerson 1 [] 79 [(0, .ref 50), (1, .int (nI k)), (2, .int (nI q)), (3, .int (zbt b n q)), (4, .int (zdn (zst b n q))), (5, .int ((zbt b n (q + 1)) - (nI 48))), (6, .int ((zbt b n (q + 2)) - (nI 48)))] [.int (nI 0)] μ rfl trivial ?_
      exact zq_retn zt_X9_readsPerson rfl rfl (Or.inl ⟨rfl, Classical.not_not.mp h14, rfl⟩)
  refine zq_go zt_X9_readsPerson 3 [] 3 [(0, .ref 50), (1, .int (nI k)), (2, .int (nI q))] [.int (nI q), .int (nI 1), .ref 50] μ rfl trivial ?_
  refine zq_call zt_X9_readsPerson [.ref 50, .int (nI 1), .int (nI q)] [] (zs_byteAt1 hT (k := q) (by omega)) rfl rfl ?_
  rintro _ _ ⟨rfl, rfl⟩
  refine zq_go zt_X9_readsPerson 4 [] (if ¬ (zbt b n q) = (nI 103) then 17 else 13) [(0, .ref 50), (1, .int (nI k)), (2, .int (nI q)), (3, .int (zbt b n q))] [] μ rfl trivial ?_
  refine zq_ite (fun h52 => ?_) (fun h52 => ?_)
  · rw [zbt_eq hb (by decide)] at h52
    refine zq_go zt_X9_readsPerson 3 [] (if ¬ (zbt b n q) = (nI 99) then 27 else 23) [(0, .ref 50), (1, .int (nI k)), (2, .int (nI q)), (3, .int (zbt b n q))] [] μ rfl trivial ?_
    refine zq_ite (fun h55 => ?_) (fun h55 => ?_)
    · rw [zbt_eq hb (by decide)] at h55
      refine zq_go zt_X9_readsPerson 3 [] (if ¬ (zbt b n q) = (nI 104) then 37 else 33) [(0, .ref 50), (1, .int (nI k)), (2, .int (nI q)), (3, .int (zbt b n q))] [] μ rfl trivial ?_
      refine zq_ite (fun h58 => ?_) (fun h58 => ?_)
      · rw [zbt_eq hb (by decide)] at h58
        refine zq_go zt_X9_readsPerson 1 [] 38 [(0, .ref 50), (1, .int (nI k)), (2, .int (nI q)), (3, .int (zbt b n q))] [.int (-1)] μ rfl trivial ?_
        have e9 : zst b n q = 0 := by
          unfold zst
          by_cases h : q < n
          · rw [if_pos h]; unfold zsrt
            rw [if_neg (fun e => h52 ⟨h, e⟩), if_neg (fun e => h55 ⟨h, e⟩), if_neg (fun e => h58 ⟨h, e⟩)]
          · rw [if_neg h]
        rw [e9] at key
        exact key
      · rw [zbt_eq hb (by decide)] at h58
        have e7 := Classical.not_not.mp h58
        refine zq_go zt_X9_readsPerson 2 [] 38 [(0, .ref 50), (1, .int (nI k)), (2, .int (nI q)), (3, .int (zbt b n q))] [.int (nI 2)] μ rfl trivial ?_
        have e9 : zst b n q = 3 := by unfold zst; rw [if_pos e7.1, e7.2]; rfl
        rw [e9] at key
        exact key
    · rw [zbt_eq hb (by decide)] at h55
      have e7 := Classical.not_not.mp h55
      refine zq_go zt_X9_readsPerson 2 [] 38 [(0, .ref 50), (1, .int (nI k)), (2, .int (nI q)), (3, .int (zbt b n q))] [.int (nI 1)] μ rfl trivial ?_
      have e9 : zst b n q = 2 := by unfold zst; rw [if_pos e7.1, e7.2]; rfl
      rw [e9] at key
      exact key
  · rw [zbt_eq hb (by decide)] at h52
    have e7 := Classical.not_not.mp h52
    refine zq_go zt_X9_readsPerson 2 [] 38 [(0, .ref 50), (1, .int (nI k)), (2, .int (nI q)), (3, .int (zbt b n q))] [.int (nI 0)] μ rfl trivial ?_
    have e9 : zst b n q = 1 := by unfold zst; rw [if_pos e7.1, e7.2]; rfl
    rw [e9] at key
    exact key
set_option maxRecDepth 100000 in
set_option maxHeartbeats 4000000 in
theorem zs_readsParts0_l {n : Nat} {b : Nat → Nat} {μ0 : zq_Me} (hT0 : zTm 0 35 b n μ0) : ∀ (j k : Nat) (μ : zq_Me), k + j = 12 → 3 * k ≤ n → (∀ i, i < 3 * k → zok1 b i = true) → (zq_fr [50, 53, 54] μ0 μ ∧ (∀ i, i ≠ 2 → μ.1 50 i = μ0.1 50 i) ∧ μ.1 50 2 = nI 0 ∧ (∀ e, e < k → μ.1 53 e = nI (zo1 b e) ∧ μ.1 54 e = nI (zo2 b e))) → zq_Wp zn_X9_readsParts 48 [(0, .ref 50), (1, .int (nI 0)), (2, .int (nI 2)), (3, .int (nI k)), (4, .int (nI (3 * k)))] [] μ (fun v μ => v = some (.int (zdn (ztf (zok1 b) 3 n))) ∧ zq_fr [50, 53, 54] μ0 μ ∧ (∀ i, i ≠ 2 → μ.1 50 i = μ0.1 50 i) ∧ μ.1 50 2 = nI (ztm (zok1 b) 3 n) ∧ (∀ e, e < ztm (zok1 b) 3 n → μ.1 53 e = nI (zo1 b e) ∧ μ.1 54 e = nI (zo2 b e))) := by
  intro j
  induction j with
  | zero =>
    intro k μ hij hle hok hI
    have hn9 := hT0.1
    omega
  | succ j ih =>
    intro k μ hij hle hok hI
    have hn9 := hT0.1
    have hk9 : k < 12 := by omega
    have hT := hT0.fr hI.1 (by decide)
    have key : (3 * k < n ∨ 0 < k) → zq_Wp zn_X9_readsParts 64 [(0, .ref 50), (1, .int (nI 0)), (2, .int (nI 2)), (3, .int (nI k)), (4, .int (nI (3 * k)))] [] μ (fun v μ => v = some (.int (zdn (ztf (zok1 b) 3 n))) ∧ zq_fr [50, 53, 54] μ0 μ ∧ (∀ i, i ≠ 2 → μ.1 50 i = μ0.1 50 i) ∧ μ.1 50 2 = nI (ztm (zok1 b) 3 n) ∧ (∀ e, e < ztm (zok1 b) 3 n → μ.1 53 e = nI (zo1 b e) ∧ μ.1 54 e = nI (zo2 b e))) := by
      intro hne
      refine zq_go zt_X9_readsParts 2 [] (if ¬ (nI 0) = 0 then 78 else 68) [(0, .ref 50), (1, .int (nI 0)), (2, .int (nI 2)), (3, .int (nI k)), (4, .int (nI (3 * k)))] [] μ rfl trivial ?_
      rw [if_neg (by decide)]
      refine zq_go zt_X9_readsParts 3 [] 72 [(0, .ref 50), (1, .int (nI 0)), (2, .int (nI 2)), (3, .int (nI k)), (4, .int (nI (3 * k)))] [.int (nI (3 * k)), .int (nI k), .ref 50] μ rfl trivial ?_
      refine zq_call zt_X9_readsParts [.ref 50, .int (nI k), .int (nI (3 * k))] [] (zs_readsDoor hT (q := 3 * k) (k := k) (by omega) hk9) rfl rfl ?_
      intro v9 μ1 hd9
      rcases hd9 with ⟨rfl, d1, rfl⟩ | ⟨rfl, d1, d2, rfl⟩ | ⟨rfl, d1, d2, d3, hμ1⟩
      · have e9 : ztf (zok1 b) 3 n = 3 * k + 1 := ztf_st (fun i hi => hok i (by omega)) hle (fun h => by unfold zok1; rw [if_neg (by omega)]; unfold zft1; rw [show zfig (b (3 * k)) = false from by cases e : zfig (b (3 * k)) with | false => rfl | true => exact absurd ⟨h, e⟩ d1]; rfl) (by omega)
        have e8 := ztm_st e9
        refine zq_go zt_X9_readsParts 1 [] 85 [(0, .ref 50), (1, .int (nI 0)), (2, .int (nI 2)), (3, .int (nI k)), (4, .int (nI (3 * k)))] [.int (nI 0)] μ1 rfl trivial ?_
        refine zq_go zt_X9_readsParts 4 [] (if (nI 2) ≤ (nI 0) then 99 else 93) [(0, .ref 50), (1, .int (nI 0)), (2, .int (nI 2)), (3, .int (nI k)), (4, .int (nI (3 * k))), (5, .int (nI 0))] [] μ1 rfl trivial ?_
        rw [if_neg (by decide)]
        refine zq_go zt_X9_readsParts 3 [] 98 [(0, .ref 50), (1, .int (nI 0)), (2, .int (nI 2)), (3, .int (nI k)), (4, .int (nI (3 * k))), (5, .int (nI 0))] [.int ((nI (3 * k)) + (nI 0))] μ1 rfl trivial ?_
        rw [zn_add (3 * k) 0]
        exact zq_retn zt_X9_readsParts rfl rfl (⟨by rw [e9]; rfl, hI.1, hI.2.1, by rw [e8]; exact hI.2.2.1, fun e he => by rw [e8] at he; omega⟩)
      · have e9 : ztf (zok1 b) 3 n = 3 * k + 1 + 1 := ztf_st (fun i hi => if e0 : i = 3 * k then (by rw [e0]; exact (show zok1 b (3 * k) = true by unfold zok1; rw [if_neg (by omega)]; unfold zft1; rw [d1.2, decide_eq_true (show 3 * k % 3 = 0 by omega)]; rfl)) else (hok i (by omega))) (by have := d1.1; omega) (fun h => by
              unfold zok1; rw [if_neg (by omega)]; unfold zft1
              rw [decide_eq_false (show ¬ (3 * k + 1) % 3 = 0 by omega), Nat.add_sub_cancel]
              cases e : zfig (b (3 * k + 1)) with
              | false => rfl
              | true => rw [decide_eq_true (show b (3 * k + 1) = b (3 * k) from Classical.byContradiction (fun e2 => d2 ⟨⟨h, e⟩, e2⟩))]; rfl) (by omega)
        have e8 := ztm_st e9
        refine zq_go zt_X9_readsParts 1 [] 85 [(0, .ref 50), (1, .int (nI 0)), (2, .int (nI 2)), (3, .int (nI k)), (4, .int (nI (3 * k)))] [.int (nI 1)] μ1 rfl trivial ?_
        refine zq_go zt_X9_readsParts 4 [] (if (nI 2) ≤ (nI 1) then 99 else 93) [(0, .ref 50), (1, .int (nI 0)), (2, .int (nI 2)), (3, .int (nI k)), (4, .int (nI (3 * k))), (5, .int (nI 1))] [] μ1 rfl trivial ?_
        rw [if_neg (by decide)]
        refine zq_go zt_X9_readsParts 3 [] 98 [(0, .ref 50), (1, .int (nI 0)), (2, .int (nI 2)), (3, .int (nI k)), (4, .int (nI (3 * k))), (5, .int (nI 1))] [.int ((nI (3 * k)) + (nI 1))] μ1 rfl trivial ?_
        rw [zn_add (3 * k) 1]
        exact zq_retn zt_X9_readsParts rfl rfl (⟨by rw [e9]; rfl, hI.1, hI.2.1, by rw [e8]; exact hI.2.2.1, fun e he => by rw [e8] at he; omega⟩)
      · have f1 : zq_fr [50, 53, 54] μ0 μ1 := by rw [hμ1]; exact ((hI.1.u1 (by simp)).u1 (by simp))
        have s1 : ∀ i, i ≠ 2 → μ1.1 50 i = μ0.1 50 i := fun i hi => by rw [hμ1, zq_u1_ne (by decide), zq_u1_ne (by decide)]; exact hI.2.1 i hi
        have s2 : μ1.1 50 2 = nI 0 := by rw [hμ1, zq_u1_ne (by decide), zq_u1_ne (by decide)]; exact hI.2.2.1
        have r1 : (∀ e, e < (k + 1) → μ1.1 53 e = nI (zo1 b e) ∧ μ1.1 54 e = nI (zo2 b e)) := fun e he => by
          rw [hμ1]
          by_cases h8 : e = k
          · subst h8
            exact ⟨by rw [zq_u1_ne (by decide)]; rw [zq_u1_s]; rfl, by rw [zq_u1_s]; rfl⟩
          · exact ⟨by rw [zq_u1_ne (by decide)]; rw [zq_u1_o2 h8]; exact (hI.2.2.2 e (by omega)).1, by rw [zq_u1_o2 h8]; rw [zq_u1_ne (by decide)]; exact (hI.2.2.2 e (by omega)).2⟩
        have hT := hT0.fr f1 (by decide)
        have hA : 3 * k + 2 ≤ n := by have := d2.1; omega
        have hb : ∀ i, i < n → b i < 256 := fun i hi => (hT.2.2.2.2 i hi).2
        have hk8 : ∀ i, i < 3 * k + 2 → zok1 b i = true := (fun i hi => if e1 : i = 3 * k + 1 then (by rw [e1]; exact (show zok1 b (3 * k + 1) = true by unfold zok1; rw [if_neg (by omega)]; unfold zft1; rw [d2.2, decide_eq_false (show ¬ (3 * k + 1) % 3 = 0 by omega), Nat.add_sub_cancel, decide_eq_false d3]; rfl)) else (if e0 : i = 3 * k then (by rw [e0]; exact (show zok1 b (3 * k) = true by unfold zok1; rw [if_neg (by omega)]; unfold zft1; rw [d1.2, decide_eq_true (show 3 * k % 3 = 0 by omega)]; rfl)) else (hok i (by omega))))
        refine zq_go zt_X9_readsParts 1 [] 85 [(0, .ref 50), (1, .int (nI 0)), (2, .int (nI 2)), (3, .int (nI k)), (4, .int (nI (3 * k)))] [.int (nI 2)] μ1 rfl trivial ?_
        refine zq_go zt_X9_readsParts 4 [] (if (nI 2) ≤ (nI 2) then 99 else 93) [(0, .ref 50), (1, .int (nI 0)), (2, .int (nI 2)), (3, .int (nI k)), (4, .int (nI (3 * k))), (5, .int (nI 2))] [] μ1 rfl trivial ?_
        rw [if_pos (by decide)]
        refine zq_go zt_X9_readsParts 11 [vp_in (nI 0) 2] (if ¬ ((nI (3 * k)) + (nI 2)) = (μ1.1 51 0) then 154 else 119) [(0, .ref 50), (1, .int (nI 0)), (2, .int (nI 2)), (3, .int ((nI k) + (nI 1))), (4, .int ((nI (3 * k)) + (nI 2))), (5, .int (nI 2))] [] μ1 rfl ⟨zn_in rfl (by decide) (by decide), trivial⟩ ?_
        rw [zn_add k 1, zn_add (3 * k) 2, hT.2.2.2.1]
        refine zq_ite (fun h58 => ?_) (fun h58 => ?_)
        · rw [zn_eq (by omega) (by omega)] at h58
          refine zq_go zt_X9_readsParts 3 [] 158 [(0, .ref 50), (1, .int (nI 0)), (2, .int (nI 2)), (3, .int (nI (k + 1))), (4, .int (nI ((3 * k) + 2))), (5, .int (nI 2))] [.int (nI ((3 * k) + 2)), .int (nI 0), .ref 50] μ1 rfl trivial ?_
          refine zq_call zt_X9_readsParts [.ref 50, .int (nI 0), .int (nI ((3 * k) + 2))] [] (zs_byteAt0 hT (k := 3 * k + 2) (by omega)) rfl rfl ?_
          rintro _ _ ⟨rfl, rfl⟩
          refine zq_go zt_X9_readsParts 2 [] (if (zbt b n (3 * k + 2)) = (nI 59) then 169 else 166) [(0, .ref 50), (1, .int (nI 0)), (2, .int (nI 2)), (3, .int (nI (k + 1))), (4, .int (nI ((3 * k) + 2))), (5, .int (nI 2))] [] μ1 rfl trivial ?_
          refine zq_ite (fun h64 => ?_) (fun h64 => ?_)
          · rw [zbt_eq hb (by decide)] at h64
            refine zq_go zt_X9_readsParts 2 [] 48 [(0, .ref 50), (1, .int (nI 0)), (2, .int (nI 2)), (3, .int (nI (k + 1))), (4, .int ((nI ((3 * k) + 2)) + (nI 1))), (5, .int (nI 2))] [] μ1 rfl trivial ?_
            rw [zn_add ((3 * k) + 2) 1]
            refine zq_drp [0, 1, 2, 3, 4] [(0, .ref 50), (1, .int (nI 0)), (2, .int (nI 2)), (3, .int (nI (k + 1))), (4, .int (nI (3 * k + 2 + 1)))] rfl ?_
            have h9 := ih (k + 1) μ1 (by omega) (by omega) (fun i hi => if e9 : i = 3 * k + 2 then by rw [e9]; unfold zok1; rw [if_pos (by omega), h64.2]; rfl else hk8 i (by omega)) ⟨f1, s1, s2, r1⟩
            exact h9
          · rw [zbt_eq hb (by decide)] at h64
            have e9 : ztf (zok1 b) 3 n = 3 * k + 2 + 1 := ztf_st hk8 hA (fun h => by unfold zok1; rw [if_pos (by omega)]; exact decide_eq_false (fun e => h64 ⟨h, e⟩)) (by omega)
            have e8 := ztm_st e9
            refine zq_go zt_X9_readsParts 1 [] 168 [(0, .ref 50), (1, .int (nI 0)), (2, .int (nI 2)), (3, .int (nI (k + 1))), (4, .int (nI ((3 * k) + 2))), (5, .int (nI 2))] [.int (nI ((3 * k) + 2))] μ1 rfl trivial ?_
            exact zq_retn zt_X9_readsParts rfl rfl (⟨by rw [e9]; rfl, f1, s1, by rw [e8]; exact s2, fun e he => by rw [e8] at he; omega⟩)
        · rw [zn_eq (by omega) (by omega)] at h58
          have e7 : n = 3 * k + 2 := by omega
          have e9 : ztf (zok1 b) 3 n = 0 := by rw [ztf_all (fun i hi => hk8 i (by omega)), if_pos (by omega)]
          have e8 : ztm (zok1 b) 3 n = k + 1 := by unfold ztm; rw [if_pos e9]; omega
          refine zq_go zt_X9_readsParts 3 [] (if ¬ (nI 0) = 0 then 128 else 124) [(0, .ref 50), (1, .int (nI 0)), (2, .int (nI 2)), (3, .int (nI (k + 1))), (4, .int (nI ((3 * k) + 2))), (5, .int (nI 2))] [.ref 50] μ1 rfl trivial ?_
          rw [if_neg (by decide)]
          refine zq_go zt_X9_readsParts 2 [] 132 [(0, .ref 50), (1, .int (nI 0)), (2, .int (nI 2)), (3, .int (nI (k + 1))), (4, .int (nI ((3 * k) + 2))), (5, .int (nI 2))] [.int (nI (k + 1)), .ref 50] μ1 rfl trivial ?_
          refine zq_go zt_X9_readsParts 5 [] (if ¬ (nI 0) = (nI 1) then 145 else 141) [(0, .ref 50), (1, .int (nI 0)), (2, .int (nI 2)), (3, .int (nI (k + 1))), (4, .int (nI ((3 * k) + 2))), (5, .int (nI 2))] [.ref 50] (zq_u1 μ1 50 2 (nI (k + 1))) rfl trivial ?_
          rw [if_pos (by decide)]
          refine zq_go zt_X9_readsParts 4 [] 153 [(0, .ref 50), (1, .int (nI 0)), (2, .int (nI 2)), (3, .int (nI (k + 1))), (4, .int (nI ((3 * k) + 2))), (5, .int (nI 2))] [.int (-1)] (zq_u1 (zq_u1 μ1 50 2 (nI (k + 1))) 50 5 (μ1.1 50 5)) rfl trivial ?_
          obtain ⟨μ2, hμ2⟩ : ∃ k9 : zq_Me, k9 = (zq_u1 (zq_u1 μ1 50 2 (nI (k + 1))) 50 5 (μ1.1 50 5)) := ⟨_, rfl⟩
          rw [← hμ2]
          have s9 : ∀ i, i ≠ 2 → μ2.1 50 i = μ0.1 50 i := fun i hi => by
            rw [hμ2, zq_u1_rd]
            by_cases h5 : i = 5
            · rw [if_pos h5, h5]; exact s1 5 (by decide)
            · rw [if_neg h5, zq_u1_o2 hi]; exact s1 i hi
          have s8 : μ2.1 50 2 = nI (k + 1) := by rw [hμ2, zq_u1_o2 (by decide), zq_u1_s]
          have f2 : zq_fr [50, 53, 54] μ0 μ2 := by rw [hμ2]; exact (f1.u1 (by simp)).u1 (by simp)
          exact zq_retn zt_X9_readsParts rfl rfl (⟨by rw [e9]; rfl, f2, s9, by rw [e8]; exact s8, fun e he => by rw [e8] at he; rw [hμ2]; exact r1 e he⟩)
    refine zq_go zt_X9_readsParts 6 [vp_in (nI 0) 2] (if (nI (3 * k)) < (μ.1 51 0) then 64 else 59) [(0, .ref 50), (1, .int (nI 0)), (2, .int (nI 2)), (3, .int (nI k)), (4, .int (nI (3 * k)))] [] μ rfl ⟨zn_in rfl (by decide) (by decide), trivial⟩ ?_
    rw [hT.2.2.2.1]
    refine zq_ite (fun h98 => ?_) (fun h98 => ?_)
    · rw [zn_lt (by omega) (by omega)] at h98
      exact key (Or.inl h98)
    · rw [zn_lt (by omega) (by omega)] at h98
      refine zq_go zt_X9_readsParts 2 [] (if (nI (3 * k)) ≤ 0 then 175 else 64) [(0, .ref 50), (1, .int (nI 0)), (2, .int (nI 2)), (3, .int (nI k)), (4, .int (nI (3 * k)))] [] μ rfl trivial ?_
      refine zq_ite (fun h103 => ?_) (fun h103 => ?_)
      · rw [show (0 : Int32) = nI 0 from rfl, zn_le (by omega) (by omega)] at h103
        have q0 : n = 0 := by omega
        have e9 : ztf (zok1 b) 3 n = 0 := by rw [ztf_all (fun i hi => absurd hi (by omega)), if_pos (Or.inl q0)]
        have e8 : ztm (zok1 b) 3 n = 0 := by unfold ztm; rw [if_pos e9, q0]
        refine zq_go zt_X9_readsParts 1 [] 176 [(0, .ref 50), (1, .int (nI 0)), (2, .int (nI 2)), (3, .int (nI k)), (4, .int (nI (3 * k)))] [.int (-1)] μ rfl trivial ?_
        exact zq_retn zt_X9_readsParts rfl rfl (⟨by rw [e9]; rfl, hI.1, hI.2.1, by rw [e8]; exact hI.2.2.1, fun e he => by rw [e8] at he; omega⟩)
      · rw [show (0 : Int32) = nI 0 from rfl, zn_le (by omega) (by omega)] at h103
        exact key (Or.inr (by omega))
set_option maxRecDepth 100000 in
set_option maxHeartbeats 4000000 in
theorem zs_readsParts0 {n : Nat} {b : Nat → Nat} {μ0 : zq_Me} (hT0 : zTm 0 35 b n μ0) : zq_Wp zn_X9_readsParts 0 [(0, .ref 50), (1, .int (nI 0))] [] μ0 (fun v μ => v = some (.int (zdn (ztf (zok1 b) 3 n))) ∧ zq_fr [50, 53, 54] μ0 μ ∧ (∀ i, i ≠ 2 → μ.1 50 i = μ0.1 50 i) ∧ μ.1 50 2 = nI (ztm (zok1 b) 3 n) ∧ (∀ e, e < ztm (zok1 b) 3 n → μ.1 53 e = nI (zo1 b e) ∧ μ.1 54 e = nI (zo2 b e))) := by
  refine zq_go zt_X9_readsParts 2 [] (if ¬ (nI 0) = 0 then 8 else 4) [(0, .ref 50), (1, .int (nI 0))] [] μ0 rfl trivial ?_
  rw [if_neg (by decide)]
  refine zq_go zt_X9_readsParts 2 [] 9 [(0, .ref 50), (1, .int (nI 0))] [.int (nI 2)] μ0 rfl trivial ?_
  refine zq_go zt_X9_readsParts 8 [] (if ¬ (nI 0) = 0 then 24 else 20) [(0, .ref 50), (1, .int (nI 0)), (2, .int (nI 2)), (3, .int (nI 0)), (4, .int (nI 0))] [.ref 50] μ0 rfl trivial ?_
  rw [if_neg (by decide)]
  refine zq_go zt_X9_readsParts 2 [] 28 [(0, .ref 50), (1, .int (nI 0)), (2, .int (nI 2)), (3, .int (nI 0)), (4, .int (nI 0))] [.int (nI 0), .ref 50] μ0 rfl trivial ?_
  refine zq_go zt_X9_readsParts 5 [] (if ¬ (nI 0) = (nI 1) then 41 else 37) [(0, .ref 50), (1, .int (nI 0)), (2, .int (nI 2)), (3, .int (nI 0)), (4, .int (nI 0))] [.ref 50] (zq_u1 μ0 50 2 (nI 0)) rfl trivial ?_
  rw [if_pos (by decide)]
  refine zq_go zt_X9_readsParts 3 [] 48 [(0, .ref 50), (1, .int (nI 0)), (2, .int (nI 2)), (3, .int (nI 0)), (4, .int (nI 0))] [] (zq_u1 (zq_u1 μ0 50 2 (nI 0)) 50 5 (μ0.1 50 5)) rfl trivial ?_
  obtain ⟨μ1, hμ1⟩ : ∃ k9 : zq_Me, k9 = (zq_u1 (zq_u1 μ0 50 2 (nI 0)) 50 5 (μ0.1 50 5)) := ⟨_, rfl⟩
  rw [← hμ1]
  exact zs_readsParts0_l hT0 12 0 μ1 (by omega) (by omega) (fun i hi => absurd hi (by omega)) ⟨by rw [hμ1]; exact (zq_fr.rf.u1 (by simp)).u1 (by simp), fun i hi => by
    rw [hμ1, zq_u1_rd]
    by_cases h5 : i = 5
    · rw [if_pos h5, h5]
    · rw [if_neg h5, zq_u1_o2 hi], by rw [hμ1, zq_u1_o2 (by decide), zq_u1_s], fun e he => absurd he (Nat.not_lt_zero e)⟩
set_option maxRecDepth 100000 in
set_option maxHeartbeats 4000000 in
theorem zs_readsParts1_l {n : Nat} {b : Nat → Nat} {μ0 : zq_Me} (hT0 : zTm 1 31 b n μ0) : ∀ (j k : Nat) (μ : zq_Me), k + j = 8 → 4 * k ≤ n → (∀ i, i < 4 * k → zok6 b i = true) → (zq_fr [50, 55, 56, 57] μ0 μ ∧ (∀ i, i ≠ 5 → μ.1 50 i = μ0.1 50 i) ∧ μ.1 50 5 = nI 0 ∧ (∀ e, e < k → μ.1 55 e = nI (zps b e) ∧ μ.1 56 e = nI (zpt b e) ∧ μ.1 57 e = nI (zpb b e))) → zq_Wp zn_X9_readsParts 48 [(0, .ref 50), (1, .int (nI 1)), (2, .int (nI 3)), (3, .int (nI k)), (4, .int (nI (4 * k)))] [] μ (fun v μ => v = some (.int (zdn (ztf (zok6 b) 4 n))) ∧ zq_fr [50, 55, 56, 57] μ0 μ ∧ (∀ i, i ≠ 5 → μ.1 50 i = μ0.1 50 i) ∧ μ.1 50 5 = nI (ztm (zok6 b) 4 n) ∧ (∀ e, e < ztm (zok6 b) 4 n → μ.1 55 e = nI (zps b e) ∧ μ.1 56 e = nI (zpt b e) ∧ μ.1 57 e = nI (zpb b e))) := by
  intro j
  induction j with
  | zero =>
    intro k μ hij hle hok hI
    have hn9 := hT0.1
    omega
  | succ j ih =>
    intro k μ hij hle hok hI
    have hn9 := hT0.1
    have hk9 : k < 8 := by omega
    have hT := hT0.fr hI.1 (by decide)
    have key : (4 * k < n ∨ 0 < k) → zq_Wp zn_X9_readsParts 64 [(0, .ref 50), (1, .int (nI 1)), (2, .int (nI 3)), (3, .int (nI k)), (4, .int (nI (4 * k)))] [] μ (fun v μ => v = some (.int (zdn (ztf (zok6 b) 4 n))) ∧ zq_fr [50, 55, 56, 57] μ0 μ ∧ (∀ i, i ≠ 5 → μ.1 50 i = μ0.1 50 i) ∧ μ.1 50 5 = nI (ztm (zok6 b) 4 n) ∧ (∀ e, e < ztm (zok6 b) 4 n → μ.1 55 e = nI (zps b e) ∧ μ.1 56 e = nI (zpt b e) ∧ μ.1 57 e = nI (zpb b e))) := by
      intro hne
      refine zq_go zt_X9_readsParts 2 [] (if ¬ (nI 1) = 0 then 78 else 68) [(0, .ref 50), (1, .int (nI 1)), (2, .int (nI 3)), (3, .int (nI k)), (4, .int (nI (4 * k)))] [] μ rfl trivial ?_
      rw [if_pos (by decide)]
      refine zq_go zt_X9_readsParts 3 [] 82 [(0, .ref 50), (1, .int (nI 1)), (2, .int (nI 3)), (3, .int (nI k)), (4, .int (nI (4 * k)))] [.int (nI (4 * k)), .int (nI k), .ref 50] μ rfl trivial ?_
      refine zq_call zt_X9_readsParts [.ref 50, .int (nI k), .int (nI (4 * k))] [] (zs_readsPerson hT (q := 4 * k) (k := k) (by omega) hk9) rfl rfl ?_
      intro v9 μ1 hd9
      rcases hd9 with ⟨rfl, d1, rfl⟩ | ⟨rfl, d1, d2, rfl⟩ | ⟨rfl, d1, d2, d3, rfl⟩ | ⟨rfl, d1, d2, d3, hμ1⟩
      · have e9 : ztf (zok6 b) 4 n = 4 * k + 1 := ztf_st (fun i hi => hok i (by omega)) hle (fun h => by unfold zok6; rw [if_neg (by omega)]; unfold zft6; rw [if_pos (by omega), decide_eq_true (show zsrt (b (4 * k)) = 0 from by unfold zst at d1; rw [if_pos h] at d1; exact d1)]; rfl) (by omega)
        have e8 := ztm_st e9
        refine zq_go zt_X9_readsParts 4 [] (if (nI 3) ≤ (nI 0) then 99 else 93) [(0, .ref 50), (1, .int (nI 1)), (2, .int (nI 3)), (3, .int (nI k)), (4, .int (nI (4 * k))), (5, .int (nI 0))] [] μ1 rfl trivial ?_
        rw [if_neg (by decide)]
        refine zq_go zt_X9_readsParts 3 [] 98 [(0, .ref 50), (1, .int (nI 1)), (2, .int (nI 3)), (3, .int (nI k)), (4, .int (nI (4 * k))), (5, .int (nI 0))] [.int ((nI (4 * k)) + (nI 0))] μ1 rfl trivial ?_
        rw [zn_add (4 * k) 0]
        exact zq_retn zt_X9_readsParts rfl rfl (⟨by rw [e9]; rfl, hI.1, hI.2.1, by rw [e8]; exact hI.2.2.1, fun e he => by rw [e8] at he; omega⟩)
      · have zq : 4 * k < n := Classical.byContradiction (fun h => d1 (if_neg h))
        have z0 : ¬ zsrt (b (4 * k)) = 0 := fun e => d1 (by unfold zst; rw [if_pos zq]; exact e)
        have e9 : ztf (zok6 b) 4 n = 4 * k + 1 + 1 := ztf_st (fun i hi => if e0 : i = 4 * k then (by rw [e0]; exact (show zok6 b (4 * k) = true by unfold zok6; rw [if_neg (by omega)]; unfold zft6; rw [if_pos (by omega), decide_eq_false z0]; rfl)) else (hok i (by omega))) (by omega) (fun h => by unfold zok6; rw [if_neg (by omega)]; unfold zft6; rw [if_neg (by omega)]; cases e : zfig (b (4 * k + 1)) with | false => rfl | true => exact absurd ⟨h, e⟩ d2) (by omega)
        have e8 := ztm_st e9
        refine zq_go zt_X9_readsParts 4 [] (if (nI 3) ≤ (nI 1) then 99 else 93) [(0, .ref 50), (1, .int (nI 1)), (2, .int (nI 3)), (3, .int (nI k)), (4, .int (nI (4 * k))), (5, .int (nI 1))] [] μ1 rfl trivial ?_
        rw [if_neg (by decide)]
        refine zq_go zt_X9_readsParts 3 [] 98 [(0, .ref 50), (1, .int (nI 1)), (2, .int (nI 3)), (3, .int (nI k)), (4, .int (nI (4 * k))), (5, .int (nI 1))] [.int ((nI (4 * k)) + (nI 1))] μ1 rfl trivial ?_
        rw [zn_add (4 * k) 1]
        exact zq_retn zt_X9_readsParts rfl rfl (⟨by rw [e9]; rfl, hI.1, hI.2.1, by rw [e8]; exact hI.2.2.1, fun e he => by rw [e8] at he; omega⟩)
      · have zq : 4 * k < n := Classical.byContradiction (fun h => d1 (if_neg h))
        have z0 : ¬ zsrt (b (4 * k)) = 0 := fun e => d1 (by unfold zst; rw [if_pos zq]; exact e)
        have e9 : ztf (zok6 b) 4 n = 4 * k + 2 + 1 := ztf_st (fun i hi => if e1 : i = 4 * k + 1 then (by rw [e1]; exact (show zok6 b (4 * k + 1) = true by unfold zok6; rw [if_neg (by omega)]; unfold zft6; rw [if_neg (by omega)]; exact d2.2)) else (if e0 : i = 4 * k then (by rw [e0]; exact (show zok6 b (4 * k) = true by unfold zok6; rw [if_neg (by omega)]; unfold zft6; rw [if_pos (by omega), decide_eq_false z0]; rfl)) else (hok i (by omega)))) (by have := d2.1; omega) (fun h => by unfold zok6; rw [if_neg (by omega)]; unfold zft6; rw [if_neg (by omega)]; cases e : zfig (b (4 * k + 2)) with | false => rfl | true => exact absurd ⟨h, e⟩ d3) (by omega)
        have e8 := ztm_st e9
        refine zq_go zt_X9_readsParts 4 [] (if (nI 3) ≤ (nI 2) then 99 else 93) [(0, .ref 50), (1, .int (nI 1)), (2, .int (nI 3)), (3, .int (nI k)), (4, .int (nI (4 * k))), (5, .int (nI 2))] [] μ1 rfl trivial ?_
        rw [if_neg (by decide)]
        refine zq_go zt_X9_readsParts 3 [] 98 [(0, .ref 50), (1, .int (nI 1)), (2, .int (nI 3)), (3, .int (nI k)), (4, .int (nI (4 * k))), (5, .int (nI 2))] [.int ((nI (4 * k)) + (nI 2))] μ1 rfl trivial ?_
        rw [zn_add (4 * k) 2]
        exact zq_retn zt_X9_readsParts rfl rfl (⟨by rw [e9]; rfl, hI.1, hI.2.1, by rw [e8]; exact hI.2.2.1, fun e he => by rw [e8] at he; omega⟩)
      · have zq : 4 * k < n := Classical.byContradiction (fun h => d1 (if_neg h))
        have z0 : ¬ zsrt (b (4 * k)) = 0 := fun e => d1 (by unfold zst; rw [if_pos zq]; exact e)
        have z1 : zst b n (4 * k) = zsrt (b (4 * k)) := if_pos zq
        rw [z1] at hμ1
        have f1 : zq_fr [50, 55, 56, 57] μ0 μ1 := by rw [hμ1]; exact (((hI.1.u1 (by simp)).u1 (by simp)).u1 (by simp))
        have s1 : ∀ i, i ≠ 5 → μ1.1 50 i = μ0.1 50 i := fun i hi => by rw [hμ1, zq_u1_ne (by decide), zq_u1_ne (by decide), zq_u1_ne (by decide)]; exact hI.2.1 i hi
        have s2 : μ1.1 50 5 = nI 0 := by rw [hμ1, zq_u1_ne (by decide), zq_u1_ne (by decide), zq_u1_ne (by decide)]; exact hI.2.2.1
        have r1 : (∀ e, e < (k + 1) → μ1.1 55 e = nI (zps b e) ∧ μ1.1 56 e = nI (zpt b e) ∧ μ1.1 57 e = nI (zpb b e)) := fun e he => by
          rw [hμ1]
          by_cases h8 : e = k
          · subst h8
            exact ⟨by rw [zq_u1_ne (by decide)]; rw [zq_u1_ne (by decide)]; rw [zq_u1_s]; rfl, by rw [zq_u1_ne (by decide)]; rw [zq_u1_s]; rfl, by rw [zq_u1_s]; rfl⟩
          · exact ⟨by rw [zq_u1_ne (by decide)]; rw [zq_u1_ne (by decide)]; rw [zq_u1_o2 h8]; exact (hI.2.2.2 e (by omega)).1, by rw [zq_u1_ne (by decide)]; rw [zq_u1_o2 h8]; rw [zq_u1_ne (by decide)]; exact (hI.2.2.2 e (by omega)).2.1, by rw [zq_u1_o2 h8]; rw [zq_u1_ne (by decide)]; rw [zq_u1_ne (by decide)]; exact (hI.2.2.2 e (by omega)).2.2⟩
        have hT := hT0.fr f1 (by decide)
        have hA : 4 * k + 3 ≤ n := by have := d3.1; omega
        have hb : ∀ i, i < n → b i < 256 := fun i hi => (hT.2.2.2.2 i hi).2
        have hk8 : ∀ i, i < 4 * k + 3 → zok6 b i = true := (fun i hi => if e2 : i = 4 * k + 2 then (by rw [e2]; exact (show zok6 b (4 * k + 2) = true by unfold zok6; rw [if_neg (by omega)]; unfold zft6; rw [if_neg (by omega)]; exact d3.2)) else (if e1 : i = 4 * k + 1 then (by rw [e1]; exact (show zok6 b (4 * k + 1) = true by unfold zok6; rw [if_neg (by omega)]; unfold zft6; rw [if_neg (by omega)]; exact d2.2)) else (if e0 : i = 4 * k then (by rw [e0]; exact (show zok6 b (4 * k) = true by unfold zok6; rw [if_neg (by omega)]; unfold zft6; rw [if_pos (by omega), decide_eq_false z0]; rfl)) else (hok i (by omega)))))
        refine zq_go zt_X9_readsParts 4 [] (if (nI 3) ≤ (nI 3) then 99 else 93) [(0, .ref 50), (1, .int (nI 1)), (2, .int (nI 3)), (3, .int (nI k)), (4, .int (nI (4 * k))), (5, .int (nI 3))] [] μ1 rfl trivial ?_
        rw [if_pos (by decide)]
        refine zq_go zt_X9_readsParts 11 [vp_in (nI 1) 2] (if ¬ ((nI (4 * k)) + (nI 3)) = (μ1.1 51 1) then 154 else 119) [(0, .ref 50), (1, .int (nI 1)), (2, .int (nI 3)), (3, .int ((nI k) + (nI 1))), (4, .int ((nI (4 * k)) + (nI 3))), (5, .int (nI 3))] [] μ1 rfl ⟨zn_in rfl (by decide) (by decide), trivial⟩ ?_
        rw [zn_add k 1, zn_add (4 * k) 3, hT.2.2.2.1]
        refine zq_ite (fun h65 => ?_) (fun h65 => ?_)
        · rw [zn_eq (by omega) (by omega)] at h65
          refine zq_go zt_X9_readsParts 3 [] 158 [(0, .ref 50), (1, .int (nI 1)), (2, .int (nI 3)), (3, .int (nI (k + 1))), (4, .int (nI ((4 * k) + 3))), (5, .int (nI 3))] [.int (nI ((4 * k) + 3)), .int (nI 1), .ref 50] μ1 rfl trivial ?_
          refine zq_call zt_X9_readsParts [.ref 50, .int (nI 1), .int (nI ((4 * k) + 3))] [] (zs_byteAt1 hT (k := 4 * k + 3) (by omega)) rfl rfl ?_
          rintro _ _ ⟨rfl, rfl⟩
          refine zq_go zt_X9_readsParts 2 [] (if (zbt b n (4 * k + 3)) = (nI 59) then 169 else 166) [(0, .ref 50), (1, .int (nI 1)), (2, .int (nI 3)), (3, .int (nI (k + 1))), (4, .int (nI ((4 * k) + 3))), (5, .int (nI 3))] [] μ1 rfl trivial ?_
          refine zq_ite (fun h71 => ?_) (fun h71 => ?_)
          · rw [zbt_eq hb (by decide)] at h71
            refine zq_go zt_X9_readsParts 2 [] 48 [(0, .ref 50), (1, .int (nI 1)), (2, .int (nI 3)), (3, .int (nI (k + 1))), (4, .int ((nI ((4 * k) + 3)) + (nI 1))), (5, .int (nI 3))] [] μ1 rfl trivial ?_
            rw [zn_add ((4 * k) + 3) 1]
            refine zq_drp [0, 1, 2, 3, 4] [(0, .ref 50), (1, .int (nI 1)), (2, .int (nI 3)), (3, .int (nI (k + 1))), (4, .int (nI (4 * k + 3 + 1)))] rfl ?_
            have h9 := ih (k + 1) μ1 (by omega) (by omega) (fun i hi => if e9 : i = 4 * k + 3 then by rw [e9]; unfold zok6; rw [if_pos (by omega), h71.2]; rfl else hk8 i (by omega)) ⟨f1, s1, s2, r1⟩
            exact h9
          · rw [zbt_eq hb (by decide)] at h71
            have e9 : ztf (zok6 b) 4 n = 4 * k + 3 + 1 := ztf_st hk8 hA (fun h => by unfold zok6; rw [if_pos (by omega)]; exact decide_eq_false (fun e => h71 ⟨h, e⟩)) (by omega)
            have e8 := ztm_st e9
            refine zq_go zt_X9_readsParts 1 [] 168 [(0, .ref 50), (1, .int (nI 1)), (2, .int (nI 3)), (3, .int (nI (k + 1))), (4, .int (nI ((4 * k) + 3))), (5, .int (nI 3))] [.int (nI ((4 * k) + 3))] μ1 rfl trivial ?_
            exact zq_retn zt_X9_readsParts rfl rfl (⟨by rw [e9]; rfl, f1, s1, by rw [e8]; exact s2, fun e he => by rw [e8] at he; omega⟩)
        · rw [zn_eq (by omega) (by omega)] at h65
          have e7 : n = 4 * k + 3 := by omega
          have e9 : ztf (zok6 b) 4 n = 0 := by rw [ztf_all (fun i hi => hk8 i (by omega)), if_pos (by omega)]
          have e8 : ztm (zok6 b) 4 n = k + 1 := by unfold ztm; rw [if_pos e9]; omega
          refine zq_go zt_X9_readsParts 3 [] (if ¬ (nI 1) = 0 then 128 else 124) [(0, .ref 50), (1, .int (nI 1)), (2, .int (nI 3)), (3, .int (nI (k + 1))), (4, .int (nI ((4 * k) + 3))), (5, .int (nI 3))] [.ref 50] μ1 rfl trivial ?_
          rw [if_pos (by decide)]
          refine zq_go zt_X9_readsParts 7 [] (if ¬ (nI 1) = (nI 1) then 145 else 141) [(0, .ref 50), (1, .int (nI 1)), (2, .int (nI 3)), (3, .int (nI (k + 1))), (4, .int (nI ((4 * k) + 3))), (5, .int (nI 3))] [.ref 50] (zq_u1 μ1 50 2 (μ1.1 50 2)) rfl trivial ?_
          rw [if_neg (by decide)]
          refine zq_go zt_X9_readsParts 2 [] 149 [(0, .ref 50), (1, .int (nI 1)), (2, .int (nI 3)), (3, .int (nI (k + 1))), (4, .int (nI ((4 * k) + 3))), (5, .int (nI 3))] [.int (nI (k + 1)), .ref 50] (zq_u1 μ1 50 2 (μ1.1 50 2)) rfl trivial ?_
          refine zq_go zt_X9_readsParts 2 [] 153 [(0, .ref 50), (1, .int (nI 1)), (2, .int (nI 3)), (3, .int (nI (k + 1))), (4, .int (nI ((4 * k) + 3))), (5, .int (nI 3))] [.int (-1)] (zq_u1 (zq_u1 μ1 50 2 (μ1.1 50 2)) 50 5 (nI (k + 1))) rfl trivial ?_
          obtain ⟨μ2, hμ2⟩ : ∃ k9 : zq_Me, k9 = (zq_u1 (zq_u1 μ1 50 2 (μ1.1 50 2)) 50 5 (nI (k + 1))) := ⟨_, rfl⟩
          rw [← hμ2]
          have s9 : ∀ i, i ≠ 5 → μ2.1 50 i = μ0.1 50 i := fun i hi => by
            rw [hμ2, zq_u1_o2 hi, zq_u1_rd]
            by_cases h5 : i = 2
            · rw [if_pos h5, h5]; exact s1 2 (by decide)
            · rw [if_neg h5]; exact s1 i hi
          have s8 : μ2.1 50 5 = nI (k + 1) := by rw [hμ2, zq_u1_s]
          have f2 : zq_fr [50, 55, 56, 57] μ0 μ2 := by rw [hμ2]; exact (f1.u1 (by simp)).u1 (by simp)
          exact zq_retn zt_X9_readsParts rfl rfl (⟨by rw [e9]; rfl, f2, s9, by rw [e8]; exact s8, fun e he => by rw [e8] at he; rw [hμ2]; exact r1 e he⟩)
    refine zq_go zt_X9_readsParts 6 [vp_in (nI 1) 2] (if (nI (4 * k)) < (μ.1 51 1) then 64 else 59) [(0, .ref 50), (1, .int (nI 1)), (2, .int (nI 3)), (3, .int (nI k)), (4, .int (nI (4 * k)))] [] μ rfl ⟨zn_in rfl (by decide) (by decide), trivial⟩ ?_
    rw [hT.2.2.2.1]
    refine zq_ite (fun h105 => ?_) (fun h105 => ?_)
    · rw [zn_lt (by omega) (by omega)] at h105
      exact key (Or.inl h105)
    · rw [zn_lt (by omega) (by omega)] at h105
      refine zq_go zt_X9_readsParts 2 [] (if (nI (4 * k)) ≤ 0 then 175 else 64) [(0, .ref 50), (1, .int (nI 1)), (2, .int (nI 3)), (3, .int (nI k)), (4, .int (nI (4 * k)))] [] μ rfl trivial ?_
      refine zq_ite (fun h110 => ?_) (fun h110 => ?_)
      · rw [show (0 : Int32) = nI 0 from rfl, zn_le (by omega) (by omega)] at h110
        have q0 : n = 0 := by omega
        have e9 : ztf (zok6 b) 4 n = 0 := by rw [ztf_all (fun i hi => absurd hi (by omega)), if_pos (Or.inl q0)]
        have e8 : ztm (zok6 b) 4 n = 0 := by unfold ztm; rw [if_pos e9, q0]
        refine zq_go zt_X9_readsParts 1 [] 176 [(0, .ref 50), (1, .int (nI 1)), (2, .int (nI 3)), (3, .int (nI k)), (4, .int (nI (4 * k)))] [.int (-1)] μ rfl trivial ?_
        exact zq_retn zt_X9_readsParts rfl rfl (⟨by rw [e9]; rfl, hI.1, hI.2.1, by rw [e8]; exact hI.2.2.1, fun e he => by rw [e8] at he; omega⟩)
      · rw [show (0 : Int32) = nI 0 from rfl, zn_le (by omega) (by omega)] at h110
        exact key (Or.inr (by omega))
set_option maxRecDepth 100000 in
set_option maxHeartbeats 4000000 in
theorem zs_readsParts1 {n : Nat} {b : Nat → Nat} {μ0 : zq_Me} (hT0 : zTm 1 31 b n μ0) : zq_Wp zn_X9_readsParts 0 [(0, .ref 50), (1, .int (nI 1))] [] μ0 (fun v μ => v = some (.int (zdn (ztf (zok6 b) 4 n))) ∧ zq_fr [50, 55, 56, 57] μ0 μ ∧ (∀ i, i ≠ 5 → μ.1 50 i = μ0.1 50 i) ∧ μ.1 50 5 = nI (ztm (zok6 b) 4 n) ∧ (∀ e, e < ztm (zok6 b) 4 n → μ.1 55 e = nI (zps b e) ∧ μ.1 56 e = nI (zpt b e) ∧ μ.1 57 e = nI (zpb b e))) := by
  refine zq_go zt_X9_readsParts 2 [] (if ¬ (nI 1) = 0 then 8 else 4) [(0, .ref 50), (1, .int (nI 1))] [] μ0 rfl trivial ?_
  rw [if_pos (by decide)]
  refine zq_go zt_X9_readsParts 9 [] (if ¬ (nI 1) = 0 then 24 else 20) [(0, .ref 50), (1, .int (nI 1)), (2, .int (nI 3)), (3, .int (nI 0)), (4, .int (nI 0))] [.ref 50] μ0 rfl trivial ?_
  rw [if_pos (by decide)]
  refine zq_go zt_X9_readsParts 7 [] (if ¬ (nI 1) = (nI 1) then 41 else 37) [(0, .ref 50), (1, .int (nI 1)), (2, .int (nI 3)), (3, .int (nI 0)), (4, .int (nI 0))] [.ref 50] (zq_u1 μ0 50 2 (μ0.1 50 2)) rfl trivial ?_
  rw [if_neg (by decide)]
  refine zq_go zt_X9_readsParts 2 [] 45 [(0, .ref 50), (1, .int (nI 1)), (2, .int (nI 3)), (3, .int (nI 0)), (4, .int (nI 0))] [.int (nI 0), .ref 50] (zq_u1 μ0 50 2 (μ0.1 50 2)) rfl trivial ?_
  refine zq_go zt_X9_readsParts 1 [] 48 [(0, .ref 50), (1, .int (nI 1)), (2, .int (nI 3)), (3, .int (nI 0)), (4, .int (nI 0))] [] (zq_u1 (zq_u1 μ0 50 2 (μ0.1 50 2)) 50 5 (nI 0)) rfl trivial ?_
  obtain ⟨μ1, hμ1⟩ : ∃ k9 : zq_Me, k9 = (zq_u1 (zq_u1 μ0 50 2 (μ0.1 50 2)) 50 5 (nI 0)) := ⟨_, rfl⟩
  rw [← hμ1]
  exact zs_readsParts1_l hT0 8 0 μ1 (by omega) (by omega) (fun i hi => absurd hi (by omega)) ⟨by rw [hμ1]; exact (zq_fr.rf.u1 (by simp)).u1 (by simp), fun i hi => by
    rw [hμ1, zq_u1_o2 hi, zq_u1_rd]
    by_cases h5 : i = 2
    · rw [if_pos h5, h5]
    · rw [if_neg h5], by rw [hμ1, zq_u1_s], fun e he => absurd he (Nat.not_lt_zero e)⟩
def zRd (b0 b1 : Nat → Nat) (n0 n1 : Nat) (μ0 μ : zq_Me) : Prop := zq_fr [50, 53, 54, 55, 56, 57] μ0 μ ∧ (∀ i, i ≠ 2 → i ≠ 5 → μ.1 50 i = μ0.1 50 i) ∧ zDm (ztm (zok1 b0) 3 n0) (zo1 b0) (zo2 b0) μ ∧ zPm (ztm (zok6 b1) 4 n1) (zps b1) (zpt b1) (zpb b1) μ
theorem zo_lt {b : Nat → Nat} {n d : Nat} (h : d < ztm (zok1 b) 3 n) : zo1 b d < 8 ∧ zo2 b d < 8 := by
  obtain ⟨-, h1, h2⟩ := ztm_1f h
  have := zfig_iff.mp h1
  have := zfig_iff.mp h2
  unfold zo1 zo2
  omega
theorem zp_lt {b : Nat → Nat} {n d : Nat} (h : d < ztm (zok6 b) 4 n) : zps b d ≤ 2 ∧ zpt b d < 8 ∧ zpb b d < 8 := by
  obtain ⟨-, h0, h1, h2⟩ := ztm_6f h
  have := zfig_iff.mp h1
  have := zfig_iff.mp h2
  have := zsrt_le (b (4 * d))
  unfold zps zpt zpb
  omega
set_option maxRecDepth 100000 in
set_option maxHeartbeats 4000000 in
theorem zs_faultOf (t : Int32) {b0 b1 : Nat → Nat} {n0 n1 : Nat} {μ0 : zq_Me} (h0 : zTm 0 35 b0 n0 μ0) (h1 : zTm 1 31 b1 n1 μ0) : zq_Wp zn_X9_faultOf 0 [(0, .ref 50), (1, .int t)] [] μ0 (fun v μ => v = some (.int (if t = 0 then zdn (ztf (zok1 b0) 3 n0) else zdn (ztf (zok6 b1) 4 n1))) ∧ zRd b0 b1 n0 n1 μ0 μ) := by
  refine zq_go zt_X9_faultOf 2 [] 2 [(0, .ref 50), (1, .int t)] [.int (nI 0), .ref 50] μ0 rfl trivial ?_
  refine zq_call zt_X9_faultOf [.ref 50, .int (nI 0)] [] (zs_readsParts0 h0) rfl rfl ?_
  rintro _ μ1 ⟨rfl, f1, s1, a1, a2⟩
  refine zq_go zt_X9_faultOf 3 [] 8 [(0, .ref 50), (1, .int t), (2, .int (zdn (ztf (zok1 b0) 3 n0)))] [.int (nI 1), .ref 50] μ1 rfl trivial ?_
  refine zq_call zt_X9_faultOf [.ref 50, .int (nI 1)] [] (zs_readsParts1 (h1.fr f1 (by decide))) rfl rfl ?_
  rintro _ μ2 ⟨rfl, f2, s2, c1, c2⟩
  have hn0 := h0.1
  have hn1 := h1.1
  have hR : zRd b0 b1 n0 n1 μ0 μ2 := by
    refine ⟨(f1.wk (by simp +contextual)).tr (f2.wk (by simp +contextual)), fun i hi hj => by rw [s2 i hj, s1 i hi], ⟨?_, ?_, fun d hd => ?_, fun d hd => ?_⟩, ⟨?_, c1, fun p hp => ?_⟩⟩
    · have := ztm_le (ok := zok1 b0) (p := 3) (n := n0); omega
    · rw [s2 2 (by decide)]; exact a1
    · rw [f2.a (b := 53) (by decide)]; exact ⟨(a2 d hd).1, (zo_lt hd).1⟩
    · rw [f2.a (b := 54) (by decide)]; exact ⟨(a2 d hd).2, (zo_lt hd).2⟩
    · have := ztm_le (ok := zok6 b1) (p := 4) (n := n1); omega
    · obtain ⟨w1, w2, w3⟩ := c2 p hp
      obtain ⟨v1, v2, v3⟩ := zp_lt hp
      exact ⟨w1, v1, w2, v2, w3, v3⟩
  refine zq_go zt_X9_faultOf 3 [] (if ¬ t = 0 then 20 else 16) [(0, .ref 50), (1, .int t), (2, .int (zdn (ztf (zok1 b0) 3 n0))), (3, .int (zdn (ztf (zok6 b1) 4 n1)))] [] μ2 rfl trivial ?_
  refine zq_ite (fun h19 => ?_) (fun h19 => ?_)
  · refine zq_go zt_X9_faultOf 1 [] 21 [(0, .ref 50), (1, .int t), (2, .int (zdn (ztf (zok1 b0) 3 n0))), (3, .int (zdn (ztf (zok6 b1) 4 n1)))] [.int (zdn (ztf (zok6 b1) 4 n1))] μ2 rfl trivial ?_
    rw [if_neg h19]
    exact zq_retn zt_X9_faultOf rfl rfl (⟨rfl, hR⟩)
  · refine zq_go zt_X9_faultOf 2 [] 21 [(0, .ref 50), (1, .int t), (2, .int (zdn (ztf (zok1 b0) 3 n0))), (3, .int (zdn (ztf (zok6 b1) 4 n1)))] [.int (zdn (ztf (zok1 b0) 3 n0))] μ2 rfl trivial ?_
    rw [if_pos (Classical.not_not.mp h19)]
    exact zq_retn zt_X9_faultOf rfl rfl (⟨rfl, hR⟩)
set_option maxRecDepth 100000 in
set_option maxHeartbeats 4000000 in
theorem zs_reads {b0 b1 : Nat → Nat} {n0 n1 : Nat} {μ0 : zq_Me} (h0 : zTm 0 35 b0 n0 μ0) (h1 : zTm 1 31 b1 n1 μ0) : zq_Wp zn_X9_reads 0 [(0, .ref 50)] [] μ0 (fun v μ => v = none ∧ zRd b0 b1 n0 n1 μ0 μ) := by
  refine zq_go zt_X9_reads 2 [] 2 [(0, .ref 50)] [.int (nI 0), .ref 50] μ0 rfl trivial ?_
  refine zq_call zt_X9_reads [.ref 50, .int (nI 0)] [] (zs_faultOf 0 h0 h1) rfl rfl ?_
  rintro _ μ1 ⟨rfl, hR⟩
  refine zq_go zt_X9_reads 1 [] 6 [(0, .ref 50), (1, .int (if (0 : Int32) = 0 then zdn (ztf (zok1 b0) 3 n0) else zdn (ztf (zok6 b1) 4 n1)))] [] μ1 rfl trivial ?_
  exact zq_retn zt_X9_reads rfl rfl ⟨rfl, hR⟩
