/-! ===== spare ===== -/
def ysp (τ : zTd) (wo : Nat) : Bool := decide (zal (ynp τ) (yRt τ wo) 23 = 0)
def yA1 (τ : zTd) : Nat := zf (fun a => ysp τ (2 ^ a)) (yne τ)
def yq (τ : zTd) (a b : Nat) : Bool := decide (a < b) && ysp τ (2 ^ a ||| 2 ^ b)
def yB2 (τ : zTd) (a : Nat) : Nat := zf (yq τ a) (yne τ)
def yA2 (τ : zTd) : Nat := zf (fun a => decide (yB2 τ a < yne τ)) (yne τ)
def ySpr (τ : zTd) : Int32 := if ysp τ 0 = true then nI 0 else if yA1 τ < yne τ then nI (2 ^ yA1 τ) else if yA2 τ < yne τ then nI (2 ^ yA2 τ ||| 2 ^ yB2 τ (yA2 τ)) else -1
def ySpn (τ : zTd) : Int32 := if ysp τ 0 = true then nI 0 else if yA1 τ < yne τ then nI 1 else if yA2 τ < yne τ then nI 2 else -1
def ySv (τ : zTd) (i : Int32) : Int32 := if ysp τ 0 = true then (if i = -1 then nI 0 else -1) else if yA1 τ < yne τ then (if i = -1 then nI 1 else if i = nI 0 then nI (yA1 τ) else -1) else if yA2 τ < yne τ then (if i = -1 then nI 2 else if i = nI 0 then nI (yA2 τ) else nI (yB2 τ (yA2 τ))) else -1
def yPl (τ : zTd) (μ : zq_Me) : Prop := (ysp τ 0 = false → yA1 τ < yne τ → μ.1 67 0 = nI (yA1 τ)) ∧ (ysp τ 0 = false → ¬ yA1 τ < yne τ → yA2 τ < yne τ → μ.1 67 0 = nI (yA2 τ) ∧ μ.1 67 1 = nI (yB2 τ (yA2 τ)))
theorem ynt {b : Bool} (h : b = false) : ¬ b = true := fun q => by rw [h] at q; exact absurd q (by decide)
def ypb (n w p : Nat) : Bool := n.testBit p && decide (zc n.testBit p = w)
theorem ypb0 : zfI (ypb 0 0) 8 = -1 ∧ zfI (ypb 0 1) 8 = -1 ∧ zc (0 : Nat).testBit 24 = 0 := by decide +kernel
theorem ypb1 : ∀ a, a < 8 → zfI (ypb (2 ^ a) 0) 8 = nI a ∧ zfI (ypb (2 ^ a) 1) 8 = -1 ∧ zc (2 ^ a).testBit 24 = 1 ∧ 2 ^ a < 2 ^ 24 := by decide +kernel
theorem ypb2 : ∀ a, a < 8 → ∀ b, b < 8 → a < b → zfI (ypb (2 ^ a ||| 2 ^ b) 0) 8 = nI a ∧ zfI (ypb (2 ^ a ||| 2 ^ b) 1) 8 = nI b ∧ zc (2 ^ a ||| 2 ^ b).testBit 24 = 2 ∧ 2 ^ a ||| 2 ^ b < 2 ^ 24 := by decide +kernel
set_option maxRecDepth 100000 in
set_option maxHeartbeats 400000 in
theorem zs_nobody {τ : zTd} {S : zES} {H : zSH} {μ0 : zq_Me} {wo : Nat} (hw : wo < 2 ^ 31) (hC : zIc τ S H μ0) : zq_Wp zn_X8_nobodyAloneWithout 0 [(0, .ref 0), (1, .int (nI wo))] [] μ0 (zRc (.int (zB (ysp τ wo))) τ S H μ0) := by
  have hP : zP40 (ynp τ) (ysr τ) (yst τ) (ybd τ) μ0 := zP40.of hC.2.1.2 hC.2.2.2.2.2.1.1
  refine zq_go zt_X8_nobodyAloneWithout 7 [] 13 [(0, .ref 0), (1, .int (nI wo))] [.int (μ0.1 0 12), .int (nI wo), .ref 11, .ref 40] μ0 rfl trivial ?_
  rw [hC.2.2.1.1]
  refine zq_call zt_X8_nobodyAloneWithout [.ref 40, .ref 11, .int (nI wo), .int (nI (yld τ))] [] (zs_try11 hC zq_fr.rf hC.2.2.2.2.2.1.2 (wo := wo) hw hC.2.2.1.2.2 hP) rfl rfl ?_
  rintro _ μ2 ⟨rfl, hF2, hK2, s2, hP2, q2⟩
  have hI : zIc τ S H μ2 := hC.tr hF2 ⟨by rw [s2 11 (by decide) (by decide)]; exact hC.2.2.2.2.2.1.1, hK2⟩
  have h8 := zal_lt hC.2.1.2.1 (yRt τ wo) 23
  refine zq_go zt_X8_nobodyAloneWithout 3 [] 22 [(0, .ref 0), (1, .int (nI wo))] [.int (nI 23), .ref 40] μ2 rfl trivial ?_
  refine zq_call zt_X8_nobodyAloneWithout [.ref 40, .int (nI 23)] [] (zs_aloneBehind40 q2 (h := 23) (by decide)) rfl rfl ?_
  rintro _ _ ⟨rfl, rfl⟩
  refine zq_go zt_X8_nobodyAloneWithout 1 [] (if ¬ (nI (zal (ynp τ) (yRt τ wo) 23)) = 0 then 32 else 28) [(0, .ref 0), (1, .int (nI wo))] [] μ2 rfl trivial ?_
  refine zq_ite (fun h11 => ?_) (fun h11 => ?_)
  · rw [show (0 : Int32) = nI 0 from rfl, zn_eq (by omega) (by omega)] at h11
    have e9 : ysp τ wo = false := decide_eq_false (by omega)
    refine zq_go zt_X8_nobodyAloneWithout 1 [] 33 [(0, .ref 0), (1, .int (nI wo))] [.int (nI 0)] μ2 rfl trivial ?_
    exact zq_retz zt_X8_nobodyAloneWithout rfl (Or.inl rfl) (⟨by rw [e9]; rfl, hI, hF2.wk (by simp +contextual [zSC])⟩)
  · rw [show (0 : Int32) = nI 0 from rfl, zn_eq (by omega) (by omega)] at h11
    have e9 : ysp τ wo = true := decide_eq_true (by omega)
    refine zq_go zt_X8_nobodyAloneWithout 2 [] 33 [(0, .ref 0), (1, .int (nI wo))] [.int (nI 1)] μ2 rfl trivial ?_
    exact zq_retz zt_X8_nobodyAloneWithout rfl (Or.inr rfl) (⟨by rw [e9]; rfl, hI, hF2.wk (by simp +contextual [zSC])⟩)
set_option maxRecDepth 100000 in
set_option maxHeartbeats 400000 in
theorem zs_sp_i {τ : zTd} {S : zES} {H : zSH} {μ0 : zq_Me} (h0 : ysp τ 0 = false) (h1 : ¬ yA1 τ < yne τ) {a : Nat} (la : a < yne τ) (ha : ∀ i, i < a → decide (yB2 τ i < yne τ) = false) (kk : ∀ μ : zq_Me, zIc τ S H μ → zq_fr zSC μ0 μ → (∀ i, i < yne τ → yq τ a i = false) → zq_Wp zn_X8_sparedRow 99 [(0, .ref 0), (1, .int (nI a))] [] μ (zRc (.int (ySpr τ)) τ S H μ0)) : ∀ (j b : Nat) (μ : zq_Me), b + j = yne τ → a < b → (∀ i, i < b → yq τ a i = false) → zIc τ S H μ → zq_fr zSC μ0 μ → zq_Wp zn_X8_sparedRow 60 [(0, .ref 0), (1, .int (nI a)), (2, .int (nI b))] [] μ (zRc (.int (ySpr τ)) τ S H μ0) := by
  intro j
  induction j with
  | zero =>
    intro b μ hij hab hm hI hF
    obtain rfl : b = yne τ := by omega
    have h11 : μ.1 11 3 = nI (yne τ) := hI.2.2.2.1.1.2.1
    have hne := hI.2.2.2.1.2
    refine zq_go zt_X8_sparedRow 5 [] (if (μ.1 11 3) ≤ (nI (yne τ)) then 99 else 71) [(0, .ref 0), (1, .int (nI a)), (2, .int (nI (yne τ)))] [] μ rfl trivial ?_
    rw [h11]
    rw [if_pos (by rw [zn_le (by omega) (by omega)]; omega)]
    exact zq_drp [0, 1] _ rfl (kk μ hI hF hm)
  | succ j ih =>
    intro b μ hij hab hm hI hF
    have h11 : μ.1 11 3 = nI (yne τ) := hI.2.2.2.1.1.2.1
    have hne := hI.2.2.2.1.2
    refine zq_go zt_X8_sparedRow 5 [] (if (μ.1 11 3) ≤ (nI b) then 99 else 71) [(0, .ref 0), (1, .int (nI a)), (2, .int (nI b))] [] μ rfl trivial ?_
    rw [h11]
    rw [if_neg (by rw [zn_le (by omega) (by omega)]; omega)]
    refine zq_go zt_X8_sparedRow 8 [] 79 [(0, .ref 0), (1, .int (nI a)), (2, .int (nI b))] [.int (((nI 1) <<< ((nI a) &&& 31)) ||| ((nI 1) <<< ((nI b) &&& 31))), .ref 0] μ rfl trivial ?_
    rw [zn_1shl (show a < 31 by omega), zn_1shl (show b < 31 by omega), zn_or]
    refine zq_call zt_X8_sparedRow [.ref 0, .int (nI (2 ^ a ||| 2 ^ b))] [] (zs_nobody (Nat.or_lt_two_pow (ypw (show a < 8 by omega) (by decide)) (ypw (show b < 8 by omega) (by decide))) hI) rfl rfl ?_
    rintro _ μ1 ⟨rfl, hI1, f1⟩
    refine zq_go zt_X8_sparedRow 1 [] (if (zB (ysp τ (2 ^ a ||| 2 ^ b))) = 0 then 93 else 85) [(0, .ref 0), (1, .int (nI a)), (2, .int (nI b))] [] μ1 rfl trivial ?_
    refine zq_ite (fun h23 => ?_) (fun h23 => ?_)
    · have h7 := zB_f h23
      refine zq_go zt_X8_sparedRow 2 [] 60 [(0, .ref 0), (1, .int (nI a)), (2, .int ((nI b) + (nI 1)))] [] μ1 rfl trivial ?_
      rw [zn_add b 1]
      exact ih (b + 1) μ1 (by omega) (by omega) (fun i hi => by
        by_cases q : i = b
        · subst q; unfold yq; rw [h7, Bool.and_false]
        · exact hm i (by omega)) hI1 (hF.tr f1)
    · have h7 := zB_t h23
      have eB : yB2 τ a = b := zf_eq (by omega) (by unfold yq; rw [decide_eq_true hab, h7]; rfl) hm
      have eA : yA2 τ = a := zf_eq (by omega) (decide_eq_true (by omega)) ha
      have e0 : ySpr τ = nI (2 ^ a ||| 2 ^ b) := by
        unfold ySpr
        rw [if_neg (ynt h0), if_neg h1, if_pos (by omega), eA, eB]
      rw [e0]
      refine zq_go zt_X8_sparedRow 7 [] 92 [(0, .ref 0), (1, .int (nI a)), (2, .int (nI b))] [.int (((nI 1) <<< ((nI a) &&& 31)) ||| ((nI 1) <<< ((nI b) &&& 31)))] μ1 rfl trivial ?_
      rw [zn_1shl (show a < 31 by omega), zn_1shl (show b < 31 by omega), zn_or]
      exact zq_retn zt_X8_sparedRow rfl rfl (⟨rfl, hI1, hF.tr f1⟩)
set_option maxRecDepth 100000 in
set_option maxHeartbeats 400000 in
theorem zs_sp_o {τ : zTd} {S : zES} {H : zSH} {μ0 : zq_Me} (h0 : ysp τ 0 = false) (h1 : ¬ yA1 τ < yne τ) : ∀ (j a : Nat) (μ : zq_Me), a + j = yne τ → (∀ i, i < a → decide (yB2 τ i < yne τ) = false) → zIc τ S H μ → zq_fr zSC μ0 μ → zq_Wp zn_X8_sparedRow 45 [(0, .ref 0), (1, .int (nI a))] [] μ (zRc (.int (ySpr τ)) τ S H μ0) := by
  intro j
  induction j with
  | zero =>
    intro a μ hij ha hI hF
    obtain rfl : a = yne τ := by omega
    have h11 : μ.1 11 3 = nI (yne τ) := hI.2.2.2.1.1.2.1
    have hne := hI.2.2.2.1.2
    refine zq_go zt_X8_sparedRow 5 [] (if (μ.1 11 3) ≤ (nI (yne τ)) then 105 else 56) [(0, .ref 0), (1, .int (nI (yne τ)))] [] μ rfl trivial ?_
    rw [h11]
    rw [if_pos (by rw [zn_le (by omega) (by omega)]; omega)]
    have e0 : ySpr τ = -1 := by
      have eA : yA2 τ = yne τ := zf_none ha
      unfold ySpr
      rw [if_neg (ynt h0), if_neg h1, if_neg (by omega)]
    rw [e0]
    refine zq_go zt_X8_sparedRow 1 [] 106 [(0, .ref 0), (1, .int (nI (yne τ)))] [.int (-1)] μ rfl trivial ?_
    exact zq_retn zt_X8_sparedRow rfl rfl (⟨rfl, hI, hF⟩)
  | succ j ih =>
    intro a μ hij ha hI hF
    have h11 : μ.1 11 3 = nI (yne τ) := hI.2.2.2.1.1.2.1
    have hne := hI.2.2.2.1.2
    refine zq_go zt_X8_sparedRow 5 [] (if (μ.1 11 3) ≤ (nI a) then 105 else 56) [(0, .ref 0), (1, .int (nI a))] [] μ rfl trivial ?_
    rw [h11]
    rw [if_neg (by rw [zn_le (by omega) (by omega)]; omega)]
    refine zq_go zt_X8_sparedRow 4 [] 60 [(0, .ref 0), (1, .int (nI a)), (2, .int ((nI a) + (nI 1)))] [] μ rfl trivial ?_
    rw [zn_add a 1]
    refine zs_sp_i h0 h1 (show a < yne τ by omega) ha (fun μ3 hI3 hF3 hm3 => ?_) (yne τ - (a + 1)) (a + 1) μ (by omega) (by omega) (fun i hi => by unfold yq; rw [decide_eq_false (by omega)]; rfl) hI hF
    refine zq_go zt_X8_sparedRow 2 [] 45 [(0, .ref 0), (1, .int ((nI a) + (nI 1)))] [] μ3 rfl trivial ?_
    rw [zn_add a 1]
    exact ih (a + 1) μ3 (by omega) (fun i hi => by
      by_cases q : i = a
      · subst q; exact decide_eq_false (by have e : yB2 τ i = yne τ := zf_none hm3; omega)
      · exact ha i (by omega)) hI3 hF3
set_option maxRecDepth 100000 in
set_option maxHeartbeats 400000 in
theorem zs_sp_s {τ : zTd} {S : zES} {H : zSH} {μ0 : zq_Me} (h0 : ysp τ 0 = false) : ∀ (j e : Nat) (μ : zq_Me), e + j = yne τ → (∀ i, i < e → ysp τ (2 ^ i) = false) → zIc τ S H μ → zq_fr zSC μ0 μ → zq_Wp zn_X8_sparedRow 12 [(0, .ref 0), (1, .int (nI e))] [] μ (zRc (.int (ySpr τ)) τ S H μ0) := by
  intro j
  induction j with
  | zero =>
    intro e μ hij hm hI hF
    obtain rfl : e = yne τ := by omega
    have h11 : μ.1 11 3 = nI (yne τ) := hI.2.2.2.1.1.2.1
    have hne := hI.2.2.2.1.2
    refine zq_go zt_X8_sparedRow 5 [] (if (μ.1 11 3) ≤ (nI (yne τ)) then 43 else 23) [(0, .ref 0), (1, .int (nI (yne τ)))] [] μ rfl trivial ?_
    rw [h11]
    rw [if_pos (by rw [zn_le (by omega) (by omega)]; omega)]
    refine zq_go zt_X8_sparedRow 2 [] 45 [(0, .ref 0), (1, .int (nI 0))] [] μ rfl trivial ?_
    have h1 : ¬ yA1 τ < yne τ := by
      have e : yA1 τ = yne τ := zf_none hm
      omega
    exact zs_sp_o h0 h1 (yne τ) 0 μ (by omega) (fun i hi => absurd hi (Nat.not_lt_zero i)) hI hF
  | succ j ih =>
    intro e μ hij hm hI hF
    have h11 : μ.1 11 3 = nI (yne τ) := hI.2.2.2.1.1.2.1
    have hne := hI.2.2.2.1.2
    refine zq_go zt_X8_sparedRow 5 [] (if (μ.1 11 3) ≤ (nI e) then 43 else 23) [(0, .ref 0), (1, .int (nI e))] [] μ rfl trivial ?_
    rw [h11]
    rw [if_neg (by rw [zn_le (by omega) (by omega)]; omega)]
    refine zq_go zt_X8_sparedRow 4 [] 27 [(0, .ref 0), (1, .int (nI e))] [.int ((nI 1) <<< ((nI e) &&& 31)), .ref 0] μ rfl trivial ?_
    rw [zn_1shl (show e < 31 by omega)]
    refine zq_call zt_X8_sparedRow [.ref 0, .int (nI (2 ^ e))] [] (zs_nobody (ypw (show e < 8 by omega) (by decide)) hI) rfl rfl ?_
    rintro _ μ1 ⟨rfl, hI1, f1⟩
    refine zq_go zt_X8_sparedRow 1 [] (if (zB (ysp τ (2 ^ e))) = 0 then 37 else 33) [(0, .ref 0), (1, .int (nI e))] [] μ1 rfl trivial ?_
    refine zq_ite (fun h27 => ?_) (fun h27 => ?_)
    · have h7 := zB_f h27
      refine zq_go zt_X8_sparedRow 2 [] 12 [(0, .ref 0), (1, .int ((nI e) + (nI 1)))] [] μ1 rfl trivial ?_
      rw [zn_add e 1]
      exact ih (e + 1) μ1 (by omega) (fun i hi => by
        by_cases q : i = e
        · subst q; exact h7
        · exact hm i (by omega)) hI1 (hF.tr f1)
    · have h7 := zB_t h27
      have eA : yA1 τ = e := zf_eq (by omega) h7 hm
      have e0 : ySpr τ = nI (2 ^ e) := by
        unfold ySpr
        rw [if_neg (ynt h0), if_pos (by omega), eA]
      rw [e0]
      refine zq_go zt_X8_sparedRow 3 [] 36 [(0, .ref 0), (1, .int (nI e))] [.int ((nI 1) <<< ((nI e) &&& 31))] μ1 rfl trivial ?_
      rw [zn_1shl (show e < 31 by omega)]
      exact zq_retn zt_X8_sparedRow rfl rfl (⟨rfl, hI1, hF.tr f1⟩)
set_option maxRecDepth 100000 in
set_option maxHeartbeats 400000 in
theorem zs_spared {τ : zTd} {S : zES} {H : zSH} {μ0 : zq_Me} (hC : zIc τ S H μ0) : zq_Wp zn_X8_sparedRow 0 [(0, .ref 0)] [] μ0 (zRc (.int (ySpr τ)) τ S H μ0) := by
  refine zq_go zt_X8_sparedRow 2 [] 2 [(0, .ref 0)] [.int (nI 0), .ref 0] μ0 rfl trivial ?_
  refine zq_call zt_X8_sparedRow [.ref 0, .int (nI 0)] [] (zs_nobody (wo := 0) (by decide) hC) rfl rfl ?_
  rintro _ μ1 ⟨rfl, hC1, f1⟩
  refine zq_go zt_X8_sparedRow 1 [] (if (zB (ysp τ 0)) = 0 then 10 else 8) [(0, .ref 0)] [] μ1 rfl trivial ?_
  refine zq_ite (fun h4 => ?_) (fun h4 => ?_)
  · have h7 := zB_f h4
    refine zq_go zt_X8_sparedRow 2 [] 12 [(0, .ref 0), (1, .int (nI 0))] [] μ1 rfl trivial ?_
    exact zs_sp_s h7 (yne τ) 0 μ1 (by omega) (fun i hi => absurd hi (Nat.not_lt_zero i)) hC1 f1
  · have h7 := zB_t h4
    rw [show ySpr τ = nI 0 from if_pos h7]
    refine zq_go zt_X8_sparedRow 1 [] 9 [(0, .ref 0)] [.int (nI 0)] μ1 rfl trivial ?_
    exact zq_retn zt_X8_sparedRow rfl rfl (⟨rfl, hC1, f1⟩)
set_option maxRecDepth 100000 in
set_option maxHeartbeats 400000 in
theorem zs_place_l {n w : Nat} {μ : zq_Me} (hn : n < 2 ^ 31) (lw : w ≤ 1) : ∀ (j p : Nat), p + j = 8 → zc n.testBit p ≤ w → (∀ i, i < p → ypb n w i = false) → zq_Wp zn_X8_placeOfBit 4 [(0, .int (nI n)), (2, .int (nI (w - zc n.testBit p))), (3, .int (nI p))] [] μ (zq_pi (zfI (ypb n w) 8) μ) := by
  intro j
  induction j with
  | zero =>
    intro p hij hc hm
    refine zq_go zt_X8_placeOfBit 3 [] (if (nI 8) ≤ (nI p) then 33 else 10) [(0, .int (nI n)), (2, .int (nI (w - zc n.testBit p))), (3, .int (nI p))] [] μ rfl trivial ?_
    rw [if_pos (by rw [zn_le (by omega) (by omega)]; omega)]
    refine zq_go zt_X8_placeOfBit 1 [] 34 [(0, .int (nI n)), (2, .int (nI (w - zc n.testBit p))), (3, .int (nI p))] [.int (-1)] μ rfl trivial ?_
    rw [show zfI (ypb n w) 8 = -1 from zfI_f (fun i hi => hm i (by omega))]
    exact zq_retn zt_X8_placeOfBit rfl rfl (⟨rfl, rfl⟩)
  | succ j ih =>
    intro p hij hc hm
    have es : zc n.testBit (p + 1) = zc n.testBit p + (if n.testBit p = true then 1 else 0) := rfl
    refine zq_go zt_X8_placeOfBit 3 [] (if (nI 8) ≤ (nI p) then 33 else 10) [(0, .int (nI n)), (2, .int (nI (w - zc n.testBit p))), (3, .int (nI p))] [] μ rfl trivial ?_
    rw [if_neg (by rw [zn_le (by omega) (by omega)]; omega)]
    refine zq_go zt_X8_placeOfBit 6 [] (if (((nI n) >>> ((nI p) &&& 31)) &&& (nI 1)) = 0 then 27 else 18) [(0, .int (nI n)), (2, .int (nI (w - zc n.testBit p))), (3, .int (nI p))] [] μ rfl trivial ?_
    refine zq_ite (fun h15 => ?_) (fun h15 => ?_)
    · rw [zn_bit hn (by omega), zB_bit] at h15
      have h7 := zB_f h15
      rw [h7, if_neg (by decide)] at es
      refine zq_go zt_X8_placeOfBit 2 [] 4 [(0, .int (nI n)), (2, .int (nI (w - zc n.testBit p))), (3, .int ((nI p) + (nI 1)))] [] μ rfl trivial ?_
      rw [zn_add p 1]
      rw [show w - zc n.testBit p = w - zc n.testBit (p + 1) by omega]
      exact ih (p + 1) (by omega) (by omega) (fun i hi => by
        by_cases q : i = p
        · subst q; unfold ypb; rw [h7]; rfl
        · exact hm i (by omega))
    · rw [zn_bit hn (by omega), zB_bit] at h15
      have h7 := zB_t h15
      rw [h7, if_pos rfl] at es
      refine zq_go zt_X8_placeOfBit 3 [] (if ¬ (nI (w - zc n.testBit p)) = 0 then 27 else 25) [(0, .int (nI n)), (2, .int ((nI (w - zc n.testBit p)) + (-1))), (3, .int (nI p))] [] μ rfl trivial ?_
      refine zq_ite (fun h30 => ?_) (fun h30 => ?_)
      · rw [show (0 : Int32) = nI 0 from rfl, zn_eq (by omega) (by omega)] at h30
        refine zq_go zt_X8_placeOfBit 2 [] 4 [(0, .int (nI n)), (2, .int ((nI (w - zc n.testBit p)) + (-1))), (3, .int ((nI p) + (nI 1)))] [] μ rfl trivial ?_
        rw [zn_add p 1]
        rw [zdn_dec, show zdn (w - zc n.testBit p) = nI (w - zc n.testBit (p + 1)) by rw [show w - zc n.testBit p = (w - zc n.testBit (p + 1)) + 1 by omega]; rfl]
        exact ih (p + 1) (by omega) (by omega) (fun i hi => by
          by_cases q : i = p
          · subst q; unfold ypb; rw [decide_eq_false (by omega), Bool.and_false]
          · exact hm i (by omega))
      · rw [show (0 : Int32) = nI 0 from rfl, zn_eq (by omega) (by omega)] at h30
        rw [show zfI (ypb n w) 8 = nI p from zfI_t (by omega) (by unfold ypb; rw [h7, decide_eq_true (by omega)]; rfl) hm]
        refine zq_go zt_X8_placeOfBit 1 [] 26 [(0, .int (nI n)), (2, .int ((nI (w - zc n.testBit p)) + (-1))), (3, .int (nI p))] [.int (nI p)] μ rfl trivial ?_
        exact zq_retn zt_X8_placeOfBit rfl rfl (⟨rfl, rfl⟩)
set_option maxRecDepth 100000 in
set_option maxHeartbeats 400000 in
theorem zs_place {n w : Nat} {μ : zq_Me} (hn : n < 2 ^ 31) (lw : w ≤ 1) : zq_Wp zn_X8_placeOfBit 0 [(0, .int (nI n)), (1, .int (nI w))] [] μ (zq_pi (zfI (ypb n w) 8) μ) := by
  refine zq_go zt_X8_placeOfBit 4 [] 4 [(0, .int (nI n)), (1, .int (nI w)), (2, .int (nI w)), (3, .int (nI 0))] [] μ rfl trivial ?_
  exact zq_drp [0, 2, 3] _ rfl (zs_place_l hn lw 8 0 (by omega) (Nat.zero_le _) (fun i hi => absurd hi (Nat.not_lt_zero i)))
set_option maxRecDepth 100000 in
set_option maxHeartbeats 400000 in
theorem zs_spare_m {τ : zTd} {S : zES} {H : zSH} {μ0 : zq_Me} (hC : zIc τ S H μ0) : zq_Wp zn_X8_spare 0 [(0, .ref 0), (1, .int (-1))] [] μ0 (zRc (.int (ySv τ (-1))) τ S H μ0) := by
  refine zq_go zt_X8_spare 3 [] 3 [(0, .ref 0), (1, .int (-1))] [.int (nI 1), .int (-1), .int (-1)] μ0 rfl trivial ?_
  refine zq_call zt_X8_spare [.int (-1), .int (-1), .int (nI 1)] [] (zs_within (-1) (-1) (nI 1) μ0) rfl rfl ?_
  rintro _ _ ⟨rfl, rfl⟩
  refine zq_go zt_X8_spare 1 [] (if ¬ (zb (-1 ≤ (-1) ∧ (-1) ≤ nI 1)) = 0 then 12 else 9) [(0, .ref 0), (1, .int (-1))] [] μ0 rfl trivial ?_
  rw [if_pos (zb_n (by decide))]
  have hne := hC.2.2.2.1.2
  refine zq_go zt_X8_spare 1 [] 13 [(0, .ref 0), (1, .int (-1))] [.ref 0] μ0 rfl trivial ?_
  refine zq_call zt_X8_spare [.ref 0] [] (zs_spared hC) rfl rfl ?_
  rintro _ μ1 ⟨rfl, hC1, f1⟩
  by_cases c0 : ysp τ 0 = true
  · obtain ⟨p0, p1, pc⟩ := ypb0
    have pl : (0 : Nat) < 2 ^ 24 := by decide
    rw [show ySpr τ = nI (0) by
      unfold ySpr
      rw [if_pos c0]]
    rw [show ySv τ (-1) = nI 0 by
      unfold ySv
      rw [if_pos c0]
      rw [if_pos rfl]]
    refine zq_go zt_X8_spare 4 [] (if ¬ (nI 0) = (-1) then 24 else 22) [(0, .ref 0), (1, .int (-1)), (2, .int (nI 0))] [] μ1 rfl trivial ?_
    rw [if_pos (zn_neg1 (by omega))]
    refine zq_go zt_X8_spare 3 [] (if ¬ (-1) = (-1) then 36 else 29) [(0, .ref 0), (1, .int (-1)), (2, .int (nI 0))] [] μ1 rfl trivial ?_
    rw [if_neg (by decide)]
    refine zq_go zt_X8_spare 1 [] 30 [(0, .ref 0), (1, .int (-1)), (2, .int (nI 0))] [.int (nI 0)] μ1 rfl trivial ?_
    refine zq_call zt_X8_spare [.int (nI 0)] [] (zs_bc pl μ1) rfl rfl ?_
    rintro _ _ ⟨rfl, rfl⟩
    rw [pc]
    refine zq_go zt_X8_spare 1 [] 41 [(0, .ref 0), (1, .int (-1)), (2, .int (nI 0))] [.int (nI 0)] μ1 rfl trivial ?_
    exact zq_retn zt_X8_spare rfl rfl (⟨rfl, hC1, f1⟩)
  · by_cases c1 : yA1 τ < yne τ
    · obtain ⟨p0, p1, pc, pl⟩ := ypb1 (yA1 τ) (by omega)
      rw [show ySpr τ = nI (2 ^ yA1 τ) by
        unfold ySpr
        rw [if_neg c0, if_pos c1]]
      rw [show ySv τ (-1) = nI 1 by
        unfold ySv
        rw [if_neg c0, if_pos c1]
        rw [if_pos rfl]]
      refine zq_go zt_X8_spare 4 [] (if ¬ (nI (2 ^ yA1 τ)) = (-1) then 24 else 22) [(0, .ref 0), (1, .int (-1)), (2, .int (nI (2 ^ yA1 τ)))] [] μ1 rfl trivial ?_
      rw [if_pos (zn_neg1 (by omega))]
      refine zq_go zt_X8_spare 3 [] (if ¬ (-1) = (-1) then 36 else 29) [(0, .ref 0), (1, .int (-1)), (2, .int (nI (2 ^ yA1 τ)))] [] μ1 rfl trivial ?_
      rw [if_neg (by decide)]
      refine zq_go zt_X8_spare 1 [] 30 [(0, .ref 0), (1, .int (-1)), (2, .int (nI (2 ^ yA1 τ)))] [.int (nI (2 ^ yA1 τ))] μ1 rfl trivial ?_
      refine zq_call zt_X8_spare [.int (nI (2 ^ yA1 τ))] [] (zs_bc pl μ1) rfl rfl ?_
      rintro _ _ ⟨rfl, rfl⟩
      rw [pc]
      refine zq_go zt_X8_spare 1 [] 41 [(0, .ref 0), (1, .int (-1)), (2, .int (nI (2 ^ yA1 τ)))] [.int (nI 1)] μ1 rfl trivial ?_
      exact zq_retn zt_X8_spare rfl rfl (⟨rfl, hC1, f1⟩)
    · by_cases c2 : yA2 τ < yne τ
      · have hq := zf_hit _ _ c2
        have hb : yB2 τ (yA2 τ) < yne τ := of_decide_eq_true hq
        have hq2 := zf_hit _ _ hb
        have hlt : yA2 τ < yB2 τ (yA2 τ) := by
          have h5 : yq τ (yA2 τ) (yB2 τ (yA2 τ)) = true := hq2
          unfold yq at h5
          rw [Bool.and_eq_true] at h5
          exact of_decide_eq_true h5.1
        obtain ⟨p0, p1, pc, pl⟩ := ypb2 (yA2 τ) (by omega) (yB2 τ (yA2 τ)) (by omega) hlt
        rw [show ySpr τ = nI (2 ^ yA2 τ ||| 2 ^ yB2 τ (yA2 τ)) by
          unfold ySpr
          rw [if_neg c0, if_neg c1, if_pos c2]]
        rw [show ySv τ (-1) = nI 2 by
          unfold ySv
          rw [if_neg c0, if_neg c1, if_pos c2]
          rw [if_pos rfl]]
        refine zq_go zt_X8_spare 4 [] (if ¬ (nI (2 ^ yA2 τ ||| 2 ^ yB2 τ (yA2 τ))) = (-1) then 24 else 22) [(0, .ref 0), (1, .int (-1)), (2, .int (nI (2 ^ yA2 τ ||| 2 ^ yB2 τ (yA2 τ))))] [] μ1 rfl trivial ?_
        rw [if_pos (zn_neg1 (by omega))]
        refine zq_go zt_X8_spare 3 [] (if ¬ (-1) = (-1) then 36 else 29) [(0, .ref 0), (1, .int (-1)), (2, .int (nI (2 ^ yA2 τ ||| 2 ^ yB2 τ (yA2 τ))))] [] μ1 rfl trivial ?_
        rw [if_neg (by decide)]
        refine zq_go zt_X8_spare 1 [] 30 [(0, .ref 0), (1, .int (-1)), (2, .int (nI (2 ^ yA2 τ ||| 2 ^ yB2 τ (yA2 τ))))] [.int (nI (2 ^ yA2 τ ||| 2 ^ yB2 τ (yA2 τ)))] μ1 rfl trivial ?_
        refine zq_call zt_X8_spare [.int (nI (2 ^ yA2 τ ||| 2 ^ yB2 τ (yA2 τ)))] [] (zs_bc pl μ1) rfl rfl ?_
        rintro _ _ ⟨rfl, rfl⟩
        rw [pc]
        refine zq_go zt_X8_spare 1 [] 41 [(0, .ref 0), (1, .int (-1)), (2, .int (nI (2 ^ yA2 τ ||| 2 ^ yB2 τ (yA2 τ))))] [.int (nI 2)] μ1 rfl trivial ?_
        exact zq_retn zt_X8_spare rfl rfl (⟨rfl, hC1, f1⟩)
      · rw [show ySpr τ = -1 by
          unfold ySpr
          rw [if_neg c0, if_neg c1, if_neg c2]]
        rw [show ySv τ (-1) = -1 by
          unfold ySv
          rw [if_neg c0, if_neg c1, if_neg c2]]
        refine zq_go zt_X8_spare 4 [] (if ¬ (-1) = (-1) then 24 else 22) [(0, .ref 0), (1, .int (-1)), (2, .int (-1))] [] μ1 rfl trivial ?_
        rw [if_neg (fun q => q rfl)]
        refine zq_go zt_X8_spare 1 [] 23 [(0, .ref 0), (1, .int (-1)), (2, .int (-1))] [.int (-1)] μ1 rfl trivial ?_
        exact zq_retn zt_X8_spare rfl rfl (⟨rfl, hC1, f1⟩)
set_option maxRecDepth 100000 in
set_option maxHeartbeats 400000 in
theorem zs_spare_0 {τ : zTd} {S : zES} {H : zSH} {μ0 : zq_Me} (hC : zIc τ S H μ0) : zq_Wp zn_X8_spare 0 [(0, .ref 0), (1, .int (nI 0))] [] μ0 (zRc (.int (ySv τ (nI 0))) τ S H μ0) := by
  refine zq_go zt_X8_spare 3 [] 3 [(0, .ref 0), (1, .int (nI 0))] [.int (nI 1), .int (-1), .int (nI 0)] μ0 rfl trivial ?_
  refine zq_call zt_X8_spare [.int (nI 0), .int (-1), .int (nI 1)] [] (zs_within (nI 0) (-1) (nI 1) μ0) rfl rfl ?_
  rintro _ _ ⟨rfl, rfl⟩
  refine zq_go zt_X8_spare 1 [] (if ¬ (zb (-1 ≤ (nI 0) ∧ (nI 0) ≤ nI 1)) = 0 then 12 else 9) [(0, .ref 0), (1, .int (nI 0))] [] μ0 rfl trivial ?_
  rw [if_pos (zb_n (by decide))]
  have hne := hC.2.2.2.1.2
  refine zq_go zt_X8_spare 1 [] 13 [(0, .ref 0), (1, .int (nI 0))] [.ref 0] μ0 rfl trivial ?_
  refine zq_call zt_X8_spare [.ref 0] [] (zs_spared hC) rfl rfl ?_
  rintro _ μ1 ⟨rfl, hC1, f1⟩
  by_cases c0 : ysp τ 0 = true
  · obtain ⟨p0, p1, pc⟩ := ypb0
    have pl : (0 : Nat) < 2 ^ 24 := by decide
    rw [show ySpr τ = nI (0) by
      unfold ySpr
      rw [if_pos c0]]
    rw [show ySv τ (nI 0) = -1 by
      unfold ySv
      rw [if_pos c0]
      rw [if_neg (by decide)]]
    refine zq_go zt_X8_spare 4 [] (if ¬ (nI 0) = (-1) then 24 else 22) [(0, .ref 0), (1, .int (nI 0)), (2, .int (nI 0))] [] μ1 rfl trivial ?_
    rw [if_pos (zn_neg1 (by omega))]
    refine zq_go zt_X8_spare 3 [] (if ¬ (nI 0) = (-1) then 36 else 29) [(0, .ref 0), (1, .int (nI 0)), (2, .int (nI 0))] [] μ1 rfl trivial ?_
    rw [if_pos (by decide)]
    refine zq_go zt_X8_spare 2 [] 38 [(0, .ref 0), (1, .int (nI 0)), (2, .int (nI 0))] [.int (nI 0), .int (nI 0)] μ1 rfl trivial ?_
    refine zq_call zt_X8_spare [.int (nI 0), .int (nI 0)] [] (zs_place (w := 0) (Nat.lt_trans pl (by decide)) (by decide)) rfl rfl ?_
    rintro _ _ ⟨rfl, rfl⟩
    rw [p0]
    exact zq_retn zt_X8_spare rfl rfl (⟨rfl, hC1, f1⟩)
  · by_cases c1 : yA1 τ < yne τ
    · obtain ⟨p0, p1, pc, pl⟩ := ypb1 (yA1 τ) (by omega)
      rw [show ySpr τ = nI (2 ^ yA1 τ) by
        unfold ySpr
        rw [if_neg c0, if_pos c1]]
      rw [show ySv τ (nI 0) = nI (yA1 τ) by
        unfold ySv
        rw [if_neg c0, if_pos c1]
        rw [if_neg (by decide), if_pos rfl]]
      refine zq_go zt_X8_spare 4 [] (if ¬ (nI (2 ^ yA1 τ)) = (-1) then 24 else 22) [(0, .ref 0), (1, .int (nI 0)), (2, .int (nI (2 ^ yA1 τ)))] [] μ1 rfl trivial ?_
      rw [if_pos (zn_neg1 (by omega))]
      refine zq_go zt_X8_spare 3 [] (if ¬ (nI 0) = (-1) then 36 else 29) [(0, .ref 0), (1, .int (nI 0)), (2, .int (nI (2 ^ yA1 τ)))] [] μ1 rfl trivial ?_
      rw [if_pos (by decide)]
      refine zq_go zt_X8_spare 2 [] 38 [(0, .ref 0), (1, .int (nI 0)), (2, .int (nI (2 ^ yA1 τ)))] [.int (nI 0), .int (nI (2 ^ yA1 τ))] μ1 rfl trivial ?_
      refine zq_call zt_X8_spare [.int (nI (2 ^ yA1 τ)), .int (nI 0)] [] (zs_place (w := 0) (Nat.lt_trans pl (by decide)) (by decide)) rfl rfl ?_
      rintro _ _ ⟨rfl, rfl⟩
      rw [p0]
      exact zq_retn zt_X8_spare rfl rfl (⟨rfl, hC1, f1⟩)
    · by_cases c2 : yA2 τ < yne τ
      · have hq := zf_hit _ _ c2
        have hb : yB2 τ (yA2 τ) < yne τ := of_decide_eq_true hq
        have hq2 := zf_hit _ _ hb
        have hlt : yA2 τ < yB2 τ (yA2 τ) := by
          have h5 : yq τ (yA2 τ) (yB2 τ (yA2 τ)) = true := hq2
          unfold yq at h5
          rw [Bool.and_eq_true] at h5
          exact of_decide_eq_true h5.1
        obtain ⟨p0, p1, pc, pl⟩ := ypb2 (yA2 τ) (by omega) (yB2 τ (yA2 τ)) (by omega) hlt
        rw [show ySpr τ = nI (2 ^ yA2 τ ||| 2 ^ yB2 τ (yA2 τ)) by
          unfold ySpr
          rw [if_neg c0, if_neg c1, if_pos c2]]
        rw [show ySv τ (nI 0) = nI (yA2 τ) by
          unfold ySv
          rw [if_neg c0, if_neg c1, if_pos c2]
          rw [if_neg (by decide), if_pos rfl]]
        refine zq_go zt_X8_spare 4 [] (if ¬ (nI (2 ^ yA2 τ ||| 2 ^ yB2 τ (yA2 τ))) = (-1) then 24 else 22) [(0, .ref 0), (1, .int (nI 0)), (2, .int (nI (2 ^ yA2 τ ||| 2 ^ yB2 τ (yA2 τ))))] [] μ1 rfl trivial ?_
        rw [if_pos (zn_neg1 (by omega))]
        refine zq_go zt_X8_spare 3 [] (if ¬ (nI 0) = (-1) then 36 else 29) [(0, .ref 0), (1, .int (nI 0)), (2, .int (nI (2 ^ yA2 τ ||| 2 ^ yB2 τ (yA2 τ))))] [] μ1 rfl trivial ?_
        rw [if_pos (by decide)]
        refine zq_go zt_X8_spare 2 [] 38 [(0, .ref 0), (1, .int (nI 0)), (2, .int (nI (2 ^ yA2 τ ||| 2 ^ yB2 τ (yA2 τ))))] [.int (nI 0), .int (nI (2 ^ yA2 τ ||| 2 ^ yB2 τ (yA2 τ)))] μ1 rfl trivial ?_
        refine zq_call zt_X8_spare [.int (nI (2 ^ yA2 τ ||| 2 ^ yB2 τ (yA2 τ))), .int (nI 0)] [] (zs_place (w := 0) (Nat.lt_trans pl (by decide)) (by decide)) rfl rfl ?_
        rintro _ _ ⟨rfl, rfl⟩
        rw [p0]
        exact zq_retn zt_X8_spare rfl rfl (⟨rfl, hC1, f1⟩)
      · rw [show ySpr τ = -1 by
          unfold ySpr
          rw [if_neg c0, if_neg c1, if_neg c2]]
        rw [show ySv τ (nI 0) = -1 by
          unfold ySv
          rw [if_neg c0, if_neg c1, if_neg c2]]
        refine zq_go zt_X8_spare 4 [] (if ¬ (-1) = (-1) then 24 else 22) [(0, .ref 0), (1, .int (nI 0)), (2, .int (-1))] [] μ1 rfl trivial ?_
        rw [if_neg (fun q => q rfl)]
        refine zq_go zt_X8_spare 1 [] 23 [(0, .ref 0), (1, .int (nI 0)), (2, .int (-1))] [.int (-1)] μ1 rfl trivial ?_
        exact zq_retn zt_X8_spare rfl rfl (⟨rfl, hC1, f1⟩)
set_option maxRecDepth 100000 in
set_option maxHeartbeats 400000 in
theorem zs_spare_1 {τ : zTd} {S : zES} {H : zSH} {μ0 : zq_Me} (hC : zIc τ S H μ0) : zq_Wp zn_X8_spare 0 [(0, .ref 0), (1, .int (nI 1))] [] μ0 (zRc (.int (ySv τ (nI 1))) τ S H μ0) := by
  refine zq_go zt_X8_spare 3 [] 3 [(0, .ref 0), (1, .int (nI 1))] [.int (nI 1), .int (-1), .int (nI 1)] μ0 rfl trivial ?_
  refine zq_call zt_X8_spare [.int (nI 1), .int (-1), .int (nI 1)] [] (zs_within (nI 1) (-1) (nI 1) μ0) rfl rfl ?_
  rintro _ _ ⟨rfl, rfl⟩
  refine zq_go zt_X8_spare 1 [] (if ¬ (zb (-1 ≤ (nI 1) ∧ (nI 1) ≤ nI 1)) = 0 then 12 else 9) [(0, .ref 0), (1, .int (nI 1))] [] μ0 rfl trivial ?_
  rw [if_pos (zb_n (by decide))]
  have hne := hC.2.2.2.1.2
  refine zq_go zt_X8_spare 1 [] 13 [(0, .ref 0), (1, .int (nI 1))] [.ref 0] μ0 rfl trivial ?_
  refine zq_call zt_X8_spare [.ref 0] [] (zs_spared hC) rfl rfl ?_
  rintro _ μ1 ⟨rfl, hC1, f1⟩
  by_cases c0 : ysp τ 0 = true
  · obtain ⟨p0, p1, pc⟩ := ypb0
    have pl : (0 : Nat) < 2 ^ 24 := by decide
    rw [show ySpr τ = nI (0) by
      unfold ySpr
      rw [if_pos c0]]
    rw [show ySv τ (nI 1) = -1 by
      unfold ySv
      rw [if_pos c0]
      rw [if_neg (by decide)]]
    refine zq_go zt_X8_spare 4 [] (if ¬ (nI 0) = (-1) then 24 else 22) [(0, .ref 0), (1, .int (nI 1)), (2, .int (nI 0))] [] μ1 rfl trivial ?_
    rw [if_pos (zn_neg1 (by omega))]
    refine zq_go zt_X8_spare 3 [] (if ¬ (nI 1) = (-1) then 36 else 29) [(0, .ref 0), (1, .int (nI 1)), (2, .int (nI 0))] [] μ1 rfl trivial ?_
    rw [if_pos (by decide)]
    refine zq_go zt_X8_spare 2 [] 38 [(0, .ref 0), (1, .int (nI 1)), (2, .int (nI 0))] [.int (nI 1), .int (nI 0)] μ1 rfl trivial ?_
    refine zq_call zt_X8_spare [.int (nI 0), .int (nI 1)] [] (zs_place (w := 1) (Nat.lt_trans pl (by decide)) (by decide)) rfl rfl ?_
    rintro _ _ ⟨rfl, rfl⟩
    rw [p1]
    exact zq_retn zt_X8_spare rfl rfl (⟨rfl, hC1, f1⟩)
  · by_cases c1 : yA1 τ < yne τ
    · obtain ⟨p0, p1, pc, pl⟩ := ypb1 (yA1 τ) (by omega)
      rw [show ySpr τ = nI (2 ^ yA1 τ) by
        unfold ySpr
        rw [if_neg c0, if_pos c1]]
      rw [show ySv τ (nI 1) = -1 by
        unfold ySv
        rw [if_neg c0, if_pos c1]
        rw [if_neg (by decide), if_neg (by decide)]]
      refine zq_go zt_X8_spare 4 [] (if ¬ (nI (2 ^ yA1 τ)) = (-1) then 24 else 22) [(0, .ref 0), (1, .int (nI 1)), (2, .int (nI (2 ^ yA1 τ)))] [] μ1 rfl trivial ?_
      rw [if_pos (zn_neg1 (by omega))]
      refine zq_go zt_X8_spare 3 [] (if ¬ (nI 1) = (-1) then 36 else 29) [(0, .ref 0), (1, .int (nI 1)), (2, .int (nI (2 ^ yA1 τ)))] [] μ1 rfl trivial ?_
      rw [if_pos (by decide)]
      refine zq_go zt_X8_spare 2 [] 38 [(0, .ref 0), (1, .int (nI 1)), (2, .int (nI (2 ^ yA1 τ)))] [.int (nI 1), .int (nI (2 ^ yA1 τ))] μ1 rfl trivial ?_
      refine zq_call zt_X8_spare [.int (nI (2 ^ yA1 τ)), .int (nI 1)] [] (zs_place (w := 1) (Nat.lt_trans pl (by decide)) (by decide)) rfl rfl ?_
      rintro _ _ ⟨rfl, rfl⟩
      rw [p1]
      exact zq_retn zt_X8_spare rfl rfl (⟨rfl, hC1, f1⟩)
    · by_cases c2 : yA2 τ < yne τ
      · have hq := zf_hit _ _ c2
        have hb : yB2 τ (yA2 τ) < yne τ := of_decide_eq_true hq
        have hq2 := zf_hit _ _ hb
        have hlt : yA2 τ < yB2 τ (yA2 τ) := by
          have h5 : yq τ (yA2 τ) (yB2 τ (yA2 τ)) = true := hq2
          unfold yq at h5
          rw [Bool.and_eq_true] at h5
          exact of_decide_eq_true h5.1
        obtain ⟨p0, p1, pc, pl⟩ := ypb2 (yA2 τ) (by omega) (yB2 τ (yA2 τ)) (by omega) hlt
        rw [show ySpr τ = nI (2 ^ yA2 τ ||| 2 ^ yB2 τ (yA2 τ)) by
          unfold ySpr
          rw [if_neg c0, if_neg c1, if_pos c2]]
        rw [show ySv τ (nI 1) = nI (yB2 τ (yA2 τ)) by
          unfold ySv
          rw [if_neg c0, if_neg c1, if_pos c2]
          rw [if_neg (by decide), if_neg (by decide)]]
        refine zq_go zt_X8_spare 4 [] (if ¬ (nI (2 ^ yA2 τ ||| 2 ^ yB2 τ (yA2 τ))) = (-1) then 24 else 22) [(0, .ref 0), (1, .int (nI 1)), (2, .int (nI (2 ^ yA2 τ ||| 2 ^ yB2 τ (yA2 τ))))] [] μ1 rfl trivial ?_
        rw [if_pos (zn_neg1 (by omega))]
        refine zq_go zt_X8_spare 3 [] (if ¬ (nI 1) = (-1) then 36 else 29) [(0, .ref 0), (1, .int (nI 1)), (2, .int (nI (2 ^ yA2 τ ||| 2 ^ yB2 τ (yA2 τ))))] [] μ1 rfl trivial ?_
        rw [if_pos (by decide)]
        refine zq_go zt_X8_spare 2 [] 38 [(0, .ref 0), (1, .int (nI 1)), (2, .int (nI (2 ^ yA2 τ ||| 2 ^ yB2 τ (yA2 τ))))] [.int (nI 1), .int (nI (2 ^ yA2 τ ||| 2 ^ yB2 τ (yA2 τ)))] μ1 rfl trivial ?_
        refine zq_call zt_X8_spare [.int (nI (2 ^ yA2 τ ||| 2 ^ yB2 τ (yA2 τ))), .int (nI 1)] [] (zs_place (w := 1) (Nat.lt_trans pl (by decide)) (by decide)) rfl rfl ?_
        rintro _ _ ⟨rfl, rfl⟩
        rw [p1]
        exact zq_retn zt_X8_spare rfl rfl (⟨rfl, hC1, f1⟩)
      · rw [show ySpr τ = -1 by
          unfold ySpr
          rw [if_neg c0, if_neg c1, if_neg c2]]
        rw [show ySv τ (nI 1) = -1 by
          unfold ySv
          rw [if_neg c0, if_neg c1, if_neg c2]]
        refine zq_go zt_X8_spare 4 [] (if ¬ (-1) = (-1) then 24 else 22) [(0, .ref 0), (1, .int (nI 1)), (2, .int (-1))] [] μ1 rfl trivial ?_
        rw [if_neg (fun q => q rfl)]
        refine zq_go zt_X8_spare 1 [] 23 [(0, .ref 0), (1, .int (nI 1)), (2, .int (-1))] [.int (-1)] μ1 rfl trivial ?_
        exact zq_retn zt_X8_spare rfl rfl (⟨rfl, hC1, f1⟩)
set_option maxRecDepth 100000 in
set_option maxHeartbeats 400000 in
theorem zs_isSpared {τ : zTd} {S : zES} {H : zSH} {μ : zq_Me} {w0 wo : Nat} (hw : wo < 2 ^ 31) (hM : zIm τ S H μ) (hN : zNr τ (ysr τ) (ybd τ) (yld τ) τ.2.2.2 w0 μ) : zq_Wp zn_X9_isSpared 0 [(0, .ref 50), (1, .int (nI wo))] [] μ (fun r μ1 => r = some (.int (zB (ysp τ wo))) ∧ zIm τ S H μ1 ∧ zq_fr [50, 64, 65, 66] μ μ1 ∧ zNr τ (ysr τ) (ybd τ) (yld τ) τ.2.2.2 wo μ1) := by
  refine zq_go zt_X9_isSpared 4 [] 6 [(0, .ref 50), (1, .int (nI wo))] [.ref 50] (zq_u1 μ 50 19 (nI wo)) rfl trivial ?_
  obtain ⟨μ1, hμ1⟩ : ∃ k9 : zq_Me, k9 = (zq_u1 μ 50 19 (nI wo)) := ⟨_, rfl⟩
  rw [← hμ1]
  have f1 : zq_fr [50] μ μ1 := by rw [hμ1]; exact zq_fr.rf.u1 (by simp)
  have s1 : ∀ i, i ≠ 19 → μ1.1 50 i = μ.1 50 i := fun i hi => by rw [hμ1, zq_u1_o2 hi]
  have hM1 : zIm τ S H μ1 := hM.kp f1 (by decide) (fun i hi => s1 i (by simp at hi; omega))
  have hl9 := hM.2.1.2.2
  have hN1 : zNr τ (ysr τ) (ybd τ) (yld τ) τ.2.2.2 wo μ1 := by
    obtain ⟨d, p, l, e9, w9⟩ := hN
    exact ⟨⟨d.1, by rw [s1 2 (by decide)]; exact d.2.1, by rw [f1.a (b := 53) (by decide)]; exact d.2.2.1, by rw [f1.a (b := 54) (by decide)]; exact d.2.2.2⟩, p.sl (s1 5 (by decide)) (f1.a (by decide)) (f1.a (by decide)) (f1.a (by decide)), by rw [s1 14 (by decide)]; exact l, e9.sl (s1 15 (by decide)) (f1.a (by decide)) (f1.a (by decide)) (f1.a (by decide)), by rw [hμ1, zq_u1_s]⟩
  refine zq_call zt_X9_isSpared [.ref 50] [] (zs_tryM hM1 hN1 hl9 hw) rfl rfl ?_
  rintro _ μ2 ⟨rfl, hM2, f2, s2, hN2, q2⟩
  have h8 := zal_lt q2.1 (yRt τ wo) 23
  refine zq_go zt_X9_isSpared 1 [] 10 [(0, .ref 50), (1, .int (nI wo))] [.ref 50] μ2 rfl trivial ?_
  refine zq_call zt_X9_isSpared [.ref 50] [] (show zq_Wp zn_X9_aloneNow 0 [(0, .ref 50)] [] μ2 (zq_pi (nI (zal (ynp τ) (yRt τ wo) 23)) μ2) from zs_aloneNow q2) rfl rfl ?_
  rintro _ _ ⟨rfl, rfl⟩
  refine zq_go zt_X9_isSpared 1 [] (if ¬ (nI (zal (ynp τ) (yRt τ wo) 23)) = 0 then 20 else 16) [(0, .ref 50), (1, .int (nI wo))] [] μ2 rfl trivial ?_
  refine zq_ite (fun h17 => ?_) (fun h17 => ?_)
  · rw [show (0 : Int32) = nI 0 from rfl, zn_eq (by omega) (by omega)] at h17
    have e9 : ysp τ wo = false := decide_eq_false (by omega)
    refine zq_go zt_X9_isSpared 1 [] 21 [(0, .ref 50), (1, .int (nI wo))] [.int (nI 0)] μ2 rfl trivial ?_
    exact zq_retz zt_X9_isSpared rfl (Or.inl rfl) (⟨by rw [e9]; rfl, hM2, (f1.wk (by simp)).tr f2, hN2⟩)
  · rw [show (0 : Int32) = nI 0 from rfl, zn_eq (by omega) (by omega)] at h17
    have e9 : ysp τ wo = true := decide_eq_true (by omega)
    refine zq_go zt_X9_isSpared 2 [] 21 [(0, .ref 50), (1, .int (nI wo))] [.int (nI 1)] μ2 rfl trivial ?_
    exact zq_retz zt_X9_isSpared rfl (Or.inr rfl) (⟨by rw [e9]; rfl, hM2, (f1.wk (by simp)).tr f2, hN2⟩)
set_option maxRecDepth 100000 in
set_option maxHeartbeats 400000 in
theorem zs_spm_i {τ : zTd} {S : zES} {H : zSH} {μ0 : zq_Me} (h0 : ysp τ 0 = false) (h1 : ¬ yA1 τ < yne τ) {a : Nat} (la : a < yne τ) (ha : ∀ i, i < a → decide (yB2 τ i < yne τ) = false) (kk : ∀ μ : zq_Me, (zIm τ S H μ ∧ zq_fr zSM μ0 μ ∧ ∃ w0, zNr τ (ysr τ) (ybd τ) (yld τ) τ.2.2.2 w0 μ) → (∀ i, i < yne τ → yq τ a i = false) → zq_Wp zn_X9_spareBy 107 [(0, .ref 50), (1, .int (nI a))] [] μ (fun r μ => r = some (.int (ySpn τ)) ∧ zIm τ S H μ ∧ zq_fr zSM μ0 μ ∧ yPl τ μ)) : ∀ (j b : Nat) (μ : zq_Me), b + j = yne τ → a < b → (∀ i, i < b → yq τ a i = false) → (zIm τ S H μ ∧ zq_fr zSM μ0 μ ∧ ∃ w0, zNr τ (ysr τ) (ybd τ) (yld τ) τ.2.2.2 w0 μ) → zq_Wp zn_X9_spareBy 63 [(0, .ref 50), (1, .int (nI a)), (2, .int (nI b))] [] μ (fun r μ => r = some (.int (ySpn τ)) ∧ zIm τ S H μ ∧ zq_fr zSM μ0 μ ∧ yPl τ μ) := by
  intro j
  induction j with
  | zero =>
    rintro b μ hij hab hm ⟨hI, hF, w0, hN⟩
    obtain rfl : b = yne τ := by omega
    have h11 : μ.1 50 10 = nI (yne τ) := hI.2.2.1.1.2.1
    have hne := hI.2.2.1.2
    refine zq_go zt_X9_spareBy 4 [] (if (μ.1 50 10) ≤ (nI (yne τ)) then 107 else 71) [(0, .ref 50), (1, .int (nI a)), (2, .int (nI (yne τ)))] [] μ rfl trivial ?_
    rw [h11]
    rw [if_pos (by rw [zn_le (by omega) (by omega)]; omega)]
    exact zq_drp [0, 1] _ rfl (kk μ ⟨hI, hF, w0, hN⟩ hm)
  | succ j ih =>
    rintro b μ hij hab hm ⟨hI, hF, w0, hN⟩
    have h11 : μ.1 50 10 = nI (yne τ) := hI.2.2.1.1.2.1
    have hne := hI.2.2.1.2
    refine zq_go zt_X9_spareBy 4 [] (if (μ.1 50 10) ≤ (nI b) then 107 else 71) [(0, .ref 50), (1, .int (nI a)), (2, .int (nI b))] [] μ rfl trivial ?_
    rw [h11]
    rw [if_neg (by rw [zn_le (by omega) (by omega)]; omega)]
    refine zq_go zt_X9_spareBy 18 [vp_in (nI 0) 2, vp_in (nI 1) 2] 93 [(0, .ref 50), (1, .int (nI a)), (2, .int (nI b))] [.int (((nI 1) <<< ((nI a) &&& 31)) ||| ((nI 1) <<< ((nI b) &&& 31))), .ref 50] (zq_u1 (zq_u1 μ 67 0 (nI a)) 67 1 (nI b)) rfl ⟨zn_in rfl (by decide) (by decide), ⟨zn_in rfl (by decide) (by decide), trivial⟩⟩ ?_
    rw [zn_1shl (show a < 31 by omega), zn_1shl (show b < 31 by omega), zn_or]
    obtain ⟨μ1, hμ1⟩ : ∃ k9 : zq_Me, k9 = (zq_u1 (zq_u1 μ 67 0 (nI a)) 67 1 (nI b)) := ⟨_, rfl⟩
    rw [← hμ1]
    have f1 : zq_fr [67] μ μ1 := by rw [hμ1]; exact (zq_fr.rf.u1 (by simp)).u1 (by simp)
    have hI1 : zIm τ S H μ1 := hI.kp f1 (by decide) (fun i hi => by rw [f1.a (b := 50) (by decide)])
    have hN1 := hN.sl (fun i hi => by rw [f1.a (b := 50) (by decide)]) (fun b hb => f1.a (by simp at hb ⊢; omega))
    refine zq_call zt_X9_spareBy [.ref 50, .int (nI (2 ^ a ||| 2 ^ b))] [] (zs_isSpared (Nat.or_lt_two_pow (ypw (show a < 8 by omega) (by decide)) (ypw (show b < 8 by omega) (by decide))) hI1 hN1) rfl rfl ?_
    rintro _ μ2 ⟨rfl, hI2, f2, hN2⟩
    refine zq_go zt_X9_spareBy 1 [] (if (zB (ysp τ (2 ^ a ||| 2 ^ b))) = 0 then 101 else 99) [(0, .ref 50), (1, .int (nI a)), (2, .int (nI b))] [] μ2 rfl trivial ?_
    refine zq_ite (fun h28 => ?_) (fun h28 => ?_)
    · have h7 := zB_f h28
      refine zq_go zt_X9_spareBy 2 [] 63 [(0, .ref 50), (1, .int (nI a)), (2, .int ((nI b) + (nI 1)))] [] μ2 rfl trivial ?_
      rw [zn_add b 1]
      exact ih (b + 1) μ2 (by omega) (by omega) (fun i hi => by
        by_cases q : i = b
        · subst q; unfold yq; rw [h7, Bool.and_false]
        · exact hm i (by omega)) ⟨hI2, hF.tr ((f1.wk (by simp [zSM])).tr (f2.wk (by simp +contextual [zSM]))), _, hN2⟩
    · have h7 := zB_t h28
      have eB : yB2 τ a = b := zf_eq (by omega) (by unfold yq; rw [decide_eq_true hab, h7]; rfl) hm
      have eA : yA2 τ = a := zf_eq (by omega) (decide_eq_true (by omega)) ha
      have e0 : ySpn τ = nI 2 := by
        unfold ySpn
        rw [if_neg (ynt h0), if_neg h1, if_pos (by omega)]
      have hp : yPl τ μ2 := ⟨fun _ q => absurd q h1, fun _ _ _ => by
        rw [eA, eB, f2.a (b := 67) (by decide), hμ1]
        exact ⟨by rw [zq_u1_o2 (by decide), zq_u1_s], by rw [zq_u1_s]⟩⟩
      rw [e0]
      refine zq_go zt_X9_spareBy 1 [] 100 [(0, .ref 50), (1, .int (nI a)), (2, .int (nI b))] [.int (nI 2)] μ2 rfl trivial ?_
      exact zq_retn zt_X9_spareBy rfl rfl (⟨rfl, hI2, hF.tr ((f1.wk (by simp [zSM])).tr (f2.wk (by simp +contextual [zSM]))), hp⟩)
set_option maxRecDepth 100000 in
set_option maxHeartbeats 400000 in
theorem zs_spm_o {τ : zTd} {S : zES} {H : zSH} {μ0 : zq_Me} (h0 : ysp τ 0 = false) (h1 : ¬ yA1 τ < yne τ) : ∀ (j a : Nat) (μ : zq_Me), a + j = yne τ → (∀ i, i < a → decide (yB2 τ i < yne τ) = false) → (zIm τ S H μ ∧ zq_fr zSM μ0 μ ∧ ∃ w0, zNr τ (ysr τ) (ybd τ) (yld τ) τ.2.2.2 w0 μ) → zq_Wp zn_X9_spareBy 51 [(0, .ref 50), (1, .int (nI a))] [] μ (fun r μ => r = some (.int (ySpn τ)) ∧ zIm τ S H μ ∧ zq_fr zSM μ0 μ ∧ yPl τ μ) := by
  intro j
  induction j with
  | zero =>
    rintro a μ hij ha ⟨hI, hF, w0, hN⟩
    obtain rfl : a = yne τ := by omega
    have h11 : μ.1 50 10 = nI (yne τ) := hI.2.2.1.1.2.1
    have hne := hI.2.2.1.2
    refine zq_go zt_X9_spareBy 4 [] (if (μ.1 50 10) ≤ (nI (yne τ)) then 113 else 59) [(0, .ref 50), (1, .int (nI (yne τ)))] [] μ rfl trivial ?_
    rw [h11]
    rw [if_pos (by rw [zn_le (by omega) (by omega)]; omega)]
    have eA : yA2 τ = yne τ := zf_none ha
    have e0 : ySpn τ = -1 := by
      unfold ySpn
      rw [if_neg (ynt h0), if_neg h1, if_neg (by omega)]
    rw [e0]
    refine zq_go zt_X9_spareBy 1 [] 114 [(0, .ref 50), (1, .int (nI (yne τ)))] [.int (-1)] μ rfl trivial ?_
    exact zq_retn zt_X9_spareBy rfl rfl (⟨rfl, hI, hF, fun _ q => absurd q h1, fun _ _ q => absurd q (by omega)⟩)
  | succ j ih =>
    rintro a μ hij ha ⟨hI, hF, w0, hN⟩
    have h11 : μ.1 50 10 = nI (yne τ) := hI.2.2.1.1.2.1
    have hne := hI.2.2.1.2
    refine zq_go zt_X9_spareBy 4 [] (if (μ.1 50 10) ≤ (nI a) then 113 else 59) [(0, .ref 50), (1, .int (nI a))] [] μ rfl trivial ?_
    rw [h11]
    rw [if_neg (by rw [zn_le (by omega) (by omega)]; omega)]
    refine zq_go zt_X9_spareBy 4 [] 63 [(0, .ref 50), (1, .int (nI a)), (2, .int ((nI a) + (nI 1)))] [] μ rfl trivial ?_
    rw [zn_add a 1]
    refine zs_spm_i h0 h1 (show a < yne τ by omega) ha (fun μ3 hI3 hm3 => ?_) (yne τ - (a + 1)) (a + 1) μ (by omega) (by omega) (fun i hi => by unfold yq; rw [decide_eq_false (by omega)]; rfl) ⟨hI, hF, w0, hN⟩
    refine zq_go zt_X9_spareBy 2 [] 51 [(0, .ref 50), (1, .int ((nI a) + (nI 1)))] [] μ3 rfl trivial ?_
    rw [zn_add a 1]
    exact ih (a + 1) μ3 (by omega) (fun i hi => by
      by_cases q : i = a
      · subst q; exact decide_eq_false (by have e : yB2 τ i = yne τ := zf_none hm3; omega)
      · exact ha i (by omega)) hI3
set_option maxRecDepth 100000 in
set_option maxHeartbeats 400000 in
theorem zs_spm_s {τ : zTd} {S : zES} {H : zSH} {μ0 : zq_Me} (h0 : ysp τ 0 = false) : ∀ (j e : Nat) (μ : zq_Me), e + j = yne τ → (∀ i, i < e → ysp τ (2 ^ i) = false) → (zIm τ S H μ ∧ zq_fr zSM μ0 μ ∧ ∃ w0, zNr τ (ysr τ) (ybd τ) (yld τ) τ.2.2.2 w0 μ) → zq_Wp zn_X9_spareBy 16 [(0, .ref 50), (1, .int (nI e))] [] μ (fun r μ => r = some (.int (ySpn τ)) ∧ zIm τ S H μ ∧ zq_fr zSM μ0 μ ∧ yPl τ μ) := by
  intro j
  induction j with
  | zero =>
    rintro e μ hij hm ⟨hI, hF, w0, hN⟩
    obtain rfl : e = yne τ := by omega
    have h11 : μ.1 50 10 = nI (yne τ) := hI.2.2.1.1.2.1
    have hne := hI.2.2.1.2
    refine zq_go zt_X9_spareBy 4 [] (if (μ.1 50 10) ≤ (nI (yne τ)) then 49 else 24) [(0, .ref 50), (1, .int (nI (yne τ)))] [] μ rfl trivial ?_
    rw [h11]
    rw [if_pos (by rw [zn_le (by omega) (by omega)]; omega)]
    refine zq_go zt_X9_spareBy 2 [] 51 [(0, .ref 50), (1, .int (nI 0))] [] μ rfl trivial ?_
    have h1 : ¬ yA1 τ < yne τ := by
      have e : yA1 τ = yne τ := zf_none hm
      omega
    exact zs_spm_o h0 h1 (yne τ) 0 μ (by omega) (fun i hi => absurd hi (Nat.not_lt_zero i)) ⟨hI, hF, w0, hN⟩
  | succ j ih =>
    rintro e μ hij hm ⟨hI, hF, w0, hN⟩
    have h11 : μ.1 50 10 = nI (yne τ) := hI.2.2.1.1.2.1
    have hne := hI.2.2.1.2
    refine zq_go zt_X9_spareBy 4 [] (if (μ.1 50 10) ≤ (nI e) then 49 else 24) [(0, .ref 50), (1, .int (nI e))] [] μ rfl trivial ?_
    rw [h11]
    rw [if_neg (by rw [zn_le (by omega) (by omega)]; omega)]
    refine zq_go zt_X9_spareBy 9 [vp_in (nI 0) 2] 35 [(0, .ref 50), (1, .int (nI e))] [.int ((nI 1) <<< ((nI e) &&& 31)), .ref 50] (zq_u1 μ 67 0 (nI e)) rfl ⟨zn_in rfl (by decide) (by decide), trivial⟩ ?_
    rw [zn_1shl (show e < 31 by omega)]
    obtain ⟨μ1, hμ1⟩ : ∃ k9 : zq_Me, k9 = (zq_u1 μ 67 0 (nI e)) := ⟨_, rfl⟩
    rw [← hμ1]
    have f1 : zq_fr [67] μ μ1 := by rw [hμ1]; exact zq_fr.rf.u1 (by simp)
    have hI1 : zIm τ S H μ1 := hI.kp f1 (by decide) (fun i hi => by rw [f1.a (b := 50) (by decide)])
    have hN1 := hN.sl (fun i hi => by rw [f1.a (b := 50) (by decide)]) (fun b hb => f1.a (by simp at hb ⊢; omega))
    refine zq_call zt_X9_spareBy [.ref 50, .int (nI (2 ^ e))] [] (zs_isSpared (ypw (show e < 8 by omega) (by decide)) hI1 hN1) rfl rfl ?_
    rintro _ μ2 ⟨rfl, hI2, f2, hN2⟩
    refine zq_go zt_X9_spareBy 1 [] (if (zB (ysp τ (2 ^ e))) = 0 then 43 else 41) [(0, .ref 50), (1, .int (nI e))] [] μ2 rfl trivial ?_
    refine zq_ite (fun h32 => ?_) (fun h32 => ?_)
    · have h7 := zB_f h32
      refine zq_go zt_X9_spareBy 2 [] 16 [(0, .ref 50), (1, .int ((nI e) + (nI 1)))] [] μ2 rfl trivial ?_
      rw [zn_add e 1]
      exact ih (e + 1) μ2 (by omega) (fun i hi => by
        by_cases q : i = e
        · subst q; exact h7
        · exact hm i (by omega)) ⟨hI2, hF.tr ((f1.wk (by simp [zSM])).tr (f2.wk (by simp +contextual [zSM]))), _, hN2⟩
    · have h7 := zB_t h32
      have eA : yA1 τ = e := zf_eq (by omega) h7 hm
      have e0 : ySpn τ = nI 1 := by
        unfold ySpn
        rw [if_neg (ynt h0), if_pos (by omega)]
      have hp : yPl τ μ2 := ⟨fun _ _ => by rw [eA, f2.a (b := 67) (by decide), hμ1, zq_u1_s], fun _ q => absurd (show yA1 τ < yne τ by omega) q⟩
      rw [e0]
      refine zq_go zt_X9_spareBy 1 [] 42 [(0, .ref 50), (1, .int (nI e))] [.int (nI 1)] μ2 rfl trivial ?_
      exact zq_retn zt_X9_spareBy rfl rfl (⟨rfl, hI2, hF.tr ((f1.wk (by simp [zSM])).tr (f2.wk (by simp +contextual [zSM]))), hp⟩)
set_option maxRecDepth 100000 in
set_option maxHeartbeats 400000 in
theorem zs_spareBy {τ : zTd} {S : zES} {H : zSH} {μ0 : zq_Me} (hM : zIm τ S H μ0) : zq_Wp zn_X9_spareBy 0 [(0, .ref 50)] [] μ0 (fun r μ => r = some (.int (ySpn τ)) ∧ zIm τ S H μ ∧ zq_fr zSM μ0 μ ∧ yPl τ μ) := by
  refine zq_go zt_X9_spareBy 1 [] 1 [(0, .ref 50)] [.ref 50] μ0 rfl trivial ?_
  refine zq_call zt_X9_spareBy [.ref 50] [] (zs_asTold hM) rfl rfl ?_
  rintro _ ν1 ⟨rfl, n1, k1, o1⟩
  refine zq_go zt_X9_spareBy 2 [] 6 [(0, .ref 50)] [.int (nI 0), .ref 50] ν1 rfl trivial ?_
  refine zq_call zt_X9_spareBy [.ref 50, .int (nI 0)] [] (zs_isSpared (wo := 0) (by decide) n1 o1.r) rfl rfl ?_
  rintro _ μ2 ⟨rfl, hI2, f2, hN2⟩
  refine zq_go zt_X9_spareBy 1 [] (if (zB (ysp τ 0)) = 0 then 14 else 12) [(0, .ref 50)] [] μ2 rfl trivial ?_
  refine zq_ite (fun h7 => ?_) (fun h7 => ?_)
  · have h7 := zB_f h7
    refine zq_go zt_X9_spareBy 2 [] 16 [(0, .ref 50), (1, .int (nI 0))] [] μ2 rfl trivial ?_
    exact zs_spm_s h7 (yne τ) 0 μ2 (by omega) (fun i hi => absurd hi (Nat.not_lt_zero i)) ⟨hI2, k1.tr (f2.wk (by simp +contextual [zSM])), _, hN2⟩
  · have h7 := zB_t h7
    rw [show ySpn τ = nI 0 from if_pos h7]
    refine zq_go zt_X9_spareBy 1 [] 13 [(0, .ref 50)] [.int (nI 0)] μ2 rfl trivial ?_
    exact zq_retn zt_X9_spareBy rfl rfl (⟨rfl, hI2, k1.tr (f2.wk (by simp +contextual [zSM])), fun q => absurd h7 (ynt q), fun q => absurd h7 (ynt q)⟩)
set_option maxRecDepth 100000 in
set_option maxHeartbeats 400000 in
theorem zs_ofRow_m {τ : zTd} {μ : zq_Me} (hp : yPl τ μ) : zq_Wp zn_X9_ofRow 0 [(0, .ref 50), (1, .int (ySpn τ)), (2, .int (-1))] [] μ (zq_pi (ySv τ (-1)) μ) := by
  by_cases c0 : ysp τ 0 = true
  · rw [show ySpn τ = nI 0 by
      unfold ySpn
      rw [if_pos c0]]
    rw [show ySv τ (-1) = nI 0 by
      unfold ySv
      rw [if_pos c0]
      rw [if_pos rfl]]
    refine zq_go zt_X9_ofRow 3 [] (if ¬ (-1) = (-1) then 9 else 5) [(0, .ref 50), (1, .int (nI 0)), (2, .int (-1))] [] μ rfl trivial ?_
    rw [if_neg (by decide)]
    refine zq_go zt_X9_ofRow 2 [] 24 [(0, .ref 50), (1, .int (nI 0)), (2, .int (-1))] [.int (nI 0)] μ rfl trivial ?_
    exact zq_retn zt_X9_ofRow rfl rfl (⟨rfl, rfl⟩)
  · by_cases c1 : yA1 τ < yne τ
    · rw [show ySpn τ = nI 1 by
        unfold ySpn
        rw [if_neg c0, if_pos c1]]
      rw [show ySv τ (-1) = nI 1 by
        unfold ySv
        rw [if_neg c0, if_pos c1]
        rw [if_pos rfl]]
      refine zq_go zt_X9_ofRow 3 [] (if ¬ (-1) = (-1) then 9 else 5) [(0, .ref 50), (1, .int (nI 1)), (2, .int (-1))] [] μ rfl trivial ?_
      rw [if_neg (by decide)]
      refine zq_go zt_X9_ofRow 2 [] 24 [(0, .ref 50), (1, .int (nI 1)), (2, .int (-1))] [.int (nI 1)] μ rfl trivial ?_
      exact zq_retn zt_X9_ofRow rfl rfl (⟨rfl, rfl⟩)
    · by_cases c2 : yA2 τ < yne τ
      · rw [show ySpn τ = nI 2 by
          unfold ySpn
          rw [if_neg c0, if_neg c1, if_pos c2]]
        rw [show ySv τ (-1) = nI 2 by
          unfold ySv
          rw [if_neg c0, if_neg c1, if_pos c2]
          rw [if_pos rfl]]
        refine zq_go zt_X9_ofRow 3 [] (if ¬ (-1) = (-1) then 9 else 5) [(0, .ref 50), (1, .int (nI 2)), (2, .int (-1))] [] μ rfl trivial ?_
        rw [if_neg (by decide)]
        refine zq_go zt_X9_ofRow 2 [] 24 [(0, .ref 50), (1, .int (nI 2)), (2, .int (-1))] [.int (nI 2)] μ rfl trivial ?_
        exact zq_retn zt_X9_ofRow rfl rfl (⟨rfl, rfl⟩)
      · rw [show ySpn τ = -1 by
          unfold ySpn
          rw [if_neg c0, if_neg c1, if_neg c2]]
        rw [show ySv τ (-1) = -1 by
          unfold ySv
          rw [if_neg c0, if_neg c1, if_neg c2]]
        refine zq_go zt_X9_ofRow 3 [] (if ¬ (-1) = (-1) then 9 else 5) [(0, .ref 50), (1, .int (-1)), (2, .int (-1))] [] μ rfl trivial ?_
        rw [if_neg (by decide)]
        refine zq_go zt_X9_ofRow 2 [] 24 [(0, .ref 50), (1, .int (-1)), (2, .int (-1))] [.int (-1)] μ rfl trivial ?_
        exact zq_retn zt_X9_ofRow rfl rfl (⟨rfl, rfl⟩)
set_option maxRecDepth 100000 in
set_option maxHeartbeats 400000 in
theorem zs_sparem_m {τ : zTd} {S : zES} {H : zSH} {μ0 : zq_Me} (hM : zIm τ S H μ0) : zq_Wp zn_X9_spare 0 [(0, .ref 50), (1, .int (-1))] [] μ0 (zRm' (.int (ySv τ (-1))) τ S H μ0) := by
  refine zq_go zt_X9_spare 3 [] 3 [(0, .ref 50), (1, .int (-1))] [.int (nI 1), .int (-1), .int (-1)] μ0 rfl trivial ?_
  refine zq_call zt_X9_spare [.int (-1), .int (-1), .int (nI 1)] [] (zs_in (-1) (-1) (nI 1) μ0) rfl rfl ?_
  rintro _ _ ⟨rfl, rfl⟩
  refine zq_go zt_X9_spare 1 [] (if (zb (-1 ≤ (-1) ∧ (-1) ≤ nI 1)) = 0 then 21 else 9) [(0, .ref 50), (1, .int (-1))] [] μ0 rfl trivial ?_
  rw [if_neg (zb_n (by decide))]
  refine zq_go zt_X9_spare 2 [] 11 [(0, .ref 50), (1, .int (-1))] [.ref 50, .ref 50] μ0 rfl trivial ?_
  refine zq_call zt_X9_spare [.ref 50] [.ref 50] (zs_spareBy hM) rfl rfl ?_
  rintro _ ν1 ⟨rfl, n1, k1, hp⟩
  refine zq_go zt_X9_spare 1 [] 15 [(0, .ref 50), (1, .int (-1))] [.int (-1), .int (ySpn τ), .ref 50] ν1 rfl trivial ?_
  refine zq_call zt_X9_spare [.ref 50, .int (ySpn τ), .int (-1)] [] (zs_ofRow_m hp) rfl rfl ?_
  rintro _ _ ⟨rfl, rfl⟩
  refine zq_go zt_X9_spare 1 [] 23 [(0, .ref 50), (1, .int (-1))] [.int (ySv τ (-1))] ν1 rfl trivial ?_
  exact zq_retn zt_X9_spare rfl rfl (⟨rfl, n1, k1⟩)
set_option maxRecDepth 100000 in
set_option maxHeartbeats 400000 in
theorem zs_ofRow_0 {τ : zTd} {μ : zq_Me} (hp : yPl τ μ) : zq_Wp zn_X9_ofRow 0 [(0, .ref 50), (1, .int (ySpn τ)), (2, .int (nI 0))] [] μ (zq_pi (ySv τ (nI 0)) μ) := by
  by_cases c0 : ysp τ 0 = true
  · rw [show ySpn τ = nI 0 by
      unfold ySpn
      rw [if_pos c0]]
    rw [show ySv τ (nI 0) = -1 by
      unfold ySv
      rw [if_pos c0]
      rw [if_neg (by decide)]]
    refine zq_go zt_X9_ofRow 3 [] (if ¬ (nI 0) = (-1) then 9 else 5) [(0, .ref 50), (1, .int (nI 0)), (2, .int (nI 0))] [] μ rfl trivial ?_
    rw [if_pos (by decide)]
    refine zq_go zt_X9_ofRow 3 [] (if (nI 0) ≤ (nI 0) then 23 else 14) [(0, .ref 50), (1, .int (nI 0)), (2, .int (nI 0))] [] μ rfl trivial ?_
    rw [if_pos (by decide)]
    refine zq_go zt_X9_ofRow 1 [] 24 [(0, .ref 50), (1, .int (nI 0)), (2, .int (nI 0))] [.int (-1)] μ rfl trivial ?_
    exact zq_retn zt_X9_ofRow rfl rfl (⟨rfl, rfl⟩)
  · by_cases c1 : yA1 τ < yne τ
    · rw [show ySpn τ = nI 1 by
        unfold ySpn
        rw [if_neg c0, if_pos c1]]
      rw [show ySv τ (nI 0) = nI (yA1 τ) by
        unfold ySv
        rw [if_neg c0, if_pos c1]
        rw [if_neg (by decide), if_pos rfl]]
      refine zq_go zt_X9_ofRow 3 [] (if ¬ (nI 0) = (-1) then 9 else 5) [(0, .ref 50), (1, .int (nI 1)), (2, .int (nI 0))] [] μ rfl trivial ?_
      rw [if_pos (by decide)]
      refine zq_go zt_X9_ofRow 3 [] (if (nI 1) ≤ (nI 0) then 23 else 14) [(0, .ref 50), (1, .int (nI 1)), (2, .int (nI 0))] [] μ rfl trivial ?_
      rw [if_neg (by decide)]
      refine zq_go zt_X9_ofRow 5 [vp_in (nI 0) 2] 24 [(0, .ref 50), (1, .int (nI 1)), (2, .int (nI 0))] [.int (μ.1 67 0)] μ rfl ⟨zn_in rfl (by decide) (by decide), trivial⟩ ?_
      rw [hp.1 (yfalse c0) c1]
      exact zq_retn zt_X9_ofRow rfl rfl (⟨rfl, rfl⟩)
    · by_cases c2 : yA2 τ < yne τ
      · rw [show ySpn τ = nI 2 by
          unfold ySpn
          rw [if_neg c0, if_neg c1, if_pos c2]]
        rw [show ySv τ (nI 0) = nI (yA2 τ) by
          unfold ySv
          rw [if_neg c0, if_neg c1, if_pos c2]
          rw [if_neg (by decide), if_pos rfl]]
        refine zq_go zt_X9_ofRow 3 [] (if ¬ (nI 0) = (-1) then 9 else 5) [(0, .ref 50), (1, .int (nI 2)), (2, .int (nI 0))] [] μ rfl trivial ?_
        rw [if_pos (by decide)]
        refine zq_go zt_X9_ofRow 3 [] (if (nI 2) ≤ (nI 0) then 23 else 14) [(0, .ref 50), (1, .int (nI 2)), (2, .int (nI 0))] [] μ rfl trivial ?_
        rw [if_neg (by decide)]
        refine zq_go zt_X9_ofRow 5 [vp_in (nI 0) 2] 24 [(0, .ref 50), (1, .int (nI 2)), (2, .int (nI 0))] [.int (μ.1 67 0)] μ rfl ⟨zn_in rfl (by decide) (by decide), trivial⟩ ?_
        rw [(hp.2 (yfalse c0) c1 c2).1]
        exact zq_retn zt_X9_ofRow rfl rfl (⟨rfl, rfl⟩)
      · rw [show ySpn τ = -1 by
          unfold ySpn
          rw [if_neg c0, if_neg c1, if_neg c2]]
        rw [show ySv τ (nI 0) = -1 by
          unfold ySv
          rw [if_neg c0, if_neg c1, if_neg c2]]
        refine zq_go zt_X9_ofRow 3 [] (if ¬ (nI 0) = (-1) then 9 else 5) [(0, .ref 50), (1, .int (-1)), (2, .int (nI 0))] [] μ rfl trivial ?_
        rw [if_pos (by decide)]
        refine zq_go zt_X9_ofRow 3 [] (if (-1) ≤ (nI 0) then 23 else 14) [(0, .ref 50), (1, .int (-1)), (2, .int (nI 0))] [] μ rfl trivial ?_
        rw [if_pos (by decide)]
        refine zq_go zt_X9_ofRow 1 [] 24 [(0, .ref 50), (1, .int (-1)), (2, .int (nI 0))] [.int (-1)] μ rfl trivial ?_
        exact zq_retn zt_X9_ofRow rfl rfl (⟨rfl, rfl⟩)
set_option maxRecDepth 100000 in
set_option maxHeartbeats 400000 in
theorem zs_sparem_0 {τ : zTd} {S : zES} {H : zSH} {μ0 : zq_Me} (hM : zIm τ S H μ0) : zq_Wp zn_X9_spare 0 [(0, .ref 50), (1, .int (nI 0))] [] μ0 (zRm' (.int (ySv τ (nI 0))) τ S H μ0) := by
  refine zq_go zt_X9_spare 3 [] 3 [(0, .ref 50), (1, .int (nI 0))] [.int (nI 1), .int (-1), .int (nI 0)] μ0 rfl trivial ?_
  refine zq_call zt_X9_spare [.int (nI 0), .int (-1), .int (nI 1)] [] (zs_in (nI 0) (-1) (nI 1) μ0) rfl rfl ?_
  rintro _ _ ⟨rfl, rfl⟩
  refine zq_go zt_X9_spare 1 [] (if (zb (-1 ≤ (nI 0) ∧ (nI 0) ≤ nI 1)) = 0 then 21 else 9) [(0, .ref 50), (1, .int (nI 0))] [] μ0 rfl trivial ?_
  rw [if_neg (zb_n (by decide))]
  refine zq_go zt_X9_spare 2 [] 11 [(0, .ref 50), (1, .int (nI 0))] [.ref 50, .ref 50] μ0 rfl trivial ?_
  refine zq_call zt_X9_spare [.ref 50] [.ref 50] (zs_spareBy hM) rfl rfl ?_
  rintro _ ν1 ⟨rfl, n1, k1, hp⟩
  refine zq_go zt_X9_spare 1 [] 15 [(0, .ref 50), (1, .int (nI 0))] [.int (nI 0), .int (ySpn τ), .ref 50] ν1 rfl trivial ?_
  refine zq_call zt_X9_spare [.ref 50, .int (ySpn τ), .int (nI 0)] [] (zs_ofRow_0 hp) rfl rfl ?_
  rintro _ _ ⟨rfl, rfl⟩
  refine zq_go zt_X9_spare 1 [] 23 [(0, .ref 50), (1, .int (nI 0))] [.int (ySv τ (nI 0))] ν1 rfl trivial ?_
  exact zq_retn zt_X9_spare rfl rfl (⟨rfl, n1, k1⟩)
set_option maxRecDepth 100000 in
set_option maxHeartbeats 400000 in
theorem zs_ofRow_1 {τ : zTd} {μ : zq_Me} (hp : yPl τ μ) : zq_Wp zn_X9_ofRow 0 [(0, .ref 50), (1, .int (ySpn τ)), (2, .int (nI 1))] [] μ (zq_pi (ySv τ (nI 1)) μ) := by
  by_cases c0 : ysp τ 0 = true
  · rw [show ySpn τ = nI 0 by
      unfold ySpn
      rw [if_pos c0]]
    rw [show ySv τ (nI 1) = -1 by
      unfold ySv
      rw [if_pos c0]
      rw [if_neg (by decide)]]
    refine zq_go zt_X9_ofRow 3 [] (if ¬ (nI 1) = (-1) then 9 else 5) [(0, .ref 50), (1, .int (nI 0)), (2, .int (nI 1))] [] μ rfl trivial ?_
    rw [if_pos (by decide)]
    refine zq_go zt_X9_ofRow 3 [] (if (nI 0) ≤ (nI 1) then 23 else 14) [(0, .ref 50), (1, .int (nI 0)), (2, .int (nI 1))] [] μ rfl trivial ?_
    rw [if_pos (by decide)]
    refine zq_go zt_X9_ofRow 1 [] 24 [(0, .ref 50), (1, .int (nI 0)), (2, .int (nI 1))] [.int (-1)] μ rfl trivial ?_
    exact zq_retn zt_X9_ofRow rfl rfl (⟨rfl, rfl⟩)
  · by_cases c1 : yA1 τ < yne τ
    · rw [show ySpn τ = nI 1 by
        unfold ySpn
        rw [if_neg c0, if_pos c1]]
      rw [show ySv τ (nI 1) = -1 by
        unfold ySv
        rw [if_neg c0, if_pos c1]
        rw [if_neg (by decide), if_neg (by decide)]]
      refine zq_go zt_X9_ofRow 3 [] (if ¬ (nI 1) = (-1) then 9 else 5) [(0, .ref 50), (1, .int (nI 1)), (2, .int (nI 1))] [] μ rfl trivial ?_
      rw [if_pos (by decide)]
      refine zq_go zt_X9_ofRow 3 [] (if (nI 1) ≤ (nI 1) then 23 else 14) [(0, .ref 50), (1, .int (nI 1)), (2, .int (nI 1))] [] μ rfl trivial ?_
      rw [if_pos (by decide)]
      refine zq_go zt_X9_ofRow 1 [] 24 [(0, .ref 50), (1, .int (nI 1)), (2, .int (nI 1))] [.int (-1)] μ rfl trivial ?_
      exact zq_retn zt_X9_ofRow rfl rfl (⟨rfl, rfl⟩)
    · by_cases c2 : yA2 τ < yne τ
      · rw [show ySpn τ = nI 2 by
          unfold ySpn
          rw [if_neg c0, if_neg c1, if_pos c2]]
        rw [show ySv τ (nI 1) = nI (yB2 τ (yA2 τ)) by
          unfold ySv
          rw [if_neg c0, if_neg c1, if_pos c2]
          rw [if_neg (by decide), if_neg (by decide)]]
        refine zq_go zt_X9_ofRow 3 [] (if ¬ (nI 1) = (-1) then 9 else 5) [(0, .ref 50), (1, .int (nI 2)), (2, .int (nI 1))] [] μ rfl trivial ?_
        rw [if_pos (by decide)]
        refine zq_go zt_X9_ofRow 3 [] (if (nI 2) ≤ (nI 1) then 23 else 14) [(0, .ref 50), (1, .int (nI 2)), (2, .int (nI 1))] [] μ rfl trivial ?_
        rw [if_neg (by decide)]
        refine zq_go zt_X9_ofRow 5 [vp_in (nI 1) 2] 24 [(0, .ref 50), (1, .int (nI 2)), (2, .int (nI 1))] [.int (μ.1 67 1)] μ rfl ⟨zn_in rfl (by decide) (by decide), trivial⟩ ?_
        rw [(hp.2 (yfalse c0) c1 c2).2]
        exact zq_retn zt_X9_ofRow rfl rfl (⟨rfl, rfl⟩)
      · rw [show ySpn τ = -1 by
          unfold ySpn
          rw [if_neg c0, if_neg c1, if_neg c2]]
        rw [show ySv τ (nI 1) = -1 by
          unfold ySv
          rw [if_neg c0, if_neg c1, if_neg c2]]
        refine zq_go zt_X9_ofRow 3 [] (if ¬ (nI 1) = (-1) then 9 else 5) [(0, .ref 50), (1, .int (-1)), (2, .int (nI 1))] [] μ rfl trivial ?_
        rw [if_pos (by decide)]
        refine zq_go zt_X9_ofRow 3 [] (if (-1) ≤ (nI 1) then 23 else 14) [(0, .ref 50), (1, .int (-1)), (2, .int (nI 1))] [] μ rfl trivial ?_
        rw [if_pos (by decide)]
        refine zq_go zt_X9_ofRow 1 [] 24 [(0, .ref 50), (1, .int (-1)), (2, .int (nI 1))] [.int (-1)] μ rfl trivial ?_
        exact zq_retn zt_X9_ofRow rfl rfl (⟨rfl, rfl⟩)
set_option maxRecDepth 100000 in
set_option maxHeartbeats 400000 in
theorem zs_sparem_1 {τ : zTd} {S : zES} {H : zSH} {μ0 : zq_Me} (hM : zIm τ S H μ0) : zq_Wp zn_X9_spare 0 [(0, .ref 50), (1, .int (nI 1))] [] μ0 (zRm' (.int (ySv τ (nI 1))) τ S H μ0) := by
  refine zq_go zt_X9_spare 3 [] 3 [(0, .ref 50), (1, .int (nI 1))] [.int (nI 1), .int (-1), .int (nI 1)] μ0 rfl trivial ?_
  refine zq_call zt_X9_spare [.int (nI 1), .int (-1), .int (nI 1)] [] (zs_in (nI 1) (-1) (nI 1) μ0) rfl rfl ?_
  rintro _ _ ⟨rfl, rfl⟩
  refine zq_go zt_X9_spare 1 [] (if (zb (-1 ≤ (nI 1) ∧ (nI 1) ≤ nI 1)) = 0 then 21 else 9) [(0, .ref 50), (1, .int (nI 1))] [] μ0 rfl trivial ?_
  rw [if_neg (zb_n (by decide))]
  refine zq_go zt_X9_spare 2 [] 11 [(0, .ref 50), (1, .int (nI 1))] [.ref 50, .ref 50] μ0 rfl trivial ?_
  refine zq_call zt_X9_spare [.ref 50] [.ref 50] (zs_spareBy hM) rfl rfl ?_
  rintro _ ν1 ⟨rfl, n1, k1, hp⟩
  refine zq_go zt_X9_spare 1 [] 15 [(0, .ref 50), (1, .int (nI 1))] [.int (nI 1), .int (ySpn τ), .ref 50] ν1 rfl trivial ?_
  refine zq_call zt_X9_spare [.ref 50, .int (ySpn τ), .int (nI 1)] [] (zs_ofRow_1 hp) rfl rfl ?_
  rintro _ _ ⟨rfl, rfl⟩
  refine zq_go zt_X9_spare 1 [] 23 [(0, .ref 50), (1, .int (nI 1))] [.int (ySv τ (nI 1))] ν1 rfl trivial ?_
  exact zq_retn zt_X9_spare rfl rfl (⟨rfl, n1, k1⟩)
set_option maxRecDepth 100000 in
set_option maxHeartbeats 400000 in
theorem zs_spare_b {τ : zTd} {S : zES} {H : zSH} {μ0 : zq_Me} (v1 : Int32) (hg : ¬ (-1 ≤ v1 ∧ v1 ≤ nI 1)) (hC : zIc τ S H μ0) : zq_Wp zn_X8_spare 0 [(0, .ref 0), (1, .int v1)] [] μ0 (zRc (.int (-2)) τ S H μ0) := by
  refine zq_go zt_X8_spare 3 [] 3 [(0, .ref 0), (1, .int v1)] [.int (nI 1), .int (-1), .int v1] μ0 rfl trivial ?_
  refine zq_call zt_X8_spare [.int v1, .int (-1), .int (nI 1)] [] (zs_within v1 (-1) (nI 1) μ0) rfl rfl ?_
  rintro _ _ ⟨rfl, rfl⟩
  refine zq_go zt_X8_spare 1 [] (if ¬ (zb (-1 ≤ v1 ∧ v1 ≤ nI 1)) = 0 then 12 else 9) [(0, .ref 0), (1, .int v1)] [] μ0 rfl trivial ?_
  rw [if_neg (fun q => q (zb_f hg))]
  refine zq_go zt_X8_spare 1 [] 11 [(0, .ref 0), (1, .int v1)] [.int (-2)] μ0 rfl trivial ?_
  exact zq_retn zt_X8_spare rfl rfl (⟨rfl, hC, zq_fr.rf⟩)
set_option maxRecDepth 100000 in
set_option maxHeartbeats 400000 in
theorem zs_sparem_b {τ : zTd} {S : zES} {H : zSH} {μ0 : zq_Me} (v1 : Int32) (hg : ¬ (-1 ≤ v1 ∧ v1 ≤ nI 1)) (hM : zIm τ S H μ0) : zq_Wp zn_X9_spare 0 [(0, .ref 50), (1, .int v1)] [] μ0 (zRm' (.int (-2)) τ S H μ0) := by
  refine zq_go zt_X9_spare 3 [] 3 [(0, .ref 50), (1, .int v1)] [.int (nI 1), .int (-1), .int v1] μ0 rfl trivial ?_
  refine zq_call zt_X9_spare [.int v1, .int (-1), .int (nI 1)] [] (zs_in v1 (-1) (nI 1) μ0) rfl rfl ?_
  rintro _ _ ⟨rfl, rfl⟩
  refine zq_go zt_X9_spare 1 [] (if (zb (-1 ≤ v1 ∧ v1 ≤ nI 1)) = 0 then 21 else 9) [(0, .ref 50), (1, .int v1)] [] μ0 rfl trivial ?_
  rw [if_pos (zb_f hg)]
  refine zq_go zt_X9_spare 1 [] 23 [(0, .ref 50), (1, .int v1)] [.int (-2)] μ0 rfl trivial ?_
  exact zq_retn zt_X9_spare rfl rfl (⟨rfl, hM, zq_fr.rf⟩)
theorem ysp3 {v : Int32} (h : -1 ≤ v ∧ v ≤ nI 1) : v = -1 ∨ v = nI 0 ∨ v = nI 1 := by
  by_cases q : 0 ≤ v
  · exact Or.inr (yt01 ⟨q, h.2⟩)
  · refine Or.inl (Int32.toInt_inj.mp ?_)
    have h1 := h.1
    rw [Int32.le_iff_toInt_le] at q h1
    have e1 : (-1 : Int32).toInt = -1 := by decide
    have e2 : (0 : Int32).toInt = 0 := by decide
    omega
theorem zo_spare (v1 : Int32) : zop zn_X8_spare [(0, .ref 0), (1, .int v1)] zn_X9_spare [(0, .ref 50), (1, .int v1)] := by
  intro τ S H μ hC hM
  by_cases hg : -1 ≤ v1 ∧ v1 ≤ nI 1
  · rcases ysp3 hg with rfl | rfl | rfl
    · exact ⟨_, τ, S, H, zs_spare_m hC, fun _ h => zs_sparem_m h⟩
    · exact ⟨_, τ, S, H, zs_spare_0 hC, fun _ h => zs_sparem_0 h⟩
    · exact ⟨_, τ, S, H, zs_spare_1 hC, fun _ h => zs_sparem_1 h⟩
  · exact ⟨_, τ, S, H, zs_spare_b v1 hg hC, fun _ h => zs_sparem_b v1 hg h⟩
